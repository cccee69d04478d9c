/-! THE LAW: from its start -/
theorem sh_01 : tg_sh 0 1 = fun k => k := by
  funext k
  unfold tg_sh
  by_cases h : k = 0
  · rw [if_pos h, h]
  · rw [if_neg h]
    split
    · omega
    · rfl
theorem rn_A : tg_rn iA = fun k => k := by
  funext k
  unfold tg_rn
  by_cases h : k < 46
  · rw [List.getD, iA_at k h]; rfl
  · rw [List.getD, List.getElem?_eq_none (by show 46 ≤ k; omega)]; rfl
theorem e_id (c : va_E) : tg_e (fun t => t) (fun k => k) c = c := by
  have hv : ∀ v : Value, tg_v (fun k => k) v = v := fun v => by cases v <;> rfl
  rcases c with ⟨t, n, a⟩ | ⟨ci, fs⟩
  · rcases a with a | a | a | a | a <;> simp [tg_e]
  · simp only [tg_e]
    rw [List.map_congr_left (g := id) (fun v _ => hv v), List.map_id]
theorem map_id_e (w : List va_E) : w.map (tg_e (fun t => t) (fun k => k)) = w := by
  rw [List.map_congr_left (g := id) (fun c _ => e_id c), List.map_id]
theorem rowG_lt : ∀ j k, (rowF j).map (tg_rn iL) = some k → k < 46 ∨ 1000 ≤ k := by
  intro j k hk
  by_cases h : j < 3
  · rw [rowG_at h] at hk
    cases hk
    exact Or.inl (by omega)
  · unfold rowF at hk
    rw [if_neg h] at hk
    cases hk
theorem bw_8 : tg_bw 46 w8 := by
  unfold w8 wA
  intro c hc
  simp only [List.mem_cons, List.not_mem_nil, or_false] at hc
  rcases hc with rfl | rfl | rfl | rfl | rfl | rfl | rfl | rfl | rfl | rfl | rfl | rfl | rfl | rfl | rfl | rfl | rfl | rfl | rfl | rfl | rfl | rfl | rfl | rfl | rfl | rfl | rfl | rfl | rfl | rfl | rfl | rfl | rfl | rfl | rfl | rfl | rfl | rfl | rfl | rfl | rfl | rfl | rfl | rfl | rfl | rfl
  all_goals first | exact kpF_lt (by omega) | exact rowG_lt | (show True; trivial) | (simp [tg_be, tg_bv]; done) | (simp [tg_be, tg_bv, tg_rn, iC]; done)
theorem bw_9 : tg_bw 13 w9 := by
  unfold w9 wM
  simp [tg_bw, tg_be, tg_bv]
theorem w9_sh : w9.map (tg_e (fun t => t) (tg_sh 46 47)) = w9.map (tg_e (fun t => t) (tg_rn iB)) := by
  unfold w9 wM
  rfl
theorem bw_app {n m : Nat} {w w' : List va_E} (h : tg_bw n w) (hn : n ≤ m) (h' : tg_bw m w') : tg_bw m (w ++ w') := by
  intro c hc
  rcases List.mem_append.mp hc with q | q
  · have := h c q
    rcases c with ⟨t, k, a⟩ | ⟨ci, fs⟩
    · rcases a with a | a | a | a | a
      · exact trivial
      · exact trivial
      · exact trivial
      · exact trivial
      · exact fun j k hk => (this j k hk).imp (fun q => by omega) id
    · intro v hv
      have h1 := this v hv
      cases v with
      | ref k =>
        simp only [tg_bv, Bool.or_eq_true, decide_eq_true_eq] at h1 ⊢
        exact h1.imp (fun q => Nat.lt_of_lt_of_le q hn) id
      | _ => rfl
  · exact h' c q
theorem set_gen (w : List va_E) (a b : va_E) : (w ++ [a]).set w.length b = w ++ [b] := by
  induction w with
  | nil => rfl
  | cons c w ih => exact congrArg (List.cons c) ih
theorem set_46 (a b : va_E) : (w8 ++ [a]).set 46 b = w8 ++ [b] := set_gen w8 a b
section LAWS
variable {l : tg_Ln} {K : Option Value → List va_E → Prop}
theorem lw_body (hK : ∀ w, K (some (.int 1)) w) (hL : l.2.1 ≤ 2560) : tg_Ct l mL_law 0 [.ref 1040] [] K := by
  obtain ⟨c1, cs, e8⟩ : ∃ c1 cs, w8 = c1 :: cs := ⟨_, _, rfl⟩
  obtain ⟨d1, ds, e9⟩ : ∃ d1 ds, w9 = d1 :: ds := ⟨_, _, rfl⟩
  have l8 : cs.length = 45 := by
    have : w8.length = 46 := rfl
    rw [e8] at this
    simpa using this
  have l9 : ds.length = 12 := by
    have : w9.length = 13 := rfl
    rw [e9] at this
    simpa using this
  have k8 := kX8_init (l := l)
  have k9 := kX9_init (l := l)
  rw [show wA 0 0 0 (fun _ => 0) 0 0 0 2 in4 0 (fun _ => 0) (fun _ => 0) 1 (fun _ => 0) 2 in4 0 (fun _ => 0) (fun _ => 0) 1 0 0 (fun _ => 0) (fun _ => 0) 0 8 9 10 11 (fun _ => 0) (fun _ => 0) (fun _ => 0) (fun _ => 0) (fun _ => 0) (fun _ => 0) (fun _ => 0) (fun _ => 0) 0 0 (fun _ => 0) (fun _ => 0) (fun _ => 0) (fun _ => 0) 2 in4 0 (fun _ => 0) (fun _ => 0) 1 2 in4 0 (fun _ => 0) (fun _ => 0) 1 (fun _ => 0) in3 (fun _ _ => 0) = w8 from rfl, e8] at k8
  rw [show wM (upd (fun _ => 0) 1 1) 2 in40 0 (fun _ => 0) (fun _ => 0) 0 in3 (fun _ => 0) 0 0 0 0 0 0 0 0 0 0 0 0 0 0 0 (fun _ => 0) (fun _ => 0) (fun _ => 0) = w9 from rfl, e9] at k9
  show tg_G l mL_law 0 K 0 0 0 [.ref 1040, .null, .null, .null] [] []
  refine g_new 7 (n := 0) (fs := [.null, .null, .null, .null, .null, .null, .null, .null, .int 0, .long 0]) dL_law_0 clX8 tyX8_ok (tg_mem 70 (by decide +kernel) rfl) (tg_mem 71 (by decide +kernel) rfl) iniX8 (fun j hj => by rcases (show j = 0 ∨ j = 1 ∨ j = 2 ∨ j = 3 ∨ j = 4 ∨ j = 5 ∨ j = 6 ∨ j = 7 ∨ j = 8 ∨ j = 9 by omega) with rfl | rfl | rfl | rfl | rfl | rfl | rfl | rfl | rfl | rfl <;> rfl) (fun ad => rfl) rfl (Nat.le_of_ble_eq_true rfl) (Nat.le_of_ble_eq_true rfl) (by simp [tg_bw, tg_be, tg_bv]) (by simp [tg_bv]) (by simp [tg_bv]) (Nat.le_of_ble_eq_true rfl) (Nat.le_of_ble_eq_true rfl) ?_
  refine tg_go (M := mL_law) (a := 3) (b := 4) (T := ti_dup) (si_dup (M := mL_law) (pc := 3) dL_law_3) ?_
  simp only [ti_dup, Value.category, List.getElem?_cons_zero, List.getElem?_cons_succ, true_and, List.nil_append]
  refine tg_callI (n := 1) iL_law_4 k8 rfl (Nat.le_of_ble_eq_true rfl) rfl (Nat.le_of_ble_eq_true rfl) (by omega) (by simp [tg_bw, tg_be, tg_bv]) (by simp [tg_bv]) (by simp [tg_bv]) (by rw [← e8, l8]; exact bw_8) (Nat.le_of_ble_eq_true rfl) (Nat.le_of_ble_eq_true rfl) (Nat.le_of_ble_eq_true rfl) ?_
  refine tg_rw (w' := w8) (by rw [sh_01, e_id, map_id_e, e8]; rfl) ?_
  refine tg_go (M := mL_law) (a := 7) (b := 8) (T := ti_astore 1) (si_astore_n (M := mL_law) (pc := 7) (i := 1) dL_law_7 rfl (Nat.le_of_ble_eq_true rfl)) ?_
  simp only [ti_astore, tg_s1, tg_cl, List.getElem?_cons_zero, List.getElem?_cons_succ, List.set_cons_zero, List.set_cons_succ, true_and]
  refine g_new 8 (n := 46) (fs := [.null, .int 0, .null, .int 0, .null, .null, .int 0, .null, .null, .long 0, .int 0, .int 0, .int 0, .null, .int 0, .int 0, .int 0, .int 0, .null, .null, .null, .int 0, .int 0, .int 0, .int 0, .int 0, .int 0, .null, .null, .int 0]) dL_law_8 clX9 tyX9_ok (tg_mem 781 (by decide +kernel) rfl) (tg_mem 782 (by decide +kernel) rfl) iniX9 (fun j hj => by rcases (show j = 0 ∨ j = 1 ∨ j = 2 ∨ j = 3 ∨ j = 4 ∨ j = 5 ∨ j = 6 ∨ j = 7 ∨ j = 8 ∨ j = 9 ∨ j = 10 ∨ j = 11 ∨ j = 12 ∨ j = 13 ∨ j = 14 ∨ j = 15 ∨ j = 16 ∨ j = 17 ∨ j = 18 ∨ j = 19 ∨ j = 20 ∨ j = 21 ∨ j = 22 ∨ j = 23 ∨ j = 24 ∨ j = 25 ∨ j = 26 ∨ j = 27 ∨ j = 28 ∨ j = 29 by omega) with rfl | rfl | rfl | rfl | rfl | rfl | rfl | rfl | rfl | rfl | rfl | rfl | rfl | rfl | rfl | rfl | rfl | rfl | rfl | rfl | rfl | rfl | rfl | rfl | rfl | rfl | rfl | rfl | rfl | rfl <;> rfl) (fun ad => rfl) rfl (Nat.le_of_ble_eq_true rfl) (Nat.le_of_ble_eq_true rfl) bw_8 (by simp [tg_bv]) (by simp [tg_bv]) (Nat.le_of_ble_eq_true rfl) (Nat.le_of_ble_eq_true rfl) ?_
  refine tg_go (M := mL_law) (a := 11) (b := 12) (T := ti_dup) (si_dup (M := mL_law) (pc := 11) dL_law_11) ?_
  simp only [ti_dup, Value.category, List.getElem?_cons_zero, List.getElem?_cons_succ, true_and]
  refine tg_callI (n := 47) iL_law_12 k9 rfl (Nat.le_of_ble_eq_true rfl) rfl (Nat.le_of_ble_eq_true rfl) (by omega) (bw_app bw_8 (by omega) (by simp [tg_bw, tg_be, tg_bv])) (by simp [tg_bv]) (by simp [tg_bv]) (by rw [← e9, l9]; exact bw_9) (Nat.le_of_ble_eq_true rfl) (Nat.le_of_ble_eq_true rfl) (Nat.le_of_ble_eq_true rfl) ?_
  refine tg_rw (w' := jn w8 w9) (by
    unfold jn
    rw [rn_A, map_id_e, ← w9_sh, e9, List.map_cons]
    rw [set_46, List.append_assoc]
    rfl) ?_
  refine tg_go (M := mL_law) (a := 15) (b := 16) (T := ti_astore 2) (si_astore_n (M := mL_law) (pc := 15) (i := 2) dL_law_15 rfl (Nat.le_of_ble_eq_true rfl)) ?_
  refine tg_go (M := mL_law) (a := 16) (b := 17) (T := ti_push (.int 0)) (si_iconst (M := mL_law) (pc := 16) (v := 0) dL_law_16 rfl) ?_
  refine tg_go (M := mL_law) (a := 17) (b := 18) (T := ti_istore 3) (si_istore_n (M := mL_law) (pc := 17) (i := 3) dL_law_17 rfl (Nat.le_of_ble_eq_true rfl)) ?_
  simp only [ti_astore, ti_istore, ti_push, tg_s1, tg_cl, List.getElem?_cons_zero, List.getElem?_cons_succ, List.set_cons_zero, List.set_cons_succ, true_and]
  exact lw_loop hK hL (l.2.1 + 5 + 1) 0 w8 w9 (by omega) (by omega) J_init
end LAWS
