/-! constructors: rows of longs in rows; small objects -/
section GMULTI
variable {l : tg_Ln} {M : tg_M} {n0 n pc kc ks idx : Nat} {K : Option Value → List va_E → Prop} {lv st : List Value} {w : List va_E}
abbrev mu_c : va_E := .inl (3, 12, .inr (.inl (fun _ => 0)))
set_option maxHeartbeats 1000000 in
theorem g_multi (hd : decode M.2.1 pc = .ok (.multianewarray idx 2, 4)) (hcl : Cond.classLink M.1.cls idx "[[J" ∈ tg_T) (hlen : w.length = n) (hn0 : n0 ≤ n) (hn1 : n + 4 ≤ 1000) (hw : tg_bw n w) (hlv : ∀ v ∈ lv, tg_bv n v = true) (hst : ∀ v ∈ st, tg_bv n v = true) (hkc : kc + 4 ≤ M.2.2.2.2.cells) (hks : ks + 39 ≤ M.2.2.2.2.slots)
    (k : tg_G l M n0 K (kc + 4) (ks + 39) (pc + 4) lv (.ref n :: st) (w ++ [.inl (5, 3, .inr (.inr (.inr (.inr (fun j => if j < 3 then some (n + 1 + j) else none))))), mu_c, mu_c, mu_c])) : tg_G l M n0 K kc ks pc lv (.int 12 :: .int 3 :: st) w := by
  intro p e s m args below meth c D cA A ad H locs ls Qc C a1 a2 hK hA hE hQ hP hD hS hL
  obtain ⟨c5, c3, k5, h5, h3, hk5, hkind5⟩ := hE.2.2.2.2.2.2
  have e5 : c5 = cA 5 := Option.some.inj (h5.symm.trans (hK.2 5 _ rfl).2)
  have e3 : c3 = cA 3 := Option.some.inj (h3.symm.trans (hK.2 3 _ rfl).2)
  subst e5 e3
  obtain ⟨-, k3, hk3, cc3, hkind3⟩ := (hK.2 3 _ rfl).1 0 (fun _ => .null)
  have h5' : s.vm.findClass "[[J" = some (cA 5) := by
    have e : "[" ++ (FieldType.array .long).toString = "[[J" := by decide
    rw [e] at h5
    exact h5
  refine mu_W C.1 C.2.1 C.2.2.2.2.1 (C.2.2.2.2.2.1 _ hcl) h5' hk5 hkind5 hk3 hkind3 hkc hks hd (fun H1 locs1 z1 o1 i1 q1 l1 => ?_)
  obtain ⟨ad', had⟩ : ∃ ad' : Nat → Nat, ad' = fun k => if n ≤ k ∧ k < 1000 then H.size + (k - n) else ad k := ⟨_, rfl⟩
  have hag : ∀ k, k < n ∨ 1000 ≤ k → ad' k = ad k := fun k hk => by rw [had]; exact if_neg (by omega)
  have hnew : ∀ i, i < 4 → ad' (n + i) = H.size + i := fun i hi => by
    rw [had]
    show (if n ≤ n + i ∧ n + i < 1000 then H.size + (n + i - n) else ad (n + i)) = _
    rw [if_pos (by omega)]
    omega
  obtain ⟨xs, hxs⟩ : ∃ xs : List va_E, xs = [.inl (5, 3, .inr (.inr (.inr (.inr (fun j => if j < 3 then some (n + 1 + j) else none))))), mu_c, mu_c, mu_c] := ⟨_, rfl⟩
  have hcell : ∀ (j : Nat) (q : Nat × va_E), (tg_w cA ad' 0 (w ++ xs))[j]? = some q → (j < n ∧ (tg_w cA ad 0 w)[j]? = some q) ∨ (∃ i, i < 4 ∧ j = n + i ∧ q.1 = H.size + i ∧ va_at D vwCl q H1) := by
    intro j q hq
    rw [tg_w_get] at hq
    cases hx2 : (w ++ xs)[j]? with
    | none => rw [hx2] at hq; cases hq
    | some x =>
      rw [hx2] at hq
      simp only [Option.map_some, Option.some.injEq, Nat.zero_add] at hq
      subst hq
      by_cases hj : j < n
      · rw [List.getElem?_append_left (by omega)] at hx2
        refine Or.inl ⟨hj, ?_⟩
        rw [tg_w_at hx2, hag j (Or.inl hj), tg_be_agree cA hag (hw x (List.mem_of_getElem? hx2))]
      · rw [List.getElem?_append_right (by omega), hlen, hxs] at hx2
        have hlt : j - n < 4 := (List.getElem?_eq_some_iff.mp hx2).1
        obtain ⟨i, hi⟩ : ∃ i, i = j - n := ⟨_, rfl⟩
        rw [← hi] at hx2 hlt
        obtain rfl : j = n + i := by omega
        refine Or.inr ⟨i, hlt, rfl, hnew i hlt, ?_⟩
        have hI : ∀ i, i < 3 → va_at D vwCl (ad' (n + (i + 1)), tg_e cA ad' mu_c) H1 := fun i hi => by
          show H1[ad' (n + (i + 1))]? = some (vp_cell (cA 3) _)
          rw [hnew _ (by omega), show H.size + (i + 1) = H.size + 1 + i by omega, i1 i hi]
          rfl
        rcases (show i = 0 ∨ i = 1 ∨ i = 2 ∨ i = 3 by omega) with rfl | rfl | rfl | rfl
        · cases hx2
          show H1[ad' (n + 0)]? = some (vp_cell (cA 5) (3, .inr (.inr (.inr (.inr (fun j => (if j < 3 then some (n + 1 + j) else none).map ad'))))))
          rw [hnew 0 (by omega), Nat.add_zero, o1, vp_cell_q]
          unfold mu_O
          congr 2
          funext j
          by_cases q : j < 3
          · rw [if_pos q, if_pos q, Option.map_some, show n + 1 + j = n + (1 + j) by omega, hnew (1 + j) (by omega)]
            show Value.ref (H.size + 1 + j) = Value.ref (H.size + (1 + j))
            rw [Nat.add_assoc]
          · rw [if_neg q, if_neg q]
            rfl
        · cases hx2; exact hI 0 (by omega)
        · cases hx2; exact hI 1 (by omega)
        · cases hx2; exact hI 2 (by omega)
  have hlt : ∀ (j : Nat) (q : Nat × va_E), (tg_w cA ad 0 w)[j]? = some q → q.1 < H.size := fun j q hq => (hP j q hq).lt
  have hPn : va_P D vwCl (tg_w cA ad' 0 (w ++ xs)) H1 := by
    intro j q hq
    rcases hcell j q hq with ⟨-, h⟩ | ⟨i, -, -, -, h⟩
    · exact (hP j q h).kept (q1 _ (hlt j q h))
    · exact h
  have hDn : va_D A (tg_w cA ad' 0 (w ++ xs)) := by
    refine ⟨fun i j x y hi hj hxy => ?_, fun j q hq => ?_⟩
    · rcases hcell i x hi with ⟨x1, x2⟩ | ⟨i', x1, x2, x3, -⟩ <;> rcases hcell j y hj with ⟨y1, y2⟩ | ⟨j', y1, y2, y3, -⟩
      · exact hD.1 i j x y x2 y2 hxy
      · have := hlt i x x2; omega
      · have := hlt j y y2; omega
      · omega
    · rcases hcell j q hq with ⟨-, h⟩ | ⟨i, -, -, h, -⟩
      · exact hD.2 j q h
      · rw [h]; exact hA _ (Nat.le_trans hS.1 (Nat.le_add_right _ _))
  have hSn : va_S A s.heap H1 locs1 := ⟨by have := hS.1; omega, fun q h1 h2 => (q1 q (Nat.lt_of_lt_of_le h1 hS.1)).trans (hS.2.1 q h1 h2), fun x hx => by
    rcases l1 x hx with h | h
    · exact hS.2.2 x h
    · rw [h]; exact hA _ hS.1⟩
  rw [← hxs] at k
  have key := k p e s m args below meth c D cA A ad' H1 locs1 ls Qc C hkc hks hK hA (hE.ren (fun k hk => hag k (Or.inr hk))) (fun r w' ad'' t k1 k2 => hQ r w' ad'' t k1 (fun j hj => (k2 j hj).trans (hag j (by omega)))) hPn hDn hSn (tg_L_agree hag hlv hL)
  have hn' : ad' n = H.size := hnew 0 (by omega)
  simp only [List.map_cons, tg_v, hn', tg_bvs_agree hag hst] at key
  exact key
end GMULTI
section INIT1
variable {l : tg_Ln}
def in4 : Nat → Int32 := upd (upd (upd (upd (fun _ => 0) 0 4) 1 4) 2 4) 3 4
def in3 : Nat → Int32 := upd (upd (upd (fun _ => 0) 0 (-1)) 1 (-1)) 2 (-1)
theorem kX4_init : tg_Ct l mX4_init 1 [.ref 0] [.inr (3, [.int 0, .int 0, .null])] (fun r w => r = none ∧ w = [.inr (3, [.int 0, .int 0, .ref 1]), .inl (0, 16, .inl (fun _ => 0))]) := by
  show tg_G _ _ _ _ _ _ _ [.ref 0] [] _
  refine tg_go bX4_init_0 ?_
  simp only [ti_aload, List.getElem?_cons_zero, List.getElem?_cons_succ, true_and]
  refine g_objI dX4_init_1 mlX4_3 (tg_mem 76 (by decide +kernel) rfl) (tg_mem 77 (by decide +kernel) rfl) (Nat.le_of_ble_eq_true rfl) (Nat.le_of_ble_eq_true rfl) (Nat.le_of_ble_eq_true rfl) ?_
  refine tg_go bX4_init_4 ?_
  simp only [ti_aload, ti_push, List.getElem?_cons_zero, List.getElem?_cons_succ, true_and]
  refine g_newI 16 (n := 1) dX4_init_7 (by decide) (by decide) (Nat.le_of_ble_eq_true rfl) rfl (Nat.le_of_ble_eq_true rfl) (Nat.le_of_ble_eq_true rfl) (by simp [tg_bw, tg_be, tg_bv]) (by simp [tg_bv]) (by simp [tg_bv]) (Nat.le_of_ble_eq_true rfl) (Nat.le_of_ble_eq_true rfl) ?_
  simp only [List.cons_append, List.nil_append]
  refine tg_go bX4_init_9 ?_
  simp only [ti_putfR, List.getElem?_cons_zero, List.getElem?_cons_succ, List.set_cons_zero, List.set_cons_succ, true_and]
  refine g_vret dX4_init_12 rfl ?_
  exact ⟨rfl, rfl⟩
theorem kX7_init : tg_Ct l mX7_init 1 [.ref 0] [.inr (6, [.null, .int 0, .int 0, .int 0])] (fun r w => r = none ∧ w = [.inr (6, [.ref 1, .int 0, .int 0, .int 0]), .inl (2, 200, .inl (fun _ => 0))]) := by
  show tg_G _ _ _ _ _ _ _ [.ref 0] [] _
  refine tg_go bX7_init_0 ?_
  simp only [ti_aload, List.getElem?_cons_zero, List.getElem?_cons_succ, true_and]
  refine g_objI dX7_init_1 mlX7_3 (tg_mem 76 (by decide +kernel) rfl) (tg_mem 77 (by decide +kernel) rfl) (Nat.le_of_ble_eq_true rfl) (Nat.le_of_ble_eq_true rfl) (Nat.le_of_ble_eq_true rfl) ?_
  refine tg_go bX7_init_4 ?_
  simp only [ti_aload, ti_push, List.getElem?_cons_zero, List.getElem?_cons_succ, true_and]
  refine g_newC 200 (n := 1) dX7_init_8 (by decide) (by decide) (Nat.le_of_ble_eq_true rfl) rfl (Nat.le_of_ble_eq_true rfl) (Nat.le_of_ble_eq_true rfl) (by simp [tg_bw, tg_be, tg_bv]) (by simp [tg_bv]) (by simp [tg_bv]) (Nat.le_of_ble_eq_true rfl) (Nat.le_of_ble_eq_true rfl) ?_
  simp only [List.cons_append, List.nil_append]
  refine tg_go bX7_init_10 ?_
  simp only [ti_aload, ti_push, ti_putfI, ti_putfR, List.getElem?_cons_zero, List.getElem?_cons_succ, List.set_cons_zero, List.set_cons_succ, true_and]
  refine g_vret dX7_init_28 rfl ?_
  exact ⟨rfl, rfl⟩
theorem kX5_init : tg_Ct l mX5_init 1 [.ref 0] [.inr (4, [.int 0, .int 0, .null, .null, .null, .null])] (fun r w => r = none ∧ w = [.inr (4, [.int 0, .int 0, .ref 1, .ref 2, .ref 3, .ref 4]), .inl (0, 8, .inl (fun _ => 0)), .inl (0, 8, .inl (fun _ => 0)), .inl (0, 8, .inl (fun _ => 0)), .inl (0, 8, .inl (fun _ => 0))]) := by
  show tg_G _ _ _ _ _ _ _ [.ref 0] [] _
  refine tg_go bX5_init_0 ?_
  simp only [ti_aload, List.getElem?_cons_zero, List.getElem?_cons_succ, true_and]
  refine g_objI dX5_init_1 mlX5_3 (tg_mem 76 (by decide +kernel) rfl) (tg_mem 77 (by decide +kernel) rfl) (Nat.le_of_ble_eq_true rfl) (Nat.le_of_ble_eq_true rfl) (Nat.le_of_ble_eq_true rfl) ?_
  refine tg_go bX5_init_4 ?_
  simp only [ti_aload, ti_push, ti_putfI, List.getElem?_cons_zero, List.getElem?_cons_succ, List.set_cons_zero, List.set_cons_succ, true_and]
  refine g_newI 8 (n := 1) dX5_init_17 (by decide) (by decide) (Nat.le_of_ble_eq_true rfl) rfl (Nat.le_of_ble_eq_true rfl) (Nat.le_of_ble_eq_true rfl) (by simp [tg_bw, tg_be, tg_bv]) (by simp [tg_bv]) (by simp [tg_bv]) (Nat.le_of_ble_eq_true rfl) (Nat.le_of_ble_eq_true rfl) ?_
  simp only [List.cons_append, List.nil_append]
  refine tg_go bX5_init_19 ?_
  simp only [ti_aload, ti_push, ti_putfR, List.getElem?_cons_zero, List.getElem?_cons_succ, List.set_cons_zero, List.set_cons_succ, true_and]
  refine g_newI 8 (n := 2) dX5_init_25 (by decide) (by decide) (Nat.le_of_ble_eq_true rfl) rfl (Nat.le_of_ble_eq_true rfl) (Nat.le_of_ble_eq_true rfl) (by simp [tg_bw, tg_be, tg_bv]) (by simp [tg_bv]) (by simp [tg_bv]) (Nat.le_of_ble_eq_true rfl) (Nat.le_of_ble_eq_true rfl) ?_
  simp only [List.cons_append, List.nil_append]
  refine tg_go bX5_init_27 ?_
  simp only [ti_aload, ti_push, ti_putfR, List.getElem?_cons_zero, List.getElem?_cons_succ, List.set_cons_zero, List.set_cons_succ, true_and]
  refine g_newI 8 (n := 3) dX5_init_33 (by decide) (by decide) (Nat.le_of_ble_eq_true rfl) rfl (Nat.le_of_ble_eq_true rfl) (Nat.le_of_ble_eq_true rfl) (by simp [tg_bw, tg_be, tg_bv]) (by simp [tg_bv]) (by simp [tg_bv]) (Nat.le_of_ble_eq_true rfl) (Nat.le_of_ble_eq_true rfl) ?_
  simp only [List.cons_append, List.nil_append]
  refine tg_go bX5_init_35 ?_
  simp only [ti_aload, ti_push, ti_putfR, List.getElem?_cons_zero, List.getElem?_cons_succ, List.set_cons_zero, List.set_cons_succ, true_and]
  refine g_newI 8 (n := 4) dX5_init_41 (by decide) (by decide) (Nat.le_of_ble_eq_true rfl) rfl (Nat.le_of_ble_eq_true rfl) (Nat.le_of_ble_eq_true rfl) (by simp [tg_bw, tg_be, tg_bv]) (by simp [tg_bv]) (by simp [tg_bv]) (Nat.le_of_ble_eq_true rfl) (Nat.le_of_ble_eq_true rfl) ?_
  simp only [List.cons_append, List.nil_append]
  refine tg_go bX5_init_43 ?_
  simp only [ti_putfR, List.getElem?_cons_zero, List.getElem?_cons_succ, List.set_cons_zero, List.set_cons_succ, true_and]
  refine g_vret dX5_init_46 rfl ?_
  exact ⟨rfl, rfl⟩
theorem kX6_init : tg_Ct l mX6_init 1 [.ref 0] [.inr (5, [.int 0, .null, .int 0, .null, .null, .int 0])] (fun r w => r = none ∧ w = [.inr (5, [.int 2, .ref 1, .int 0, .ref 2, .ref 3, .int 1]), .inl (0, 4, .inl in4), .inl (0, 40, .inl (fun _ => 0)), .inl (0, 40, .inl (fun _ => 0))]) := by
  show tg_G _ _ _ _ _ _ _ [.ref 0, .null] [] _
  refine tg_go bX6_init_0 ?_
  simp only [ti_aload, List.getElem?_cons_zero, List.getElem?_cons_succ, true_and]
  refine g_objI dX6_init_1 mlX6_3 (tg_mem 76 (by decide +kernel) rfl) (tg_mem 77 (by decide +kernel) rfl) (Nat.le_of_ble_eq_true rfl) (Nat.le_of_ble_eq_true rfl) (Nat.le_of_ble_eq_true rfl) ?_
  refine tg_go bX6_init_4 ?_
  simp only [ti_aload, ti_push, List.getElem?_cons_zero, List.getElem?_cons_succ, true_and]
  refine g_newI 4 (n := 1) dX6_init_6 (by decide) (by decide) (Nat.le_of_ble_eq_true rfl) rfl (Nat.le_of_ble_eq_true rfl) (Nat.le_of_ble_eq_true rfl) (by simp [tg_bw, tg_be, tg_bv]) (by simp [tg_bv]) (by simp [tg_bv]) (Nat.le_of_ble_eq_true rfl) (Nat.le_of_ble_eq_true rfl) ?_
  simp only [List.cons_append, List.nil_append]
  refine tg_go bX6_init_8 ?_
  simp only [ti_aload, ti_push, ti_putfR, List.getElem?_cons_zero, List.getElem?_cons_succ, List.set_cons_zero, List.set_cons_succ, true_and]
  refine g_newI 40 (n := 2) dX6_init_14 (by decide) (by decide) (Nat.le_of_ble_eq_true rfl) rfl (Nat.le_of_ble_eq_true rfl) (Nat.le_of_ble_eq_true rfl) (by simp [tg_bw, tg_be, tg_bv]) (by simp [tg_bv]) (by simp [tg_bv]) (Nat.le_of_ble_eq_true rfl) (Nat.le_of_ble_eq_true rfl) ?_
  simp only [List.cons_append, List.nil_append]
  refine tg_go bX6_init_16 ?_
  simp only [ti_aload, ti_push, ti_putfR, List.getElem?_cons_zero, List.getElem?_cons_succ, List.set_cons_zero, List.set_cons_succ, true_and]
  refine g_newI 40 (n := 3) dX6_init_22 (by decide) (by decide) (Nat.le_of_ble_eq_true rfl) rfl (Nat.le_of_ble_eq_true rfl) (Nat.le_of_ble_eq_true rfl) (by simp [tg_bw, tg_be, tg_bv]) (by simp [tg_bv]) (by simp [tg_bv]) (Nat.le_of_ble_eq_true rfl) (Nat.le_of_ble_eq_true rfl) ?_
  simp only [List.cons_append, List.nil_append]
  refine tg_go bX6_init_24 ?_
  simp only [ti_aload, ti_istore, ti_push, ti_putfI, ti_putfR, tg_s1, tg_cl, List.getElem?_cons_zero, List.getElem?_cons_succ, List.set_cons_zero, List.set_cons_succ, true_and]
  refine tg_go bX6_init_34 ?_
  simp only [ti_iload, ti_push, List.getElem?_cons_zero, List.getElem?_cons_succ, true_and]
  refine g_icmp_ge (tgt := 52) dX6_init_36 rfl (fun h36 => ?_) (fun h36 => ?_)
  · exact absurd h36 (by decide)
  · refine tg_go bX6_init_39 ?_
    simp only [ti_aload, ti_getf, ti_iast, ti_iinc, ti_iload, ti_push, tg_s1, tg_cl, List.getElem?_cons_zero, List.getElem?_cons_succ, List.set_cons_zero, List.set_cons_succ, true_and]
    refine ⟨vp_in_nI (n := 0) (by decide) (by decide), ?_⟩
    refine g_goto (tgt := 34) dX6_init_49 rfl ?_
    refine tg_go bX6_init_34 ?_
    simp only [ti_iload, ti_push, List.getElem?_cons_zero, List.getElem?_cons_succ, true_and]
    refine g_icmp_ge (tgt := 52) dX6_init_36 rfl (fun h36 => ?_) (fun h36 => ?_)
    · exact absurd h36 (by decide)
    · refine tg_go bX6_init_39 ?_
      simp only [ti_aload, ti_getf, ti_iast, ti_iinc, ti_iload, ti_push, tg_s1, tg_cl, List.getElem?_cons_zero, List.getElem?_cons_succ, List.set_cons_zero, List.set_cons_succ, true_and]
      refine ⟨vp_in_nI (n := 1) (by decide) (by decide), ?_⟩
      refine g_goto (tgt := 34) dX6_init_49 rfl ?_
      refine tg_go bX6_init_34 ?_
      simp only [ti_iload, ti_push, List.getElem?_cons_zero, List.getElem?_cons_succ, true_and]
      refine g_icmp_ge (tgt := 52) dX6_init_36 rfl (fun h36 => ?_) (fun h36 => ?_)
      · exact absurd h36 (by decide)
      · refine tg_go bX6_init_39 ?_
        simp only [ti_aload, ti_getf, ti_iast, ti_iinc, ti_iload, ti_push, tg_s1, tg_cl, List.getElem?_cons_zero, List.getElem?_cons_succ, List.set_cons_zero, List.set_cons_succ, true_and]
        refine ⟨vp_in_nI (n := 2) (by decide) (by decide), ?_⟩
        refine g_goto (tgt := 34) dX6_init_49 rfl ?_
        refine tg_go bX6_init_34 ?_
        simp only [ti_iload, ti_push, List.getElem?_cons_zero, List.getElem?_cons_succ, true_and]
        refine g_icmp_ge (tgt := 52) dX6_init_36 rfl (fun h36 => ?_) (fun h36 => ?_)
        · exact absurd h36 (by decide)
        · refine tg_go bX6_init_39 ?_
          simp only [ti_aload, ti_getf, ti_iast, ti_iinc, ti_iload, ti_push, tg_s1, tg_cl, List.getElem?_cons_zero, List.getElem?_cons_succ, List.set_cons_zero, List.set_cons_succ, true_and]
          refine ⟨vp_in_nI (n := 3) (by decide) (by decide), ?_⟩
          refine g_goto (tgt := 34) dX6_init_49 rfl ?_
          refine tg_go bX6_init_34 ?_
          simp only [ti_iload, ti_push, List.getElem?_cons_zero, List.getElem?_cons_succ, true_and]
          refine g_icmp_ge (tgt := 52) dX6_init_36 rfl (fun h36 => ?_) (fun h36 => ?_)
          · skip
            refine tg_go bX6_init_52 ?_
            simp only [ti_aload, ti_push, ti_putfI, List.getElem?_cons_zero, List.getElem?_cons_succ, List.set_cons_zero, List.set_cons_succ, true_and]
            refine g_vret dX6_init_62 rfl ?_
            exact ⟨rfl, rfl⟩
          · exact absurd (by decide) h36
theorem kX3_init : tg_Ct l mX3_init 1 [.ref 0] [.inr (2, [.null, .null])] (fun r w => r = none ∧ w = [.inr (2, [.ref 1, .ref 2]), .inl (0, 3, .inl in3), .inl (5, 3, .inr (.inr (.inr (.inr rowF)))), mu_c, mu_c, mu_c]) := by
  show tg_G _ _ _ _ _ _ _ [.ref 0, .null] [] _
  refine tg_go bX3_init_0 ?_
  simp only [ti_aload, List.getElem?_cons_zero, List.getElem?_cons_succ, true_and]
  refine g_objI dX3_init_1 mlX3_3 (tg_mem 76 (by decide +kernel) rfl) (tg_mem 77 (by decide +kernel) rfl) (Nat.le_of_ble_eq_true rfl) (Nat.le_of_ble_eq_true rfl) (Nat.le_of_ble_eq_true rfl) ?_
  refine tg_go bX3_init_4 ?_
  simp only [ti_aload, ti_push, List.getElem?_cons_zero, List.getElem?_cons_succ, true_and]
  refine g_newI 3 (n := 1) dX3_init_6 (by decide) (by decide) (Nat.le_of_ble_eq_true rfl) rfl (Nat.le_of_ble_eq_true rfl) (Nat.le_of_ble_eq_true rfl) (by simp [tg_bw, tg_be, tg_bv]) (by simp [tg_bv]) (by simp [tg_bv]) (Nat.le_of_ble_eq_true rfl) (Nat.le_of_ble_eq_true rfl) ?_
  simp only [List.cons_append, List.nil_append]
  refine tg_go bX3_init_8 ?_
  simp only [ti_aload, ti_push, ti_putfR, List.getElem?_cons_zero, List.getElem?_cons_succ, List.set_cons_zero, List.set_cons_succ, true_and]
  refine g_multi (n := 2) dX3_init_15 (tg_mem 263 (by decide +kernel) rfl) rfl (Nat.le_of_ble_eq_true rfl) (Nat.le_of_ble_eq_true rfl) (by simp [tg_bw, tg_be, tg_bv]) (by simp [tg_bv]) (by simp [tg_bv]) (Nat.le_of_ble_eq_true rfl) (Nat.le_of_ble_eq_true rfl) ?_
  simp only [List.cons_append, List.nil_append]
  refine tg_go bX3_init_19 ?_
  simp only [ti_istore, ti_push, ti_putfR, tg_s1, tg_cl, List.getElem?_cons_zero, List.getElem?_cons_succ, List.set_cons_zero, List.set_cons_succ, true_and]
  refine tg_go bX3_init_24 ?_
  simp only [ti_iload, ti_push, List.getElem?_cons_zero, List.getElem?_cons_succ, true_and]
  refine g_icmp_ge (tgt := 42) dX3_init_26 rfl (fun h26 => ?_) (fun h26 => ?_)
  · exact absurd h26 (by decide)
  · refine tg_go bX3_init_29 ?_
    simp only [ti_aload, ti_getf, ti_iast, ti_iinc, ti_iload, ti_push, tg_s1, tg_cl, List.getElem?_cons_zero, List.getElem?_cons_succ, List.set_cons_zero, List.set_cons_succ, true_and]
    refine ⟨vp_in_nI (n := 0) (by decide) (by decide), ?_⟩
    refine g_goto (tgt := 24) dX3_init_39 rfl ?_
    refine tg_go bX3_init_24 ?_
    simp only [ti_iload, ti_push, List.getElem?_cons_zero, List.getElem?_cons_succ, true_and]
    refine g_icmp_ge (tgt := 42) dX3_init_26 rfl (fun h26 => ?_) (fun h26 => ?_)
    · exact absurd h26 (by decide)
    · refine tg_go bX3_init_29 ?_
      simp only [ti_aload, ti_getf, ti_iast, ti_iinc, ti_iload, ti_push, tg_s1, tg_cl, List.getElem?_cons_zero, List.getElem?_cons_succ, List.set_cons_zero, List.set_cons_succ, true_and]
      refine ⟨vp_in_nI (n := 1) (by decide) (by decide), ?_⟩
      refine g_goto (tgt := 24) dX3_init_39 rfl ?_
      refine tg_go bX3_init_24 ?_
      simp only [ti_iload, ti_push, List.getElem?_cons_zero, List.getElem?_cons_succ, true_and]
      refine g_icmp_ge (tgt := 42) dX3_init_26 rfl (fun h26 => ?_) (fun h26 => ?_)
      · exact absurd h26 (by decide)
      · refine tg_go bX3_init_29 ?_
        simp only [ti_aload, ti_getf, ti_iast, ti_iinc, ti_iload, ti_push, tg_s1, tg_cl, List.getElem?_cons_zero, List.getElem?_cons_succ, List.set_cons_zero, List.set_cons_succ, true_and]
        refine ⟨vp_in_nI (n := 2) (by decide) (by decide), ?_⟩
        refine g_goto (tgt := 24) dX3_init_39 rfl ?_
        refine tg_go bX3_init_24 ?_
        simp only [ti_iload, ti_push, List.getElem?_cons_zero, List.getElem?_cons_succ, true_and]
        refine g_icmp_ge (tgt := 42) dX3_init_26 rfl (fun h26 => ?_) (fun h26 => ?_)
        · skip
          refine g_vret dX3_init_42 rfl ?_
          exact ⟨rfl, rfl⟩
        · exact absurd (by decide) h26
end INIT1
