/-! calls in the same world, and of static methods without one -/
theorem tg_v_id (v : Value) : tg_v (fun k => k) v = v := by cases v <;> rfl
theorem tg_v_ids (vs : List Value) : vs.map (tg_v (fun k => k)) = vs := by
  have : (tg_v fun k => k) = id := funext tg_v_id
  rw [this, List.map_id]
theorem tg_e_id (c : va_E) : tg_e (fun t => t) (fun k => k) c = c := by
  rcases c with ⟨t, n, a⟩ | ⟨ci, fs⟩
  · rcases a with a | a | a | a | a <;> simp [tg_e]
  · simp [tg_e, tg_v_ids]
theorem tg_rn_range (n : Nat) : tg_rn (List.range n) = fun k => k := by
  funext k
  simp only [tg_rn, List.getD, List.getElem?_range]
  by_cases h : k < n <;> simp [h]
theorem tg_rn_nil : tg_rn [] = fun k => k := by
  funext k
  simp [tg_rn]
theorem tg_put_all {w w' : List va_E} (h : w'.length = w.length) : tg_put (fun k => k) w (List.range w.length) w' = w' := by
  apply List.ext_getElem?
  intro j
  by_cases hj : j < w.length
  · have hl : j < (tg_put (fun k => k) w (List.range w.length) w').length := by rw [tg_put_len]; exact hj
    have hx := List.getElem?_eq_getElem hl
    rcases tg_put_get _ _ _ _ _ _ hx (by simp [h]) with ⟨k, c, g1, g2, g3⟩ | ⟨g1, g2⟩
    · rw [hx, g3, tg_e_id]
      have hk := (List.getElem?_eq_some_iff.mp g1)
      obtain ⟨hk1, hk2⟩ := hk
      have : k = j := by simpa using hk2
      rw [← this]
      exact g2.symm
    · exact absurd (List.mem_range.mpr hj) g1
  · rw [List.getElem?_eq_none (by rw [tg_put_len]; omega), List.getElem?_eq_none (by omega)]
theorem va_nd_range : ∀ (n s : Nat), va_nd (List.range' s n) = true
  | 0, s => rfl
  | n + 1, s => by
    rw [List.range'_succ, va_nd]
    simp only [Bool.and_eq_true, decide_eq_true_eq]
    refine ⟨fun h => ?_, va_nd_range n (s + 1)⟩
    have := List.mem_range'_1.mp h
    omega
theorem tg_fr_all (w : List va_E) : (List.range w.length).map (fun i => w[i]?) = w.map (fun c => some (tg_e (fun t => t) (tg_rn (List.range w.length)) c)) := by
  rw [tg_rn_range]
  apply List.ext_getElem?
  intro j
  simp only [List.getElem?_map]
  by_cases hj : j < w.length
  · rw [List.getElem?_range hj, List.getElem?_eq_getElem hj]
    simp [tg_e_id, hj]
  · rw [List.getElem?_eq_none (by simp; omega), List.getElem?_eq_none (show w.length ≤ j by omega)]
    rfl
section TGR
variable {l : tg_Ln} {M M' : tg_M} {n0 n pc kc ks : Nat} {K K' : Option Value → List va_E → Prop} {lv : List Value} {w : List va_E}
/-- an instance method, the same world -/
theorem tg_callW (hs : tg_VS M pc M' n) {b ci : Nat} {As rest fs : List Value} (hc : tg_Ct l M' 1000 (.ref b :: As) w K') (hw : w.length ≤ 1000) (hrb : w[b]? = some (.inr (ci, fs))) (hcl : (vwCl[ci]?).map (fun q => q.1) = some M'.1.cls) (hn : As.length = n) (hla : (tg_la (.ref b :: As)).length ≤ M'.2.2.1) (hW : (rest.map fun v => v.category).sum ≤ 8)
    (hlen : ∀ r w', K' r w' → w'.length = w.length) (kk : ∀ r w', K' r w' → tg_G l M n0 K kc ks (pc + 3) lv (r.toList ++ rest) w') :
    tg_G l M n0 K kc ks pc lv (As.reverse ++ .ref b :: rest) w := by
  have h := tg_callV (n0 := n0) (K := K) (kc := kc) (ks := ks) (lv := lv) (rest := rest) hs (List.range w.length) hc (tg_fr_all w) (by rw [List.range_eq_range']; exact va_nd_range _ _) (by simpa using hw) hrb hcl hn hla hW hlen (fun r w' hk => by
    rw [tg_rn_range, tg_put_all (hlen r w' hk)]
    have e : (r.map (tg_v fun k => k)) = r := by cases r <;> simp [tg_v_id]
    rw [e]
    exact kk r w' hk)
  rw [tg_rn_range, tg_v_ids] at h
  exact h
/-- a static method that needs no world -/
theorem tg_callP (hs : tg_SS0 M pc M' n) {P : Option Value → Prop} {As rest : List Value} (hc : tg_Ct l M' 1000 As [] (fun r w => P r ∧ w = [])) (hn : As.length = n) (hla : (tg_la As).length ≤ M'.2.2.1) (hW : (rest.map fun v => v.category).sum ≤ 8)
    (kk : ∀ r, P r → tg_G l M n0 K kc ks (pc + 3) lv (r.toList ++ rest) w) : tg_G l M n0 K kc ks pc lv (As.reverse ++ rest) w := by
  have h := tg_callS (n0 := n0) (K := K) (kc := kc) (ks := ks) (lv := lv) (rest := rest) (w := w) hs [] hc rfl rfl (by simp) hn hla hW (fun r w' h => by rw [h.2]) (fun r w' hk => by
    rw [tg_rn_nil]
    have e : (r.map (tg_v fun k => k)) = r := by cases r <;> simp [tg_v_id]
    rw [e, hk.2]
    exact kk r hk.1)
  rw [tg_rn_nil, tg_v_ids] at h
  exact h
/-- a static method, the same world -/
theorem tg_callSW (hs : tg_SS0 M pc M' n) {As rest : List Value} (hc : tg_Ct l M' 1000 As w K') (hw : w.length ≤ 1000) (hn : As.length = n) (hla : (tg_la As).length ≤ M'.2.2.1) (hW : (rest.map fun v => v.category).sum ≤ 8)
    (hlen : ∀ r w', K' r w' → w'.length = w.length) (kk : ∀ r w', K' r w' → tg_G l M n0 K kc ks (pc + 3) lv (r.toList ++ rest) w') :
    tg_G l M n0 K kc ks pc lv (As.reverse ++ rest) w := by
  have h := tg_callS (n0 := n0) (K := K) (kc := kc) (ks := ks) (lv := lv) (rest := rest) hs (List.range w.length) hc (tg_fr_all w) (by rw [List.range_eq_range']; exact va_nd_range _ _) (by simpa using hw) hn hla hW hlen (fun r w' hk => by
    rw [tg_rn_range, tg_put_all (hlen r w' hk)]
    have e : (r.map (tg_v fun k => k)) = r := by cases r <;> simp [tg_v_id]
    rw [e]
    exact kk r w' hk)
  rw [tg_rn_range, tg_v_ids] at h
  exact h
end TGR
