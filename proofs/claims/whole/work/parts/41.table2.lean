/-! THE CLASS: Table, the rest -/
/-- an array with a place made at p -/
def tIns (f : Nat → Int32) (p n : Nat) (x : Int32) : Nat → Int32 := upd (va_cpy f f p (p + 1) (n - p)) p x
def tDel (f : Nat → Int32) (p n : Nat) : Nat → Int32 := va_cpy f f (p + 1) p (n - p - 1)
section TAB2
variable {l : tg_Ln} {K : Option Value → List va_E → Prop} {tv tc tm : Nat → Int32} {td tn te : Int32} {d n : Nat} {v : Nat → Nat}
theorem kX6_leastOf {cv : Int64} (hn : n ≤ 40) : tg_Ct l mX6_leastOf 1000 [.ref 0, .long cv] (wT td tv (nI n) tc tm te) (fun r w => r = some (.int (lMin (fun i => cbit cv (nI i)) tm n)) ∧ w = (wT td tv (nI n) tc tm te)) := by
  show tg_G _ _ _ _ _ _ _ [.ref 0, .long cv, .null, .null, .null] [] _
  unfold wT
  refine tg_go bX6_leastOf_0 ?_
  simp only [ti_istore, ti_push, tg_s1, tg_cl, List.getElem?_cons_zero, List.getElem?_cons_succ, List.set_cons_zero, List.set_cons_succ, true_and]
  exact kX6_leastOf_l hn ⟨rfl, rfl⟩ (n + 1) 0 (by omega) (by omega)
theorem kX6_greatestOf_l {cv : Int64} (hn : n ≤ 40) (hK : K (some (.int (lMax (fun i => cbit cv (nI i)) tm n))) (wT td tv (nI n) tc tm te)) : ∀ (m k : Nat), n - k < m → k ≤ n → tg_G l mX6_greatestOf 1000 K 0 0 6 [.ref 0, .long cv, .null, .int (lMax (fun i => cbit cv (nI i)) tm k), .int (nI k)] [] (wT td tv (nI n) tc tm te) := by
  intro m
  induction m with
  | zero => intro k h; omega
  | succ m ih =>
    intro k hm hk
    unfold wT at ih hK ⊢
    refine tg_go bX6_greatestOf_6 ?_
    simp only [ti_aload, ti_getf, ti_iload, List.getElem?_cons_zero, List.getElem?_cons_succ, true_and]
    refine g_icmp_ge (tgt := 42) dX6_greatestOf_12 rfl (fun h12 => ?_) (fun h12 => ?_)
    · rw [lI_le (by omega) (by omega)] at h12
      obtain rfl : k = n := by omega
      refine tg_go bX6_greatestOf_42 ?_
      simp only [ti_iload, List.getElem?_cons_zero, List.getElem?_cons_succ, true_and]
      refine g_iret dX6_greatestOf_43 rfl ?_
      exact hK
    · rw [lI_le (by omega) (by omega)] at h12
      refine tg_go bX6_greatestOf_15 ?_
      simp only [ti_iload, ti_lload, List.getElem?_cons_zero, List.getElem?_cons_succ, true_and]
      refine tg_cP vX6_greatestOf_18 (kX6_isIn) rfl rfl (Nat.le_of_ble_eq_true rfl) (Nat.le_of_ble_eq_true rfl) ?_
      refine g_if_eq (tgt := 36) dX6_greatestOf_21 rfl (fun h21 => ?_) (fun h21 => ?_)
      · refine tg_go bX6_greatestOf_36 ?_
        simp only [ti_iinc, tg_s1, tg_cl, List.getElem?_cons_zero, List.getElem?_cons_succ, List.set_cons_zero, List.set_cons_succ, true_and]
        rw [nI_1]
        refine g_goto (tgt := 6) dX6_greatestOf_39 rfl ?_
        have h2 := ih (k + 1) (by omega) (by omega)
        rw [lMax] at h2
        rw [if_neg (by rw [bZ_0 h21]; decide)] at h2
        exact h2
      · refine tg_go bX6_greatestOf_24 ?_
        simp only [ti_aload, ti_getf, ti_iald, ti_iload, ti_istore, ti_mmax, tg_s1, tg_cl, List.getElem?_cons_zero, List.getElem?_cons_succ, List.set_cons_zero, List.set_cons_succ, true_and, List.map_nil, List.map_cons, List.sum_nil, List.sum_cons, Value.category, Nat.reduceAdd, Nat.reduceLeDiff, and_self, and_true]
        rw [nI_clamp (by omega)]
        refine ⟨vp_in_nI (by omega) (by omega), ?_⟩
        refine tg_go bX6_greatestOf_36 ?_
        simp only [ti_iinc, tg_s1, tg_cl, List.getElem?_cons_zero, List.getElem?_cons_succ, List.set_cons_zero, List.set_cons_succ, true_and]
        rw [nI_1]
        refine g_goto (tgt := 6) dX6_greatestOf_39 rfl ?_
        have h2 := ih (k + 1) (by omega) (by omega)
        rw [lMax, if_pos (bZ_n h21)] at h2
        exact h2
theorem kX6_greatestOf {cv : Int64} (hn : n ≤ 40) : tg_Ct l mX6_greatestOf 1000 [.ref 0, .long cv] (wT td tv (nI n) tc tm te) (fun r w => r = some (.int (lMax (fun i => cbit cv (nI i)) tm n)) ∧ w = (wT td tv (nI n) tc tm te)) := by
  show tg_G _ _ _ _ _ _ _ [.ref 0, .long cv, .null, .null, .null] [] _
  unfold wT
  refine tg_go bX6_greatestOf_0 ?_
  simp only [ti_istore, ti_push, tg_s1, tg_cl, List.getElem?_cons_zero, List.getElem?_cons_succ, List.set_cons_zero, List.set_cons_succ, true_and]
  exact kX6_greatestOf_l hn ⟨rfl, rfl⟩ (n + 1) 0 (by omega) (by omega)
theorem kX6_insert {p : Nat} {x y : Int32} (hn : n < 40) (hp : p ≤ n) : tg_Ct l mX6_insert 1000 [.ref 0, .int (nI p), .int x, .int y] (wT td tv (nI n) tc tm te) (fun r w => r = none ∧ w = (wT td tv (nI (n + 1)) (tIns tc p n x) (tIns tm p n y) te)) := by
  show tg_G _ _ _ _ _ _ _ [.ref 0, .int (nI p), .int x, .int y] [] _
  unfold wT
  refine tg_go bX6_insert_0 ?_
  simp only [ti_iload, List.getElem?_cons_zero, List.getElem?_cons_succ, true_and]
  refine g_if_lt (tgt := 21) dX6_insert_1 rfl (fun h1 => ?_) (fun h1 => ?_)
  · exact absurd h1 (nI_pos (by omega))
  · refine tg_go bX6_insert_4 ?_
    simp only [ti_aload, ti_getf, ti_iload, List.getElem?_cons_zero, List.getElem?_cons_succ, true_and]
    refine g_icmp_gt (tgt := 21) dX6_insert_9 rfl (fun h9 => ?_) (fun h9 => ?_)
    · rw [lI_lt (by omega) (by omega)] at h9; omega
    · refine tg_go bX6_insert_12 ?_
      simp only [ti_aload, ti_getf, ti_push, List.getElem?_cons_zero, List.getElem?_cons_succ, true_and]
      refine g_icmp_lt (tgt := 22) dX6_insert_18 rfl (fun h18 => ?_) (fun h18 => ?_)
      · refine tg_go bX6_insert_22 ?_
        simp only [ti_acopy, ti_aload, ti_dup, ti_getf, ti_iadd, ti_iast, ti_iload, ti_isub, ti_push, ti_putfI, Value.category, List.getElem?_cons_zero, List.getElem?_cons_succ, List.set_cons_zero, List.set_cons_succ, true_and, List.map_nil, List.map_cons, List.sum_nil, List.sum_cons, Nat.reduceAdd, Nat.reduceLeDiff, and_self, and_true]
        rw [pk_sub hp, nI_1, nI_1, nI_clamp (by omega), nI_clamp (by omega), nI_clamp (by omega)]
        refine ⟨⟨nI_pos (by omega), nI_pos (by omega), nI_pos (by omega), by omega, by omega⟩, ⟨nI_pos (by omega), nI_pos (by omega), nI_pos (by omega), by omega, by omega⟩, vp_in_nI (by omega) (by omega), vp_in_nI (by omega) (by omega), ?_⟩
        refine g_vret dX6_insert_88 rfl ?_
        exact ⟨rfl, rfl⟩
      · rw [fa_lit, lI_lt (by omega) (by omega)] at h18; omega
theorem kX6_takeOut {p : Nat} (hn : n ≤ 40) (hp : p < n) : tg_Ct l mX6_takeOut 1000 [.ref 0, .int (nI p)] (wT td tv (nI n) tc tm te) (fun r w => r = none ∧ w = (wT td tv (nI (n - 1)) (tDel tc p n) (tDel tm p n) te)) := by
  show tg_G _ _ _ _ _ _ _ [.ref 0, .int (nI p)] [] _
  unfold wT
  refine tg_go bX6_takeOut_0 ?_
  simp only [ti_aload, ti_iload, List.getElem?_cons_zero, List.getElem?_cons_succ, true_and]
  refine tg_cW vX6_takeOut_2 (kX6_hasEntry hn) rfl rfl rfl rfl (Nat.le_of_ble_eq_true rfl) (Nat.le_of_ble_eq_true rfl) (Nat.le_of_ble_eq_true rfl) rfl ?_
  unfold wT
  refine g_if_ne (tgt := 9) dX6_takeOut_5 rfl (fun h5 => ?_) (fun h5 => ?_)
  · refine tg_go bX6_takeOut_9 ?_
    simp only [ti_acopy, ti_aload, ti_dup, ti_getf, ti_iadd, ti_iload, ti_isub, ti_push, ti_putfI, Value.category, List.getElem?_cons_zero, List.getElem?_cons_succ, List.set_cons_zero, List.set_cons_succ, true_and, List.map_nil, List.map_cons, List.sum_nil, List.sum_cons, Nat.reduceAdd, Nat.reduceLeDiff, and_self, and_true]
    have e : nI n - 1 = nI (n - 1) := pk_sub (a := n) (b := 1) (by omega)
    have e2 : nI (n - p) - 1 = nI (n - p - 1) := pk_sub (a := n - p) (b := 1) (by omega)
    rw [pk_sub (by omega), e, e2, nI_1, nI_clamp (by omega), nI_clamp (by omega), nI_clamp (by omega)]
    refine ⟨⟨nI_pos (by omega), nI_pos (by omega), nI_pos (by omega), by omega, by omega⟩, ⟨nI_pos (by omega), nI_pos (by omega), nI_pos (by omega), by omega, by omega⟩, ?_⟩
    refine g_vret dX6_takeOut_65 rfl ?_
    exact ⟨rfl, rfl⟩
  · have := of_decide_eq_false (bZ_0 h5)
    rw [nI_toInt (by omega)] at this
    omega
end TAB2
