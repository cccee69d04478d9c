/-! THE CLASS: Parting: the best order -/
def ordN (d i : Nat) : Nat := ((tg_ol (d - 1)).getD i 0).toInt.toNat
theorem ordN_ok {d i : Nat} (h1 : 1 ≤ d) (h4 : d ≤ 4) (hi : i < (tg_ol (d - 1)).length) : (tg_ol (d - 1)).getD i 0 = nI (ordN d i) ∧ ordN d i < 10000 := by
  have key : ∀ d : Fin 4, ∀ i : Fin (tg_ol d.val).length, (tg_ol d.val).getD i.val 0 = nI ((tg_ol d.val).getD i.val 0).toInt.toNat ∧ ((tg_ol d.val).getD i.val 0).toInt.toNat < 10000 := by decide +kernel
  exact key ⟨d - 1, by omega⟩ ⟨i, hi⟩
/-- the best of the first i orders, and its work -/
def bsC (en : Nat → Int32) (d : Nat) : Nat → Int32 × Int32
  | 0 => (-1, 0)
  | i + 1 => if (bsC en d i).1 = -1 ∨ wkP en d (2 ^ d - 1) (ordN d i) 0 < (bsC en d i).2 then (nI (ordN d i), wkP en d (2 ^ d - 1) (ordN d i) 0) else bsC en d i
section BEST
variable {l : tg_Ln} {K : Option Value → List va_E → Prop} {en : Nat → Int32} {qd qv : Int32} {d : Nat}
theorem kX4_ordersOf (h1 : 1 ≤ d) (h4 : d ≤ 4) : tg_Ct l mX4_ordersOf 1000 [.int (nI d)] [] (fun r w => r = some (.ref (1000 + (d - 1))) ∧ w = []) := by
  rcases (by omega : d = 1 ∨ d = 2 ∨ d = 3 ∨ d = 4) with rfl | rfl | rfl | rfl
  · skip
    show tg_G _ _ _ _ _ _ _ [.int (nI 1)] [] _
    refine tg_go bX4_ordersOf_0 ?_
    simp only [ti_iload, List.getElem?_cons_zero, List.getElem?_cons_succ, true_and]
    refine g_tblIn (off := 27) (tgt := 28) dX4_ordersOf_1 (by decide) (by decide) rfl rfl ?_
    refine tg_go bX4_ordersOf_28 ?_
    simp only [ti_ord]
    exact g_aret dX4_ordersOf_31 rfl (Or.inr ⟨_, rfl⟩) ⟨rfl, rfl⟩
  · skip
    show tg_G _ _ _ _ _ _ _ [.int (nI 2)] [] _
    refine tg_go bX4_ordersOf_0 ?_
    simp only [ti_iload, List.getElem?_cons_zero, List.getElem?_cons_succ, true_and]
    refine g_tblIn (off := 31) (tgt := 32) dX4_ordersOf_1 (by decide) (by decide) rfl rfl ?_
    refine tg_go bX4_ordersOf_32 ?_
    simp only [ti_ord]
    exact g_aret dX4_ordersOf_35 rfl (Or.inr ⟨_, rfl⟩) ⟨rfl, rfl⟩
  · skip
    show tg_G _ _ _ _ _ _ _ [.int (nI 3)] [] _
    refine tg_go bX4_ordersOf_0 ?_
    simp only [ti_iload, List.getElem?_cons_zero, List.getElem?_cons_succ, true_and]
    refine g_tblIn (off := 35) (tgt := 36) dX4_ordersOf_1 (by decide) (by decide) rfl rfl ?_
    refine tg_go bX4_ordersOf_36 ?_
    simp only [ti_ord]
    exact g_aret dX4_ordersOf_39 rfl (Or.inr ⟨_, rfl⟩) ⟨rfl, rfl⟩
  · skip
    show tg_G _ _ _ _ _ _ _ [.int (nI 4)] [] _
    refine tg_go bX4_ordersOf_0 ?_
    simp only [ti_iload, List.getElem?_cons_zero, List.getElem?_cons_succ, true_and]
    refine g_tblOut (tgt := 40) dX4_ordersOf_1 (by decide) rfl ?_
    refine tg_go bX4_ordersOf_40 ?_
    simp only [ti_ord]
    exact g_aret dX4_ordersOf_43 rfl (Or.inr ⟨_, rfl⟩) ⟨rfl, rfl⟩
theorem kX4_bestOrder_l (h1 : 1 ≤ d) (h4 : d ≤ 4) (hK : K (some (.int (bsC en d (tg_ol (d - 1)).length).1)) (wQ (nI d) qv en)) : ∀ (m i : Nat) (x5 : Value), (tg_ol (d - 1)).length - i < m → i ≤ (tg_ol (d - 1)).length → tg_G l mX4_bestOrder 1000 K 0 0 15 [.ref 0, .ref (1000 + (d - 1)), .int (bsC en d i).1, .int (bsC en d i).2, .int (nI i), x5] [] (wQ (nI d) qv en) := by
  have hlen : (tg_ol (d - 1)).length ≤ 24 := by
    rcases (by omega : d = 1 ∨ d = 2 ∨ d = 3 ∨ d = 4) with rfl | rfl | rfl | rfl <;> decide
  intro m
  induction m with
  | zero => intro i x5 h; omega
  | succ m ih =>
    intro i x5 hm hi
    unfold wQ at ih hK ⊢
    refine tg_go bX4_bestOrder_15 ?_
    simp only [ti_aload, ti_iload, ti_olen, List.getElem?_cons_zero, List.getElem?_cons_succ, true_and]
    rw [show 1000 + (d - 1) - 1000 = d - 1 by omega]
    refine ⟨⟨Nat.le_add_right _ _, show 1000 + (d - 1) < 1004 by omega⟩, ?_⟩
    refine g_icmp_ge (tgt := 57) dX4_bestOrder_19 rfl (fun h19 => ?_) (fun h19 => ?_)
    · have h19 : nI (tg_ol (d - 1)).length ≤ nI i := h19
      rw [lI_le (by omega) (by omega)] at h19
      obtain rfl : i = (tg_ol (d - 1)).length := by omega
      refine tg_go bX4_bestOrder_57 ?_
      simp only [ti_iload, List.getElem?_cons_zero, List.getElem?_cons_succ, true_and]
      refine g_iret dX4_bestOrder_58 rfl ?_
      exact hK
    · have h19 : ¬ nI (tg_ol (d - 1)).length ≤ nI i := h19
      rw [lI_le (by omega) (by omega)] at h19
      obtain ⟨e1, e2⟩ := ordN_ok h1 h4 (show i < (tg_ol (d - 1)).length by omega)
      refine tg_go bX4_bestOrder_22 ?_
      simp only [ti_aload, ti_iload, ti_oald, List.getElem?_cons_zero, List.getElem?_cons_succ, true_and]
      rw [show 1000 + (d - 1) - 1000 = d - 1 by omega, nI_clamp (by omega), e1]
      refine ⟨⟨Nat.le_add_right _ _, show 1000 + (d - 1) < 1004 by omega⟩, vp_in_nI (by omega) (by omega), ?_⟩
      refine tg_cW vX4_bestOrder_27 (kX4_workBy h4 (by omega)) rfl rfl rfl rfl (Nat.le_of_ble_eq_true rfl) (Nat.le_of_ble_eq_true rfl) (Nat.le_of_ble_eq_true rfl) rfl ?_
      unfold wQ
      refine tg_go bX4_bestOrder_30 ?_
      simp only [ti_iload, ti_istore, ti_push, tg_s1, tg_cl, List.getElem?_cons_zero, List.getElem?_cons_succ, List.set_cons_zero, List.set_cons_succ, true_and]
      refine g_icmp_eq (tgt := 43) dX4_bestOrder_34 rfl (fun h34 => ?_) (fun h34 => ?_)
      · have h34 : (bsC en d i).1 = -1 := h34
        refine tg_go bX4_bestOrder_43 ?_
        simp only [ti_aload, ti_iload, ti_istore, ti_oald, tg_s1, tg_cl, List.getElem?_cons_zero, List.getElem?_cons_succ, List.set_cons_zero, List.set_cons_succ, true_and]
        rw [show 1000 + (d - 1) - 1000 = d - 1 by omega, nI_clamp (by omega), e1]
        refine ⟨⟨Nat.le_add_right _ _, show 1000 + (d - 1) < 1004 by omega⟩, vp_in_nI (by omega) (by omega), ?_⟩
        refine tg_go bX4_bestOrder_51 ?_
        simp only [ti_iinc, tg_s1, tg_cl, List.getElem?_cons_zero, List.getElem?_cons_succ, List.set_cons_zero, List.set_cons_succ, true_and]
        rw [nI_1]
        refine g_goto (tgt := 15) dX4_bestOrder_54 rfl ?_
        have h2 := ih (i + 1) (.int (wkP en d (2 ^ d - 1) (ordN d i) 0)) (by omega) (by omega)
        rw [bsC, if_pos (Or.inl h34)] at h2
        exact h2
      · have h34 : ¬ (bsC en d i).1 = -1 := h34
        refine tg_go bX4_bestOrder_37 ?_
        simp only [ti_iload, List.getElem?_cons_zero, List.getElem?_cons_succ, true_and]
        refine g_icmp_ge (tgt := 51) dX4_bestOrder_40 rfl (fun h40 => ?_) (fun h40 => ?_)
        · rw [← Int32.not_lt] at h40
          refine tg_go bX4_bestOrder_51 ?_
          simp only [ti_iinc, tg_s1, tg_cl, List.getElem?_cons_zero, List.getElem?_cons_succ, List.set_cons_zero, List.set_cons_succ, true_and]
          rw [nI_1]
          refine g_goto (tgt := 15) dX4_bestOrder_54 rfl ?_
          have h2 := ih (i + 1) (.int (wkP en d (2 ^ d - 1) (ordN d i) 0)) (by omega) (by omega)
          rw [bsC, if_neg (fun h => h.elim h34 h40)] at h2
          exact h2
        · rw [Int32.not_le] at h40
          refine tg_go bX4_bestOrder_43 ?_
          simp only [ti_aload, ti_iload, ti_istore, ti_oald, tg_s1, tg_cl, List.getElem?_cons_zero, List.getElem?_cons_succ, List.set_cons_zero, List.set_cons_succ, true_and]
          rw [show 1000 + (d - 1) - 1000 = d - 1 by omega, nI_clamp (by omega), e1]
          refine ⟨⟨Nat.le_add_right _ _, show 1000 + (d - 1) < 1004 by omega⟩, vp_in_nI (by omega) (by omega), ?_⟩
          refine tg_go bX4_bestOrder_51 ?_
          simp only [ti_iinc, tg_s1, tg_cl, List.getElem?_cons_zero, List.getElem?_cons_succ, List.set_cons_zero, List.set_cons_succ, true_and]
          rw [nI_1]
          refine g_goto (tgt := 15) dX4_bestOrder_54 rfl ?_
          have h2 := ih (i + 1) (.int (wkP en d (2 ^ d - 1) (ordN d i) 0)) (by omega) (by omega)
          rw [bsC, if_pos (Or.inr h40)] at h2
          exact h2
theorem kX4_bestOrder (h1 : 1 ≤ d) (h4 : d ≤ 4) : tg_Ct l mX4_bestOrder 1000 [.ref 0] (wQ (nI d) qv en) (fun r w => r = some (.int (bsC en d (tg_ol (d - 1)).length).1) ∧ w = wQ (nI d) qv en) := by
  show tg_G _ _ _ _ _ _ _ [.ref 0, .null, .null, .null, .null, .null] [] _
  unfold wQ
  refine tg_go bX4_bestOrder_0 ?_
  simp only [ti_aload, ti_getf, List.getElem?_cons_zero, List.getElem?_cons_succ, true_and]
  refine tg_cP vX4_bestOrder_4 (kX4_ordersOf h1 h4) rfl rfl (Nat.le_of_ble_eq_true rfl) (Nat.le_of_ble_eq_true rfl) ?_
  refine tg_go bX4_bestOrder_7 ?_
  simp only [ti_astore, ti_istore, ti_push, tg_s1, tg_cl, List.getElem?_cons_zero, List.getElem?_cons_succ, List.set_cons_zero, List.set_cons_succ, true_and]
  exact kX4_bestOrder_l h1 h4 ⟨rfl, rfl⟩ ((tg_ol (d - 1)).length + 1) 0 .null (by omega) (by omega)
end BEST
