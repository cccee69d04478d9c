/-! THE REFERENCE: rows of longs worked on; counts -/
theorem cmp_lt0 {a : Int64} : (lg_cmp a 0 < 0) = (a < 0) := propext (lg_cmp_lt a 0)
theorem cmp_ge0 {a : Int64} : (0 ≤ lg_cmp a 0) = ¬ (a < 0) := propext ((lg_cmp_ge a 0).trans Int64.not_lt.symm)
theorem cmp_eq0 {a b : Int64} : (lg_cmp a b = 0) = (a = b) := propext (lg_cmp_eq a b)
theorem bZ_eq {x y : Bool} (h : bZ x = bZ y) : (x == y) = true ∧ (x != y) = false := by
  cases x <;> cases y <;> first | exact ⟨rfl, rfl⟩ | exact absurd h (by decide)
theorem bZ_ne {x y : Bool} (h : ¬ bZ x = bZ y) : (x == y) = false ∧ (x != y) = true := by
  cases x <;> cases y <;> first | exact ⟨rfl, rfl⟩ | exact absurd rfl h
section REF8
variable {l : tg_Ln} {K : Option Value → List va_E → Prop} {row vals kp tx sz rv ct bm : Nat → Int32} {dm un len fi be rD rM cl dg nu my su le gr cz vi ov : Int32} {it : Nat → Int64} {ask : Int64} {d B n s : Nat} {c v : Nat → Nat} {u : Nat → Int32}
theorem kX9_plus {a b : Int64} : tg_Ct l mX9_plus 1000 [.ref 0, .long a, .long b] (wM row dm vals un kp tx len sz it ask fi be rD rM cl dg nu my su le gr cz vi ov rv ct bm) (fun r w => r = some (.long (a + b)) ∧ w = (wM row dm vals un kp tx len sz it ask fi be rD rM cl dg nu my su le gr cz vi (bZ (plusOv a b)) rv ct bm)) := by
  show tg_G _ _ _ _ _ _ _ [.ref 0, .long a, .null, .long b, .null, .null, .null] [] _
  unfold wM
  refine tg_go bX9_plus_0 ?_
  simp only [ti_aload, ti_ladd, ti_lcmp, ti_lload, ti_lstore, ti_push, tg_s2, tg_cl, List.getElem?_cons_zero, List.getElem?_cons_succ, List.set_cons_zero, List.set_cons_succ, true_and]
  refine g_cut1 17 (fun z => z = bZ (decide (a < 0))) (fun J17 => ?_) (fun z hz => ?_)
  · refine g_if_ge (tgt := 16) dX9_plus_9 rfl (fun h9 => ?_) (fun h9 => ?_)
    · refine tg_go bX9_plus_16 ?_
      simp only [ti_push, List.getElem?_cons_zero, List.getElem?_cons_succ, true_and]
      exact J17 _ (by rw [cmp_ge0] at h9; simp [h9, bZ])
    · refine tg_go bX9_plus_12 ?_
      simp only [ti_push, List.getElem?_cons_zero, List.getElem?_cons_succ, true_and]
      refine g_goto (tgt := 17) dX9_plus_13 rfl ?_
      exact J17 _ (by rw [cmp_ge0] at h9; simp [Decidable.not_not.mp h9, bZ])
  subst hz
  refine tg_go bX9_plus_17 ?_
  simp only [ti_lcmp, ti_lload, ti_push, List.getElem?_cons_zero, List.getElem?_cons_succ, true_and]
  refine g_cut1 28 (fun z => z = bZ (decide (b < 0))) (fun J28 => ?_) (fun z hz => ?_)
  · refine g_if_ge (tgt := 27) dX9_plus_20 rfl (fun h20 => ?_) (fun h20 => ?_)
    · refine tg_go bX9_plus_27 ?_
      simp only [ti_push, List.getElem?_cons_zero, List.getElem?_cons_succ, true_and]
      exact J28 _ (by rw [cmp_ge0] at h20; simp [h20, bZ])
    · refine tg_go bX9_plus_23 ?_
      simp only [ti_push, List.getElem?_cons_zero, List.getElem?_cons_succ, true_and]
      refine g_goto (tgt := 28) dX9_plus_24 rfl ?_
      exact J28 _ (by rw [cmp_ge0] at h20; simp [Decidable.not_not.mp h20, bZ])
  subst hz
  refine g_cut2 62 (fun z => z = bZ (plusOv a b)) (fun J62 => ?_) (fun z hz => ?_)
  · refine g_icmp_ne (tgt := 61) dX9_plus_28 rfl (fun h28 => ?_) (fun h28 => ?_)
    · refine tg_go bX9_plus_61 ?_
      simp only [ti_push, List.getElem?_cons_zero, List.getElem?_cons_succ, true_and]
      exact J62 _ (by unfold plusOv; rw [(bZ_ne h28).1]; rfl)
    · refine tg_go bX9_plus_31 ?_
      simp only [ti_lcmp, ti_lload, ti_push, List.getElem?_cons_zero, List.getElem?_cons_succ, true_and]
      refine g_cut1 43 (fun z => z = bZ (decide (a + b < 0))) (fun J43 => ?_) (fun z hz => ?_)
      · refine g_if_ge (tgt := 42) dX9_plus_35 rfl (fun h35 => ?_) (fun h35 => ?_)
        · refine tg_go bX9_plus_42 ?_
          simp only [ti_push, List.getElem?_cons_zero, List.getElem?_cons_succ, true_and]
          exact J43 _ (by rw [cmp_ge0] at h35; simp [h35, bZ])
        · refine tg_go bX9_plus_38 ?_
          simp only [ti_push, List.getElem?_cons_zero, List.getElem?_cons_succ, true_and]
          refine g_goto (tgt := 43) dX9_plus_39 rfl ?_
          exact J43 _ (by rw [cmp_ge0] at h35; simp [Decidable.not_not.mp h35, bZ])
      subst hz
      refine tg_go bX9_plus_43 ?_
      simp only [ti_lcmp, ti_lload, ti_push, List.getElem?_cons_zero, List.getElem?_cons_succ, true_and]
      refine g_cut1 54 (fun z => z = bZ (decide (a < 0))) (fun J54 => ?_) (fun z hz => ?_)
      · refine g_if_ge (tgt := 53) dX9_plus_46 rfl (fun h46 => ?_) (fun h46 => ?_)
        · refine tg_go bX9_plus_53 ?_
          simp only [ti_push, List.getElem?_cons_zero, List.getElem?_cons_succ, true_and]
          exact J54 _ (by rw [cmp_ge0] at h46; simp [h46, bZ])
        · refine tg_go bX9_plus_49 ?_
          simp only [ti_push, List.getElem?_cons_zero, List.getElem?_cons_succ, true_and]
          refine g_goto (tgt := 54) dX9_plus_50 rfl ?_
          exact J54 _ (by rw [cmp_ge0] at h46; simp [Decidable.not_not.mp h46, bZ])
      subst hz
      refine g_icmp_eq (tgt := 61) dX9_plus_54 rfl (fun h54 => ?_) (fun h54 => ?_)
      · refine tg_go bX9_plus_61 ?_
        simp only [ti_push, List.getElem?_cons_zero, List.getElem?_cons_succ, true_and]
        exact J62 _ (by unfold plusOv; rw [(bZ_eq h28).1, (bZ_eq h54).2]; rfl)
      · refine tg_go bX9_plus_57 ?_
        simp only [ti_push, List.getElem?_cons_zero, List.getElem?_cons_succ, true_and]
        refine g_goto (tgt := 62) dX9_plus_58 rfl ?_
        exact J62 _ (by unfold plusOv; rw [(bZ_eq h28).1, (bZ_ne h54).2]; rfl)
  subst hz
  refine tg_go bX9_plus_62 ?_
  simp only [ti_lload, ti_putfZ, List.getElem?_cons_zero, List.getElem?_cons_succ, List.set_cons_zero, List.set_cons_succ, true_and]
  refine ⟨bZ_01 _, ?_⟩
  refine g_lret dX9_plus_67 rfl ?_
  exact ⟨rfl, rfl⟩
theorem kX9_times {a b : Int64} : tg_Ct l mX9_times 1000 [.ref 0, .long a, .long b] (wM row dm vals un kp tx len sz it ask fi be rD rM cl dg nu my su le gr cz vi ov rv ct bm) (fun r w => r = some (.long (a * b)) ∧ w = (wM row dm vals un kp tx len sz it ask fi be rD rM cl dg nu my su le gr cz vi (bZ (timesOv a b)) rv ct bm)) := by
  show tg_G _ _ _ _ _ _ _ [.ref 0, .long a, .null, .long b, .null, .null, .null] [] _
  unfold wM
  refine tg_go bX9_times_0 ?_
  simp only [ti_aload, ti_lcmp, ti_lload, ti_lmul, ti_lstore, ti_push, tg_s2, tg_cl, List.getElem?_cons_zero, List.getElem?_cons_succ, List.set_cons_zero, List.set_cons_succ, true_and]
  refine g_cut1 45 (fun z => z = bZ (timesOv a b)) (fun J45 => ?_) (fun z hz => ?_)
  · refine g_if_eq (tgt := 21) dX9_times_9 rfl (fun h9 => ?_) (fun h9 => ?_)
    · rw [cmp_eq0] at h9
      refine tg_go bX9_times_21 ?_
      simp only [ti_lcmp, ti_lload, ti_push, List.getElem?_cons_zero, List.getElem?_cons_succ, true_and]
      refine g_if_ge (tgt := 44) dX9_times_24 rfl (fun h24 => ?_) (fun h24 => ?_)
      · rw [cmp_ge0] at h24
        refine tg_go bX9_times_44 ?_
        simp only [ti_push, List.getElem?_cons_zero, List.getElem?_cons_succ, true_and]
        exact J45 _ (by unfold timesOv; simp [h9, h24, bZ, *])
      · rw [cmp_ge0] at h24
        refine tg_go bX9_times_27 ?_
        simp only [ti_lcmp, ti_lload, ti_push, List.getElem?_cons_zero, List.getElem?_cons_succ, true_and]
        refine g_if_ge (tgt := 44) dX9_times_30 rfl (fun h30 => ?_) (fun h30 => ?_)
        · rw [cmp_ge0] at h30
          refine tg_go bX9_times_44 ?_
          simp only [ti_push, List.getElem?_cons_zero, List.getElem?_cons_succ, true_and]
          exact J45 _ (by unfold timesOv; simp [h9, h30, bZ, *])
        · rw [cmp_ge0] at h30
          refine tg_go bX9_times_33 ?_
          simp only [ti_lcmp, ti_lload, ti_push, List.getElem?_cons_zero, List.getElem?_cons_succ, true_and]
          refine g_if_ge (tgt := 44) dX9_times_37 rfl (fun h37 => ?_) (fun h37 => ?_)
          · rw [cmp_ge0] at h37
            refine tg_go bX9_times_44 ?_
            simp only [ti_push, List.getElem?_cons_zero, List.getElem?_cons_succ, true_and]
            exact J45 _ (by unfold timesOv; simp [h9, h37, bZ, *])
          · rw [cmp_ge0] at h37
            refine tg_go bX9_times_40 ?_
            simp only [ti_push, List.getElem?_cons_zero, List.getElem?_cons_succ, true_and]
            refine g_goto (tgt := 45) dX9_times_41 rfl ?_
            exact J45 _ (by unfold timesOv; rw [decide_eq_true (Decidable.not_not.mp h24), decide_eq_true (Decidable.not_not.mp h30), decide_eq_true (Decidable.not_not.mp h37)]; simp [bZ])
    · rw [cmp_eq0] at h9
      refine tg_go bX9_times_12 ?_
      simp only [ti_lcmp, ti_ldiv, ti_lload, List.getElem?_cons_zero, List.getElem?_cons_succ, true_and]
      refine ⟨h9, ?_⟩
      refine g_if_ne (tgt := 40) dX9_times_18 rfl (fun h18 => ?_) (fun h18 => ?_)
      · rw [cmp_eq0] at h18
        refine tg_go bX9_times_40 ?_
        simp only [ti_push, List.getElem?_cons_zero, List.getElem?_cons_succ, true_and]
        refine g_goto (tgt := 45) dX9_times_41 rfl ?_
        exact J45 _ (by unfold timesOv; rw [decide_eq_true h9, decide_eq_true h18]; rfl)
      · rw [cmp_eq0] at h18
        refine tg_go bX9_times_21 ?_
        simp only [ti_lcmp, ti_lload, ti_push, List.getElem?_cons_zero, List.getElem?_cons_succ, true_and]
        refine g_if_ge (tgt := 44) dX9_times_24 rfl (fun h24 => ?_) (fun h24 => ?_)
        · rw [cmp_ge0] at h24
          refine tg_go bX9_times_44 ?_
          simp only [ti_push, List.getElem?_cons_zero, List.getElem?_cons_succ, true_and]
          exact J45 _ (by unfold timesOv; simp [h9, h24, bZ, *])
        · rw [cmp_ge0] at h24
          refine tg_go bX9_times_27 ?_
          simp only [ti_lcmp, ti_lload, ti_push, List.getElem?_cons_zero, List.getElem?_cons_succ, true_and]
          refine g_if_ge (tgt := 44) dX9_times_30 rfl (fun h30 => ?_) (fun h30 => ?_)
          · rw [cmp_ge0] at h30
            refine tg_go bX9_times_44 ?_
            simp only [ti_push, List.getElem?_cons_zero, List.getElem?_cons_succ, true_and]
            exact J45 _ (by unfold timesOv; simp [h9, h30, bZ, *])
          · rw [cmp_ge0] at h30
            refine tg_go bX9_times_33 ?_
            simp only [ti_lcmp, ti_lload, ti_push, List.getElem?_cons_zero, List.getElem?_cons_succ, true_and]
            refine g_if_ge (tgt := 44) dX9_times_37 rfl (fun h37 => ?_) (fun h37 => ?_)
            · rw [cmp_ge0] at h37
              refine tg_go bX9_times_44 ?_
              simp only [ti_push, List.getElem?_cons_zero, List.getElem?_cons_succ, true_and]
              exact J45 _ (by unfold timesOv; simp [h9, h37, bZ, *])
            · rw [cmp_ge0] at h37
              refine tg_go bX9_times_40 ?_
              simp only [ti_push, List.getElem?_cons_zero, List.getElem?_cons_succ, true_and]
              refine g_goto (tgt := 45) dX9_times_41 rfl ?_
              exact J45 _ (by unfold timesOv; rw [decide_eq_true (Decidable.not_not.mp h24), decide_eq_true (Decidable.not_not.mp h30), decide_eq_true (Decidable.not_not.mp h37)]; simp [bZ])
  subst hz
  refine tg_go bX9_times_45 ?_
  simp only [ti_lload, ti_putfZ, List.getElem?_cons_zero, List.getElem?_cons_succ, List.set_cons_zero, List.set_cons_succ, true_and]
  refine ⟨bZ_01 _, ?_⟩
  refine g_lret dX9_times_50 rfl ?_
  exact ⟨rfl, rfl⟩
/-- what work() makes of a place -/
def wkV (a : Int64) (y : Int32) (z : Int32) : Int64 := if y = 2 then a * z.toInt64 else a + (if y = 0 then z.toInt64 else -z.toInt64)
def wkO (a : Int64) (y : Int32) (z : Int32) : Bool := if y = 2 then timesOv a z.toInt64 else plusOv a (if y = 0 then z.toInt64 else -z.toInt64)
theorem kX9_work {x i y z : Int32} (hz : szOK sz) : tg_Ct l mX9_work 1000 [.ref 0, .int x, .int i, .int y, .int z] (wM row dm vals un kp tx len sz it ask fi be rD rM cl dg nu my su le gr cz vi ov rv ct bm) (fun r w => (¬ (0 ≤ x.toInt ∧ x.toInt ≤ 2) ∧ r = some (.int (-2)) ∧ (sM row dm vals un kp tx len sz it ask) w) ∨ ((0 ≤ x.toInt ∧ x.toInt ≤ 2) ∧ ¬ (0 ≤ y.toInt ∧ y.toInt ≤ 2) ∧ r = some (.int (-3)) ∧ (sM row dm vals un kp tx len sz it ask) w) ∨ ((0 ≤ x.toInt ∧ x.toInt ≤ 2) ∧ (0 ≤ y.toInt ∧ y.toInt ≤ 2) ∧ npI sz x i ≠ 0 ∧ r = some (.int (npI sz x i)) ∧ (sM row dm vals un kp tx len sz it ask) w) ∨ ((0 ≤ x.toInt ∧ x.toInt ≤ 2) ∧ (0 ≤ y.toInt ∧ y.toInt ≤ 2) ∧ npI sz x i = 0 ∧ ((wkO (it (12 * x.toInt.toNat + i.toInt.toNat)) y z = true ∧ r = some (.int (-14)) ∧ (sM row dm vals un kp tx len sz it ask) w) ∨ (wkO (it (12 * x.toInt.toNat + i.toInt.toNat)) y z = false ∧ r = some (.int 1) ∧ (sM row dm vals un kp tx len sz (vp_updL it (12 * x.toInt.toNat + i.toInt.toNat) (wkV (it (12 * x.toInt.toNat + i.toInt.toNat)) y z)) (wkV (it (12 * x.toInt.toNat + i.toInt.toNat)) y z)) w)))) := by
  show tg_G _ _ _ _ _ _ _ [.ref 0, .int x, .int i, .int y, .int z, .null, .null, .null, .null, .null] [] _
  unfold wM
  refine tg_go bX9_work_0 ?_
  simp only [ti_iload, List.getElem?_cons_zero, List.getElem?_cons_succ, true_and]
  refine tg_cP vX9_work_1 (kX9_isRow') rfl rfl (Nat.le_of_ble_eq_true rfl) (Nat.le_of_ble_eq_true rfl) ?_
  refine g_if_ne (tgt := 10) dX9_work_4 rfl (fun h4 => ?_) (fun h4 => ?_)
  · have hx := of_decide_eq_true (bZ_n h4)
    refine tg_go bX9_work_10 ?_
    simp only [ti_i2l, ti_iload, ti_push, List.getElem?_cons_zero, List.getElem?_cons_succ, true_and]
    refine tg_cP vX9_work_16 (kX9_in) rfl rfl (Nat.le_of_ble_eq_true rfl) (Nat.le_of_ble_eq_true rfl) ?_
    rw [show (decide ((0 : Int64) ≤ y.toInt64) && decide (y.toInt64 ≤ (2 : Int64))) = (decide (nI 0 ≤ y) && decide (y ≤ nI 2)) from w_in y 0 2, in_lit (by omega) (by omega)]
    refine g_if_ne (tgt := 25) dX9_work_19 rfl (fun h19 => ?_) (fun h19 => ?_)
    · have hy := of_decide_eq_true (bZ_n h19)
      refine tg_go bX9_work_25 ?_
      simp only [ti_aload, ti_iload, List.getElem?_cons_zero, List.getElem?_cons_succ, true_and]
      refine tg_cW vX9_work_28 (kX9_noPlace hz) rfl rfl rfl rfl (Nat.le_of_ble_eq_true rfl) (Nat.le_of_ble_eq_true rfl) (Nat.le_of_ble_eq_true rfl) rfl ?_
      unfold wM
      refine tg_go bX9_work_31 ?_
      simp only [ti_iload, ti_istore, tg_s1, tg_cl, List.getElem?_cons_zero, List.getElem?_cons_succ, List.set_cons_zero, List.set_cons_succ, true_and]
      refine g_if_eq (tgt := 41) dX9_work_35 rfl (fun h35 => ?_) (fun h35 => ?_)
      · obtain ⟨a, j, rfl, rfl, ha, hj, -⟩ := np_0 hz h35
        have ea : (nI a).toInt.toNat = a := by rw [nI_toInt (by omega)]; omega
        have ej : (nI j).toInt.toNat = j := by rw [nI_toInt (by omega)]; omega
        rw [ea, ej]
        refine tg_go bX9_work_41 ?_
        simp only [ti_aload, ti_getf, ti_iadd, ti_iload, ti_imul, ti_lald, ti_lstore, ti_push, tg_s2, tg_cl, List.getElem?_cons_zero, List.getElem?_cons_succ, List.set_cons_zero, List.set_cons_succ, true_and]
        rw [show (12 : Int32) * nI a = nI (12 * a) from pk_mul 12 _, nI_add, nI_clamp (by omega)]
        refine ⟨vp_in_nI (by omega) (by omega), ?_⟩
        refine g_icmp_ne (tgt := 71) dX9_work_56 rfl (fun h56 => ?_) (fun h56 => ?_)
        · refine tg_go bX9_work_71 ?_
          simp only [ti_aload, ti_iload, ti_lload, List.getElem?_cons_zero, List.getElem?_cons_succ, true_and]
          refine g_if_ne (tgt := 84) dX9_work_75 rfl (fun h75 => ?_) (fun h75 => ?_)
          · have ev : wkV (it (12 * a + j)) y z = it (12 * a + j) + -z.toInt64 := by unfold wkV; rw [if_neg h56, if_neg h75]
            have eo : wkO (it (12 * a + j)) y z = plusOv (it (12 * a + j)) (-z.toInt64) := by unfold wkO; rw [if_neg h56, if_neg h75]
            rw [ev, eo]
            refine tg_go bX9_work_84 ?_
            simp only [ti_i2l, ti_iload, ti_lneg, List.getElem?_cons_zero, List.getElem?_cons_succ, true_and]
            refine tg_cW vX9_work_88 (kX9_plus) rfl rfl rfl rfl (Nat.le_of_ble_eq_true rfl) (Nat.le_of_ble_eq_true rfl) (Nat.le_of_ble_eq_true rfl) rfl ?_
            unfold wM
            refine tg_go bX9_work_91 ?_
            simp only [ti_aload, ti_getf, ti_lstore, tg_s2, tg_cl, List.getElem?_cons_zero, List.getElem?_cons_succ, List.set_cons_zero, List.set_cons_succ, true_and]
            refine g_if_eq (tgt := 103) dX9_work_97 rfl (fun h97 => ?_) (fun h97 => ?_)
            · refine tg_go bX9_work_103 ?_
              simp only [ti_aload, ti_getf, ti_iadd, ti_iload, ti_imul, ti_last, ti_lload, ti_push, ti_putfJ, List.getElem?_cons_zero, List.getElem?_cons_succ, List.set_cons_zero, List.set_cons_succ, true_and]
              rw [show (12 : Int32) * nI a = nI (12 * a) from pk_mul 12 _, nI_add, nI_clamp (by omega)]
              refine ⟨vp_in_nI (by omega) (by omega), ?_⟩
              refine g_iret dX9_work_123 rfl ?_
              exact Or.inr (Or.inr (Or.inr ⟨hx, hy, h35, Or.inr ⟨bZ_0 h97, rfl, sM_mk⟩⟩))
            · refine tg_go bX9_work_100 ?_
              simp only [ti_push, List.getElem?_cons_zero, List.getElem?_cons_succ, true_and]
              refine g_iret dX9_work_102 rfl ?_
              exact Or.inr (Or.inr (Or.inr ⟨hx, hy, h35, Or.inl ⟨bZ_n h97, rfl, sM_mk⟩⟩))
          · have ev : wkV (it (12 * a + j)) y z = it (12 * a + j) + z.toInt64 := by unfold wkV; rw [if_neg h56, if_pos h75]
            have eo : wkO (it (12 * a + j)) y z = plusOv (it (12 * a + j)) z.toInt64 := by unfold wkO; rw [if_neg h56, if_pos h75]
            rw [ev, eo]
            refine tg_go bX9_work_78 ?_
            simp only [ti_i2l, ti_iload, List.getElem?_cons_zero, List.getElem?_cons_succ, true_and]
            refine g_goto (tgt := 88) dX9_work_81 rfl ?_
            refine tg_cW vX9_work_88 (kX9_plus) rfl rfl rfl rfl (Nat.le_of_ble_eq_true rfl) (Nat.le_of_ble_eq_true rfl) (Nat.le_of_ble_eq_true rfl) rfl ?_
            unfold wM
            refine tg_go bX9_work_91 ?_
            simp only [ti_aload, ti_getf, ti_lstore, tg_s2, tg_cl, List.getElem?_cons_zero, List.getElem?_cons_succ, List.set_cons_zero, List.set_cons_succ, true_and]
            refine g_if_eq (tgt := 103) dX9_work_97 rfl (fun h97 => ?_) (fun h97 => ?_)
            · refine tg_go bX9_work_103 ?_
              simp only [ti_aload, ti_getf, ti_iadd, ti_iload, ti_imul, ti_last, ti_lload, ti_push, ti_putfJ, List.getElem?_cons_zero, List.getElem?_cons_succ, List.set_cons_zero, List.set_cons_succ, true_and]
              rw [show (12 : Int32) * nI a = nI (12 * a) from pk_mul 12 _, nI_add, nI_clamp (by omega)]
              refine ⟨vp_in_nI (by omega) (by omega), ?_⟩
              refine g_iret dX9_work_123 rfl ?_
              exact Or.inr (Or.inr (Or.inr ⟨hx, hy, h35, Or.inr ⟨bZ_0 h97, rfl, sM_mk⟩⟩))
            · refine tg_go bX9_work_100 ?_
              simp only [ti_push, List.getElem?_cons_zero, List.getElem?_cons_succ, true_and]
              refine g_iret dX9_work_102 rfl ?_
              exact Or.inr (Or.inr (Or.inr ⟨hx, hy, h35, Or.inl ⟨bZ_n h97, rfl, sM_mk⟩⟩))
        · have ev : wkV (it (12 * a + j)) y z = it (12 * a + j) * z.toInt64 := by unfold wkV; rw [if_pos h56]
          have eo : wkO (it (12 * a + j)) y z = timesOv (it (12 * a + j)) z.toInt64 := by unfold wkO; rw [if_pos h56]
          rw [ev, eo]
          refine tg_go bX9_work_59 ?_
          simp only [ti_aload, ti_i2l, ti_iload, ti_lload, List.getElem?_cons_zero, List.getElem?_cons_succ, true_and]
          refine tg_cW vX9_work_65 (kX9_times) rfl rfl rfl rfl (Nat.le_of_ble_eq_true rfl) (Nat.le_of_ble_eq_true rfl) (Nat.le_of_ble_eq_true rfl) rfl ?_
          unfold wM
          refine g_goto (tgt := 91) dX9_work_68 rfl ?_
          refine tg_go bX9_work_91 ?_
          simp only [ti_aload, ti_getf, ti_lstore, tg_s2, tg_cl, List.getElem?_cons_zero, List.getElem?_cons_succ, List.set_cons_zero, List.set_cons_succ, true_and]
          refine g_if_eq (tgt := 103) dX9_work_97 rfl (fun h97 => ?_) (fun h97 => ?_)
          · refine tg_go bX9_work_103 ?_
            simp only [ti_aload, ti_getf, ti_iadd, ti_iload, ti_imul, ti_last, ti_lload, ti_push, ti_putfJ, List.getElem?_cons_zero, List.getElem?_cons_succ, List.set_cons_zero, List.set_cons_succ, true_and]
            rw [show (12 : Int32) * nI a = nI (12 * a) from pk_mul 12 _, nI_add, nI_clamp (by omega)]
            refine ⟨vp_in_nI (by omega) (by omega), ?_⟩
            refine g_iret dX9_work_123 rfl ?_
            exact Or.inr (Or.inr (Or.inr ⟨hx, hy, h35, Or.inr ⟨bZ_0 h97, rfl, sM_mk⟩⟩))
          · refine tg_go bX9_work_100 ?_
            simp only [ti_push, List.getElem?_cons_zero, List.getElem?_cons_succ, true_and]
            refine g_iret dX9_work_102 rfl ?_
            exact Or.inr (Or.inr (Or.inr ⟨hx, hy, h35, Or.inl ⟨bZ_n h97, rfl, sM_mk⟩⟩))
      · refine tg_go bX9_work_38 ?_
        simp only [ti_iload, List.getElem?_cons_zero, List.getElem?_cons_succ, true_and]
        refine g_iret dX9_work_40 rfl ?_
        exact Or.inr (Or.inr (Or.inl ⟨hx, hy, h35, rfl, sM_mk⟩))
    · have hy := of_decide_eq_false (bZ_0 h19)
      refine tg_go bX9_work_22 ?_
      simp only [ti_push, List.getElem?_cons_zero, List.getElem?_cons_succ, true_and]
      refine g_iret dX9_work_24 rfl ?_
      exact Or.inr (Or.inl ⟨hx, hy, rfl, sM_mk⟩)
  · have hx := of_decide_eq_false (bZ_0 h4)
    refine tg_go bX9_work_7 ?_
    simp only [ti_push, List.getElem?_cons_zero, List.getElem?_cons_succ, true_and]
    refine g_iret dX9_work_9 rfl ?_
    exact Or.inl ⟨hx, rfl, sM_mk⟩
theorem kX9_bits_l {a j : Nat} {x3 : Int32} (ha : a < 3) (hj : j < 12) (hK : K (some (.int 1)) (wM row dm vals un kp tx len sz it (bitS (it (12 * a + j)) 64) fi be rD rM cl dg nu my su le gr cz vi ov rv ct bm)) : ∀ (m k : Nat), 64 - k < m → k ≤ 64 → tg_G l mX9_bits 1000 K 0 0 21 [.ref 0, .int (nI a), .int (nI j), .int x3, .int (nI k)] [] (wM row dm vals un kp tx len sz it (bitS (it (12 * a + j)) k) fi be rD rM cl dg nu my su le gr cz vi ov rv ct bm) := by
  intro m
  induction m with
  | zero => intro k h; omega
  | succ m ih =>
    intro k hm hk
    unfold wM at ih hK ⊢
    refine tg_go bX9_bits_21 ?_
    simp only [ti_iload, ti_push, List.getElem?_cons_zero, List.getElem?_cons_succ, true_and]
    refine g_icmp_ge (tgt := 59) dX9_bits_25 rfl (fun h25 => ?_) (fun h25 => ?_)
    · rw [fa_lit, lI_le (by omega) (by omega)] at h25
      obtain rfl : k = 64 := by omega
      refine tg_go bX9_bits_59 ?_
      simp only [ti_push, List.getElem?_cons_zero, List.getElem?_cons_succ, true_and]
      refine g_iret dX9_bits_60 rfl ?_
      exact hK
    · rw [fa_lit, lI_le (by omega) (by omega)] at h25
      refine tg_go bX9_bits_28 ?_
      simp only [ti_aload, ti_dup, ti_getf, ti_iadd, ti_iinc, ti_iload, ti_imul, ti_ladd, ti_lald, ti_land, ti_lshr, ti_push, ti_putfJ, tg_s1, tg_cl, Value.category, List.getElem?_cons_zero, List.getElem?_cons_succ, List.set_cons_zero, List.set_cons_succ, true_and]
      rw [show (12 : Int32) * nI a = nI (12 * a) from pk_mul 12 _, nI_add, nI_1, nI_clamp (by omega)]
      refine ⟨vp_in_nI (by omega) (by omega), ?_⟩
      refine g_goto (tgt := 21) dX9_bits_56 rfl ?_
      exact ih (k + 1) (by omega) (by omega)
theorem kX9_bits {x i : Int32} (hz : szOK sz) : tg_Ct l mX9_bits 1000 [.ref 0, .int x, .int i] (wM row dm vals un kp tx len sz it ask fi be rD rM cl dg nu my su le gr cz vi ov rv ct bm) (fun r w => (npI sz x i ≠ 0 ∧ r = some (.int (npI sz x i)) ∧ (sM row dm vals un kp tx len sz it ask) w) ∨ (npI sz x i = 0 ∧ r = some (.int 1) ∧ (sM row dm vals un kp tx len sz it (bitS (it (12 * x.toInt.toNat + i.toInt.toNat)) 64)) w)) := by
  show tg_G _ _ _ _ _ _ _ [.ref 0, .int x, .int i, .null, .null] [] _
  unfold wM
  refine tg_go bX9_bits_0 ?_
  simp only [ti_aload, ti_iload, List.getElem?_cons_zero, List.getElem?_cons_succ, true_and]
  refine tg_cW vX9_bits_3 (kX9_noPlace hz) rfl rfl rfl rfl (Nat.le_of_ble_eq_true rfl) (Nat.le_of_ble_eq_true rfl) (Nat.le_of_ble_eq_true rfl) rfl ?_
  unfold wM
  refine tg_go bX9_bits_6 ?_
  simp only [ti_iload, ti_istore, tg_s1, tg_cl, List.getElem?_cons_zero, List.getElem?_cons_succ, List.set_cons_zero, List.set_cons_succ, true_and]
  refine g_if_eq (tgt := 13) dX9_bits_8 rfl (fun h8 => ?_) (fun h8 => ?_)
  · obtain ⟨a, j, rfl, rfl, ha, hj, -⟩ := np_0 hz h8
    have ea : (nI a).toInt.toNat = a := by rw [nI_toInt (by omega)]; omega
    have ej : (nI j).toInt.toNat = j := by rw [nI_toInt (by omega)]; omega
    rw [ea, ej]
    refine tg_go bX9_bits_13 ?_
    simp only [ti_aload, ti_istore, ti_push, ti_putfJ, tg_s1, tg_cl, List.getElem?_cons_zero, List.getElem?_cons_succ, List.set_cons_zero, List.set_cons_succ, true_and]
    exact kX9_bits_l ha hj (Or.inr ⟨h8, rfl, sM_mk⟩) 65 0 (by omega) (by omega)
  · refine tg_go bX9_bits_11 ?_
    simp only [ti_iload, List.getElem?_cons_zero, List.getElem?_cons_succ, true_and]
    refine g_iret dX9_bits_12 rfl ?_
    exact Or.inl ⟨h8, rfl, sM_mk⟩
theorem kX9_sum_l {a q : Nat} (ha : a < 3) (hq : q ≤ 12) (es : sz a = nI q) (hK1 : sumK (fun j => it (12 * a + j)) q = none → ∀ ov, K (some (.int (-14))) (wM row dm vals un kp tx len sz it ask fi be rD rM cl dg nu my su le gr cz vi ov rv ct bm)) (hK2 : ∀ t, sumK (fun j => it (12 * a + j)) q = some t → ∀ ov, K (some (.int (nI q))) (wM row dm vals un kp tx len sz it t fi be rD rM cl dg nu my su le gr cz vi ov rv ct bm)) : ∀ (m k : Nat) (t : Int64) (ov : Int32), q - k < m → k ≤ q → sumK (fun j => it (12 * a + j)) k = some t → tg_G l mX9_sum 1000 K 0 0 27 [.ref 0, .int (nI a), .long t, .null, .int (nI k)] [] (wM row dm vals un kp tx len sz it ask fi be rD rM cl dg nu my su le gr cz vi ov rv ct bm) := by
  intro m
  induction m with
  | zero => intro k t ov h; omega
  | succ m ih =>
    intro k t ov hm hk ht
    unfold wM at ih hK1 hK2 ⊢
    refine tg_go bX9_sum_27 ?_
    simp only [ti_aload, ti_getf, ti_iald, ti_iload, List.getElem?_cons_zero, List.getElem?_cons_succ, true_and]
    rw [nI_clamp (by omega), es]
    refine ⟨vp_in_nI (by omega) (by omega), ?_⟩
    refine g_icmp_ge (tgt := 72) dX9_sum_35 rfl (fun h35 => ?_) (fun h35 => ?_)
    · rw [lI_le (by omega) (by omega)] at h35
      obtain rfl : k = q := by omega
      refine tg_go bX9_sum_72 ?_
      simp only [ti_aload, ti_getf, ti_iald, ti_iload, ti_lload, ti_putfJ, List.getElem?_cons_zero, List.getElem?_cons_succ, List.set_cons_zero, List.set_cons_succ, true_and]
      rw [nI_clamp (by omega), es]
      refine ⟨vp_in_nI (by omega) (by omega), ?_⟩
      refine g_iret dX9_sum_83 rfl ?_
      exact hK2 t ht _
    · rw [lI_le (by omega) (by omega)] at h35
      refine tg_go bX9_sum_38 ?_
      simp only [ti_aload, ti_getf, ti_iadd, ti_iload, ti_imul, ti_lald, ti_lload, ti_push, List.getElem?_cons_zero, List.getElem?_cons_succ, true_and]
      rw [show (12 : Int32) * nI a = nI (12 * a) from pk_mul 12 _, nI_add, nI_clamp (by omega)]
      refine ⟨vp_in_nI (by omega) (by omega), ?_⟩
      refine tg_cW vX9_sum_52 (kX9_plus) rfl rfl rfl rfl (Nat.le_of_ble_eq_true rfl) (Nat.le_of_ble_eq_true rfl) (Nat.le_of_ble_eq_true rfl) rfl ?_
      unfold wM
      refine tg_go bX9_sum_55 ?_
      simp only [ti_aload, ti_getf, ti_lstore, tg_s2, tg_cl, List.getElem?_cons_zero, List.getElem?_cons_succ, List.set_cons_zero, List.set_cons_succ, true_and]
      refine g_if_eq (tgt := 66) dX9_sum_60 rfl (fun h60 => ?_) (fun h60 => ?_)
      · refine tg_go bX9_sum_66 ?_
        simp only [ti_iinc, tg_s1, tg_cl, List.getElem?_cons_zero, List.getElem?_cons_succ, List.set_cons_zero, List.set_cons_succ, true_and]
        rw [nI_1]
        refine g_goto (tgt := 27) dX9_sum_69 rfl ?_
        exact ih (k + 1) _ _ (by omega) (by omega) (by rw [sumK, ht]; show (if _ then _ else _) = _; rw [if_neg (by rw [bZ_0 h60]; decide)])
      · have hn : sumK (fun j => it (12 * a + j)) (k + 1) = none := by rw [sumK, ht]; show (if _ then _ else _) = _; rw [if_pos (bZ_n h60)]
        have hn2 := sumK_none hn (q - (k + 1))
        rw [show k + 1 + (q - (k + 1)) = q by omega] at hn2
        refine tg_go bX9_sum_63 ?_
        simp only [ti_push, List.getElem?_cons_zero, List.getElem?_cons_succ, true_and]
        refine g_iret dX9_sum_65 rfl ?_
        exact hK1 hn2 _
theorem kX9_sum {x : Int32} (hz : szOK sz) : tg_Ct l mX9_sum 1000 [.ref 0, .int x] (wM row dm vals un kp tx len sz it ask fi be rD rM cl dg nu my su le gr cz vi ov rv ct bm) (fun r w => (¬ (0 ≤ x.toInt ∧ x.toInt ≤ 2) ∧ r = some (.int (-2)) ∧ (sM row dm vals un kp tx len sz it ask) w) ∨ ((0 ≤ x.toInt ∧ x.toInt ≤ 2) ∧ sz x.toInt.toNat = -1 ∧ r = some (.int (-11)) ∧ (sM row dm vals un kp tx len sz it ask) w) ∨ ((0 ≤ x.toInt ∧ x.toInt ≤ 2) ∧ ∃ q, q ≤ 12 ∧ sz x.toInt.toNat = nI q ∧ ((sumK (fun j => it (12 * x.toInt.toNat + j)) q = none ∧ r = some (.int (-14)) ∧ (sM row dm vals un kp tx len sz it ask) w) ∨ ∃ t, sumK (fun j => it (12 * x.toInt.toNat + j)) q = some t ∧ r = some (.int (nI q)) ∧ (sM row dm vals un kp tx len sz it t) w))) := by
  show tg_G _ _ _ _ _ _ _ [.ref 0, .int x, .null, .null, .null] [] _
  unfold wM
  refine tg_go bX9_sum_0 ?_
  simp only [ti_iload, List.getElem?_cons_zero, List.getElem?_cons_succ, true_and]
  refine tg_cP vX9_sum_1 (kX9_isRow') rfl rfl (Nat.le_of_ble_eq_true rfl) (Nat.le_of_ble_eq_true rfl) ?_
  refine g_if_ne (tgt := 10) dX9_sum_4 rfl (fun h4 => ?_) (fun h4 => ?_)
  · have hx := of_decide_eq_true (bZ_n h4)
    obtain ⟨e1, e2⟩ := x_of (n := 3) hx.1 (by omega)
    generalize hcc : x.toInt.toNat = e at e1 e2 ⊢
    subst e1
    refine tg_go bX9_sum_10 ?_
    simp only [ti_aload, ti_getf, ti_iald, ti_iload, List.getElem?_cons_zero, List.getElem?_cons_succ, true_and]
    rw [nI_clamp (by omega)]
    refine ⟨vp_in_nI (by omega) (by omega), ?_⟩
    refine g_if_ge (tgt := 22) dX9_sum_16 rfl (fun h16 => ?_) (fun h16 => ?_)
    · obtain ⟨q, hq, es⟩ : ∃ q, q ≤ 12 ∧ sz e = nI q := by
        rcases hz e e2 with h | h
        · rw [h] at h16; exact absurd h16 (by decide)
        · exact h
      refine tg_go bX9_sum_22 ?_
      simp only [ti_istore, ti_lstore, ti_push, tg_s1, tg_cl, tg_s2, List.getElem?_cons_zero, List.getElem?_cons_succ, List.set_cons_zero, List.set_cons_succ, true_and]
      exact kX9_sum_l e2 hq es (fun hn ov => Or.inr (Or.inr ⟨hx, q, hq, es, Or.inl ⟨hn, rfl, sM_mk⟩⟩)) (fun t ht ov => Or.inr (Or.inr ⟨hx, q, hq, es, Or.inr ⟨t, ht, rfl, sM_mk⟩⟩)) (q + 1) 0 0 _ (by omega) (by omega) rfl
    · have h1 : sz e = -1 := by
        rcases hz e e2 with h | ⟨q, hq, h⟩
        · exact h
        · exact absurd (by rw [h]; exact nI_pos' (by omega)) h16
      refine tg_go bX9_sum_19 ?_
      simp only [ti_push, List.getElem?_cons_zero, List.getElem?_cons_succ, true_and]
      refine g_iret dX9_sum_21 rfl ?_
      exact Or.inr (Or.inl ⟨hx, h1, rfl, sM_mk⟩)
  · have hx := of_decide_eq_false (bZ_0 h4)
    refine tg_go bX9_sum_7 ?_
    simp only [ti_push, List.getElem?_cons_zero, List.getElem?_cons_succ, true_and]
    refine g_iret dX9_sum_9 rfl ?_
    exact Or.inl ⟨hx, rfl, sM_mk⟩
theorem kX9_load {x i y : Int32} (hd : d ≤ 4) (hv : ∀ k, k < d → vals k = nI (v k) ∧ v k ≤ 6) (ht : tbR row d 0 n s c u) (hz : szOK sz) : tg_Ct l mX9_load 1000 [.ref 0, .int x, .int i, .int y] (wM row (nI d) vals un kp tx len sz it ask fi be rD rM cl dg nu my su le gr cz vi ov rv ct bm) (fun r w => (¬ (0 ≤ x.toInt ∧ x.toInt ≤ 2) ∧ r = some (.int (-2)) ∧ (sM row (nI d) vals un kp tx len sz it ask) w) ∨ ((0 ≤ x.toInt ∧ x.toInt ≤ 2) ∧ cellOK d v y = false ∧ r = some (.int (-3)) ∧ (sM row (nI d) vals un kp tx len sz it ask) w) ∨ ((0 ≤ x.toInt ∧ x.toInt ≤ 2) ∧ cellOK d v y = true ∧ npI sz x i ≠ 0 ∧ r = some (.int (npI sz x i)) ∧ (sM row (nI d) vals un kp tx len sz it ask) w) ∨ ((0 ≤ x.toInt ∧ x.toInt ≤ 2) ∧ cellOK d v y = true ∧ npI sz x i = 0 ∧ r = some (.int 1) ∧ (sM row (nI d) vals un kp tx len sz (vp_updL it (12 * x.toInt.toNat + i.toInt.toNat) (gSum (cvP d c y.toInt.toNat) u n).toInt64) ask) w)) := by
  have hp7 := pow7 hd
  show tg_G _ _ _ _ _ _ _ [.ref 0, .int x, .int i, .int y, .null] [] _
  unfold wM
  refine tg_go bX9_load_0 ?_
  simp only [ti_iload, List.getElem?_cons_zero, List.getElem?_cons_succ, true_and]
  refine tg_cP vX9_load_1 (kX9_isRow') rfl rfl (Nat.le_of_ble_eq_true rfl) (Nat.le_of_ble_eq_true rfl) ?_
  refine g_if_ne (tgt := 10) dX9_load_4 rfl (fun h4 => ?_) (fun h4 => ?_)
  · have hx := of_decide_eq_true (bZ_n h4)
    refine tg_go bX9_load_10 ?_
    simp only [ti_aload, ti_iload, List.getElem?_cons_zero, List.getElem?_cons_succ, true_and]
    refine tg_cW vX9_load_12 (kX9_isCell hd hv) rfl rfl rfl rfl (Nat.le_of_ble_eq_true rfl) (Nat.le_of_ble_eq_true rfl) (Nat.le_of_ble_eq_true rfl) rfl ?_
    unfold wM
    refine g_if_ne (tgt := 21) dX9_load_15 rfl (fun h15 => ?_) (fun h15 => ?_)
    · have hy := bZ_n h15
      refine tg_go bX9_load_21 ?_
      simp only [ti_aload, ti_iload, List.getElem?_cons_zero, List.getElem?_cons_succ, true_and]
      refine tg_cW vX9_load_24 (kX9_noPlace hz) rfl rfl rfl rfl (Nat.le_of_ble_eq_true rfl) (Nat.le_of_ble_eq_true rfl) (Nat.le_of_ble_eq_true rfl) rfl ?_
      unfold wM
      refine tg_go bX9_load_27 ?_
      simp only [ti_iload, ti_istore, tg_s1, tg_cl, List.getElem?_cons_zero, List.getElem?_cons_succ, List.set_cons_zero, List.set_cons_succ, true_and]
      refine g_if_eq (tgt := 37) dX9_load_31 rfl (fun h31 => ?_) (fun h31 => ?_)
      · obtain ⟨a, j, rfl, rfl, ha, hj, -⟩ := np_0 hz h31
        have ea : (nI a).toInt.toNat = a := by rw [nI_toInt (by omega)]; omega
        have ej : (nI j).toInt.toNat = j := by rw [nI_toInt (by omega)]; omega
        obtain ⟨b, rfl, hb⟩ := cellOK_in hy
        have eb : (nI b).toInt.toNat = b := by rw [nI_toInt (by omega)]; omega
        rw [ea, ej, eb]
        refine tg_go bX9_load_37 ?_
        simp only [ti_aload, ti_iload, ti_push, List.getElem?_cons_zero, List.getElem?_cons_succ, true_and]
        refine tg_cWv vX9_load_40 (kX9_gather' hd ht (by omega)) rfl rfl rfl rfl (Nat.le_of_ble_eq_true rfl) (Nat.le_of_ble_eq_true rfl) (Nat.le_of_ble_eq_true rfl) rfl ?_
        unfold wM
        refine tg_go bX9_load_43 ?_
        simp only [ti_aload, ti_getf, ti_i2l, ti_iadd, ti_iload, ti_imul, ti_last, ti_push, List.getElem?_cons_zero, List.getElem?_cons_succ, List.set_cons_zero, List.set_cons_succ, true_and]
        rw [show (12 : Int32) * nI a = nI (12 * a) from pk_mul 12 _, nI_add, nI_clamp (by omega)]
        refine ⟨vp_in_nI (by omega) (by omega), ?_⟩
        refine g_iret dX9_load_60 rfl ?_
        exact Or.inr (Or.inr (Or.inr ⟨hx, hy, h31, rfl, sM_mk⟩))
      · refine tg_go bX9_load_34 ?_
        simp only [ti_iload, List.getElem?_cons_zero, List.getElem?_cons_succ, true_and]
        refine g_iret dX9_load_36 rfl ?_
        exact Or.inr (Or.inr (Or.inl ⟨hx, hy, h31, rfl, sM_mk⟩))
    · have hy := bZ_0 h15
      refine tg_go bX9_load_18 ?_
      simp only [ti_push, List.getElem?_cons_zero, List.getElem?_cons_succ, true_and]
      refine g_iret dX9_load_20 rfl ?_
      exact Or.inr (Or.inl ⟨hx, hy, rfl, sM_mk⟩)
  · have hx := of_decide_eq_false (bZ_0 h4)
    refine tg_go bX9_load_7 ?_
    simp only [ti_push, List.getElem?_cons_zero, List.getElem?_cons_succ, true_and]
    refine g_iret dX9_load_9 rfl ?_
    exact Or.inl ⟨hx, rfl, sM_mk⟩
theorem kX9_drop {x : Int32} (hz : szOK sz) : tg_Ct l mX9_drop 1000 [.ref 0, .int x] (wM row dm vals un kp tx len sz it ask fi be rD rM cl dg nu my su le gr cz vi ov rv ct bm) (fun r w => (¬ (0 ≤ x.toInt ∧ x.toInt ≤ 2) ∧ r = some (.int (-2)) ∧ (sM row dm vals un kp tx len sz it ask) w) ∨ ((0 ≤ x.toInt ∧ x.toInt ≤ 2) ∧ r = some (.int (if sz x.toInt.toNat < 0 then -11 else sz x.toInt.toNat)) ∧ (sM row dm vals un kp tx len (upd sz x.toInt.toNat (-1)) it ask) w)) := by
  show tg_G _ _ _ _ _ _ _ [.ref 0, .int x, .null] [] _
  unfold wM
  refine tg_go bX9_drop_0 ?_
  simp only [ti_iload, List.getElem?_cons_zero, List.getElem?_cons_succ, true_and]
  refine tg_cP vX9_drop_1 (kX9_isRow') rfl rfl (Nat.le_of_ble_eq_true rfl) (Nat.le_of_ble_eq_true rfl) ?_
  refine g_if_ne (tgt := 10) dX9_drop_4 rfl (fun h4 => ?_) (fun h4 => ?_)
  · have hx := of_decide_eq_true (bZ_n h4)
    obtain ⟨e1, e2⟩ := x_of (n := 3) hx.1 (by omega)
    generalize hcc : x.toInt.toNat = e at e1 e2 ⊢
    subst e1
    refine tg_go bX9_drop_10 ?_
    simp only [ti_aload, ti_getf, ti_iald, ti_iast, ti_iload, ti_istore, ti_push, tg_s1, tg_cl, List.getElem?_cons_zero, List.getElem?_cons_succ, List.set_cons_zero, List.set_cons_succ, true_and]
    rw [nI_clamp (by omega)]
    refine ⟨vp_in_nI (by omega) (by omega), vp_in_nI (by omega) (by omega), ?_⟩
    refine g_if_ge (tgt := 33) dX9_drop_25 rfl (fun h25 => ?_) (fun h25 => ?_)
    · refine tg_go bX9_drop_33 ?_
      simp only [ti_iload, List.getElem?_cons_zero, List.getElem?_cons_succ, true_and]
      refine g_iret dX9_drop_34 rfl ?_
      exact Or.inr ⟨hx, by rw [if_neg (Int32.not_lt.mpr h25)], sM_mk⟩
    · refine tg_go bX9_drop_28 ?_
      simp only [ti_push, List.getElem?_cons_zero, List.getElem?_cons_succ, true_and]
      refine g_goto (tgt := 34) dX9_drop_30 rfl ?_
      refine g_iret dX9_drop_34 rfl ?_
      exact Or.inr ⟨hx, by rw [if_pos (Int32.not_le.mp h25)], sM_mk⟩
  · have hx := of_decide_eq_false (bZ_0 h4)
    refine tg_go bX9_drop_7 ?_
    simp only [ti_push, List.getElem?_cons_zero, List.getElem?_cons_succ, true_and]
    refine g_iret dX9_drop_9 rfl ?_
    exact Or.inl ⟨hx, rfl, sM_mk⟩
theorem kX9_asked : tg_Ct l mX9_asked 1000 [.ref 0] (wM row dm vals un kp tx len sz it ask fi be rD rM cl dg nu my su le gr cz vi ov rv ct bm) (fun r w => r = some (.long ask) ∧ (sM row dm vals un kp tx len sz it ask) w) := by
  show tg_G _ _ _ _ _ _ _ [.ref 0] [] _
  unfold wM
  refine tg_go bX9_asked_0 ?_
  simp only [ti_aload, ti_getf, List.getElem?_cons_zero, List.getElem?_cons_succ, true_and]
  refine g_lret dX9_asked_4 rfl ?_
  exact ⟨rfl, sM_mk⟩
theorem kX9_valuesTold_l (hd : d ≤ 4) (hK : K (some (.int (valT vals d))) (wM row (nI d) vals un kp tx len sz it ask fi be rD rM cl dg nu my su le gr cz vi ov rv ct bm)) : ∀ (m k : Nat), d - k < m → k ≤ d → tg_G l mX9_valuesTold 1000 K 0 0 4 [.ref 0, .int (valT vals k), .int (nI k)] [] (wM row (nI d) vals un kp tx len sz it ask fi be rD rM cl dg nu my su le gr cz vi ov rv ct bm) := by
  intro m
  induction m with
  | zero => intro k h; omega
  | succ m ih =>
    intro k hm hk
    unfold wM at ih hK ⊢
    refine tg_go bX9_valuesTold_4 ?_
    simp only [ti_aload, ti_getf, ti_iload, List.getElem?_cons_zero, List.getElem?_cons_succ, true_and]
    refine g_icmp_ge (tgt := 30) dX9_valuesTold_9 rfl (fun h9 => ?_) (fun h9 => ?_)
    · rw [lI_le (by omega) (by omega)] at h9
      obtain rfl : k = d := by omega
      refine tg_go bX9_valuesTold_30 ?_
      simp only [ti_iload, List.getElem?_cons_zero, List.getElem?_cons_succ, true_and]
      refine g_iret dX9_valuesTold_31 rfl ?_
      exact hK
    · rw [lI_le (by omega) (by omega)] at h9
      refine tg_go bX9_valuesTold_12 ?_
      simp only [ti_aload, ti_getf, ti_iadd, ti_iald, ti_iinc, ti_iload, ti_imul, ti_istore, ti_push, tg_s1, tg_cl, List.getElem?_cons_zero, List.getElem?_cons_succ, List.set_cons_zero, List.set_cons_succ, true_and]
      rw [nI_clamp (by omega), nI_1]
      refine ⟨vp_in_nI (by omega) (by omega), ?_⟩
      refine g_goto (tgt := 4) dX9_valuesTold_27 rfl ?_
      exact ih (k + 1) (by omega) (by omega)
theorem kX9_valuesTold (hd : d ≤ 4) : tg_Ct l mX9_valuesTold 1000 [.ref 0] (wM row (nI d) vals un kp tx len sz it ask fi be rD rM cl dg nu my su le gr cz vi ov rv ct bm) (fun r w => r = some (.int (valT vals d)) ∧ w = (wM row (nI d) vals un kp tx len sz it ask fi be rD rM cl dg nu my su le gr cz vi ov rv ct bm)) := by
  show tg_G _ _ _ _ _ _ _ [.ref 0, .null, .null] [] _
  unfold wM
  refine tg_go bX9_valuesTold_0 ?_
  simp only [ti_istore, ti_push, tg_s1, tg_cl, List.getElem?_cons_zero, List.getElem?_cons_succ, List.set_cons_zero, List.set_cons_succ, true_and]
  exact kX9_valuesTold_l hd ⟨rfl, rfl⟩ (d + 1) 0 (by omega) (by omega)
theorem kX9_allPlaces : tg_Ct l mX9_allPlaces 1000 [.ref 0] (wM row dm vals un kp tx len sz it ask fi be rD rM cl dg nu my su le gr cz vi ov rv ct bm) (fun r w => r = some (.int (0 + plc sz 0 + plc sz 1 + plc sz 2)) ∧ w = (wM row dm vals un kp tx len sz it ask fi be rD rM cl dg nu my su le gr cz vi ov rv ct bm)) := by
  have step : ∀ (t : Int32) (k : Nat), k < 3 → tg_G l mX9_allPlaces 1000 (fun r w => r = some (.int (0 + plc sz 0 + plc sz 1 + plc sz 2)) ∧ w = (wM row dm vals un kp tx len sz it ask fi be rD rM cl dg nu my su le gr cz vi ov rv ct bm)) 0 0 4 [.ref 0, .int (t + plc sz k), .int (nI (k + 1))] [] (wM row dm vals un kp tx len sz it ask fi be rD rM cl dg nu my su le gr cz vi ov rv ct bm) → tg_G l mX9_allPlaces 1000 (fun r w => r = some (.int (0 + plc sz 0 + plc sz 1 + plc sz 2)) ∧ w = (wM row dm vals un kp tx len sz it ask fi be rD rM cl dg nu my su le gr cz vi ov rv ct bm)) 0 0 4 [.ref 0, .int t, .int (nI k)] [] (wM row dm vals un kp tx len sz it ask fi be rD rM cl dg nu my su le gr cz vi ov rv ct bm) := by
    intro t k hk hg
    unfold wM at hg ⊢
    refine tg_go bX9_allPlaces_4 ?_
    simp only [ti_iload, ti_push, List.getElem?_cons_zero, List.getElem?_cons_succ, true_and]
    refine g_icmp_ge (tgt := 37) dX9_allPlaces_6 rfl (fun h6 => ?_) (fun h6 => ?_)
    · rw [fa_lit, lI_le (by omega) (by omega)] at h6; omega
    · refine tg_go bX9_allPlaces_9 ?_
      simp only [ti_aload, ti_getf, ti_iald, ti_iload, List.getElem?_cons_zero, List.getElem?_cons_succ, true_and]
      rw [nI_clamp (by omega)]
      refine ⟨vp_in_nI (by omega) (by omega), ?_⟩
      refine g_cut1 29 (fun z => z = plc sz k) (fun J29 => ?_) (fun z hz => ?_)
      · refine g_if_ge (tgt := 23) dX9_allPlaces_16 rfl (fun h16 => ?_) (fun h16 => ?_)
        · refine tg_go bX9_allPlaces_23 ?_
          simp only [ti_aload, ti_getf, ti_iald, ti_iload, List.getElem?_cons_zero, List.getElem?_cons_succ, true_and]
          rw [nI_clamp (by omega)]
          refine ⟨vp_in_nI (by omega) (by omega), ?_⟩
          exact J29 _ (by unfold plc; rw [if_pos h16])
        · refine tg_go bX9_allPlaces_19 ?_
          simp only [ti_push, List.getElem?_cons_zero, List.getElem?_cons_succ, true_and]
          refine g_goto (tgt := 29) dX9_allPlaces_20 rfl ?_
          exact J29 _ (by unfold plc; rw [if_neg h16])
      subst hz
      refine tg_go bX9_allPlaces_29 ?_
      simp only [ti_iadd, ti_iinc, ti_istore, tg_s1, tg_cl, List.getElem?_cons_zero, List.getElem?_cons_succ, List.set_cons_zero, List.set_cons_succ, true_and]
      rw [nI_1]
      refine g_goto (tgt := 4) dX9_allPlaces_34 rfl ?_
      exact hg
  have last : tg_G l mX9_allPlaces 1000 (fun r w => r = some (.int (0 + plc sz 0 + plc sz 1 + plc sz 2)) ∧ w = (wM row dm vals un kp tx len sz it ask fi be rD rM cl dg nu my su le gr cz vi ov rv ct bm)) 0 0 4 [.ref 0, .int (0 + plc sz 0 + plc sz 1 + plc sz 2), .int (nI 3)] [] (wM row dm vals un kp tx len sz it ask fi be rD rM cl dg nu my su le gr cz vi ov rv ct bm) := by
    unfold wM
    refine tg_go bX9_allPlaces_4 ?_
    simp only [ti_iload, ti_push, List.getElem?_cons_zero, List.getElem?_cons_succ, true_and]
    refine g_icmp_ge (tgt := 37) dX9_allPlaces_6 rfl (fun h6 => ?_) (fun h6 => ?_)
    · refine tg_go bX9_allPlaces_37 ?_
      simp only [ti_iload, List.getElem?_cons_zero, List.getElem?_cons_succ, true_and]
      refine g_iret dX9_allPlaces_38 rfl ?_
      exact ⟨rfl, rfl⟩
    · exact absurd (by decide) h6
  have h := step 0 0 (by omega) (step _ 1 (by omega) (step _ 2 (by omega) last))
  unfold wM at h ⊢
  show tg_G _ _ _ _ _ _ _ [.ref 0, .null, .null] [] _
  refine tg_go bX9_allPlaces_0 ?_
  simp only [ti_istore, ti_push, tg_s1, tg_cl, List.getElem?_cons_zero, List.getElem?_cons_succ, List.set_cons_zero, List.set_cons_succ, true_and]
  exact h
/-- what count() answers -/
def aCount (d n s uN lN' : Nat) (v c : Nat → Nat) (vals sz : Nat → Int32) (x : Int32) : Int32 := if x = 0 then nI d else if x = 1 then nI n else if x = 2 then nI s else if x = 3 then nI (gMany (inCu d v n c s) (7 ^ d)) else if x = 4 then nI (gMany (enou d n s c) (7 ^ d)) else if x = 5 then valT vals d else if x = 6 then 0 + plc sz 0 + plc sz 1 + plc sz 2 else if x = 7 then nI uN else if x = 8 then nI lN' else -3
theorem kX9_count {x : Int32} {uN lN' : Nat} (hd : d ≤ 4) (hv : ∀ k, k < d → vals k = nI (v k) ∧ v k ≤ 6) (ht : tbR row d 0 n s c u) : tg_Ct l mX9_count 1000 [.ref 0, .int x] (wM row (nI d) vals (nI uN) kp tx (nI lN') sz it ask fi be rD rM cl dg nu my su le gr cz vi ov rv ct bm) (fun r w => r = some (.int (aCount d n s uN lN' v c vals sz x)) ∧ (sM row (nI d) vals (nI uN) kp tx (nI lN') sz it ask) w) := by
  show tg_G _ _ _ _ _ _ _ [.ref 0, .int x] [] _
  unfold wM
  refine tg_go bX9_count_0 ?_
  simp only [ti_iload, List.getElem?_cons_zero, List.getElem?_cons_succ, true_and]
  have hcs : x = 0 ∨ x = 1 ∨ x = 2 ∨ x = 3 ∨ x = 4 ∨ x = 5 ∨ x = 6 ∨ x = 7 ∨ x = 8 ∨ (x.toInt < 0 ∨ 8 < x.toInt) := by
    by_cases h : 0 ≤ x.toInt ∧ x.toInt ≤ 8
    · obtain ⟨e1, e2⟩ := x_of (n := 9) h.1 (by omega)
      generalize x.toInt.toNat = q at e1 e2
      subst e1
      rcases (show q = 0 ∨ q = 1 ∨ q = 2 ∨ q = 3 ∨ q = 4 ∨ q = 5 ∨ q = 6 ∨ q = 7 ∨ q = 8 by omega) with rfl | rfl | rfl | rfl | rfl | rfl | rfl | rfl | rfl <;> simp [nI]
    · have : x.toInt < 0 ∨ 8 < x.toInt := by omega
      simp [this]
  rcases hcs with rfl | rfl | rfl | rfl | rfl | rfl | rfl | rfl | rfl | hx
  · refine g_tblIn (off := 51) (tgt := 52) dX9_count_1 (by decide) (by decide) rfl rfl ?_
    refine tg_go bX9_count_52 ?_
    simp only [ti_aload, ti_getf, List.getElem?_cons_zero, List.getElem?_cons_succ, true_and]
    refine g_iret dX9_count_56 rfl ?_
    exact ⟨rfl, sM_mk⟩
  · refine g_tblIn (off := 56) (tgt := 57) dX9_count_1 (by decide) (by decide) rfl rfl ?_
    refine tg_go bX9_count_57 ?_
    simp only [ti_aload, ti_getf, ti_iald, ti_push, List.getElem?_cons_zero, List.getElem?_cons_succ, true_and]
    rw [sb_cl0, show row 0 = nI n from ht.1]
    refine ⟨vp_in_nI (n := 0) (by decide) (by decide), ?_⟩
    refine g_iret dX9_count_63 rfl ?_
    exact ⟨rfl, sM_mk⟩
  · refine g_tblIn (off := 63) (tgt := 64) dX9_count_1 (by decide) (by decide) rfl rfl ?_
    refine tg_go bX9_count_64 ?_
    simp only [ti_aload, ti_getf, ti_iald, ti_push, List.getElem?_cons_zero, List.getElem?_cons_succ, true_and]
    rw [show (1 : Int32).toNatClampNeg = 1 by decide, show row 1 = nI s from ht.2.1]
    refine ⟨vp_in_nI (n := 1) (by decide) (by decide), ?_⟩
    refine g_iret dX9_count_70 rfl ?_
    exact ⟨rfl, sM_mk⟩
  · refine g_tblIn (off := 70) (tgt := 71) dX9_count_1 (by decide) (by decide) rfl rfl ?_
    refine tg_go bX9_count_71 ?_
    simp only [ti_aload, ti_push, List.getElem?_cons_zero, List.getElem?_cons_succ, true_and]
    refine tg_cWe vX9_count_73 (kX9_cubeOf (B := 0) hd hv ht) rfl rfl rfl rfl (Nat.le_of_ble_eq_true rfl) (Nat.le_of_ble_eq_true rfl) (Nat.le_of_ble_eq_true rfl) (by rintro r w1 ⟨-, my1, su1, le1, gr1, cz1, rfl⟩; rfl) ?_
    rintro r w1 ⟨rfl, my1, su1, le1, gr1, cz1, rfl⟩
    simp only [Option.toList_some, Option.toList_none, List.cons_append, List.nil_append]
    unfold wM
    refine g_iret dX9_count_76 rfl ?_
    exact ⟨rfl, sM_mk⟩
  · refine g_tblIn (off := 76) (tgt := 77) dX9_count_1 (by decide) (by decide) rfl rfl ?_
    refine tg_go bX9_count_77 ?_
    simp only [ti_aload, List.getElem?_cons_zero, List.getElem?_cons_succ, true_and]
    refine tg_cWe vX9_count_78 (kX9_supported hd ht) rfl rfl rfl rfl (Nat.le_of_ble_eq_true rfl) (Nat.le_of_ble_eq_true rfl) (Nat.le_of_ble_eq_true rfl) (by rintro r w1 ⟨-, my1, su1, le1, gr1, cz1, rfl⟩; rfl) ?_
    rintro r w1 ⟨rfl, my1, su1, le1, gr1, cz1, rfl⟩
    simp only [Option.toList_some, Option.toList_none, List.cons_append, List.nil_append]
    unfold wM
    refine g_iret dX9_count_81 rfl ?_
    exact ⟨rfl, sM_mk⟩
  · refine g_tblIn (off := 81) (tgt := 82) dX9_count_1 (by decide) (by decide) rfl rfl ?_
    refine tg_go bX9_count_82 ?_
    simp only [ti_aload, List.getElem?_cons_zero, List.getElem?_cons_succ, true_and]
    refine tg_cW vX9_count_83 (kX9_valuesTold hd) rfl rfl rfl rfl (Nat.le_of_ble_eq_true rfl) (Nat.le_of_ble_eq_true rfl) (Nat.le_of_ble_eq_true rfl) rfl ?_
    unfold wM
    refine g_iret dX9_count_86 rfl ?_
    exact ⟨rfl, sM_mk⟩
  · refine g_tblIn (off := 86) (tgt := 87) dX9_count_1 (by decide) (by decide) rfl rfl ?_
    refine tg_go bX9_count_87 ?_
    simp only [ti_aload, List.getElem?_cons_zero, List.getElem?_cons_succ, true_and]
    refine tg_cW vX9_count_88 (kX9_allPlaces) rfl rfl rfl rfl (Nat.le_of_ble_eq_true rfl) (Nat.le_of_ble_eq_true rfl) (Nat.le_of_ble_eq_true rfl) rfl ?_
    unfold wM
    refine g_iret dX9_count_91 rfl ?_
    exact ⟨rfl, sM_mk⟩
  · refine g_tblIn (off := 91) (tgt := 92) dX9_count_1 (by decide) (by decide) rfl rfl ?_
    refine tg_go bX9_count_92 ?_
    simp only [ti_aload, ti_getf, List.getElem?_cons_zero, List.getElem?_cons_succ, true_and]
    refine g_iret dX9_count_96 rfl ?_
    exact ⟨rfl, sM_mk⟩
  · refine g_tblIn (off := 96) (tgt := 97) dX9_count_1 (by decide) (by decide) rfl rfl ?_
    refine tg_go bX9_count_97 ?_
    simp only [ti_aload, ti_getf, List.getElem?_cons_zero, List.getElem?_cons_succ, true_and]
    refine g_iret dX9_count_101 rfl ?_
    exact ⟨rfl, sM_mk⟩
  · refine g_tblOut (tgt := 102) dX9_count_1 hx rfl ?_
    refine tg_go bX9_count_102 ?_
    simp only [ti_push, List.getElem?_cons_zero, List.getElem?_cons_succ, true_and]
    refine g_iret dX9_count_104 rfl ?_
    refine ⟨?_, sM_mk⟩
    unfold aCount
    rw [if_neg, if_neg, if_neg, if_neg, if_neg, if_neg, if_neg, if_neg, if_neg]
    all_goals (rintro rfl; revert hx; decide)
end REF8
