/-! THE REFERENCE: text and entries, as the law calls them -/
/-- what lasts of the reference's world -/
def sM (row : Nat → Int32) (dm : Int32) (vals : Nat → Int32) (un : Int32) (kp tx : Nat → Int32) (len : Int32) (sz : Nat → Int32) (it : Nat → Int64) (ask : Int64) (w : List va_E) : Prop := ∃ (fi be rD rM cl dg nu my su le gr cz vi ov : Int32) (rv ct bm : Nat → Int32), w = (wM row dm vals un kp tx len sz it ask fi be rD rM cl dg nu my su le gr cz vi ov rv ct bm)
theorem in_lit {x : Int32} {a b : Nat} (ha : a < 2 ^ 31) (hb : b < 2 ^ 31) : (decide (nI a ≤ x) && decide (x ≤ nI b)) = decide ((a : Int) ≤ x.toInt ∧ x.toInt ≤ b) := by
  rw [Bool.eq_iff_iff]
  simp only [Bool.and_eq_true, decide_eq_true_eq, Int32.le_iff_toInt_le, nI_toInt ha, nI_toInt hb]
section REF5
variable {l : tg_Ln} {K : Option Value → List va_E → Prop} {row vals kp tx sz rv ct bm : Nat → Int32} {dm un len fi be rD rM cl dg nu my su le gr cz vi ov : Int32} {it : Nat → Int64} {ask : Int64}
theorem sM_mk : (sM row dm vals un kp tx len sz it ask) (wM row dm vals un kp tx len sz it ask fi be rD rM cl dg nu my su le gr cz vi ov rv ct bm) := ⟨_, _, _, _, _, _, _, _, _, _, _, _, _, _, _, _, _, rfl⟩
theorem kX9_write {n : Nat} {x : Int32} (hn : n ≤ 200) : tg_Ct l mX9_write 1000 [.ref 0, .int x] (wM row dm vals un kp tx (nI n) sz it ask fi be rD rM cl dg nu my su le gr cz vi ov rv ct bm) (fun r w => (¬ (0 ≤ x.toInt ∧ x.toInt ≤ 255) ∧ r = some (.int (-3)) ∧ (sM row dm vals un kp tx (nI n) sz it ask) w) ∨ ((0 ≤ x.toInt ∧ x.toInt ≤ 255) ∧ n = 200 ∧ r = some (.int (-5)) ∧ (sM row dm vals un kp tx (nI n) sz it ask) w) ∨ ((0 ≤ x.toInt ∧ x.toInt ≤ 255) ∧ n < 200 ∧ r = some (.int (nI (n + 1))) ∧ (sM row dm vals un kp (upd tx n x) (nI (n + 1)) sz it ask) w)) := by
  show tg_G _ _ _ _ _ _ _ [.ref 0, .int x] [] _
  unfold wM
  refine tg_go bX9_write_0 ?_
  simp only [ti_i2l, ti_iload, ti_push, List.getElem?_cons_zero, List.getElem?_cons_succ, true_and]
  refine tg_cP vX9_write_6 (kX9_in) rfl rfl (Nat.le_of_ble_eq_true rfl) (Nat.le_of_ble_eq_true rfl) ?_
  rw [show (decide ((0 : Int64) ≤ x.toInt64) && decide (x.toInt64 ≤ (255 : Int64))) = (decide (nI 0 ≤ x) && decide (x ≤ nI 255)) from w_in x 0 255, in_lit (by omega) (by omega)]
  refine g_if_ne (tgt := 15) dX9_write_9 rfl (fun h9 => ?_) (fun h9 => ?_)
  · have hx := of_decide_eq_true (bZ_n h9)
    refine tg_go bX9_write_15 ?_
    simp only [ti_aload, ti_getf, ti_push, List.getElem?_cons_zero, List.getElem?_cons_succ, true_and]
    refine g_icmp_ne (tgt := 28) dX9_write_22 rfl (fun h22 => ?_) (fun h22 => ?_)
    · rw [fa_lit, lI_eq (by omega) (by omega)] at h22
      refine tg_go bX9_write_28 ?_
      simp only [ti_aload, ti_dup, ti_getf, ti_iadd, ti_iast, ti_iload, ti_push, ti_putfI, Value.category, List.getElem?_cons_zero, List.getElem?_cons_succ, List.set_cons_zero, List.set_cons_succ, true_and]
      rw [nI_1, nI_clamp (by omega)]
      refine ⟨vp_in_nI (by omega) (by omega), ?_⟩
      refine g_iret dX9_write_52 rfl ?_
      exact Or.inr (Or.inr ⟨hx, by omega, rfl, sM_mk⟩)
    · rw [fa_lit, lI_eq (by omega) (by omega)] at h22
      refine tg_go bX9_write_25 ?_
      simp only [ti_push, List.getElem?_cons_zero, List.getElem?_cons_succ, true_and]
      refine g_iret dX9_write_27 rfl ?_
      exact Or.inr (Or.inl ⟨hx, h22, rfl, sM_mk⟩)
  · have hx := of_decide_eq_false (bZ_0 h9)
    refine tg_go bX9_write_12 ?_
    simp only [ti_push, List.getElem?_cons_zero, List.getElem?_cons_succ, true_and]
    refine g_iret dX9_write_14 rfl ?_
    exact Or.inl ⟨hx, rfl, sM_mk⟩
theorem kX9_erase : tg_Ct l mX9_erase 1000 [.ref 0] (wM row dm vals un kp tx len sz it ask fi be rD rM cl dg nu my su le gr cz vi ov rv ct bm) (fun r w => r = some (.int len) ∧ (sM row dm vals un kp tx 0 sz it ask) w) := by
  show tg_G _ _ _ _ _ _ _ [.ref 0, .null] [] _
  unfold wM
  refine tg_go bX9_erase_0 ?_
  simp only [ti_aload, ti_getf, ti_iload, ti_istore, ti_push, ti_putfI, tg_s1, tg_cl, List.getElem?_cons_zero, List.getElem?_cons_succ, List.set_cons_zero, List.set_cons_succ, true_and]
  refine g_iret dX9_erase_11 rfl ?_
  exact ⟨rfl, sM_mk⟩
theorem in_99 {x : Int32} : (decide (-99 ≤ x) && decide (x ≤ 99)) = decide (-99 ≤ x.toInt ∧ x.toInt ≤ 99) := by
  rw [Bool.eq_iff_iff]
  simp only [Bool.and_eq_true, decide_eq_true_eq, Int32.le_iff_toInt_le, show (-99 : Int32).toInt = -99 by decide, show (99 : Int32).toInt = 99 by decide]
theorem rKeep_lo {u j : Nat} (h : j < 82) : rKeep row u j = row j := by
  unfold rKeep
  rw [pk_cpy_out (by omega)]
  unfold rShift
  split
  · rw [pk_cpy_out (by omega)]
  · rfl
theorem kX9_add {d n u : Nat} {v : Nat → Nat} {x y : Int32} (hd : d ≤ 4) (hv : ∀ k, k < d → vals k = nI (v k) ∧ v k ≤ 6) (hn : n ≤ 40) (hr : row 0 = nI n) (hu : u ≤ 8) : tg_Ct l mX9_add 1000 [.ref 0, .int x, .int y] (wM row (nI d) vals (nI u) kp tx len sz it ask fi be rD rM cl dg nu my su le gr cz vi ov rv ct bm) (fun r w => (¬ (wholeOK d v x = true ∧ -99 ≤ y.toInt ∧ y.toInt ≤ 99) ∧ r = some (.int (-3)) ∧ (sM row (nI d) vals (nI u) kp tx len sz it ask) w) ∨ ((wholeOK d v x = true ∧ -99 ≤ y.toInt ∧ y.toInt ≤ 99) ∧ n = 40 ∧ r = some (.int (-5)) ∧ (sM row (nI d) vals (nI u) kp tx len sz it ask) w) ∨ ((wholeOK d v x = true ∧ -99 ≤ y.toInt ∧ y.toInt ≤ 99) ∧ n < 40 ∧ r = some (.int (nI (n + 1))) ∧ (sM (rPut (rKeep row u) 0 n x y) (nI d) vals (nI (uShift u + 1)) kp tx len sz it ask) w)) := by
  show tg_G _ _ _ _ _ _ _ [.ref 0, .int x, .int y] [] _
  unfold wM
  refine tg_go bX9_add_0 ?_
  simp only [ti_aload, ti_iload, List.getElem?_cons_zero, List.getElem?_cons_succ, true_and]
  refine tg_cW vX9_add_2 (kX9_isWhole hd hv) rfl rfl rfl rfl (Nat.le_of_ble_eq_true rfl) (Nat.le_of_ble_eq_true rfl) (Nat.le_of_ble_eq_true rfl) rfl ?_
  unfold wM
  refine g_if_eq (tgt := 22) dX9_add_5 rfl (fun h5 => ?_) (fun h5 => ?_)
  · have hx := bZ_0 h5
    refine tg_go bX9_add_22 ?_
    simp only [ti_push, List.getElem?_cons_zero, List.getElem?_cons_succ, true_and]
    refine g_iret dX9_add_24 rfl ?_
    exact Or.inl ⟨fun q => by rw [hx] at q; exact absurd q.1 (by decide), rfl, sM_mk⟩
  · have hx := bZ_n h5
    refine tg_go bX9_add_8 ?_
    simp only [ti_i2l, ti_iload, ti_push, List.getElem?_cons_zero, List.getElem?_cons_succ, true_and]
    refine tg_cP vX9_add_16 (kX9_in) rfl rfl (Nat.le_of_ble_eq_true rfl) (Nat.le_of_ble_eq_true rfl) ?_
    rw [show (decide ((-99 : Int64) ≤ y.toInt64) && decide (y.toInt64 ≤ (99 : Int64))) = (decide (-99 ≤ y) && decide (y ≤ 99)) from w_in y (-99) 99, in_99]
    refine g_if_ne (tgt := 25) dX9_add_19 rfl (fun h19 => ?_) (fun h19 => ?_)
    · have hy := of_decide_eq_true (bZ_n h19)
      refine tg_go bX9_add_25 ?_
      simp only [ti_aload, ti_getf, ti_iald, ti_push, List.getElem?_cons_zero, List.getElem?_cons_succ, true_and]
      rw [sb_cl0, hr]
      refine ⟨vp_in_nI (n := 0) (by decide) (by decide), ?_⟩
      refine g_icmp_ne (tgt := 39) dX9_add_33 rfl (fun h33 => ?_) (fun h33 => ?_)
      · rw [fa_lit, lI_eq (by omega) (by omega)] at h33
        refine tg_go bX9_add_39 ?_
        simp only [ti_aload, List.getElem?_cons_zero, List.getElem?_cons_succ, true_and]
        refine tg_cWv vX9_add_40 (kX9_keepPast hu) rfl rfl rfl rfl (Nat.le_of_ble_eq_true rfl) (Nat.le_of_ble_eq_true rfl) (Nat.le_of_ble_eq_true rfl) rfl ?_
        unfold wM
        refine tg_go bX9_add_43 ?_
        simp only [ti_aload, ti_iload, ti_push, List.getElem?_cons_zero, List.getElem?_cons_succ, true_and]
        refine tg_cWv vX9_add_47 (kX9_put (B := 0) (n := n) (by omega) (by omega) (by rw [rKeep_lo (by omega), hr])) rfl rfl rfl rfl (Nat.le_of_ble_eq_true rfl) (Nat.le_of_ble_eq_true rfl) (Nat.le_of_ble_eq_true rfl) rfl ?_
        unfold wM
        refine tg_go bX9_add_50 ?_
        simp only [ti_aload, ti_getf, ti_iald, ti_push, List.getElem?_cons_zero, List.getElem?_cons_succ, true_and]
        rw [sb_cl0]
        refine ⟨vp_in_nI (n := 0) (by decide) (by decide), ?_⟩
        refine g_iret dX9_add_56 rfl ?_
        exact Or.inr (Or.inr ⟨⟨hx, hy⟩, by omega, rfl, sM_mk⟩)
      · rw [fa_lit, lI_eq (by omega) (by omega)] at h33
        refine tg_go bX9_add_36 ?_
        simp only [ti_push, List.getElem?_cons_zero, List.getElem?_cons_succ, true_and]
        refine g_iret dX9_add_38 rfl ?_
        exact Or.inr (Or.inl ⟨⟨hx, hy⟩, h33, rfl, sM_mk⟩)
    · have hy := of_decide_eq_false (bZ_0 h19)
      refine tg_go bX9_add_22 ?_
      simp only [ti_push, List.getElem?_cons_zero, List.getElem?_cons_succ, true_and]
      refine g_iret dX9_add_24 rfl ?_
      exact Or.inl ⟨fun q => hy q.2, rfl, sM_mk⟩
theorem kX9_remove {n u : Nat} {x : Int32} (hn : n ≤ 40) (hr : row 0 = nI n) (hu : u ≤ 8) : tg_Ct l mX9_remove 1000 [.ref 0, .int x] (wM row dm vals (nI u) kp tx len sz it ask fi be rD rM cl dg nu my su le gr cz vi ov rv ct bm) (fun r w => (¬ (0 ≤ x.toInt ∧ x.toInt < n) ∧ r = some (.int (-2)) ∧ (sM row dm vals (nI u) kp tx len sz it ask) w) ∨ ((0 ≤ x.toInt ∧ x.toInt < n) ∧ r = some (.int (nI (n - 1))) ∧ (sM (rTake (rKeep row u) 0 n x.toInt.toNat) dm vals (nI (uShift u + 1)) kp tx len sz it ask) w)) := by
  show tg_G _ _ _ _ _ _ _ [.ref 0, .int x] [] _
  unfold wM
  refine tg_go bX9_remove_0 ?_
  simp only [ti_aload, ti_iload, List.getElem?_cons_zero, List.getElem?_cons_succ, true_and]
  refine tg_cW vX9_remove_2 (kX9_isEntry hn hr) rfl rfl rfl rfl (Nat.le_of_ble_eq_true rfl) (Nat.le_of_ble_eq_true rfl) (Nat.le_of_ble_eq_true rfl) rfl ?_
  unfold wM
  refine g_if_ne (tgt := 11) dX9_remove_5 rfl (fun h5 => ?_) (fun h5 => ?_)
  · have hx := of_decide_eq_true (bZ_n h5)
    obtain ⟨e1, e2⟩ := x_of hx.1 hx.2
    generalize hcc : x.toInt.toNat = e at e1 e2 ⊢
    subst e1
    refine tg_go bX9_remove_11 ?_
    simp only [ti_aload, List.getElem?_cons_zero, List.getElem?_cons_succ, true_and]
    refine tg_cWv vX9_remove_12 (kX9_keepPast hu) rfl rfl rfl rfl (Nat.le_of_ble_eq_true rfl) (Nat.le_of_ble_eq_true rfl) (Nat.le_of_ble_eq_true rfl) rfl ?_
    unfold wM
    refine tg_go bX9_remove_15 ?_
    simp only [ti_aload, ti_iload, ti_push, List.getElem?_cons_zero, List.getElem?_cons_succ, true_and]
    refine tg_cWv vX9_remove_18 (kX9_takeOut (B := 0) (n := n) (e := e) (by omega) hn (by rw [rKeep_lo (by omega), hr]) e2) rfl rfl rfl rfl (Nat.le_of_ble_eq_true rfl) (Nat.le_of_ble_eq_true rfl) (Nat.le_of_ble_eq_true rfl) rfl ?_
    unfold wM
    refine tg_go bX9_remove_21 ?_
    simp only [ti_aload, ti_getf, ti_iald, ti_push, List.getElem?_cons_zero, List.getElem?_cons_succ, true_and]
    rw [sb_cl0]
    refine ⟨vp_in_nI (n := 0) (by decide) (by decide), ?_⟩
    refine g_iret dX9_remove_27 rfl ?_
    exact Or.inr ⟨hx, by unfold rTake rTk; rw [if_pos rfl], sM_mk⟩
  · have hx := of_decide_eq_false (bZ_0 h5)
    refine tg_go bX9_remove_8 ?_
    simp only [ti_push, List.getElem?_cons_zero, List.getElem?_cons_succ, true_and]
    refine g_iret dX9_remove_10 rfl ?_
    exact Or.inl ⟨hx, rfl, sM_mk⟩
theorem kX9_support {s u : Nat} {x : Int32} (hs : s ≤ 9) (hr : row 1 = nI s) (hu : u ≤ 8) : tg_Ct l mX9_support 1000 [.ref 0, .int x] (wM row dm vals (nI u) kp tx len sz it ask fi be rD rM cl dg nu my su le gr cz vi ov rv ct bm) (fun r w => (¬ (1 ≤ x.toInt ∧ x.toInt ≤ 9) ∧ r = some (.int (-3)) ∧ (sM row dm vals (nI u) kp tx len sz it ask) w) ∨ ((1 ≤ x.toInt ∧ x.toInt ≤ 9) ∧ x = nI s ∧ r = some (.int (-4)) ∧ (sM row dm vals (nI u) kp tx len sz it ask) w) ∨ ((1 ≤ x.toInt ∧ x.toInt ≤ 9) ∧ x ≠ nI s ∧ r = some (.int (nI s)) ∧ (sM (upd (rKeep row u) 1 x) dm vals (nI (uShift u + 1)) kp tx len sz it ask) w)) := by
  show tg_G _ _ _ _ _ _ _ [.ref 0, .int x, .null] [] _
  unfold wM
  refine tg_go bX9_support_0 ?_
  simp only [ti_i2l, ti_iload, ti_push, List.getElem?_cons_zero, List.getElem?_cons_succ, true_and]
  refine tg_cP vX9_support_6 (kX9_in) rfl rfl (Nat.le_of_ble_eq_true rfl) (Nat.le_of_ble_eq_true rfl) ?_
  rw [show (decide ((1 : Int64) ≤ x.toInt64) && decide (x.toInt64 ≤ (9 : Int64))) = (decide (nI 1 ≤ x) && decide (x ≤ nI 9)) from w_in x 1 9, in_lit (by omega) (by omega)]
  refine g_if_ne (tgt := 15) dX9_support_9 rfl (fun h9 => ?_) (fun h9 => ?_)
  · have hx := of_decide_eq_true (bZ_n h9)
    refine tg_go bX9_support_15 ?_
    simp only [ti_aload, ti_getf, ti_iald, ti_iload, ti_istore, ti_push, tg_s1, tg_cl, List.getElem?_cons_zero, List.getElem?_cons_succ, List.set_cons_zero, List.set_cons_succ, true_and]
    rw [show (1 : Int32).toNatClampNeg = 1 by decide, hr]
    refine ⟨vp_in_nI (n := 1) (by decide) (by decide), ?_⟩
    refine g_icmp_ne (tgt := 30) dX9_support_24 rfl (fun h24 => ?_) (fun h24 => ?_)
    · refine tg_go bX9_support_30 ?_
      simp only [ti_aload, List.getElem?_cons_zero, List.getElem?_cons_succ, true_and]
      refine tg_cWv vX9_support_31 (kX9_keepPast hu) rfl rfl rfl rfl (Nat.le_of_ble_eq_true rfl) (Nat.le_of_ble_eq_true rfl) (Nat.le_of_ble_eq_true rfl) rfl ?_
      unfold wM
      refine tg_go bX9_support_34 ?_
      simp only [ti_aload, ti_getf, ti_iast, ti_iload, ti_push, List.getElem?_cons_zero, List.getElem?_cons_succ, List.set_cons_zero, List.set_cons_succ, true_and]
      rw [show (1 : Int32).toNatClampNeg = 1 by decide]
      refine ⟨vp_in_nI (n := 1) (by decide) (by decide), ?_⟩
      refine g_iret dX9_support_42 rfl ?_
      exact Or.inr (Or.inr ⟨hx, fun q => h24 q.symm, rfl, sM_mk⟩)
    · refine tg_go bX9_support_27 ?_
      simp only [ti_push, List.getElem?_cons_zero, List.getElem?_cons_succ, true_and]
      refine g_iret dX9_support_29 rfl ?_
      exact Or.inr (Or.inl ⟨hx, h24.symm, rfl, sM_mk⟩)
  · have hx := of_decide_eq_false (bZ_0 h9)
    refine tg_go bX9_support_12 ?_
    simp only [ti_push, List.getElem?_cons_zero, List.getElem?_cons_succ, true_and]
    refine g_iret dX9_support_14 rfl ?_
    exact Or.inl ⟨hx, rfl, sM_mk⟩
theorem kX9_undo {u : Nat} (hu : u ≤ 8) : tg_Ct l mX9_undo 1000 [.ref 0] (wM row dm vals (nI u) kp tx len sz it ask fi be rD rM cl dg nu my su le gr cz vi ov rv ct bm) (fun r w => (u = 0 ∧ r = some (.int (-4)) ∧ (sM row dm vals (nI u) kp tx len sz it ask) w) ∨ (0 < u ∧ r = some (.int (nI (u - 1))) ∧ (sM (va_cpy row row (82 + 82 * (u - 1)) 0 82) dm vals (nI (u - 1)) kp tx len sz it ask) w)) := by
  show tg_G _ _ _ _ _ _ _ [.ref 0] [] _
  unfold wM
  refine tg_go bX9_undo_0 ?_
  simp only [ti_aload, ti_getf, List.getElem?_cons_zero, List.getElem?_cons_succ, true_and]
  refine g_if_ne (tgt := 10) dX9_undo_4 rfl (fun h4 => ?_) (fun h4 => ?_)
  · rw [fa_lit, lI_eq (by omega) (by omega)] at h4
    refine tg_go bX9_undo_10 ?_
    simp only [ti_aload, ti_dup, ti_getf, ti_iadd, ti_imul, ti_isub, ti_push, ti_putfI, Value.category, List.getElem?_cons_zero, List.getElem?_cons_succ, List.set_cons_zero, List.set_cons_succ, true_and]
    rw [show nI u - 1 = nI (u - 1) from pk_sub (a := u) (b := 1) (by omega), show (82 : Int32) * nI (u - 1) = nI (82 * (u - 1)) from pk_mul 82 _, show (82 : Int32) + nI (82 * (u - 1)) = nI (82 + 82 * (u - 1)) from nI_add 82 _]
    refine tg_cWv vX9_undo_32 (kX9_copyRow (F := 82 + 82 * (u - 1)) (T := 0) (by omega) (by omega) (by omega)) rfl rfl rfl rfl (Nat.le_of_ble_eq_true rfl) (Nat.le_of_ble_eq_true rfl) (Nat.le_of_ble_eq_true rfl) rfl ?_
    unfold wM
    refine tg_go bX9_undo_35 ?_
    simp only [ti_aload, ti_getf, List.getElem?_cons_zero, List.getElem?_cons_succ, true_and]
    refine g_iret dX9_undo_39 rfl ?_
    exact Or.inr ⟨by omega, rfl, sM_mk⟩
  · rw [fa_lit, lI_eq (by omega) (by omega)] at h4
    refine tg_go bX9_undo_7 ?_
    simp only [ti_push, List.getElem?_cons_zero, List.getElem?_cons_succ, true_and]
    refine g_iret dX9_undo_9 rfl ?_
    exact Or.inl ⟨h4, rfl, sM_mk⟩
theorem kX9_keep {n : Nat} {x : Int32} (hr : row 0 = nI n) : tg_Ct l mX9_keep 1000 [.ref 0, .int x] (wM row dm vals un kp tx len sz it ask fi be rD rM cl dg nu my su le gr cz vi ov rv ct bm) (fun r w => (¬ (0 ≤ x.toInt ∧ x.toInt ≤ 1) ∧ r = some (.int (-2)) ∧ (sM row dm vals un kp tx len sz it ask) w) ∨ ((0 ≤ x.toInt ∧ x.toInt ≤ 1) ∧ r = some (.int (nI n)) ∧ (sM (va_cpy row row 0 (738 + 82 * x.toInt.toNat) 82) dm vals un (upd kp x.toInt.toNat 1) tx len sz it ask) w)) := by
  show tg_G _ _ _ _ _ _ _ [.ref 0, .int x] [] _
  unfold wM
  refine tg_go bX9_keep_0 ?_
  simp only [ti_i2l, ti_iload, ti_push, List.getElem?_cons_zero, List.getElem?_cons_succ, true_and]
  refine tg_cP vX9_keep_4 (kX9_in) rfl rfl (Nat.le_of_ble_eq_true rfl) (Nat.le_of_ble_eq_true rfl) ?_
  rw [show (decide ((0 : Int64) ≤ x.toInt64) && decide (x.toInt64 ≤ (1 : Int64))) = (decide (nI 0 ≤ x) && decide (x ≤ nI 1)) from w_in x 0 1, in_lit (by omega) (by omega)]
  refine g_if_ne (tgt := 13) dX9_keep_7 rfl (fun h7 => ?_) (fun h7 => ?_)
  · have hx := of_decide_eq_true (bZ_n h7)
    obtain ⟨e1, e2⟩ := x_of (n := 2) hx.1 (by omega)
    generalize hcc : x.toInt.toNat = e at e1 e2 ⊢
    subst e1
    refine tg_go bX9_keep_13 ?_
    simp only [ti_aload, ti_iadd, ti_iload, ti_imul, ti_push, List.getElem?_cons_zero, List.getElem?_cons_succ, true_and]
    rw [show (82 : Int32) * nI e = nI (82 * e) from pk_mul 82 _, show (738 : Int32) + nI (82 * e) = nI (738 + 82 * e) from nI_add 738 _]
    refine tg_cWv vX9_keep_23 (kX9_copyRow (F := 0) (T := 738 + 82 * e) (by omega) (by omega) (by omega)) rfl rfl rfl rfl (Nat.le_of_ble_eq_true rfl) (Nat.le_of_ble_eq_true rfl) (Nat.le_of_ble_eq_true rfl) rfl ?_
    unfold wM
    refine tg_go bX9_keep_26 ?_
    simp only [ti_aload, ti_getf, ti_iald, ti_iload, ti_push, ti_zast, List.getElem?_cons_zero, List.getElem?_cons_succ, List.set_cons_zero, List.set_cons_succ, true_and]
    rw [sb_cl0, nI_clamp (by omega), pk_cpy_out (by omega), hr]
    refine ⟨vp_in_nI (by omega) (by omega), rfl, vp_in_nI (n := 0) (by decide) (by decide), ?_⟩
    refine g_iret dX9_keep_39 rfl ?_
    exact Or.inr ⟨hx, rfl, sM_mk⟩
  · have hx := of_decide_eq_false (bZ_0 h7)
    refine tg_go bX9_keep_10 ?_
    simp only [ti_push, List.getElem?_cons_zero, List.getElem?_cons_succ, true_and]
    refine g_iret dX9_keep_12 rfl ?_
    exact Or.inl ⟨hx, rfl, sM_mk⟩
theorem kX9_back {n : Nat} {x : Int32} (hk : ∀ j, j < 2 → kp j = 0 ∨ kp j = 1) : tg_Ct l mX9_back 1000 [.ref 0, .int x] (wM row dm vals un kp tx len sz it ask fi be rD rM cl dg nu my su le gr cz vi ov rv ct bm) (fun r w => (¬ (0 ≤ x.toInt ∧ x.toInt ≤ 1) ∧ r = some (.int (-2)) ∧ (sM row dm vals un kp tx len sz it ask) w) ∨ ((0 ≤ x.toInt ∧ x.toInt ≤ 1) ∧ kp x.toInt.toNat = 0 ∧ r = some (.int (-4)) ∧ (sM row dm vals un kp tx len sz it ask) w) ∨ ((0 ≤ x.toInt ∧ x.toInt ≤ 1) ∧ kp x.toInt.toNat = 1 ∧ r = some (.int (row (738 + 82 * x.toInt.toNat))) ∧ (sM (va_cpy row row (738 + 82 * x.toInt.toNat) 0 82) dm vals 0 kp tx len sz it ask) w)) := by
  show tg_G _ _ _ _ _ _ _ [.ref 0, .int x] [] _
  unfold wM
  refine tg_go bX9_back_0 ?_
  simp only [ti_i2l, ti_iload, ti_push, List.getElem?_cons_zero, List.getElem?_cons_succ, true_and]
  refine tg_cP vX9_back_4 (kX9_in) rfl rfl (Nat.le_of_ble_eq_true rfl) (Nat.le_of_ble_eq_true rfl) ?_
  rw [show (decide ((0 : Int64) ≤ x.toInt64) && decide (x.toInt64 ≤ (1 : Int64))) = (decide (nI 0 ≤ x) && decide (x ≤ nI 1)) from w_in x 0 1, in_lit (by omega) (by omega)]
  refine g_if_ne (tgt := 13) dX9_back_7 rfl (fun h7 => ?_) (fun h7 => ?_)
  · have hx := of_decide_eq_true (bZ_n h7)
    obtain ⟨e1, e2⟩ := x_of (n := 2) hx.1 (by omega)
    generalize hcc : x.toInt.toNat = e at e1 e2 ⊢
    subst e1
    have hke := hk e e2
    refine tg_go bX9_back_13 ?_
    simp only [ti_aload, ti_getf, ti_iload, ti_zald, List.getElem?_cons_zero, List.getElem?_cons_succ, true_and]
    rw [nI_clamp (by omega)]
    refine ⟨vp_in_nI (by omega) (by omega), ?_⟩
    refine g_if_ne (tgt := 25) dX9_back_19 rfl (fun h19 => ?_) (fun h19 => ?_)
    · refine tg_go bX9_back_25 ?_
      simp only [ti_aload, ti_iadd, ti_iload, ti_imul, ti_push, List.getElem?_cons_zero, List.getElem?_cons_succ, true_and]
      rw [show (82 : Int32) * nI e = nI (82 * e) from pk_mul 82 _, show (738 : Int32) + nI (82 * e) = nI (738 + 82 * e) from nI_add 738 _]
      refine tg_cWv vX9_back_35 (kX9_copyRow (F := 738 + 82 * e) (T := 0) (by omega) (by omega) (by omega)) rfl rfl rfl rfl (Nat.le_of_ble_eq_true rfl) (Nat.le_of_ble_eq_true rfl) (Nat.le_of_ble_eq_true rfl) rfl ?_
      unfold wM
      refine tg_go bX9_back_38 ?_
      simp only [ti_aload, ti_getf, ti_iald, ti_push, ti_putfI, List.getElem?_cons_zero, List.getElem?_cons_succ, List.set_cons_zero, List.set_cons_succ, true_and]
      rw [sb_cl0, pk_cpy_in (by omega) (by omega)]
      refine ⟨vp_in_nI (n := 0) (by decide) (by decide), ?_⟩
      refine g_iret dX9_back_49 rfl ?_
      exact Or.inr (Or.inr ⟨hx, hke.resolve_left h19, rfl, sM_mk⟩)
    · refine tg_go bX9_back_22 ?_
      simp only [ti_push, List.getElem?_cons_zero, List.getElem?_cons_succ, true_and]
      refine g_iret dX9_back_24 rfl ?_
      exact Or.inr (Or.inl ⟨hx, h19, rfl, sM_mk⟩)
  · have hx := of_decide_eq_false (bZ_0 h7)
    refine tg_go bX9_back_10 ?_
    simp only [ti_push, List.getElem?_cons_zero, List.getElem?_cons_succ, true_and]
    refine g_iret dX9_back_12 rfl ?_
    exact Or.inl ⟨hx, rfl, sM_mk⟩
theorem kX9_entry {n : Nat} {x y : Int32} (hn : n ≤ 40) (hr : row 0 = nI n) : tg_Ct l mX9_entry 1000 [.ref 0, .int x, .int y] (wM row dm vals un kp tx len sz it ask fi be rD rM cl dg nu my su le gr cz vi ov rv ct bm) (fun r w => ((¬ (0 ≤ x.toInt ∧ x.toInt < n) ∧ r = some (.int (-2))) ∨ ((0 ≤ x.toInt ∧ x.toInt < n) ∧ y = 0 ∧ r = some (.int (row (2 + x.toInt.toNat)))) ∨ ((0 ≤ x.toInt ∧ x.toInt < n) ∧ y = 1 ∧ r = some (.int (row (42 + x.toInt.toNat) + 1000))) ∨ ((0 ≤ x.toInt ∧ x.toInt < n) ∧ ¬ y = 0 ∧ ¬ y = 1 ∧ r = some (.int (-3)))) ∧ (sM row dm vals un kp tx len sz it ask) w) := by
  show tg_G _ _ _ _ _ _ _ [.ref 0, .int x, .int y] [] _
  unfold wM
  refine tg_go bX9_entry_0 ?_
  simp only [ti_aload, ti_iload, List.getElem?_cons_zero, List.getElem?_cons_succ, true_and]
  refine tg_cW vX9_entry_2 (kX9_isEntry hn hr) rfl rfl rfl rfl (Nat.le_of_ble_eq_true rfl) (Nat.le_of_ble_eq_true rfl) (Nat.le_of_ble_eq_true rfl) rfl ?_
  unfold wM
  refine g_if_ne (tgt := 13) dX9_entry_5 rfl (fun h5 => ?_) (fun h5 => ?_)
  · have hx := of_decide_eq_true (bZ_n h5)
    obtain ⟨e1, e2⟩ := x_of hx.1 hx.2
    generalize hcc : x.toInt.toNat = e at e1 e2 ⊢
    subst e1
    refine tg_go bX9_entry_13 ?_
    simp only [ti_iload, List.getElem?_cons_zero, List.getElem?_cons_succ, true_and]
    refine g_if_ne (tgt := 28) dX9_entry_14 rfl (fun h14 => ?_) (fun h14 => ?_)
    · refine tg_go bX9_entry_28 ?_
      simp only [ti_iload, ti_push, List.getElem?_cons_zero, List.getElem?_cons_succ, true_and]
      refine g_icmp_ne (tgt := 49) dX9_entry_30 rfl (fun h30 => ?_) (fun h30 => ?_)
      · refine tg_go bX9_entry_49 ?_
        simp only [ti_push, List.getElem?_cons_zero, List.getElem?_cons_succ, true_and]
        refine g_iret dX9_entry_51 rfl ?_
        exact ⟨Or.inr (Or.inr (Or.inr ⟨hx, h14, h30, rfl⟩)), sM_mk⟩
      · refine tg_go bX9_entry_33 ?_
        simp only [ti_aload, ti_getf, ti_iadd, ti_iald, ti_iload, ti_push, List.getElem?_cons_zero, List.getElem?_cons_succ, true_and]
        rw [show (42 : Int32) + nI e = nI (42 + e) from nI_add 42 _, nI_clamp (by omega)]
        refine ⟨vp_in_nI (by omega) (by omega), ?_⟩
        refine g_goto (tgt := 51) dX9_entry_46 rfl ?_
        refine g_iret dX9_entry_51 rfl ?_
        exact ⟨Or.inr (Or.inr (Or.inl ⟨hx, h30, rfl⟩)), sM_mk⟩
    · refine tg_go bX9_entry_17 ?_
      simp only [ti_aload, ti_getf, ti_iadd, ti_iald, ti_iload, ti_push, List.getElem?_cons_zero, List.getElem?_cons_succ, true_and]
      rw [show (2 : Int32) + nI e = nI (2 + e) from nI_add 2 _, nI_clamp (by omega)]
      refine ⟨vp_in_nI (by omega) (by omega), ?_⟩
      refine g_goto (tgt := 51) dX9_entry_25 rfl ?_
      refine g_iret dX9_entry_51 rfl ?_
      exact ⟨Or.inr (Or.inl ⟨hx, h14, rfl⟩), sM_mk⟩
  · have hx := of_decide_eq_false (bZ_0 h5)
    refine tg_go bX9_entry_8 ?_
    simp only [ti_push, List.getElem?_cons_zero, List.getElem?_cons_succ, true_and]
    refine g_goto (tgt := 51) dX9_entry_10 rfl ?_
    refine g_iret dX9_entry_51 rfl ?_
    exact ⟨Or.inl ⟨hx, rfl⟩, sM_mk⟩
end REF5
