/-! THE REFERENCE: parting; keys and rules -/
theorem rem10 {a : Nat} (h : a < 2 ^ 31) : tg_rem (nI a) 10 = nI (a % 10) := pk_rem h (by decide) (by decide)
theorem div10 {a : Nat} (h : a < 2 ^ 31) : nI a / 10 = nI (a / 10) := pk_div h (by decide) (by decide)
theorem ne10 : ¬ (10 : Int32) = 0 := by decide
/-- the place of a dimension in an order's figures, the last figure first -/
def plR (k : Nat) : Nat → Nat → Int32 → Int32
  | 0, _, p => p
  | j + 1, o, p => plR k j (o / 10) (if o % 10 = k then nI j else p)
def orderOK (d : Nat) (x : Int32) : Bool := decide (0 ≤ x.toInt ∧ x.toInt < (10 ^ d : Nat)) && allB (fun k => decide (¬ plR k d x.toInt.toNat (-1) = -1)) d
theorem pow10 {d : Nat} (hd : d ≤ 4) : 10 ^ d ≤ 10000 := Nat.le_trans (Nat.pow_le_pow_right (by decide) hd) (by decide)
/-- from which place on a cell is gone into -/
def frm (d o a : Nat) : Nat → Int32
  | 0 => 0
  | k + 1 => if frm d o a k < (if 0 < figN d a k then plR k d o (-1) + 1 else 0) then (if 0 < figN d a k then plR k d o (-1) + 1 else 0) else frm d o a k
def wkA (d n s o : Nat) (c : Nat → Nat) : Nat → Int32
  | 0 => nI n * nI d
  | a + 1 => if a = 0 then nI n * nI d else if enou d n s c a = true then wkA d n s o c a + nI (gMany (cvP d c a) n) * (nI d - frm d o a d) else wkA d n s o c a
def viA (d n s : Nat) (c : Nat → Nat) : Nat → Nat
  | 0 => 0
  | a + 1 => if a = 0 then 0 else if enou d n s c a = true then viA d n s c a + 1 else viA d n s c a
theorem viA_le (d n s : Nat) (c : Nat → Nat) : ∀ a, viA d n s c a ≤ a
  | 0 => Nat.le_refl 0
  | a + 1 => by
    have := viA_le d n s c a
    rw [viA]
    split
    · omega
    · split <;> omega
section REFA
variable {l : tg_Ln} {K : Option Value → List va_E → Prop} {row vals kp tx sz rv ct bm : Nat → Int32} {dm un len fi be rD rM cl dg nu my su le gr cz vi ov : Int32} {it : Nat → Int64} {ask : Int64} {d B n s : Nat} {c v : Nat → Nat} {u : Nat → Int32}
theorem kX9_placeIn_l {k : Nat} {x : Int32} (hk : k < 2 ^ 31) : ∀ (j o : Nat) (p : Int32), j ≤ 4 → o < 2 ^ 31 → K (some (.int (plR k j o p))) (wM row (nI d) vals un kp tx len sz it ask fi be rD rM cl dg nu my su le gr cz vi ov rv ct bm) → tg_G l mX9_placeIn 1000 K 0 0 13 [.ref 0, .int x, .int (nI k), .int (nI o), .int p, .int (nI j - 1)] [] (wM row (nI d) vals un kp tx len sz it ask fi be rD rM cl dg nu my su le gr cz vi ov rv ct bm) := by
  intro j
  induction j with
  | zero =>
    intro o p hj ho hK
    unfold wM at hK ⊢
    refine tg_go bX9_placeIn_13 ?_
    simp only [ti_iload, List.getElem?_cons_zero, List.getElem?_cons_succ, true_and]
    refine g_if_lt (tgt := 46) dX9_placeIn_15 rfl (fun h15 => ?_) (fun h15 => ?_)
    · refine tg_go bX9_placeIn_46 ?_
      simp only [ti_iload, List.getElem?_cons_zero, List.getElem?_cons_succ, true_and]
      refine g_iret dX9_placeIn_48 rfl ?_
      exact hK
    · exact absurd (by decide) h15
  | succ j ih =>
    intro o p hj ho hK
    unfold wM at ih hK ⊢
    rw [show nI (j + 1) - 1 = nI j from nI_pred j]
    refine tg_go bX9_placeIn_13 ?_
    simp only [ti_iload, List.getElem?_cons_zero, List.getElem?_cons_succ, true_and]
    refine g_if_lt (tgt := 46) dX9_placeIn_15 rfl (fun h15 => ?_) (fun h15 => ?_)
    · exact absurd h15 (nI_pos (by omega))
    · refine tg_go bX9_placeIn_18 ?_
      simp only [ti_iload, ti_irem, ti_push, List.getElem?_cons_zero, List.getElem?_cons_succ, true_and]
      rw [rem10 ho]
      refine ⟨ne10, ?_⟩
      refine g_cut2 33 (fun z => z = if o % 10 = k then nI j else p) (fun J33 => ?_) (fun z hz => ?_)
      · refine g_icmp_ne (tgt := 31) dX9_placeIn_23 rfl (fun h23 => ?_) (fun h23 => ?_)
        · rw [lI_eq (by omega) (by omega)] at h23
          refine tg_go bX9_placeIn_31 ?_
          simp only [ti_iload, List.getElem?_cons_zero, List.getElem?_cons_succ, true_and]
          exact J33 _ (by rw [if_neg h23])
        · rw [lI_eq (by omega) (by omega)] at h23
          refine tg_go bX9_placeIn_26 ?_
          simp only [ti_iload, List.getElem?_cons_zero, List.getElem?_cons_succ, true_and]
          refine g_goto (tgt := 33) dX9_placeIn_28 rfl ?_
          exact J33 _ (by rw [if_pos h23])
      subst hz
      refine tg_go bX9_placeIn_33 ?_
      simp only [ti_idiv, ti_iinc, ti_iload, ti_istore, ti_push, tg_s1, tg_cl, List.getElem?_cons_zero, List.getElem?_cons_succ, List.set_cons_zero, List.set_cons_succ, true_and]
      rw [div10 ho]
      refine ⟨ne10, ?_⟩
      refine g_goto (tgt := 13) dX9_placeIn_43 rfl ?_
      have h2 := ih (o / 10) (if o % 10 = k then nI j else p) (by omega) (by omega) hK
      rw [show nI j - 1 = nI j + -1 from by rw [Int32.sub_eq_add_neg]] at h2
      exact h2
theorem kX9_placeIn {k o : Nat} (hd : d ≤ 4) (hk : k < 2 ^ 31) (ho : o < 2 ^ 31) : tg_Ct l mX9_placeIn 1000 [.ref 0, .int (nI o), .int (nI k)] (wM row (nI d) vals un kp tx len sz it ask fi be rD rM cl dg nu my su le gr cz vi ov rv ct bm) (fun r w => r = some (.int (plR k d o (-1))) ∧ w = (wM row (nI d) vals un kp tx len sz it ask fi be rD rM cl dg nu my su le gr cz vi ov rv ct bm)) := by
  show tg_G _ _ _ _ _ _ _ [.ref 0, .int (nI o), .int (nI k), .null, .null, .null] [] _
  unfold wM
  refine tg_go bX9_placeIn_0 ?_
  simp only [ti_aload, ti_getf, ti_iload, ti_istore, ti_isub, ti_push, tg_s1, tg_cl, List.getElem?_cons_zero, List.getElem?_cons_succ, List.set_cons_zero, List.set_cons_succ, true_and]
  exact kX9_placeIn_l hk d o (-1) hd ho ⟨rfl, rfl⟩
theorem kX9_isOrder_1 {x : Int32} (hd : d ≤ 4) (hK : tg_G l mX9_isOrder 1000 K 0 0 23 [.ref 0, .int x, .int (nI (10 ^ d)), .int (nI d), .null] [] (wM row (nI d) vals un kp tx len sz it ask fi be rD rM cl dg nu my su le gr cz vi ov rv ct bm)) : ∀ (m k : Nat), d - k < m → k ≤ d → tg_G l mX9_isOrder 1000 K 0 0 4 [.ref 0, .int x, .int (nI (10 ^ k)), .int (nI k), .null] [] (wM row (nI d) vals un kp tx len sz it ask fi be rD rM cl dg nu my su le gr cz vi ov rv ct bm) := by
  intro m
  induction m with
  | zero => intro k h; omega
  | succ m ih =>
    intro k hm hk
    unfold wM at ih hK ⊢
    refine tg_go bX9_isOrder_4 ?_
    simp only [ti_aload, ti_getf, ti_iload, List.getElem?_cons_zero, List.getElem?_cons_succ, true_and]
    refine g_icmp_ge (tgt := 23) dX9_isOrder_9 rfl (fun h9 => ?_) (fun h9 => ?_)
    · rw [lI_le (by omega) (by omega)] at h9
      obtain rfl : k = d := by omega
      exact hK
    · rw [lI_le (by omega) (by omega)] at h9
      refine tg_go bX9_isOrder_12 ?_
      simp only [ti_iinc, ti_iload, ti_imul, ti_istore, ti_push, tg_s1, tg_cl, List.getElem?_cons_zero, List.getElem?_cons_succ, List.set_cons_zero, List.set_cons_succ, true_and]
      rw [show nI (10 ^ k) * 10 = nI (10 ^ (k + 1)) from pk_mul (10 ^ k) 10, nI_1]
      refine g_goto (tgt := 4) dX9_isOrder_20 rfl ?_
      exact ih (k + 1) (by omega) (by omega)
theorem kX9_isOrder_2 {o : Nat} {x2 : Int32} (hd : d ≤ 4) (ho : o < 2 ^ 31) (hK : K (some (.int (bZ (allB (fun k => decide (¬ plR k d o (-1) = -1)) d)))) (wM row (nI d) vals un kp tx len sz it ask fi be rD rM cl dg nu my su le gr cz vi ov rv ct bm)) : ∀ (m k : Nat), d - k < m → k ≤ d → tg_G l mX9_isOrder 1000 K 0 0 37 [.ref 0, .int (nI o), .int x2, .int (bZ (allB (fun k => decide (¬ plR k d o (-1) = -1)) k)), .int (nI k)] [] (wM row (nI d) vals un kp tx len sz it ask fi be rD rM cl dg nu my su le gr cz vi ov rv ct bm) := by
  intro m
  induction m with
  | zero => intro k h; omega
  | succ m ih =>
    intro k hm hk
    unfold wM at ih hK ⊢
    refine tg_go bX9_isOrder_37 ?_
    simp only [ti_aload, ti_getf, ti_iload, List.getElem?_cons_zero, List.getElem?_cons_succ, true_and]
    refine g_icmp_ge (tgt := 73) dX9_isOrder_43 rfl (fun h43 => ?_) (fun h43 => ?_)
    · rw [lI_le (by omega) (by omega)] at h43
      obtain rfl : k = d := by omega
      refine tg_go bX9_isOrder_73 ?_
      simp only [ti_iload, List.getElem?_cons_zero, List.getElem?_cons_succ, true_and]
      refine g_zret dX9_isOrder_74 rfl (bZ_01 _) ?_
      exact hK
    · rw [lI_le (by omega) (by omega)] at h43
      refine tg_go bX9_isOrder_46 ?_
      simp only [ti_iload, List.getElem?_cons_zero, List.getElem?_cons_succ, true_and]
      refine g_if_eq (tgt := 73) dX9_isOrder_47 rfl (fun h47 => ?_) (fun h47 => ?_)
      · refine tg_go bX9_isOrder_73 ?_
        simp only [ti_iload, List.getElem?_cons_zero, List.getElem?_cons_succ, true_and]
        refine g_zret dX9_isOrder_74 rfl (bZ_01 _) ?_
        have hm := allB_mono (d - k) (bZ_0 h47)
        rw [show k + (d - k) = d by omega] at hm
        rw [bZ_0 h47]
        rw [hm] at hK
        exact hK
      · refine tg_go bX9_isOrder_50 ?_
        simp only [ti_aload, ti_iload, List.getElem?_cons_zero, List.getElem?_cons_succ, true_and]
        refine tg_cW vX9_isOrder_54 (kX9_placeIn hd (show k < 2 ^ 31 by omega) ho) rfl rfl rfl rfl (Nat.le_of_ble_eq_true rfl) (Nat.le_of_ble_eq_true rfl) (Nat.le_of_ble_eq_true rfl) rfl ?_
        unfold wM
        refine tg_go bX9_isOrder_57 ?_
        simp only [ti_push, List.getElem?_cons_zero, List.getElem?_cons_succ, true_and]
        refine g_cut2 66 (fun z => z = bZ (decide (¬ plR k d o (-1) = -1))) (fun J66 => ?_) (fun z hz => ?_)
        · refine g_icmp_eq (tgt := 65) dX9_isOrder_58 rfl (fun h58 => ?_) (fun h58 => ?_)
          · refine tg_go bX9_isOrder_65 ?_
            simp only [ti_push, List.getElem?_cons_zero, List.getElem?_cons_succ, true_and]
            exact J66 _ (by rw [decide_eq_false (fun q => q h58)]; rfl)
          · refine tg_go bX9_isOrder_61 ?_
            simp only [ti_push, List.getElem?_cons_zero, List.getElem?_cons_succ, true_and]
            refine g_goto (tgt := 66) dX9_isOrder_62 rfl ?_
            exact J66 _ (by rw [decide_eq_true h58]; rfl)
        subst hz
        refine tg_go bX9_isOrder_66 ?_
        simp only [ti_iinc, ti_istore, tg_s1, tg_cl, List.getElem?_cons_zero, List.getElem?_cons_succ, List.set_cons_zero, List.set_cons_succ, true_and]
        rw [nI_1]
        refine g_goto (tgt := 37) dX9_isOrder_70 rfl ?_
        have h2 := ih (k + 1) (by omega) (by omega)
        rw [allB, bZ_n h47, Bool.true_and] at h2
        exact h2
theorem kX9_isOrder {x : Int32} (hd : d ≤ 4) : tg_Ct l mX9_isOrder 1000 [.ref 0, .int x] (wM row (nI d) vals un kp tx len sz it ask fi be rD rM cl dg nu my su le gr cz vi ov rv ct bm) (fun r w => r = some (.int (bZ (orderOK d x))) ∧ w = (wM row (nI d) vals un kp tx len sz it ask fi be rD rM cl dg nu my su le gr cz vi ov rv ct bm)) := by
  have hp := pow10 hd
  show tg_G _ _ _ _ _ _ _ [.ref 0, .int x, .null, .null, .null] [] _
  unfold wM
  refine tg_go bX9_isOrder_0 ?_
  simp only [ti_istore, ti_push, tg_s1, tg_cl, List.getElem?_cons_zero, List.getElem?_cons_succ, List.set_cons_zero, List.set_cons_succ, true_and]
  refine kX9_isOrder_1 (x := x) hd ?_ (d + 1) 0 (by omega) (by omega)
  unfold wM
  refine tg_go bX9_isOrder_23 ?_
  simp only [ti_iload, ti_i2l, ti_push, ti_isub, List.getElem?_cons_zero, List.getElem?_cons_succ]
  refine tg_cP vX9_isOrder_30 (kX9_in) rfl rfl (Nat.le_of_ble_eq_true rfl) (Nat.le_of_ble_eq_true rfl) ?_
  rw [show (decide ((0 : Int64) ≤ x.toInt64) && decide (x.toInt64 ≤ (nI (10 ^ d) - 1).toInt64)) = (decide (0 ≤ x) && decide (x ≤ nI (10 ^ d) - 1)) from w_in x 0 (nI (10 ^ d) - 1), in_lt (by omega)]
  refine tg_go bX9_isOrder_33 ?_
  simp only [ti_istore, ti_push, tg_s1, tg_cl, List.getElem?_cons_zero, List.getElem?_cons_succ, List.set_cons_zero, List.set_cons_succ]
  by_cases hx : 0 ≤ x.toInt ∧ x.toInt < (10 ^ d : Nat)
  · obtain ⟨e1, e2⟩ := x_of hx.1 hx.2
    have ho : orderOK d x = allB (fun k => decide (¬ plR k d x.toInt.toNat (-1) = -1)) d := by unfold orderOK; rw [decide_eq_true hx, Bool.true_and]
    rw [decide_eq_true hx, ho]
    clear ho
    generalize hcc : x.toInt.toNat = o at e1 e2 ⊢
    subst e1
    exact kX9_isOrder_2 hd (by omega) ⟨rfl, rfl⟩ (d + 1) 0 (by omega) (by omega)
  · have ho : orderOK d x = false := by unfold orderOK; rw [decide_eq_false hx, Bool.false_and]
    rw [decide_eq_false hx, ho]
    refine tg_go bX9_isOrder_37 ?_
    simp only [ti_iload, ti_aload, ti_getf, List.getElem?_cons_zero, List.getElem?_cons_succ, true_and]
    refine g_icmp_ge (tgt := 73) dX9_isOrder_43 rfl (fun h21 => ?_) (fun h21 => ?_)
    · refine tg_go bX9_isOrder_73 ?_
      simp only [ti_iload, List.getElem?_cons_zero, List.getElem?_cons_succ]
      exact g_zret dX9_isOrder_74 rfl (bZ_01 _) ⟨rfl, rfl⟩
    · refine tg_go bX9_isOrder_46 ?_
      simp only [ti_iload, List.getElem?_cons_zero, List.getElem?_cons_succ]
      refine g_if_eq (tgt := 73) dX9_isOrder_47 rfl (fun h25 => ?_) (fun h25 => absurd rfl h25)
      refine tg_go bX9_isOrder_73 ?_
      simp only [ti_iload, List.getElem?_cons_zero, List.getElem?_cons_succ]
      exact g_zret dX9_isOrder_74 rfl (bZ_01 _) ⟨rfl, rfl⟩
theorem kX9_layCounts_l (hd : d ≤ 4) (ht : tbR row d 0 n s c u) (hK : ∀ my su le gr cz ct, (∀ a, a < 7 ^ d → ct a = nI (gMany (cvP d c a) n)) → K none (wM row (nI d) vals un kp tx len sz it ask fi be rD rM cl dg nu my su le gr cz vi ov rv ct bm)) : ∀ (m a : Nat) (my su le gr cz : Int32) (ct : Nat → Int32), 7 ^ d - a < m → a ≤ 7 ^ d → (∀ b, b < a → ct b = nI (gMany (cvP d c b) n)) → tg_G l mX9_layCounts 1000 K 0 0 7 [.ref 0, .int (nI (7 ^ d)), .int (nI a)] [] (wM row (nI d) vals un kp tx len sz it ask fi be rD rM cl dg nu my su le gr cz vi ov rv ct bm) := by
  have hp7 := pow7 hd
  intro m
  induction m with
  | zero => intro a my su le gr cz ct h; omega
  | succ m ih =>
    intro a my su le gr cz ct hm ha hc
    unfold wM at ih hK ⊢
    refine tg_go bX9_layCounts_7 ?_
    simp only [ti_iload, List.getElem?_cons_zero, List.getElem?_cons_succ, true_and]
    refine g_icmp_ge (tgt := 34) dX9_layCounts_9 rfl (fun h9 => ?_) (fun h9 => ?_)
    · rw [lI_le (by omega) (by omega)] at h9
      obtain rfl : a = 7 ^ d := by omega
      refine g_vret dX9_layCounts_34 rfl ?_
      exact hK _ _ _ _ _ _ hc
    · rw [lI_le (by omega) (by omega)] at h9
      refine tg_go bX9_layCounts_12 ?_
      simp only [ti_aload, ti_iload, ti_push, List.getElem?_cons_zero, List.getElem?_cons_succ, true_and]
      refine tg_cWv vX9_layCounts_15 (kX9_gather' hd ht (show a < 2 ^ 31 by omega)) rfl rfl rfl rfl (Nat.le_of_ble_eq_true rfl) (Nat.le_of_ble_eq_true rfl) (Nat.le_of_ble_eq_true rfl) rfl ?_
      unfold wM
      refine tg_go bX9_layCounts_18 ?_
      simp only [ti_aload, ti_getf, ti_iast, ti_iinc, ti_iload, tg_s1, tg_cl, List.getElem?_cons_zero, List.getElem?_cons_succ, List.set_cons_zero, List.set_cons_succ, true_and]
      rw [nI_1, nI_clamp (by omega)]
      refine ⟨vp_in_nI (by omega) (by omega), ?_⟩
      refine g_goto (tgt := 7) dX9_layCounts_31 rfl ?_
      refine ih (a + 1) _ _ _ _ _ _ (by omega) (by omega) (fun b hb => ?_)
      by_cases e : b = a
      · rw [e, pk_us]
      · rw [pk_un e, hc b (by omega)]
theorem kX9_layCounts (hd : d ≤ 4) (ht : tbR row d 0 n s c u) : tg_Ct l mX9_layCounts 1000 [.ref 0] (wM row (nI d) vals un kp tx len sz it ask fi be rD rM cl dg nu my su le gr cz vi ov rv ct bm) (fun r w => r = none ∧ ∃ my su le gr cz ct, (∀ a, a < 7 ^ d → ct a = nI (gMany (cvP d c a) n)) ∧ w = (wM row (nI d) vals un kp tx len sz it ask fi be rD rM cl dg nu my su le gr cz vi ov rv ct bm)) := by
  show tg_G _ _ _ _ _ _ _ [.ref 0, .null, .null] [] _
  unfold wM
  refine tg_go bX9_layCounts_0 ?_
  simp only [ti_aload, List.getElem?_cons_zero, List.getElem?_cons_succ, true_and]
  refine tg_cW vX9_layCounts_1 (kX9_codes hd) rfl rfl rfl rfl (Nat.le_of_ble_eq_true rfl) (Nat.le_of_ble_eq_true rfl) (Nat.le_of_ble_eq_true rfl) rfl ?_
  unfold wM
  refine tg_go bX9_layCounts_4 ?_
  simp only [ti_istore, ti_push, tg_s1, tg_cl, List.getElem?_cons_zero, List.getElem?_cons_succ, List.set_cons_zero, List.set_cons_succ, true_and]
  exact kX9_layCounts_l hd ht (fun my su le gr cz ct h => ⟨rfl, _, _, _, _, _, _, h, rfl⟩) (7 ^ d + 1) 0 _ _ _ _ _ _ (Nat.lt_succ_of_le (Nat.sub_le _ _)) (Nat.zero_le _) (fun b hb => absurd hb (Nat.not_lt_zero _))
theorem kX9_workBy_2 {o a : Nat} {x2 x3 : Int32} (hd : d ≤ 4) (ho : o < 2 ^ 31) (ha : a < 7 ^ d) (hK : ∀ x7, tg_G l mX9_workBy 1000 K 0 0 94 [.ref 0, .int (nI o), .int x2, .int x3, .int (nI a), .int (frm d o a d), .int (nI d), x7] [] (wM row (nI d) vals un kp tx len sz it ask fi be rD rM cl dg nu my su le gr cz vi ov rv ct bm)) : ∀ (m k : Nat) (x7 : Value), d - k < m → k ≤ d → tg_G l mX9_workBy 1000 K 0 0 37 [.ref 0, .int (nI o), .int x2, .int x3, .int (nI a), .int (frm d o a k), .int (nI k), x7] [] (wM row (nI d) vals un kp tx len sz it ask fi be rD rM cl dg nu my su le gr cz vi ov rv ct bm) := by
  have hp7 := pow7 hd
  intro m
  induction m with
  | zero => intro k x7 h; omega
  | succ m ih =>
    intro k x7 hm hk
    have hf7 := figN_lt d a k
    unfold wM at ih hK ⊢
    refine tg_go bX9_workBy_37 ?_
    simp only [ti_aload, ti_getf, ti_iload, List.getElem?_cons_zero, List.getElem?_cons_succ, true_and]
    refine g_icmp_ge (tgt := 94) dX9_workBy_43 rfl (fun h43 => ?_) (fun h43 => ?_)
    · rw [lI_le (by omega) (by omega)] at h43
      obtain rfl : k = d := by omega
      exact hK _
    · rw [lI_le (by omega) (by omega)] at h43
      refine tg_go bX9_workBy_46 ?_
      simp only [ti_aload, ti_iload, List.getElem?_cons_zero, List.getElem?_cons_succ, true_and]
      refine tg_cW vX9_workBy_51 (kX9_figure hd (show a < 2 ^ 31 by omega) (show k < d by omega)) rfl rfl rfl rfl (Nat.le_of_ble_eq_true rfl) (Nat.le_of_ble_eq_true rfl) (Nat.le_of_ble_eq_true rfl) rfl ?_
      unfold wM
      refine g_cut1 70 (fun z => z = if 0 < figN d a k then plR k d o (-1) + 1 else 0) (fun J70 => ?_) (fun z hz => ?_)
      · refine g_if_le (tgt := 69) dX9_workBy_54 rfl (fun h54 => ?_) (fun h54 => ?_)
        · rw [fa_lit, lI_le (by omega) (by omega)] at h54
          refine tg_go bX9_workBy_69 ?_
          simp only [ti_push, List.getElem?_cons_zero, List.getElem?_cons_succ, true_and]
          exact J70 _ (by rw [if_neg (by omega)])
        · rw [fa_lit, lI_le (by omega) (by omega)] at h54
          refine tg_go bX9_workBy_57 ?_
          simp only [ti_aload, ti_iload, List.getElem?_cons_zero, List.getElem?_cons_succ, true_and]
          refine tg_cW vX9_workBy_61 (kX9_placeIn hd (show k < 2 ^ 31 by omega) ho) rfl rfl rfl rfl (Nat.le_of_ble_eq_true rfl) (Nat.le_of_ble_eq_true rfl) (Nat.le_of_ble_eq_true rfl) rfl ?_
          unfold wM
          refine tg_go bX9_workBy_64 ?_
          simp only [ti_iadd, ti_push, List.getElem?_cons_zero, List.getElem?_cons_succ, true_and]
          refine g_goto (tgt := 70) dX9_workBy_66 rfl ?_
          exact J70 _ (by rw [if_pos (by omega)])
      subst hz
      refine tg_go bX9_workBy_70 ?_
      simp only [ti_iload, ti_istore, tg_s1, tg_cl, List.getElem?_cons_zero, List.getElem?_cons_succ, List.set_cons_zero, List.set_cons_succ, true_and]
      refine g_cut2 86 (fun z => z = frm d o a (k + 1)) (fun J86 => ?_) (fun z hz => ?_)
      · refine g_icmp_le (tgt := 84) dX9_workBy_76 rfl (fun h76 => ?_) (fun h76 => ?_)
        · refine tg_go bX9_workBy_84 ?_
          simp only [ti_iload, List.getElem?_cons_zero, List.getElem?_cons_succ, true_and]
          exact J86 _ (by rw [frm, if_neg (Int32.not_lt.mpr h76)])
        · refine tg_go bX9_workBy_79 ?_
          simp only [ti_iload, List.getElem?_cons_zero, List.getElem?_cons_succ, true_and]
          refine g_goto (tgt := 86) dX9_workBy_81 rfl ?_
          exact J86 _ (by rw [frm, if_pos (Int32.not_le.mp h76)])
      subst hz
      refine tg_go bX9_workBy_86 ?_
      simp only [ti_iinc, ti_istore, tg_s1, tg_cl, List.getElem?_cons_zero, List.getElem?_cons_succ, List.set_cons_zero, List.set_cons_succ, true_and]
      rw [nI_1]
      refine g_goto (tgt := 37) dX9_workBy_91 rfl ?_
      exact ih (k + 1) _ (by omega) (by omega)
theorem kX9_workBy_1 {o : Nat} (hd : d ≤ 4) (ho : o < 2 ^ 31) (ht : tbR row d 0 n s c u) (hct : ∀ a, a < 7 ^ d → ct a = nI (gMany (cvP d c a) n)) (hK : K (some (.int (wkA d n s o c (7 ^ d)))) (wM row (nI d) vals un kp tx len sz it ask fi be rD rM cl dg nu my su le gr cz (nI (viA d n s c (7 ^ d))) ov rv ct bm)) : ∀ (m a : Nat) (x5 x6 x7 : Value), 7 ^ d - a < m → a ≤ 7 ^ d → 1 ≤ a → tg_G l mX9_workBy 1000 K 0 0 25 [.ref 0, .int (nI o), .int (wkA d n s o c a), .int (nI (7 ^ d)), .int (nI a), x5, x6, x7] [] (wM row (nI d) vals un kp tx len sz it ask fi be rD rM cl dg nu my su le gr cz (nI (viA d n s c a)) ov rv ct bm) := by
  have hp7 := pow7 hd
  have hn := ht.2.2.2.2.2.1
  have hs9 := ht.2.2.2.2.2.2.1
  intro m
  induction m with
  | zero => intro a x5 x6 x7 h; omega
  | succ m ih =>
    intro a x5 x6 x7 hm ha h1
    have hmn := gMany_le (cvP d c a) n
    unfold wM at ih hK ⊢
    refine tg_go bX9_workBy_25 ?_
    simp only [ti_iload, List.getElem?_cons_zero, List.getElem?_cons_succ, true_and]
    refine g_icmp_ge (tgt := 148) dX9_workBy_28 rfl (fun h28 => ?_) (fun h28 => ?_)
    · rw [lI_le (by omega) (by omega)] at h28
      obtain rfl : a = 7 ^ d := by omega
      refine tg_go bX9_workBy_148 ?_
      simp only [ti_iload, List.getElem?_cons_zero, List.getElem?_cons_succ, true_and]
      refine g_iret dX9_workBy_149 rfl ?_
      exact hK
    · rw [lI_le (by omega) (by omega)] at h28
      refine tg_go bX9_workBy_31 ?_
      simp only [ti_istore, ti_push, tg_s1, tg_cl, List.getElem?_cons_zero, List.getElem?_cons_succ, List.set_cons_zero, List.set_cons_succ, true_and]
      refine kX9_workBy_2 hd ho (show a < 7 ^ d by omega) (fun x7' => ?_) (d + 1) 0 _ (by omega) (by omega)
      unfold wM
      refine tg_go bX9_workBy_94 ?_
      simp only [ti_aload, ti_getf, ti_iload, ti_iald, ti_istore, tg_s1, tg_cl, List.getElem?_cons_zero, List.getElem?_cons_succ, List.set_cons_zero, List.set_cons_succ, true_and]
      rw [nI_clamp (by omega), hct a (by omega)]
      refine ⟨vp_in_nI (by omega) (by omega), ?_⟩
      have skip : enou d n s c a = false → tg_G l mX9_workBy 1000 K 0 0 142 [.ref 0, .int (nI o), .int (wkA d n s o c a), .int (nI (7 ^ d)), .int (nI a), .int (frm d o a d), .int (nI (gMany (cvP d c a) n)), x7'] [] (wM row (nI d) vals un kp tx len sz it ask fi be rD rM cl dg nu my su le gr cz (nI (viA d n s c a)) ov rv ct bm) := by
        intro he
        unfold wM
        refine tg_go bX9_workBy_142 ?_
        simp only [ti_iinc, tg_s1, tg_cl, List.getElem?_cons_zero, List.getElem?_cons_succ, List.set_cons_zero, List.set_cons_succ]
        rw [nI_1]
        refine g_goto (tgt := 25) dX9_workBy_145 rfl ?_
        have h2 := ih (a + 1) (.int (frm d o a d)) (.int (nI (gMany (cvP d c a) n))) x7' (by omega) (by omega) (by omega)
        rw [wkA, viA, if_neg (show ¬ a = 0 by omega), if_neg (show ¬ a = 0 by omega)] at h2
        simp only [he, Bool.false_eq_true, if_false] at h2
        exact h2
      unfold wM at skip
      refine g_if_le (tgt := 142) dX9_workBy_105 rfl (fun h105 => ?_) (fun h105 => ?_)
      · rw [fa_lit, lI_le (by omega) (by omega)] at h105
        exact skip (decide_eq_false (by omega))
      rw [fa_lit, lI_le (by omega) (by omega)] at h105
      refine tg_go bX9_workBy_108 ?_
      simp only [ti_aload, ti_getf, ti_iload, ti_iald, ti_push, List.getElem?_cons_zero, List.getElem?_cons_succ, true_and]
      rw [show (1 : Int32).toNatClampNeg = 1 by decide, show row 1 = nI s from ht.2.1]
      refine ⟨vp_in_nI (n := 1) (by decide) (by decide), ?_⟩
      refine g_icmp_lt (tgt := 142) dX9_workBy_116 rfl (fun h116 => ?_) (fun h116 => ?_)
      · rw [lI_lt (by omega) (by omega)] at h116
        exact skip (decide_eq_false (by omega))
      rw [lI_lt (by omega) (by omega)] at h116
      have he : enou d n s c a = true := decide_eq_true (by omega)
      refine tg_go bX9_workBy_119 ?_
      simp only [ti_aload, ti_dup, ti_getf, ti_push, ti_iadd, ti_putfI, ti_iload, ti_isub, ti_imul, ti_istore, tg_s1, tg_cl, Value.category, List.getElem?_cons_zero, List.getElem?_cons_succ, List.set_cons_zero, List.set_cons_succ, true_and]
      refine tg_go bX9_workBy_142 ?_
      simp only [ti_iinc, tg_s1, tg_cl, List.getElem?_cons_zero, List.getElem?_cons_succ, List.set_cons_zero, List.set_cons_succ]
      rw [nI_1, nI_1]
      refine g_goto (tgt := 25) dX9_workBy_145 rfl ?_
      have h2 := ih (a + 1) (.int (frm d o a d)) (.int (nI (gMany (cvP d c a) n))) x7' (by omega) (by omega) (by omega)
      rw [wkA, viA, if_neg (show ¬ a = 0 by omega), if_neg (show ¬ a = 0 by omega)] at h2
      simp only [he, if_true] at h2
      exact h2
theorem kX9_workBy {o : Nat} (hd : d ≤ 4) (ho : o < 2 ^ 31) (ht : tbR row d 0 n s c u) (hct : ∀ a, a < 7 ^ d → ct a = nI (gMany (cvP d c a) n)) : tg_Ct l mX9_workBy 1000 [.ref 0, .int (nI o)] (wM row (nI d) vals un kp tx len sz it ask fi be rD rM cl dg nu my su le gr cz vi ov rv ct bm) (fun r w => r = some (.int (wkA d n s o c (7 ^ d))) ∧ w = (wM row (nI d) vals un kp tx len sz it ask fi be rD rM cl dg nu my su le gr cz (nI (viA d n s c (7 ^ d))) ov rv ct bm)) := by
  have hp7 : 1 ≤ 7 ^ d := Nat.one_le_pow _ _ (by decide)
  show tg_G _ _ _ _ _ _ _ [.ref 0, .int (nI o), .null, .null, .null, .null, .null, .null] [] _
  unfold wM
  refine tg_go bX9_workBy_0 ?_
  simp only [ti_aload, ti_getf, ti_iald, ti_imul, ti_istore, ti_push, tg_s1, tg_cl, List.getElem?_cons_zero, List.getElem?_cons_succ, List.set_cons_zero, List.set_cons_succ, true_and]
  rw [sb_cl0, ht.1]
  refine ⟨vp_in_nI (n := 0) (by decide) (by decide), ?_⟩
  refine tg_cW vX9_workBy_13 (kX9_codes hd) rfl rfl rfl rfl (Nat.le_of_ble_eq_true rfl) (Nat.le_of_ble_eq_true rfl) (Nat.le_of_ble_eq_true rfl) rfl ?_
  unfold wM
  refine tg_go bX9_workBy_16 ?_
  simp only [ti_aload, ti_istore, ti_push, ti_putfI, tg_s1, tg_cl, List.getElem?_cons_zero, List.getElem?_cons_succ, List.set_cons_zero, List.set_cons_succ, true_and]
  exact kX9_workBy_1 hd ho ht hct ⟨rfl, rfl⟩ (7 ^ d + 1) 1 .null .null .null (Nat.lt_succ_of_le (Nat.sub_le _ _)) hp7 (Nat.le_refl 1)
theorem orderOK_in {x : Int32} (h : orderOK d x = true) : ∃ o, x = nI o ∧ o < 10 ^ d := by
  unfold orderOK at h
  rw [Bool.and_eq_true, decide_eq_true_eq] at h
  obtain ⟨e1, e2⟩ := x_of h.1.1 h.1.2
  exact ⟨_, e1, e2⟩
theorem kX9_part {x y : Int32} (hd : d ≤ 4) (ht : tbR row d 0 n s c u) : tg_Ct l mX9_part 1000 [.ref 0, .int x, .int y] (wM row (nI d) vals un kp tx len sz it ask fi be rD rM cl dg nu my su le gr cz vi ov rv ct bm) (fun r w => ((¬ (orderOK d x = true ∧ 0 ≤ y.toInt ∧ y.toInt ≤ 1) ∧ r = some (.int (-3))) ∨ ((orderOK d x = true ∧ 0 ≤ y.toInt ∧ y.toInt ≤ 1) ∧ r = some (.int (if y = 0 then wkA d n s x.toInt.toNat c (7 ^ d) else nI (viA d n s c (7 ^ d)))))) ∧ (sM row (nI d) vals un kp tx len sz it ask) w) := by
  have hp := pow10 hd
  show tg_G _ _ _ _ _ _ _ [.ref 0, .int x, .int y, .null] [] _
  unfold wM
  refine tg_go bX9_part_0 ?_
  simp only [ti_aload, ti_iload, List.getElem?_cons_zero, List.getElem?_cons_succ, true_and]
  refine tg_cW vX9_part_2 (kX9_isOrder hd) rfl rfl rfl rfl (Nat.le_of_ble_eq_true rfl) (Nat.le_of_ble_eq_true rfl) (Nat.le_of_ble_eq_true rfl) rfl ?_
  unfold wM
  refine g_if_eq (tgt := 18) dX9_part_5 rfl (fun h5 => ?_) (fun h5 => ?_)
  · have hx := bZ_0 h5
    refine tg_go bX9_part_18 ?_
    simp only [ti_push, List.getElem?_cons_zero, List.getElem?_cons_succ, true_and]
    refine g_iret dX9_part_20 rfl ?_
    exact ⟨Or.inl ⟨fun q => by rw [hx] at q; exact absurd q.1 (by decide), rfl⟩, sM_mk⟩
  · have hx := bZ_n h5
    refine tg_go bX9_part_8 ?_
    simp only [ti_i2l, ti_iload, ti_push, List.getElem?_cons_zero, List.getElem?_cons_succ, true_and]
    refine tg_cP vX9_part_12 (kX9_in) rfl rfl (Nat.le_of_ble_eq_true rfl) (Nat.le_of_ble_eq_true rfl) ?_
    rw [show (decide ((0 : Int64) ≤ y.toInt64) && decide (y.toInt64 ≤ (1 : Int64))) = (decide (nI 0 ≤ y) && decide (y ≤ nI 1)) from w_in y 0 1, in_lit (by omega) (by omega)]
    refine g_if_ne (tgt := 21) dX9_part_15 rfl (fun h15 => ?_) (fun h15 => ?_)
    · have hy := of_decide_eq_true (bZ_n h15)
      obtain ⟨o, rfl, ho⟩ := orderOK_in hx
      have eo : (nI o).toInt.toNat = o := by rw [nI_toInt (by omega)]; omega
      rw [eo]
      refine tg_go bX9_part_21 ?_
      simp only [ti_aload, List.getElem?_cons_zero, List.getElem?_cons_succ, true_and]
      refine tg_cWe vX9_part_22 (kX9_layCounts hd ht) rfl rfl rfl rfl (Nat.le_of_ble_eq_true rfl) (Nat.le_of_ble_eq_true rfl) (Nat.le_of_ble_eq_true rfl) (by rintro r w1 ⟨-, my1, su1, le1, gr1, cz1, ct1, hct, rfl⟩; rfl) ?_
      rintro r w1 ⟨rfl, my1, su1, le1, gr1, cz1, ct1, hct, rfl⟩
      simp only [Option.toList_some, Option.toList_none, List.cons_append, List.nil_append]
      unfold wM
      refine tg_go bX9_part_25 ?_
      simp only [ti_aload, ti_iload, List.getElem?_cons_zero, List.getElem?_cons_succ, true_and]
      refine tg_cW vX9_part_27 (kX9_workBy hd (show o < 2 ^ 31 by omega) ht hct) rfl rfl rfl rfl (Nat.le_of_ble_eq_true rfl) (Nat.le_of_ble_eq_true rfl) (Nat.le_of_ble_eq_true rfl) rfl ?_
      unfold wM
      refine tg_go bX9_part_30 ?_
      simp only [ti_iload, ti_istore, tg_s1, tg_cl, List.getElem?_cons_zero, List.getElem?_cons_succ, List.set_cons_zero, List.set_cons_succ, true_and]
      refine g_if_ne (tgt := 39) dX9_part_32 rfl (fun h32 => ?_) (fun h32 => ?_)
      · refine tg_go bX9_part_39 ?_
        simp only [ti_aload, ti_getf, List.getElem?_cons_zero, List.getElem?_cons_succ, true_and]
        refine g_iret dX9_part_43 rfl ?_
        exact ⟨Or.inr ⟨⟨hx, hy⟩, by rw [if_neg h32]⟩, sM_mk⟩
      · refine tg_go bX9_part_35 ?_
        simp only [ti_iload, List.getElem?_cons_zero, List.getElem?_cons_succ, true_and]
        refine g_goto (tgt := 43) dX9_part_36 rfl ?_
        refine g_iret dX9_part_43 rfl ?_
        exact ⟨Or.inr ⟨⟨hx, hy⟩, by rw [if_pos h32]⟩, sM_mk⟩
    · have hy := of_decide_eq_false (bZ_0 h15)
      refine tg_go bX9_part_18 ?_
      simp only [ti_push, List.getElem?_cons_zero, List.getElem?_cons_succ, true_and]
      refine g_iret dX9_part_20 rfl ?_
      exact ⟨Or.inl ⟨fun q => hy q.2, rfl⟩, sM_mk⟩
/-- the best of the orders below o, and its work -/
def bst (d n s : Nat) (c : Nat → Nat) : Nat → Int32 × Int32
  | 0 => (-1, 999999)
  | o + 1 => if orderOK d (nI o) = true then (if wkA d n s o c (7 ^ d) < (bst d n s c o).2 then (nI o, wkA d n s o c (7 ^ d)) else bst d n s c o) else bst d n s c o
theorem kX9_best_l {x : Int32} (hd : d ≤ 4) (ht : tbR row d 0 n s c u) (hct : ∀ a, a < 7 ^ d → ct a = nI (gMany (cvP d c a) n)) (hK : ∀ vi, K (some (.int (if x = 0 then (bst d n s c 3211).1 else (bst d n s c 3211).2))) (wM row (nI d) vals un kp tx len sz it ask fi be rD rM cl dg nu my su le gr cz vi ov rv ct bm)) : ∀ (m o : Nat) (vi : Int32) (x5 : Value), 3211 - o < m → o ≤ 3211 → tg_G l mX9_best 1000 K 0 0 25 [.ref 0, .int x, .int (bst d n s c o).1, .int (bst d n s c o).2, .int (nI o), x5] [] (wM row (nI d) vals un kp tx len sz it ask fi be rD rM cl dg nu my su le gr cz vi ov rv ct bm) := by
  intro m
  induction m with
  | zero => intro o vi x5 h; omega
  | succ m ih =>
    intro o vi x5 hm ho
    unfold wM at ih hK ⊢
    refine tg_go bX9_best_25 ?_
    simp only [ti_iload, ti_push, List.getElem?_cons_zero, List.getElem?_cons_succ, true_and]
    refine g_icmp_ge (tgt := 82) dX9_best_30 rfl (fun h30 => ?_) (fun h30 => ?_)
    · rw [fa_lit, lI_le (by omega) (by omega)] at h30
      obtain rfl : o = 3211 := by omega
      refine tg_go bX9_best_82 ?_
      simp only [ti_iload, List.getElem?_cons_zero, List.getElem?_cons_succ, true_and]
      refine g_if_ne (tgt := 90) dX9_best_83 rfl (fun h83 => ?_) (fun h83 => ?_)
      · refine tg_go bX9_best_90 ?_
        simp only [ti_iload, List.getElem?_cons_zero, List.getElem?_cons_succ, true_and]
        refine g_iret dX9_best_91 rfl ?_
        have h2 := hK vi
        rw [if_neg h83] at h2
        exact h2
      · refine tg_go bX9_best_86 ?_
        simp only [ti_iload, List.getElem?_cons_zero, List.getElem?_cons_succ, true_and]
        refine g_goto (tgt := 91) dX9_best_87 rfl ?_
        refine g_iret dX9_best_91 rfl ?_
        have h2 := hK vi
        rw [if_pos h83] at h2
        exact h2
    · rw [fa_lit, lI_le (by omega) (by omega)] at h30
      refine tg_go bX9_best_33 ?_
      simp only [ti_aload, ti_iload, List.getElem?_cons_zero, List.getElem?_cons_succ, true_and]
      refine tg_cW vX9_best_36 (kX9_isOrder hd) rfl rfl rfl rfl (Nat.le_of_ble_eq_true rfl) (Nat.le_of_ble_eq_true rfl) (Nat.le_of_ble_eq_true rfl) rfl ?_
      unfold wM
      refine g_if_eq (tgt := 76) dX9_best_39 rfl (fun h39 => ?_) (fun h39 => ?_)
      · have hx := bZ_0 h39
        refine tg_go bX9_best_76 ?_
        simp only [ti_iinc, tg_s1, tg_cl, List.getElem?_cons_zero, List.getElem?_cons_succ, List.set_cons_zero, List.set_cons_succ, true_and]
        rw [nI_1]
        refine g_goto (tgt := 25) dX9_best_79 rfl ?_
        have h2 := ih (o + 1) vi x5 (by omega) (by omega)
        rw [bst] at h2
        simp only [hx, Bool.false_eq_true, if_false] at h2
        exact h2
      · have hx := bZ_n h39
        refine tg_go bX9_best_42 ?_
        simp only [ti_aload, ti_iload, List.getElem?_cons_zero, List.getElem?_cons_succ, true_and]
        refine tg_cW vX9_best_45 (kX9_workBy hd (show o < 2 ^ 31 by omega) ht hct) rfl rfl rfl rfl (Nat.le_of_ble_eq_true rfl) (Nat.le_of_ble_eq_true rfl) (Nat.le_of_ble_eq_true rfl) rfl ?_
        unfold wM
        refine tg_go bX9_best_48 ?_
        simp only [ti_iload, ti_istore, tg_s1, tg_cl, List.getElem?_cons_zero, List.getElem?_cons_succ, List.set_cons_zero, List.set_cons_succ, true_and]
        refine g_cut2 62 (fun z => z = if wkA d n s o c (7 ^ d) < (bst d n s c o).2 then nI o else (bst d n s c o).1) (fun J62 => ?_) (fun z hz => ?_)
        · refine g_icmp_ge (tgt := 61) dX9_best_53 rfl (fun h53 => ?_) (fun h53 => ?_)
          · refine tg_go bX9_best_61 ?_
            simp only [ti_iload, List.getElem?_cons_zero, List.getElem?_cons_succ, true_and]
            exact J62 _ (by rw [if_neg (Int32.not_lt.mpr h53)])
          · refine tg_go bX9_best_56 ?_
            simp only [ti_iload, List.getElem?_cons_zero, List.getElem?_cons_succ, true_and]
            refine g_goto (tgt := 62) dX9_best_58 rfl ?_
            exact J62 _ (by rw [if_pos (Int32.not_le.mp h53)])
        subst hz
        refine tg_go bX9_best_62 ?_
        simp only [ti_iload, ti_istore, tg_s1, tg_cl, List.getElem?_cons_zero, List.getElem?_cons_succ, List.set_cons_zero, List.set_cons_succ, true_and]
        refine g_cut2 75 (fun z => z = if wkA d n s o c (7 ^ d) < (bst d n s c o).2 then wkA d n s o c (7 ^ d) else (bst d n s c o).2) (fun J75 => ?_) (fun z hz => ?_)
        · refine g_icmp_ge (tgt := 74) dX9_best_66 rfl (fun h66 => ?_) (fun h66 => ?_)
          · refine tg_go bX9_best_74 ?_
            simp only [ti_iload, List.getElem?_cons_zero, List.getElem?_cons_succ, true_and]
            exact J75 _ (by rw [if_neg (Int32.not_lt.mpr h66)])
          · refine tg_go bX9_best_69 ?_
            simp only [ti_iload, List.getElem?_cons_zero, List.getElem?_cons_succ, true_and]
            refine g_goto (tgt := 75) dX9_best_71 rfl ?_
            exact J75 _ (by rw [if_pos (Int32.not_le.mp h66)])
        subst hz
        refine tg_go bX9_best_75 ?_
        simp only [ti_istore, tg_s1, tg_cl, List.getElem?_cons_zero, List.getElem?_cons_succ, List.set_cons_zero, List.set_cons_succ, true_and]
        refine tg_go bX9_best_76 ?_
        simp only [ti_iinc, tg_s1, tg_cl, List.getElem?_cons_zero, List.getElem?_cons_succ, List.set_cons_zero, List.set_cons_succ, true_and]
        rw [nI_1]
        refine g_goto (tgt := 25) dX9_best_79 rfl ?_
        have h2 := ih (o + 1) (nI (viA d n s c (7 ^ d))) (.int (wkA d n s o c (7 ^ d))) (by omega) (by omega)
        rw [bst] at h2
        simp only [hx, if_true] at h2
        by_cases hlt : wkA d n s o c (7 ^ d) < (bst d n s c o).2
        · rw [if_pos hlt, if_pos hlt]
          rw [if_pos hlt] at h2
          exact h2
        · rw [if_neg hlt, if_neg hlt]
          rw [if_neg hlt] at h2
          exact h2
theorem kX9_best {x : Int32} (hd : d ≤ 4) (ht : tbR row d 0 n s c u) : tg_Ct l mX9_best 1000 [.ref 0, .int x] (wM row (nI d) vals un kp tx len sz it ask fi be rD rM cl dg nu my su le gr cz vi ov rv ct bm) (fun r w => ((¬ (0 ≤ x.toInt ∧ x.toInt ≤ 1) ∧ r = some (.int (-3))) ∨ ((0 ≤ x.toInt ∧ x.toInt ≤ 1) ∧ r = some (.int (if x = 0 then (bst d n s c 3211).1 else (bst d n s c 3211).2)))) ∧ (sM row (nI d) vals un kp tx len sz it ask) w) := by
  show tg_G _ _ _ _ _ _ _ [.ref 0, .int x, .null, .null, .null, .null] [] _
  unfold wM
  refine tg_go bX9_best_0 ?_
  simp only [ti_i2l, ti_iload, ti_push, List.getElem?_cons_zero, List.getElem?_cons_succ, true_and]
  refine tg_cP vX9_best_4 (kX9_in) rfl rfl (Nat.le_of_ble_eq_true rfl) (Nat.le_of_ble_eq_true rfl) ?_
  rw [show (decide ((0 : Int64) ≤ x.toInt64) && decide (x.toInt64 ≤ (1 : Int64))) = (decide (nI 0 ≤ x) && decide (x ≤ nI 1)) from w_in x 0 1, in_lit (by omega) (by omega)]
  refine g_if_ne (tgt := 13) dX9_best_7 rfl (fun h7 => ?_) (fun h7 => ?_)
  · have hx := of_decide_eq_true (bZ_n h7)
    refine tg_go bX9_best_13 ?_
    simp only [ti_aload, List.getElem?_cons_zero, List.getElem?_cons_succ, true_and]
    refine tg_cWe vX9_best_14 (kX9_layCounts hd ht) rfl rfl rfl rfl (Nat.le_of_ble_eq_true rfl) (Nat.le_of_ble_eq_true rfl) (Nat.le_of_ble_eq_true rfl) (by rintro r w1 ⟨-, my1, su1, le1, gr1, cz1, ct1, hct, rfl⟩; rfl) ?_
    rintro r w1 ⟨rfl, my1, su1, le1, gr1, cz1, ct1, hct, rfl⟩
    simp only [Option.toList_some, Option.toList_none, List.cons_append, List.nil_append]
    unfold wM
    refine tg_go bX9_best_17 ?_
    simp only [ti_istore, ti_push, tg_s1, tg_cl, List.getElem?_cons_zero, List.getElem?_cons_succ, List.set_cons_zero, List.set_cons_succ, true_and]
    exact kX9_best_l hd ht hct (fun vi => ⟨Or.inr ⟨hx, rfl⟩, sM_mk⟩) 3212 0 _ .null (by omega) (by omega)
  · have hx := of_decide_eq_false (bZ_0 h7)
    refine tg_go bX9_best_10 ?_
    simp only [ti_push, List.getElem?_cons_zero, List.getElem?_cons_succ, true_and]
    refine g_iret dX9_best_12 rfl ?_
    exact ⟨Or.inl ⟨hx, rfl⟩, sM_mk⟩
end REFA
