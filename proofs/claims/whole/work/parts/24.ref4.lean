/-! THE REFERENCE: which codes are cells; text, entries -/
def allB (p : Nat → Bool) : Nat → Bool
  | 0 => true
  | n + 1 => allB p n && p n
theorem allB_mono {p : Nat → Bool} {n : Nat} : ∀ m, allB p n = false → allB p (n + m) = false
  | 0, h => h
  | m + 1, h => by
    show (allB p (n + m) && p (n + m)) = false
    rw [allB_mono m h, Bool.false_and]
/-- a number is a cell's code -/
def cellOK (d : Nat) (v : Nat → Nat) (x : Int32) : Bool := decide (0 ≤ x.toInt ∧ x.toInt < (7 ^ d : Nat)) && allB (fun k => decide (figN d x.toInt.toNat k ≤ v k)) d
def wholeOK (d : Nat) (v : Nat → Nat) (x : Int32) : Bool := cellOK d v x && allB (fun k => decide (0 < figN d x.toInt.toNat k)) d
def entOK (n : Nat) (x : Int32) : Bool := decide (0 ≤ x.toInt ∧ x.toInt < n)
theorem in_lt {x : Int32} {n : Nat} (hn : n < 2 ^ 31) : (decide (0 ≤ x) && decide (x ≤ nI n - 1)) = decide (0 ≤ x.toInt ∧ x.toInt < n) := by
  have e : (nI n - 1).toInt = (n : Int) - 1 := by
    rcases Nat.eq_zero_or_pos n with h | h
    · subst h; decide
    · rw [show nI n - 1 = nI (n - 1) from pk_sub (a := n) (b := 1) h, nI_toInt (by omega)]
      omega
  rw [Bool.eq_iff_iff]
  simp only [Bool.and_eq_true, decide_eq_true_eq, Int32.le_iff_toInt_le, e, show (0 : Int32).toInt = 0 by decide]
  omega
theorem x_of {x : Int32} {n : Nat} (h1 : 0 ≤ x.toInt) (h2 : x.toInt < n) : x = nI x.toInt.toNat ∧ x.toInt.toNat < n := by
  refine ⟨?_, by omega⟩
  have h3 := Int32.toInt_lt x
  apply Int32.toInt_inj.mp
  rw [nI_toInt (by omega)]
  omega
theorem figN_lt (d c k : Nat) : figN d c k < 7 := Nat.mod_lt _ (by decide)
section REF4
variable {l : tg_Ln} {K : Option Value → List va_E → Prop} {row vals kp tx sz rv ct bm : Nat → Int32} {dm un len fi be rD rM cl dg nu my su le gr cz vi ov : Int32} {it : Nat → Int64} {ask : Int64}
theorem kX9_isCell_l {d c : Nat} {v : Nat → Nat} (hd : d ≤ 4) (hc : c < 7 ^ d) (hv : ∀ k, k < d → vals k = nI (v k) ∧ v k ≤ 6) (hK : K (some (.int (bZ (allB (fun k => decide (figN d c k ≤ v k)) d)))) (wM row (nI d) vals un kp tx len sz it ask fi be rD rM cl dg nu my su le gr cz vi ov rv ct bm)) : ∀ (m k : Nat), d - k < m → k ≤ d → tg_G l mX9_isCell 1000 K 0 0 16 [.ref 0, .int (nI c), .int (bZ (allB (fun k => decide (figN d c k ≤ v k)) k)), .int (nI k)] [] (wM row (nI d) vals un kp tx len sz it ask fi be rD rM cl dg nu my su le gr cz vi ov rv ct bm) := by
  have hp7 : 7 ^ d ≤ 7 ^ 4 := Nat.pow_le_pow_right (by decide) hd
  intro m
  induction m with
  | zero => intro k h; omega
  | succ m ih =>
    intro k hm hk
    unfold wM at ih hK ⊢
    refine tg_go bX9_isCell_16 ?_
    simp only [ti_aload, ti_getf, ti_iload, List.getElem?_cons_zero, List.getElem?_cons_succ, true_and]
    refine g_icmp_ge (tgt := 55) dX9_isCell_21 rfl (fun h21 => ?_) (fun h21 => ?_)
    · rw [lI_le (by omega) (by omega)] at h21
      obtain rfl : k = d := by omega
      refine tg_go bX9_isCell_55 ?_
      simp only [ti_iload, List.getElem?_cons_zero, List.getElem?_cons_succ, true_and]
      refine g_zret dX9_isCell_56 rfl (bZ_01 _) ?_
      exact hK
    · rw [lI_le (by omega) (by omega)] at h21
      obtain ⟨hv1, hv2⟩ := hv k (by omega)
      refine tg_go bX9_isCell_24 ?_
      simp only [ti_iload, List.getElem?_cons_zero, List.getElem?_cons_succ, true_and]
      refine g_if_eq (tgt := 55) dX9_isCell_25 rfl (fun h25 => ?_) (fun h25 => ?_)
      · refine tg_go bX9_isCell_55 ?_
        simp only [ti_iload, List.getElem?_cons_zero, List.getElem?_cons_succ, true_and]
        refine g_zret dX9_isCell_56 rfl (bZ_01 _) ?_
        have hm := allB_mono (d - k) (bZ_0 h25)
        rw [show k + (d - k) = d by omega] at hm
        rw [bZ_0 h25]
        rw [hm] at hK
        exact hK
      · refine tg_go bX9_isCell_28 ?_
        simp only [ti_aload, ti_iload, List.getElem?_cons_zero, List.getElem?_cons_succ, true_and]
        refine tg_cW vX9_isCell_31 (kX9_figure hd (show c < 2 ^ 31 by omega) (show k < d by omega)) rfl rfl rfl rfl (Nat.le_of_ble_eq_true rfl) (Nat.le_of_ble_eq_true rfl) (Nat.le_of_ble_eq_true rfl) rfl ?_
        unfold wM
        refine tg_go bX9_isCell_34 ?_
        simp only [ti_aload, ti_getf, ti_iald, ti_iload, List.getElem?_cons_zero, List.getElem?_cons_succ, true_and]
        rw [nI_clamp (by omega), hv1]
        refine ⟨vp_in_nI (by omega) (by omega), ?_⟩
        refine g_cut2 48 (fun z => z = bZ (decide (figN d c k ≤ v k))) (fun J48 => ?_) (fun z hz => ?_)
        · refine g_icmp_gt (tgt := 47) dX9_isCell_40 rfl (fun h40 => ?_) (fun h40 => ?_)
          · refine tg_go bX9_isCell_47 ?_
            simp only [ti_push, List.getElem?_cons_zero, List.getElem?_cons_succ, true_and]
            exact J48 _ (by
              have := figN_lt d c k
              rw [lI_lt (by omega) (by omega)] at h40
              rw [decide_eq_false (by omega)]; rfl)
          · refine tg_go bX9_isCell_43 ?_
            simp only [ti_push, List.getElem?_cons_zero, List.getElem?_cons_succ, true_and]
            refine g_goto (tgt := 48) dX9_isCell_44 rfl ?_
            exact J48 _ (by
              have := figN_lt d c k
              rw [lI_lt (by omega) (by omega)] at h40
              rw [decide_eq_true (by omega)]; rfl)
        subst hz
        refine tg_go bX9_isCell_48 ?_
        simp only [ti_iinc, ti_istore, tg_s1, tg_cl, List.getElem?_cons_zero, List.getElem?_cons_succ, List.set_cons_zero, List.set_cons_succ, true_and]
        rw [nI_1]
        refine g_goto (tgt := 16) dX9_isCell_52 rfl ?_
        have h2 := ih (k + 1) (by omega) (by omega)
        rw [allB, bZ_n h25, Bool.true_and] at h2
        exact h2
theorem kX9_isCell {d : Nat} {v : Nat → Nat} {x : Int32} (hd : d ≤ 4) (hv : ∀ k, k < d → vals k = nI (v k) ∧ v k ≤ 6) : tg_Ct l mX9_isCell 1000 [.ref 0, .int x] (wM row (nI d) vals un kp tx len sz it ask fi be rD rM cl dg nu my su le gr cz vi ov rv ct bm) (fun r w => r = some (.int (bZ (cellOK d v x))) ∧ w = (wM row (nI d) vals un kp tx len sz it ask fi be rD rM cl dg nu my su le gr cz vi ov rv ct bm)) := by
  have hp7 : 7 ^ d ≤ 7 ^ 4 := Nat.pow_le_pow_right (by decide) hd
  have hp1 : 1 ≤ 7 ^ d := Nat.one_le_pow _ _ (by decide)
  show tg_G _ _ _ _ _ _ _ [.ref 0, .int x, .null, .null] [] _
  unfold wM
  refine tg_go bX9_isCell_0 ?_
  simp only [ti_aload, ti_i2l, ti_iload, ti_push, List.getElem?_cons_zero, List.getElem?_cons_succ, true_and]
  refine tg_cW vX9_isCell_4 (kX9_codes hd) rfl rfl rfl rfl (Nat.le_of_ble_eq_true rfl) (Nat.le_of_ble_eq_true rfl) (Nat.le_of_ble_eq_true rfl) rfl ?_
  unfold wM
  refine tg_go bX9_isCell_7 ?_
  simp only [ti_i2l, ti_isub, ti_push, List.getElem?_cons_zero, List.getElem?_cons_succ, true_and]
  refine tg_cP vX9_isCell_10 (kX9_in) rfl rfl (Nat.le_of_ble_eq_true rfl) (Nat.le_of_ble_eq_true rfl) ?_
  rw [show (decide ((0 : Int64) ≤ x.toInt64) && decide (x.toInt64 ≤ (nI (7 ^ d) - 1).toInt64)) = (decide (0 ≤ x) && decide (x ≤ nI (7 ^ d) - 1)) from w_in x 0 (nI (7 ^ d) - 1), in_lt (by omega)]
  refine tg_go bX9_isCell_13 ?_
  simp only [ti_istore, ti_push, tg_s1, tg_cl, List.getElem?_cons_zero, List.getElem?_cons_succ, List.set_cons_zero, List.set_cons_succ, true_and]
  by_cases hx : 0 ≤ x.toInt ∧ x.toInt < (7 ^ d : Nat)
  · obtain ⟨e1, e2⟩ := x_of hx.1 hx.2
    rw [decide_eq_true hx]
    generalize hcc : x.toInt.toNat = c at e1 e2
    subst e1
    refine kX9_isCell_l (c := c) hd e2 hv ⟨?_, rfl⟩ (d + 1) 0 (by omega) (by omega)
    unfold cellOK
    rw [decide_eq_true hx, Bool.true_and, hcc]
  · rw [decide_eq_false hx]
    have hf : cellOK d v x = false := by unfold cellOK; rw [decide_eq_false hx, Bool.false_and]
    rw [hf]
    refine tg_go bX9_isCell_16 ?_
    simp only [ti_iload, ti_aload, ti_getf, List.getElem?_cons_zero, List.getElem?_cons_succ, true_and]
    refine g_icmp_ge (tgt := 55) dX9_isCell_21 rfl (fun h21 => ?_) (fun h21 => ?_)
    · refine tg_go bX9_isCell_55 ?_
      simp only [ti_iload, List.getElem?_cons_zero, List.getElem?_cons_succ]
      exact g_zret dX9_isCell_56 rfl (bZ_01 _) ⟨rfl, rfl⟩
    · refine tg_go bX9_isCell_24 ?_
      simp only [ti_iload, List.getElem?_cons_zero, List.getElem?_cons_succ]
      refine g_if_eq (tgt := 55) dX9_isCell_25 rfl (fun h25 => ?_) (fun h25 => absurd rfl h25)
      refine tg_go bX9_isCell_55 ?_
      simp only [ti_iload, List.getElem?_cons_zero, List.getElem?_cons_succ]
      exact g_zret dX9_isCell_56 rfl (bZ_01 _) ⟨rfl, rfl⟩
theorem kX9_isWhole_l {d c : Nat} (hd : d ≤ 4) (hc : c < 7 ^ d) (hK : K (some (.int (bZ (allB (fun k => decide (0 < figN d c k)) d)))) (wM row (nI d) vals un kp tx len sz it ask fi be rD rM cl dg nu my su le gr cz vi ov rv ct bm)) : ∀ (m k : Nat), d - k < m → k ≤ d → tg_G l mX9_isWhole 1000 K 0 0 8 [.ref 0, .int (nI c), .int (bZ (allB (fun k => decide (0 < figN d c k)) k)), .int (nI k)] [] (wM row (nI d) vals un kp tx len sz it ask fi be rD rM cl dg nu my su le gr cz vi ov rv ct bm) := by
  have hp7 : 7 ^ d ≤ 7 ^ 4 := Nat.pow_le_pow_right (by decide) hd
  intro m
  induction m with
  | zero => intro k h; omega
  | succ m ih =>
    intro k hm hk
    unfold wM at ih hK ⊢
    refine tg_go bX9_isWhole_8 ?_
    simp only [ti_aload, ti_getf, ti_iload, List.getElem?_cons_zero, List.getElem?_cons_succ, true_and]
    refine g_icmp_ge (tgt := 41) dX9_isWhole_13 rfl (fun h13 => ?_) (fun h13 => ?_)
    · rw [lI_le (by omega) (by omega)] at h13
      obtain rfl : k = d := by omega
      refine tg_go bX9_isWhole_41 ?_
      simp only [ti_iload, List.getElem?_cons_zero, List.getElem?_cons_succ, true_and]
      refine g_zret dX9_isWhole_42 rfl (bZ_01 _) ?_
      exact hK
    · rw [lI_le (by omega) (by omega)] at h13
      refine tg_go bX9_isWhole_16 ?_
      simp only [ti_iload, List.getElem?_cons_zero, List.getElem?_cons_succ, true_and]
      refine g_if_eq (tgt := 41) dX9_isWhole_17 rfl (fun h17 => ?_) (fun h17 => ?_)
      · refine tg_go bX9_isWhole_41 ?_
        simp only [ti_iload, List.getElem?_cons_zero, List.getElem?_cons_succ, true_and]
        refine g_zret dX9_isWhole_42 rfl (bZ_01 _) ?_
        have hm := allB_mono (d - k) (bZ_0 h17)
        rw [show k + (d - k) = d by omega] at hm
        rw [bZ_0 h17]
        rw [hm] at hK
        exact hK
      · refine tg_go bX9_isWhole_20 ?_
        simp only [ti_aload, ti_iload, List.getElem?_cons_zero, List.getElem?_cons_succ, true_and]
        refine tg_cW vX9_isWhole_23 (kX9_figure hd (show c < 2 ^ 31 by omega) (show k < d by omega)) rfl rfl rfl rfl (Nat.le_of_ble_eq_true rfl) (Nat.le_of_ble_eq_true rfl) (Nat.le_of_ble_eq_true rfl) rfl ?_
        unfold wM
        refine g_cut1 34 (fun z => z = bZ (decide (0 < figN d c k))) (fun J34 => ?_) (fun z hz => ?_)
        · refine g_if_le (tgt := 33) dX9_isWhole_26 rfl (fun h26 => ?_) (fun h26 => ?_)
          · refine tg_go bX9_isWhole_33 ?_
            simp only [ti_push, List.getElem?_cons_zero, List.getElem?_cons_succ, true_and]
            exact J34 _ (by
              have := figN_lt d c k
              rw [fa_lit, lI_le (by omega) (by omega)] at h26
              rw [decide_eq_false (by omega)]; rfl)
          · refine tg_go bX9_isWhole_29 ?_
            simp only [ti_push, List.getElem?_cons_zero, List.getElem?_cons_succ, true_and]
            refine g_goto (tgt := 34) dX9_isWhole_30 rfl ?_
            exact J34 _ (by
              have := figN_lt d c k
              rw [fa_lit, lI_le (by omega) (by omega)] at h26
              rw [decide_eq_true (by omega)]; rfl)
        subst hz
        refine tg_go bX9_isWhole_34 ?_
        simp only [ti_iinc, ti_istore, tg_s1, tg_cl, List.getElem?_cons_zero, List.getElem?_cons_succ, List.set_cons_zero, List.set_cons_succ, true_and]
        rw [nI_1]
        refine g_goto (tgt := 8) dX9_isWhole_38 rfl ?_
        have h2 := ih (k + 1) (by omega) (by omega)
        rw [allB, bZ_n h17, Bool.true_and] at h2
        exact h2
theorem kX9_isWhole {d : Nat} {v : Nat → Nat} {x : Int32} (hd : d ≤ 4) (hv : ∀ k, k < d → vals k = nI (v k) ∧ v k ≤ 6) : tg_Ct l mX9_isWhole 1000 [.ref 0, .int x] (wM row (nI d) vals un kp tx len sz it ask fi be rD rM cl dg nu my su le gr cz vi ov rv ct bm) (fun r w => r = some (.int (bZ (wholeOK d v x))) ∧ w = (wM row (nI d) vals un kp tx len sz it ask fi be rD rM cl dg nu my su le gr cz vi ov rv ct bm)) := by
  show tg_G _ _ _ _ _ _ _ [.ref 0, .int x, .null, .null] [] _
  unfold wM
  refine tg_go bX9_isWhole_0 ?_
  simp only [ti_aload, ti_iload, List.getElem?_cons_zero, List.getElem?_cons_succ, true_and]
  refine tg_cW vX9_isWhole_2 (kX9_isCell hd hv) rfl rfl rfl rfl (Nat.le_of_ble_eq_true rfl) (Nat.le_of_ble_eq_true rfl) (Nat.le_of_ble_eq_true rfl) rfl ?_
  unfold wM
  refine tg_go bX9_isWhole_5 ?_
  simp only [ti_istore, ti_push, tg_s1, tg_cl, List.getElem?_cons_zero, List.getElem?_cons_succ, List.set_cons_zero, List.set_cons_succ, true_and]
  cases hco : cellOK d v x with
  | true =>
    have hco2 := hco
    unfold cellOK at hco2
    rw [Bool.and_eq_true, decide_eq_true_eq] at hco2
    obtain ⟨hx, -⟩ := hco2
    have hw : wholeOK d v x = allB (fun k => decide (0 < figN d x.toInt.toNat k)) d := by unfold wholeOK; rw [hco, Bool.true_and]
    rw [hw]
    clear hw hco
    obtain ⟨e1, e2⟩ := x_of hx.1 hx.2
    generalize hcc : x.toInt.toNat = c at e1 e2 ⊢
    subst e1
    exact kX9_isWhole_l (c := c) hd e2 ⟨rfl, rfl⟩ (d + 1) 0 (by omega) (by omega)
  | false =>
    have hw : wholeOK d v x = false := by unfold wholeOK; rw [hco, Bool.false_and]
    rw [hw]
    refine tg_go bX9_isWhole_8 ?_
    simp only [ti_iload, ti_aload, ti_getf, List.getElem?_cons_zero, List.getElem?_cons_succ, true_and]
    refine g_icmp_ge (tgt := 41) dX9_isWhole_13 rfl (fun h21 => ?_) (fun h21 => ?_)
    · refine tg_go bX9_isWhole_41 ?_
      simp only [ti_iload, List.getElem?_cons_zero, List.getElem?_cons_succ]
      exact g_zret dX9_isWhole_42 rfl (bZ_01 _) ⟨rfl, rfl⟩
    · refine tg_go bX9_isWhole_16 ?_
      simp only [ti_iload, List.getElem?_cons_zero, List.getElem?_cons_succ]
      refine g_if_eq (tgt := 41) dX9_isWhole_17 rfl (fun h25 => ?_) (fun h25 => absurd rfl h25)
      refine tg_go bX9_isWhole_41 ?_
      simp only [ti_iload, List.getElem?_cons_zero, List.getElem?_cons_succ]
      exact g_zret dX9_isWhole_42 rfl (bZ_01 _) ⟨rfl, rfl⟩
theorem kX9_isEntry {n : Nat} {x : Int32} (hn : n ≤ 40) (hr : row 0 = nI n) : tg_Ct l mX9_isEntry 1000 [.ref 0, .int x] (wM row dm vals un kp tx len sz it ask fi be rD rM cl dg nu my su le gr cz vi ov rv ct bm) (fun r w => r = some (.int (bZ (entOK n x))) ∧ w = (wM row dm vals un kp tx len sz it ask fi be rD rM cl dg nu my su le gr cz vi ov rv ct bm)) := by
  show tg_G _ _ _ _ _ _ _ [.ref 0, .int x] [] _
  unfold wM
  refine tg_go bX9_isEntry_0 ?_
  simp only [ti_aload, ti_getf, ti_i2l, ti_iald, ti_iload, ti_isub, ti_push, List.getElem?_cons_zero, List.getElem?_cons_succ, true_and]
  rw [sb_cl0, hr]
  refine ⟨vp_in_nI (n := 0) (by decide) (by decide), ?_⟩
  refine tg_cP vX9_isEntry_12 (kX9_in) rfl rfl (Nat.le_of_ble_eq_true rfl) (Nat.le_of_ble_eq_true rfl) ?_
  rw [show (decide ((0 : Int64) ≤ x.toInt64) && decide (x.toInt64 ≤ (nI n - 1).toInt64)) = (decide (0 ≤ x) && decide (x ≤ nI n - 1)) from w_in x 0 (nI n - 1), in_lt (by omega)]
  refine g_zret dX9_isEntry_15 rfl (bZ_01 _) ?_
  exact ⟨rfl, rfl⟩
end REF4
