/-! THE CLASS: doClause, draftUpon -/
def wKT (tx : Nat → Int32) (len ts tb dn : Int32) (td : Int32) (tv : Nat → Int32) (tn : Int32) (tc tm : Nat → Int32) (te : Int32) (nv : Nat → Int32) (od : Int32) (ov : Nat → Int32) (on : Int32) (oc om : Nat → Int32) (oe : Int32) : List va_E := [.inr (1, [.ref 1, .ref 3, .int dn, .ref 7]), .inr (6, [.ref 2, .int len, .int ts, .int tb]), .inl (2, 200, .inl tx), .inr (5, [.int td, .ref 4, .int tn, .ref 5, .ref 6, .int te]), .inl (0, 4, .inl tv), .inl (0, 40, .inl tc), .inl (0, 40, .inl tm), .inl (0, 4, .inl nv), .inr (5, [.int od, .ref 9, .int on, .ref 10, .ref 11, .int oe]), .inl (0, 4, .inl ov), .inl (0, 40, .inl oc), .inl (0, 40, .inl om)]
section DRAFT
variable {l : tg_Ln} {K : Option Value → List va_E → Prop} {tx rv vals row tv tc tm nv : Nat → Int32} {L f b D N s : Nat} {dm td tn te dn : Int32} {v c : Nat → Nat} {u : Nat → Int32}
theorem dc_no (hf : f ≤ L) (hb : b = tkB tx L f) (hw : wdH tx f b = -1 ∨ (wdH tx f b = 2 ∧ N = 40)) : dcK tx L f b D N rv dm vals row dn (some (.int 0)) (wK tx (nI L) (nI f) (nI b) dn td tv tn tc tm te nv) :=
  ⟨_, _, _, _, _, _, _, _, _, hf, hb, rfl, by rw [clR_no hw], Or.inl ⟨rfl, by rw [clR_no hw]⟩⟩
theorem dc_sup0 (hb : b ≤ L) (hw : wdH tx f b = 1) (hx : numR tx L (tkF tx L b) (tkB tx L (tkF tx L b)) 1 9 = none) : dcK tx L f b D N rv dm vals row dn (some (.int 0)) (wK tx (nI L) (nI (tkF tx L b)) (nI (tkB tx L (tkF tx L b))) dn td tv tn tc tm te nv) :=
  ⟨_, _, _, _, _, _, _, _, _, tkF_le (tx := tx) hb, rfl, rfl, by rw [clR_sup hw, hx], Or.inl ⟨rfl, by rw [clR_sup hw, hx]⟩⟩
theorem dc_row0 (hb : b ≤ L) (hrv : ∀ j, j < D → rv j = tv j) (hw : wdH tx f b = 2) (hN : ¬ N = 40) {f2 b2 cc x : Nat} (hx : rowQ tx L D (tkF tx L b) (tkB tx L (tkF tx L b)) tv = (false, f2, b2, cc, x)) : dcK tx L f b D N rv dm vals row dn (some (.int 0)) (wK tx (nI L) (nI f2) (nI b2) dn td tv tn tc tm te nv) := by
  have hrq : rowQ tx L D (tkF tx L b) (tkB tx L (tkF tx L b)) rv = (false, f2, b2, cc, x) := by
    rw [← hx]
    exact rowQ_congr hrv
  have hf := tkF_le (tx := tx) hb
  have hin := rowR_b (tx := tx) (rv := tv) D 0 (tkF tx L b) (tkB tx L (tkF tx L b)) 0 hf rfl
  have hq := hx
  unfold rowQ at hq
  generalize hR : rowR tx L tv D 0 (tkF tx L b) (tkB tx L (tkF tx L b)) 0 = R at hin hq
  obtain ⟨ok, f1, b1, c1⟩ := R
  simp only at hin hq
  have key : f2 = f1 ∧ b2 = b1 := by
    cases ok with
    | false =>
      simp only [Prod.mk.injEq, true_and] at hq
      exact ⟨hq.1.symm, hq.2.1.symm⟩
    | true =>
      simp only at hq
      cases hn : numR tx L f1 b1 0 99 with
      | none =>
        rw [hn] at hq
        simp only [Prod.mk.injEq, true_and] at hq
        exact ⟨hq.1.symm, hq.2.1.symm⟩
      | some y => rw [hn] at hq; cases hq
  obtain ⟨rfl, rfl⟩ := key
  exact ⟨_, _, _, _, _, _, _, _, _, hin.1, hin.2, rfl, by rw [clR_row hw hN, hrq], Or.inl ⟨rfl, by rw [clR_row hw hN, hrq]⟩⟩
theorem dc_tab0 (hb : b ≤ L) (hw : wdH tx f b = 0) {f2 b2 : Nat} {nv2 : Nat → Int32} (hT : tabC tx L 4 0 (tkF tx L b) (tkB tx L (tkF tx L b)) nv = (0, f2, b2, nv2)) : dcK tx L f b D N rv dm vals row dn (some (.int 0)) (wK tx (nI L) (nI f2) (nI b2) dn td tv tn tc tm te nv2) := by
  have hf := tkF_le (tx := tx) hb
  have hin := tabC_in (tx := tx) 4 0 (tkF tx L b) (tkB tx L (tkF tx L b)) nv hf rfl
  have hr := tab_rel (tx := tx) (L := L) 4 0 (tkF tx L b) (tkB tx L (tkF tx L b)) nv rv rfl (fun j hj => by omega)
  rw [hT] at hin hr
  have hcl := clR_tab (tx := tx) (L := L) (D := D) (N := N) (rv := rv) hw
  rw [show (4 + 2) = 6 from rfl] at hr
  generalize tabR tx L 6 0 (tkF tx L b) (tkB tx L (tkF tx L b)) rv = R at hr hcl
  obtain ⟨ok, kR, fR, bR, rvR⟩ := R
  obtain ⟨hr1, hr2, hr3, hr4, hr5⟩ := hr
  have hr5 : ok = false := by rw [show ok = _ from hr5]; rfl
  subst hr5
  exact ⟨_, _, _, _, _, _, _, _, _, hin.1, hin.2.1, rfl, by rw [hcl]; exact hr2, Or.inl ⟨rfl, by rw [hcl]⟩⟩
theorem kX1_doClause (hL : L ≤ 200) (hf : f ≤ L) (hb : b = tkB tx L f) (hm : mat (nI D) tv (nI N) tc tm te dm vals row D v N c u s) (hrv : ∀ j, j < D → rv j = nI (v j)) : tg_Ct l mX1_doClause 1000 [.ref 0] (wK tx (nI L) (nI f) (nI b) dn (nI D) tv (nI N) tc tm te nv) (dcK tx L f b D N rv dm vals row dn) := by
  refine tg_gen (fun K0 hK0 => ?_)
  have hbb := tkB_in (tx := tx) hf
  rw [← hb] at hbb
  have hN40 : N ≤ 40 := hm.2.2.2.2.2.1
  have hvv : rvOK D tv := ⟨hm.2.2.2.2.1.2.1, fun j hj => ⟨v j, (hm.2.2.2.2.1.2.2 j hj).1, (hm.2.2.2.2.1.2.2 j hj).2, hm.1.2.1 j hj⟩⟩
  have hrt : ∀ j, j < D → rv j = tv j := fun j hj => by rw [hrv j hj, hm.1.2.1 j hj]
  show tg_G _ _ _ _ _ _ _ [.ref 0] [] _
  unfold wK
  refine tg_go bX1_doClause_0 ?_
  simp only [ti_aload, ti_getf, ti_str, List.getElem?_cons_zero, List.getElem?_cons_succ, true_and]
  refine tg_cV [1, 2] vX1_doClause_6 (kX7_isToken (i := 0) (by omega) hL hbb.1 hbb.2.1) rfl rfl rfl rfl rfl (Nat.le_of_ble_eq_true rfl) rfl (Nat.le_of_ble_eq_true rfl) (Nat.le_of_ble_eq_true rfl) (by rintro r w1 ⟨-, rfl⟩; rfl) ?_
  rintro r w1 ⟨rfl, rfl⟩
  simp only [Option.map_some, Option.map_none, Option.toList_some, Option.toList_none, List.cons_append, List.nil_append, tg_v]
  refine (show tg_G _ _ _ _ _ _ _ _ _ ((wK tx (nI L) (nI f) (nI b) dn (nI D) tv (nI N) tc tm te nv)) from ?_)
  unfold wK
  refine g_if_eq (tgt := 17) dX1_doClause_9 rfl (fun h9 => ?_) (fun h9 => ?_)
  · have h0 : wordB tx f b wTab = false := bZ_0 h9
    refine tg_go bX1_doClause_17 ?_
    simp only [ti_aload, ti_getf, ti_str, List.getElem?_cons_zero, List.getElem?_cons_succ, true_and]
    refine tg_cV [1, 2] vX1_doClause_23 (kX7_isToken (i := 1) (by omega) hL hbb.1 hbb.2.1) rfl rfl rfl rfl rfl (Nat.le_of_ble_eq_true rfl) rfl (Nat.le_of_ble_eq_true rfl) (Nat.le_of_ble_eq_true rfl) (by rintro r w1 ⟨-, rfl⟩; rfl) ?_
    rintro r w1 ⟨rfl, rfl⟩
    simp only [Option.map_some, Option.map_none, Option.toList_some, Option.toList_none, List.cons_append, List.nil_append, tg_v]
    refine (show tg_G _ _ _ _ _ _ _ _ _ ((wK tx (nI L) (nI f) (nI b) dn (nI D) tv (nI N) tc tm te nv)) from ?_)
    unfold wK
    refine g_if_eq (tgt := 34) dX1_doClause_26 rfl (fun h26 => ?_) (fun h26 => ?_)
    · have h1 : wordB tx f b wSup = false := bZ_0 h26
      refine tg_go bX1_doClause_34 ?_
      simp only [ti_aload, ti_getf, ti_str, List.getElem?_cons_zero, List.getElem?_cons_succ, true_and]
      refine tg_cV [1, 2] vX1_doClause_40 (kX7_isToken (i := 2) (by omega) hL hbb.1 hbb.2.1) rfl rfl rfl rfl rfl (Nat.le_of_ble_eq_true rfl) rfl (Nat.le_of_ble_eq_true rfl) (Nat.le_of_ble_eq_true rfl) (by rintro r w1 ⟨-, rfl⟩; rfl) ?_
      rintro r w1 ⟨rfl, rfl⟩
      simp only [Option.map_some, Option.map_none, Option.toList_some, Option.toList_none, List.cons_append, List.nil_append, tg_v]
      refine (show tg_G _ _ _ _ _ _ _ _ _ ((wK tx (nI L) (nI f) (nI b) dn (nI D) tv (nI N) tc tm te nv)) from ?_)
      unfold wK
      refine g_if_eq (tgt := 69) dX1_doClause_43 rfl (fun h43 => ?_) (fun h43 => ?_)
      · have h2 : wordB tx f b wRow = false := bZ_0 h43
        have hw : wdH tx f b = -1 := by unfold wdH; rw [h0, h1, h2, if_neg (by decide), if_neg (by decide), if_neg (by decide)]
        refine tg_go bX1_doClause_69 ?_
        simp only [ti_push, List.getElem?_cons_zero, List.getElem?_cons_succ, true_and]
        refine g_zret dX1_doClause_70 rfl (by first | exact Or.inl rfl | exact Or.inr rfl | assumption) ?_
        exact hK0 _ _ (dc_no hf hb (Or.inl hw))
      · have h2 : wordB tx f b wRow = true := bZ_n h43
        have hw : wdH tx f b = 2 := by unfold wdH; rw [h0, h1, if_neg (by decide), if_neg (by decide), if_pos h2]
        refine tg_go bX1_doClause_46 ?_
        simp only [ti_aload, ti_getf, ti_push, List.getElem?_cons_zero, List.getElem?_cons_succ, true_and]
        refine g_icmp_ge (tgt := 69) dX1_doClause_55 rfl (fun h55 => ?_) (fun h55 => ?_)
        · rw [fa_lit, lI_le (by omega) (by omega)] at h55
          refine tg_go bX1_doClause_69 ?_
          simp only [ti_push, List.getElem?_cons_zero, List.getElem?_cons_succ, true_and]
          refine g_zret dX1_doClause_70 rfl (by first | exact Or.inl rfl | exact Or.inr rfl | assumption) ?_
          exact hK0 _ _ (dc_no hf hb (Or.inr ⟨hw, by omega⟩))
        · rw [fa_lit, lI_le (by omega) (by omega)] at h55
          refine tg_go bX1_doClause_58 ?_
          simp only [ti_aload, List.getElem?_cons_zero, List.getElem?_cons_succ, true_and]
          refine tg_cWe vX1_doClause_59 (kX1_doRow hL hbb.2.1 hvv (by omega)) rfl rfl rfl rfl (Nat.le_of_ble_eq_true rfl) (Nat.le_of_ble_eq_true rfl) (Nat.le_of_ble_eq_true rfl) (by rintro r w1 ⟨ok, f2, b2, cc, x, -, ⟨-, -, rfl⟩ | ⟨-, -, rfl⟩⟩ <;> rfl) ?_
          rintro r w1 ⟨ok, f2, b2, cc, x, hT, ⟨rfl, rfl, rfl⟩ | ⟨rfl, rfl, rfl⟩⟩ <;> simp only [Option.toList_some, List.cons_append, List.nil_append]
          · refine g_if_eq (tgt := 69) dX1_doClause_62 rfl (fun h62 => ?_) (fun h62 => ?_)
            · refine tg_go bX1_doClause_69 ?_
              simp only [ti_push, List.getElem?_cons_zero, List.getElem?_cons_succ, true_and]
              refine g_zret dX1_doClause_70 rfl (by first | exact Or.inl rfl | exact Or.inr rfl | assumption) ?_
              exact hK0 _ _ (dc_row0 hbb.2.1 hrt hw (by omega) hT)
            · exact absurd rfl h62
          · refine g_if_eq (tgt := 69) dX1_doClause_62 rfl (fun h62 => ?_) (fun h62 => ?_)
            · exact absurd h62 (by decide)
            · refine tg_go bX1_doClause_65 ?_
              simp only [ti_push, List.getElem?_cons_zero, List.getElem?_cons_succ, true_and]
              refine g_goto (tgt := 70) dX1_doClause_66 rfl ?_
              refine g_zret dX1_doClause_70 rfl (by first | exact Or.inl rfl | exact Or.inr rfl | assumption) ?_
              exact hK0 _ _ (dc_row hbb.2.1 hm hrv hw (by omega) hT)
    · have h1 : wordB tx f b wSup = true := bZ_n h26
      have hw : wdH tx f b = 1 := by unfold wdH; rw [h0, if_neg (by decide), if_pos h1]
      refine tg_go bX1_doClause_29 ?_
      simp only [ti_aload, List.getElem?_cons_zero, List.getElem?_cons_succ, true_and]
      refine tg_cWe vX1_doClause_30 (kX1_doSupport hL hbb.2.1) rfl rfl rfl rfl (Nat.le_of_ble_eq_true rfl) (Nat.le_of_ble_eq_true rfl) (Nat.le_of_ble_eq_true rfl) (by rintro r w1 (⟨-, -, rfl⟩ | ⟨x, -, -, rfl⟩) <;> rfl) ?_
      rintro r w1 (⟨hx, rfl, rfl⟩ | ⟨x, hx, rfl, rfl⟩) <;> simp only [Option.toList_some, List.cons_append, List.nil_append]
      · exact g_zret dX1_doClause_33 rfl (Or.inl rfl) (hK0 _ _ (dc_sup0 hbb.2.1 hw hx))
      · exact g_zret dX1_doClause_33 rfl (Or.inr rfl) (hK0 _ _ (dc_sup hbb.2.1 hm hrv hw hx))
  · have h0 : wordB tx f b wTab = true := bZ_n h9
    have hw : wdH tx f b = 0 := by unfold wdH; rw [if_pos h0]
    refine tg_go bX1_doClause_12 ?_
    simp only [ti_aload, List.getElem?_cons_zero, List.getElem?_cons_succ, true_and]
    refine tg_cWe vX1_doClause_13 (kX1_doTable hL hbb.2.1) rfl rfl rfl rfl (Nat.le_of_ble_eq_true rfl) (Nat.le_of_ble_eq_true rfl) (Nat.le_of_ble_eq_true rfl) (by rintro r w1 ⟨k, f2, b2, nv2, -, ⟨-, -, rfl⟩ | ⟨-, -, rfl⟩⟩ <;> rfl) ?_
    rintro r w1 ⟨k, f2, b2, nv2, hT, ⟨hk, rfl, rfl⟩ | ⟨hk, rfl, rfl⟩⟩ <;> simp only [Option.toList_some, List.cons_append, List.nil_append]
    · subst hk
      exact g_zret dX1_doClause_16 rfl (Or.inl rfl) (hK0 _ _ (dc_tab0 hbb.2.1 hw hT))
    · exact g_zret dX1_doClause_16 rfl (Or.inr rfl) (hK0 _ _ (dc_tab hbb.2.1 hm hw hT hk))
end DRAFT
