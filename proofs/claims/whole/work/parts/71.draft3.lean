/-! THE CLASS: draftUpon: the whole text -/
section DRAFT3
variable {tx : Nat → Int32} {L m q : Nat} {R : Bool × Nat × Nat × Nat × (Nat → Int32) × Nat} {E : Int32 × (Nat → Int32) × (Nat → Int32)}
theorem rd_no (h : R.1 = false ∨ ¬ R.2.1 < L) : rdR tx L (m + 1) q R = (R, q) ∧ rdE tx L (m + 1) q R E = E := by
  have hc : ¬ (R.1 = true ∧ R.2.1 < L) := by
    rintro ⟨h1, h2⟩
    rcases h with h | h
    · rw [h1] at h; cases h
    · exact h h2
  exact ⟨by rw [rdR, if_neg hc], by rw [rdE, if_neg hc]⟩
theorem rd_bad (h1 : R.1 = true) (h2 : R.2.1 < L) (h3 : ¬ (q < 24 ∧ tx R.2.1 = 59)) : rdR tx L (m + 1) q R = ((false, R.2), q) := by
  rw [rdR, if_pos ⟨h1, h2⟩, if_neg h3]
theorem rd_go (h1 : R.1 = true) (h2 : R.2.1 < L) (h3 : q < 24 ∧ tx R.2.1 = 59) : rdR tx L (m + 1) q R = rdR tx L m (q + 1) (clR tx L (tkF tx L R.2.2.1) (tkB tx L (tkF tx L R.2.2.1)) R.2.2.2.1 R.2.2.2.2.2 R.2.2.2.2.1) ∧ rdE tx L (m + 1) q R E = rdE tx L m (q + 1) (clR tx L (tkF tx L R.2.2.1) (tkB tx L (tkF tx L R.2.2.1)) R.2.2.2.1 R.2.2.2.2.2 R.2.2.2.2.1) (clE tx L (tkF tx L R.2.2.1) (tkB tx L (tkF tx L R.2.2.1)) R.2.2.2.1 R.2.2.2.2.2 R.2.2.2.2.1 E.1 E.2.1 E.2.2) :=
  ⟨by rw [rdR, if_pos ⟨h1, h2⟩, if_pos h3], by rw [rdE, if_pos ⟨h1, h2⟩, if_pos h3]⟩
end DRAFT3
section DRAFT4
variable {l : tg_Ln} {K : Option Value → List va_E → Prop} {tx nv ov oc om : Nat → Int32} {L : Nat} {od on oe : Int32}
theorem kX1_dU_25 {f : Nat} {tb td tn te : Int32} {tv tc tm : Nat → Int32} (hK : K (some (.int (nI f))) (wKT tx (nI L) (nI f) tb (nI 25) td tv tn tc tm te nv od ov on oc om oe)) : tg_G l mX1_draftUpon 1000 K 0 0 20 [.ref 0, .ref 8] [] (wKT tx (nI L) (nI f) tb (nI 25) td tv tn tc tm te nv od ov on oc om oe) := by
  unfold wKT at hK ⊢
  refine tg_go bX1_draftUpon_20 ?_
  simp only [ti_aload, ti_getf, ti_push, List.getElem?_cons_zero, List.getElem?_cons_succ, true_and]
  refine g_icmp_gt (tgt := 96) dX1_draftUpon_26 rfl (fun h26 => ?_) (fun h26 => ?_)
  · refine tg_go bX1_draftUpon_96 ?_
    simp only [ti_aload, ti_getf, List.getElem?_cons_zero, List.getElem?_cons_succ, true_and]
    refine g_iret dX1_draftUpon_103 rfl ?_
    exact hK
  · exact absurd (by decide) h26
theorem kX1_dU_l (hL : L ≤ 200) (ok0 : Bool) (f0 b0 D0 N0 : Nat) (rv0 : Nat → Int32) (q0 : Nat) (E0 : Int32 × (Nat → Int32) × (Nat → Int32)) (hK : ∀ ts tb dn td tv tn tc tm te nv, (ok0 = true → dn = nI q0 ∧ ∃ d v n c u s, mat td tv tn tc tm te E0.1 E0.2.1 E0.2.2 d v n c u s) → K (some (.int (if ok0 = true then -1 else nI f0))) (wKT tx (nI L) ts tb dn td tv tn tc tm te nv od ov on oc om oe)) : ∀ (m q b D N : Nat) (rv : Nat → Int32) (dm : Int32) (vals row : Nat → Int32) (v c : Nat → Nat) (u : Nat → Int32) (s : Nat) (ts td : Int32) (tv : Nat → Int32) (tn : Int32) (tc tm : Nat → Int32) (te : Int32) (nv : Nat → Int32), m + q = 25 → 1 ≤ q → q ≤ 24 → b ≤ L → mat td tv tn tc tm te dm vals row D v N c u s → (∀ j, j < D → rv j = nI (v j)) → rdR tx L m q (clR tx L (tkF tx L b) (tkB tx L (tkF tx L b)) D N rv) = ((ok0, f0, b0, D0, rv0, N0), q0) → (ok0 = true → rdE tx L m q (clR tx L (tkF tx L b) (tkB tx L (tkF tx L b)) D N rv) (clE tx L (tkF tx L b) (tkB tx L (tkF tx L b)) D N rv dm vals row) = E0) → tg_G l mX1_draftUpon 1000 K 0 0 20 [.ref 0, .ref 8] [] (wKT tx (nI L) ts (nI b) (nI q) td tv tn tc tm te nv od ov on oc om oe) := by
  intro m
  induction m with
  | zero => intro q b D N rv dm vals row v c u s ts td tv tn tc tm te nv h1 h2 h3; omega
  | succ m ih =>
    intro q b D N rv dm vals row v c u s ts td tv tn tc tm te nv hq hq1 hq24 hb hm hrv hrd hre
    have hf := tkF_le (tx := tx) hb
    have hbb := tkB_in (tx := tx) hf
    obtain ⟨rfl, hvv, rfl, hrest⟩ := id hm.1
    unfold wKT
    refine tg_go bX1_draftUpon_20 ?_
    simp only [ti_aload, ti_getf, ti_push, List.getElem?_cons_zero, List.getElem?_cons_succ, true_and]
    refine g_icmp_gt (tgt := 96) dX1_draftUpon_26 rfl (fun h26 => ?_) (fun h26 => ?_)
    · rw [fa_lit, lI_lt (by omega) (by omega)] at h26; omega
    · refine tg_go bX1_draftUpon_29 ?_
      simp only [ti_aload, ti_getf, List.getElem?_cons_zero, List.getElem?_cons_succ, true_and]
      refine tg_cV [1, 2] vX1_draftUpon_33 (kX7_toNextToken hL hb) rfl rfl rfl rfl rfl (Nat.le_of_ble_eq_true rfl) rfl (Nat.le_of_ble_eq_true rfl) (Nat.le_of_ble_eq_true rfl) (by rintro r w1 ⟨-, rfl⟩; rfl) ?_
      rintro r w1 ⟨rfl, rfl⟩
      simp only [Option.map_some, Option.map_none, Option.toList_some, Option.toList_none, List.cons_append, List.nil_append, tg_v]
      refine (show tg_G _ _ _ _ _ _ _ _ _ ((wKT tx (nI L) (nI (tkF tx L b)) (nI (tkB tx L (tkF tx L b))) (nI q) (nI D) tv (nI N) tc tm te nv od ov on oc om oe)) from ?_)
      unfold wKT
      refine tg_go bX1_draftUpon_36 ?_
      simp only [ti_aload, List.getElem?_cons_zero, List.getElem?_cons_succ, true_and]
      refine tg_cV [0, 1, 2, 3, 4, 5, 6, 7] vX1_draftUpon_37 (kX1_doClause (dn := nI q) (nv := nv) hL hf rfl hm hrv) rfl rfl rfl rfl rfl (Nat.le_of_ble_eq_true rfl) rfl (Nat.le_of_ble_eq_true rfl) (Nat.le_of_ble_eq_true rfl) (by rintro r w1 ⟨f2, b2, td, tv, tn, tc, tm, te, nv, -, -, rfl, -⟩; rfl) ?_
      rintro r w1 ⟨f2, b2, td, tv, tn, tc, tm, te, nv, hf2, rfl, rfl, hcl, hcase⟩
      have hbb2 := tkB_in (tx := tx) hf2
      rcases hcase with ⟨rfl, h1⟩ | ⟨rfl, h1, h2, h3⟩ | ⟨rfl, h1, h2, v', c', u', s', hm', hrv'⟩ <;> simp only [Option.map_some, Option.toList_some, List.cons_append, List.nil_append, tg_v] <;> refine (show tg_G _ _ _ _ _ _ _ _ _ (wKT tx (nI L) (nI f2) (nI (tkB tx L f2)) (nI q) td tv tn tc tm te nv od ov on oc om oe) from ?_) <;> unfold wKT
      · refine g_if_ne (tgt := 51) dX1_draftUpon_40 rfl (fun h40 => ?_) (fun h40 => ?_)
        · exact absurd rfl h40
        · refine tg_go bX1_draftUpon_43 ?_
          simp only [ti_aload, ti_getf, List.getElem?_cons_zero, List.getElem?_cons_succ, true_and]
          refine g_iret dX1_draftUpon_50 rfl ?_
          rw [(rd_no (E := clE tx L (tkF tx L b) (tkB tx L (tkF tx L b)) D N rv dm vals row) (Or.inl h1)).1] at hrd
          have e1 : (clR tx L (tkF tx L b) (tkB tx L (tkF tx L b)) D N rv).1 = ok0 := congrArg (fun z => z.1.1) hrd
          have e2 : (clR tx L (tkF tx L b) (tkB tx L (tkF tx L b)) D N rv).2.1 = f0 := congrArg (fun z => z.1.2.1) hrd
          rw [h1] at e1
          rw [hcl] at e2
          subst e1 e2
          exact hK _ _ _ _ _ _ _ _ _ _ (fun h => by cases h)
      · refine g_if_ne (tgt := 51) dX1_draftUpon_40 rfl (fun h40 => ?_) (fun h40 => ?_)
        · refine tg_go bX1_draftUpon_51 ?_
          simp only [ti_aload, ti_getf, List.getElem?_cons_zero, List.getElem?_cons_succ, true_and]
          refine tg_cV [1, 2] vX1_draftUpon_55 (kX7_isAtEnd hL hf2) rfl rfl rfl rfl rfl (Nat.le_of_ble_eq_true rfl) rfl (Nat.le_of_ble_eq_true rfl) (Nat.le_of_ble_eq_true rfl) (by rintro r w1 ⟨-, rfl⟩; rfl) ?_
          rintro r w1 ⟨rfl, rfl⟩
          simp only [Option.map_some, Option.map_none, Option.toList_some, Option.toList_none, List.cons_append, List.nil_append, tg_v]
          refine (show tg_G _ _ _ _ _ _ _ _ _ ((wKT tx (nI L) (nI f2) (nI (tkB tx L f2)) (nI q) td tv tn tc tm te nv od ov on oc om oe)) from ?_)
          unfold wKT
          refine g_if_eq (tgt := 63) dX1_draftUpon_58 rfl (fun h58 => ?_) (fun h58 => ?_)
          · have hne : ¬ f2 = L := of_decide_eq_false (bZ_0 h58)
            refine tg_go bX1_draftUpon_63 ?_
            simp only [ti_aload, ti_getf, ti_str, List.getElem?_cons_zero, List.getElem?_cons_succ, true_and]
            refine tg_cV [1, 2] vX1_draftUpon_69 (kX7_isToken (i := 3) (by omega) hL hbb2.1 hbb2.2.1) rfl rfl rfl rfl rfl (Nat.le_of_ble_eq_true rfl) rfl (Nat.le_of_ble_eq_true rfl) (Nat.le_of_ble_eq_true rfl) (by rintro r w1 ⟨-, rfl⟩; rfl) ?_
            rintro r w1 ⟨rfl, rfl⟩
            simp only [Option.map_some, Option.map_none, Option.toList_some, Option.toList_none, List.cons_append, List.nil_append, tg_v]
            refine (show tg_G _ _ _ _ _ _ _ _ _ ((wKT tx (nI L) (nI f2) (nI (tkB tx L f2)) (nI q) td tv tn tc tm te nv od ov on oc om oe)) from ?_)
            rw [semi_tok (show f2 < L by omega)]
            unfold wKT
            refine g_if_ne (tgt := 83) dX1_draftUpon_72 rfl (fun h72 => ?_) (fun h72 => ?_)
            · exact absurd (of_decide_eq_true (bZ_n h72)) h3
            · refine tg_go bX1_draftUpon_75 ?_
              simp only [ti_aload, ti_getf, List.getElem?_cons_zero, List.getElem?_cons_succ, true_and]
              refine g_iret dX1_draftUpon_82 rfl ?_
              rw [(rd_no (E := clE tx L (tkF tx L b) (tkB tx L (tkF tx L b)) D N rv dm vals row) (Or.inl h1)).1] at hrd
              have e1 : (clR tx L (tkF tx L b) (tkB tx L (tkF tx L b)) D N rv).1 = ok0 := congrArg (fun z => z.1.1) hrd
              have e2 : (clR tx L (tkF tx L b) (tkB tx L (tkF tx L b)) D N rv).2.1 = f0 := congrArg (fun z => z.1.2.1) hrd
              rw [h1] at e1
              rw [hcl] at e2
              subst e1 e2
              exact hK _ _ _ _ _ _ _ _ _ _ (fun h => by cases h)
          · exact absurd (of_decide_eq_true (bZ_n h58)) h2
        · exact absurd h40 (by decide)
      · refine g_if_ne (tgt := 51) dX1_draftUpon_40 rfl (fun h40 => ?_) (fun h40 => ?_)
        · refine tg_go bX1_draftUpon_51 ?_
          simp only [ti_aload, ti_getf, List.getElem?_cons_zero, List.getElem?_cons_succ, true_and]
          refine tg_cV [1, 2] vX1_draftUpon_55 (kX7_isAtEnd hL hf2) rfl rfl rfl rfl rfl (Nat.le_of_ble_eq_true rfl) rfl (Nat.le_of_ble_eq_true rfl) (Nat.le_of_ble_eq_true rfl) (by rintro r w1 ⟨-, rfl⟩; rfl) ?_
          rintro r w1 ⟨rfl, rfl⟩
          simp only [Option.map_some, Option.map_none, Option.toList_some, Option.toList_none, List.cons_append, List.nil_append, tg_v]
          refine (show tg_G _ _ _ _ _ _ _ _ _ ((wKT tx (nI L) (nI f2) (nI (tkB tx L f2)) (nI q) td tv tn tc tm te nv od ov on oc om oe)) from ?_)
          unfold wKT
          refine g_if_eq (tgt := 63) dX1_draftUpon_58 rfl (fun h58 => ?_) (fun h58 => ?_)
          · have hne : ¬ f2 = L := of_decide_eq_false (bZ_0 h58)
            refine tg_go bX1_draftUpon_63 ?_
            simp only [ti_aload, ti_getf, ti_str, List.getElem?_cons_zero, List.getElem?_cons_succ, true_and]
            refine tg_cV [1, 2] vX1_draftUpon_69 (kX7_isToken (i := 3) (by omega) hL hbb2.1 hbb2.2.1) rfl rfl rfl rfl rfl (Nat.le_of_ble_eq_true rfl) rfl (Nat.le_of_ble_eq_true rfl) (Nat.le_of_ble_eq_true rfl) (by rintro r w1 ⟨-, rfl⟩; rfl) ?_
            rintro r w1 ⟨rfl, rfl⟩
            simp only [Option.map_some, Option.map_none, Option.toList_some, Option.toList_none, List.cons_append, List.nil_append, tg_v]
            refine (show tg_G _ _ _ _ _ _ _ _ _ ((wKT tx (nI L) (nI f2) (nI (tkB tx L f2)) (nI q) td tv tn tc tm te nv od ov on oc om oe)) from ?_)
            rw [semi_tok (show f2 < L by omega)]
            unfold wKT
            refine g_if_ne (tgt := 83) dX1_draftUpon_72 rfl (fun h72 => ?_) (fun h72 => ?_)
            · have h9 : tx f2 = 59 := of_decide_eq_true (bZ_n h72)
              refine tg_go bX1_draftUpon_83 ?_
              simp only [ti_aload, ti_dup, ti_getf, ti_iadd, ti_push, ti_putfI, Value.category, List.getElem?_cons_zero, List.getElem?_cons_succ, List.set_cons_zero, List.set_cons_succ, true_and]
              rw [nI_1]
              refine g_goto (tgt := 20) dX1_draftUpon_93 rfl ?_
              by_cases h24 : q < 24
              · obtain ⟨hg1, hg2⟩ := rd_go (tx := tx) (L := L) (m := m) (q := q) (E := clE tx L (tkF tx L b) (tkB tx L (tkF tx L b)) D N rv dm vals row) (R := clR tx L (tkF tx L b) (tkB tx L (tkF tx L b)) D N rv) h1 (by rw [hcl]; omega) ⟨h24, by rw [hcl]; exact h9⟩
                rw [hg1] at hrd
                rw [hg2] at hre
                rw [h2] at hrd hre
                exact ih (q + 1) (tkB tx L f2) _ _ _ _ _ _ v' c' u' s' _ _ _ _ _ _ _ _ (by omega) (by omega) (by omega) hbb2.2.1 hm' hrv' hrd hre
              · obtain rfl : q = 24 := by omega
                rw [rd_bad h1 (by rw [hcl]; omega) (fun z => absurd z.1 (by omega))] at hrd
                have e1 : false = ok0 := congrArg (fun z => z.1.1) hrd
                have e2 : (clR tx L (tkF tx L b) (tkB tx L (tkF tx L b)) D N rv).2.1 = f0 := congrArg (fun z => z.1.2.1) hrd
                rw [hcl] at e2
                subst e1 e2
                exact kX1_dU_25 (hK _ _ _ _ _ _ _ _ _ _ (fun h => by cases h))
            · refine tg_go bX1_draftUpon_75 ?_
              simp only [ti_aload, ti_getf, List.getElem?_cons_zero, List.getElem?_cons_succ, true_and]
              refine g_iret dX1_draftUpon_82 rfl ?_
              have h9 : ¬ tx f2 = 59 := of_decide_eq_false (bZ_0 h72)
              rw [rd_bad h1 (by rw [hcl]; omega) (by rw [hcl]; exact fun z => h9 z.2)] at hrd
              have e1 : false = ok0 := congrArg (fun z => z.1.1) hrd
              have e2 : (clR tx L (tkF tx L b) (tkB tx L (tkF tx L b)) D N rv).2.1 = f0 := congrArg (fun z => z.1.2.1) hrd
              rw [hcl] at e2
              subst e1 e2
              exact hK _ _ _ _ _ _ _ _ _ _ (fun h => by cases h)
          · have heq : f2 = L := of_decide_eq_true (bZ_n h58)
            refine tg_go bX1_draftUpon_61 ?_
            simp only [ti_push, List.getElem?_cons_zero, List.getElem?_cons_succ, true_and]
            refine g_iret dX1_draftUpon_62 rfl ?_
            have hno := rd_no (tx := tx) (L := L) (m := m) (q := q) (E := clE tx L (tkF tx L b) (tkB tx L (tkF tx L b)) D N rv dm vals row) (R := clR tx L (tkF tx L b) (tkB tx L (tkF tx L b)) D N rv) (Or.inr (by rw [hcl]; omega))
            rw [hno.1] at hrd
            rw [hno.2] at hre
            have e1 : (clR tx L (tkF tx L b) (tkB tx L (tkF tx L b)) D N rv).1 = ok0 := congrArg (fun z => z.1.1) hrd
            have e3 : q = q0 := congrArg (fun z => z.2) hrd
            rw [h1] at e1
            subst e1 e3
            have hre := hre rfl
            rw [hre] at hm'
            exact hK _ _ _ _ _ _ _ _ _ _ (fun _ => ⟨rfl, _, _, _, _, _, _, hm'⟩)
        · exact absurd h40 (by decide)
/-- the whole text, done on a draft -/
def duK (tx : Nat → Int32) (L d n : Nat) (vals row : Nat → Int32) (od : Int32) (ov : Nat → Int32) (on : Int32) (oc om : Nat → Int32) (oe : Int32) (r : Option Value) (w : List va_E) : Prop := r = some (.int (if (txR tx L d n vals).1.1 = true then -1 else nI (txR tx L d n vals).1.2.1)) ∧ ∃ ts tb dn td tv tn tc tm te nv, w = (wKT tx (nI L) ts tb dn td tv tn tc tm te nv od ov on oc om oe) ∧ ((txR tx L d n vals).1.1 = true → dn = nI (txR tx L d n vals).2 ∧ ∃ d' v' n' c' u' s', mat td tv tn tc tm te (txE tx L d n vals (nI d) vals row).1 (txE tx L d n vals (nI d) vals row).2.1 (txE tx L d n vals (nI d) vals row).2.2 d' v' n' c' u' s')
theorem kX1_draftUpon {ts tb dn td tn te : Int32} {tv tc tm vals row : Nat → Int32} {d n s : Nat} {v c : Nat → Nat} {u : Nat → Int32} (hL : L ≤ 200) (hm : mat od ov on oc om oe (nI d) vals row d v n c u s) : tg_Ct l mX1_draftUpon 1000 [.ref 0, .ref 8] (wKT tx (nI L) ts tb dn td tv tn tc tm te nv od ov on oc om oe) (duK tx L d n vals row od ov on oc om oe) := by
  refine tg_gen (fun K0 hK0 => ?_)
  unfold duK at hK0
  show tg_G _ _ _ _ _ _ _ [.ref 0, .ref 8] [] _
  unfold wKT
  refine tg_go bX1_draftUpon_0 ?_
  simp only [ti_aload, ti_getf, List.getElem?_cons_zero, List.getElem?_cons_succ, true_and]
  refine tg_cV [3, 4, 5, 6, 8, 9, 10, 11] vX1_draftUpon_5 (kX6_copyFrom) rfl rfl rfl rfl rfl (Nat.le_of_ble_eq_true rfl) rfl (Nat.le_of_ble_eq_true rfl) (Nat.le_of_ble_eq_true rfl) (by rintro r w1 ⟨-, rfl⟩; rfl) ?_
  rintro r w1 ⟨rfl, rfl⟩
  simp only [Option.map_some, Option.map_none, Option.toList_some, Option.toList_none, List.cons_append, List.nil_append, tg_v]
  refine (show tg_G _ _ _ _ _ _ _ _ _ ((wKT tx (nI L) ts tb dn od ov on oc om oe nv od ov on oc om oe)) from ?_)
  unfold wKT
  refine tg_go bX1_draftUpon_8 ?_
  simp only [ti_aload, ti_getf, List.getElem?_cons_zero, List.getElem?_cons_succ, true_and]
  refine tg_cV [1, 2] vX1_draftUpon_12 (kX7_rewind) rfl rfl rfl rfl rfl (Nat.le_of_ble_eq_true rfl) rfl (Nat.le_of_ble_eq_true rfl) (Nat.le_of_ble_eq_true rfl) (by rintro r w1 ⟨-, rfl⟩; rfl) ?_
  rintro r w1 ⟨rfl, rfl⟩
  simp only [Option.map_some, Option.map_none, Option.toList_some, Option.toList_none, List.cons_append, List.nil_append, tg_v]
  refine (show tg_G _ _ _ _ _ _ _ _ _ ((wKT tx (nI L) ts 0 dn od ov on oc om oe nv od ov on oc om oe)) from ?_)
  unfold wKT
  refine tg_go bX1_draftUpon_15 ?_
  simp only [ti_aload, ti_push, ti_putfI, List.getElem?_cons_zero, List.getElem?_cons_succ, List.set_cons_zero, List.set_cons_succ, true_and]
  unfold txR txE at hK0
  refine kX1_dU_l (q0 := (rdR tx L 24 1 (clR tx L (tkF tx L 0) (tkB tx L (tkF tx L 0)) d n vals)).2) hL _ _ _ _ _ _ _ (fun ts tb dn td tv tn tc tm te nv h => hK0 _ _ ⟨rfl, ts, tb, dn, td, tv, tn, tc, tm, te, nv, rfl, h⟩) 24 1 0 d n vals (nI d) vals row v c u s ts od ov on oc om oe nv rfl (by omega) (by omega) (Nat.zero_le _) hm hm.2.2.1 rfl (fun _ => rfl)
end DRAFT4
