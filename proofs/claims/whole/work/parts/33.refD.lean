/-! THE REFERENCE: words, numbers, clauses -/
section REFD
variable {l : tg_Ln} {K : Option Value → List va_E → Prop} {row vals kp tx sz rv ct bm : Nat → Int32} {dm un len fi be rD rM cl dg nu my su le gr cz vi ov : Int32} {it : Nat → Int64} {ask : Int64} {L f b : Nat}
theorem kX9_isWord_8_l (hL : L ≤ 200) (hb : f ≤ b) (hbL : b ≤ L) (hD : b - f = 5) (hK : K (some (.int (bZ (allB (fun k => decide (tx (f + k) = wTab.getD k 0)) 5)))) (wM row dm vals un kp tx len sz it ask (nI f) (nI b) rD rM cl dg nu my su le gr cz vi ov rv ct bm)) : ∀ (m k : Nat), 5 - k < m → k ≤ 5 → tg_G l mX9_isWord 1000 K 0 0 22 [.ref 0, .ref 8, .int (bZ (allB (fun k => decide (tx (f + k) = wTab.getD k 0)) k)), .int (nI k)] [] (wM row dm vals un kp tx len sz it ask (nI f) (nI b) rD rM cl dg nu my su le gr cz vi ov rv ct bm) := by
  intro m
  induction m with
  | zero => intro k h; omega
  | succ m ih =>
    intro k hm hk
    unfold wM at ih hK ⊢
    refine tg_go bX9_isWord_22 ?_
    simp only [ti_alen, ti_aload, ti_iload, List.getElem?_cons_zero, List.getElem?_cons_succ, true_and]
    refine ⟨by decide, ?_⟩
    refine g_icmp_ge (tgt := 61) dX9_isWord_25 rfl (fun h25 => ?_) (fun h25 => ?_)
    · have h25 : nI 5 ≤ nI k := h25
      rw [lI_le (by omega) (by omega)] at h25
      obtain rfl : k = 5 := by omega
      refine tg_go bX9_isWord_61 ?_
      simp only [ti_iload, List.getElem?_cons_zero, List.getElem?_cons_succ, true_and]
      refine g_zret dX9_isWord_62 rfl (bZ_01 _) ?_
      exact hK
    · have h25 : ¬ nI 5 ≤ nI k := h25
      rw [lI_le (by omega) (by omega)] at h25
      refine tg_go bX9_isWord_28 ?_
      simp only [ti_iload, List.getElem?_cons_zero, List.getElem?_cons_succ, true_and]
      refine g_if_eq (tgt := 61) dX9_isWord_29 rfl (fun h29 => ?_) (fun h29 => ?_)
      · refine tg_go bX9_isWord_61 ?_
        simp only [ti_iload, List.getElem?_cons_zero, List.getElem?_cons_succ, true_and]
        refine g_zret dX9_isWord_62 rfl (bZ_01 _) ?_
        have hm := allB_mono (5 - k) (bZ_0 h29)
        rw [show k + (5 - k) = 5 by omega] at hm
        rw [bZ_0 h29]
        rw [hm] at hK
        exact hK
      · refine tg_go bX9_isWord_32 ?_
        simp only [ti_aload, ti_getf, ti_iadd, ti_iald, ti_iload, List.getElem?_cons_zero, List.getElem?_cons_succ, true_and]
        rw [nI_add, nI_clamp (by omega), nI_clamp (by omega)]
        refine ⟨vp_in_nI (by omega) (by omega), vp_in_nI (by omega) (by omega), ?_⟩
        refine g_cut2 54 (fun z => z = bZ (decide (tx (f + k) = wTab.getD k 0))) (fun J54 => ?_) (fun z hz => ?_)
        · refine g_icmp_ne (tgt := 53) dX9_isWord_46 rfl (fun h46 => ?_) (fun h46 => ?_)
          · have h46 : ¬ tx (f + k) = wTab.getD k 0 := h46
            refine tg_go bX9_isWord_53 ?_
            simp only [ti_push, List.getElem?_cons_zero, List.getElem?_cons_succ, true_and]
            exact J54 _ (by rw [decide_eq_false h46]; rfl )
          · have h46 : tx (f + k) = wTab.getD k 0 := h46
            refine tg_go bX9_isWord_49 ?_
            simp only [ti_push, List.getElem?_cons_zero, List.getElem?_cons_succ, true_and]
            refine g_goto (tgt := 54) dX9_isWord_50 rfl ?_
            exact J54 _ (by rw [decide_eq_true h46]; rfl )
        subst hz
        refine tg_go bX9_isWord_54 ?_
        simp only [ti_iinc, ti_istore, tg_s1, tg_cl, List.getElem?_cons_zero, List.getElem?_cons_succ, List.set_cons_zero, List.set_cons_succ, true_and]
        rw [nI_1]
        refine g_goto (tgt := 22) dX9_isWord_58 rfl ?_
        have h2 := ih (k + 1) (by omega) (by omega)
        rw [allB, bZ_n h29, Bool.true_and] at h2
        exact h2
theorem kX9_isWord_8 (hL : L ≤ 200) (hb : f ≤ b) (hbL : b ≤ L) : tg_Ct l mX9_isWord 1000 [.ref 0, .ref 8] (wM row dm vals un kp tx len sz it ask (nI f) (nI b) rD rM cl dg nu my su le gr cz vi ov rv ct bm) (fun r w => r = some (.int (bZ (wordB tx f b wTab))) ∧ w = (wM row dm vals un kp tx len sz it ask (nI f) (nI b) rD rM cl dg nu my su le gr cz vi ov rv ct bm)) := by
  show tg_G _ _ _ _ _ _ _ [.ref 0, .ref 8, .null, .null] [] _
  unfold wM
  refine tg_go bX9_isWord_0 ?_
  simp only [ti_alen, ti_aload, ti_getf, ti_isub, List.getElem?_cons_zero, List.getElem?_cons_succ, true_and]
  rw [pk_sub hb]
  refine ⟨by decide, ?_⟩
  refine g_cut2 19 (fun z => z = bZ (decide (b - f = 5))) (fun J19 => ?_) (fun z hz => ?_)
  · refine g_icmp_ne (tgt := 18) dX9_isWord_11 rfl (fun h11 => ?_) (fun h11 => ?_)
    · have h11 : ¬ nI (b - f) = nI 5 := h11
      rw [lI_eq (by omega) (by omega)] at h11
      refine tg_go bX9_isWord_18 ?_
      simp only [ti_push, List.getElem?_cons_zero, List.getElem?_cons_succ, true_and]
      exact J19 _ (by rw [decide_eq_false h11]; rfl)
    · have h11 : nI (b - f) = nI 5 := h11
      rw [lI_eq (by omega) (by omega)] at h11
      refine tg_go bX9_isWord_14 ?_
      simp only [ti_push, List.getElem?_cons_zero, List.getElem?_cons_succ, true_and]
      refine g_goto (tgt := 19) dX9_isWord_15 rfl ?_
      exact J19 _ (by rw [decide_eq_true h11]; rfl)
  subst hz
  refine tg_go bX9_isWord_19 ?_
  simp only [ti_istore, ti_push, tg_s1, tg_cl, List.getElem?_cons_zero, List.getElem?_cons_succ, List.set_cons_zero, List.set_cons_succ, true_and]
  by_cases hD : b - f = 5
  · have e : wordB tx f b wTab = allB (fun k => decide (tx (f + k) = wTab.getD k 0)) 5 := by unfold wordB; rw [show wTab.length = 5 from rfl, decide_eq_true hD, Bool.true_and]
    rw [decide_eq_true hD, e]
    exact kX9_isWord_8_l hL hb hbL hD ⟨rfl, rfl⟩ 6 0 (by omega) (by omega)
  · have e : wordB tx f b wTab = false := by unfold wordB; rw [show wTab.length = 5 from rfl, decide_eq_false hD, Bool.false_and]
    rw [decide_eq_false hD, e]
    refine tg_go bX9_isWord_22 ?_
    simp only [ti_iload, ti_aload, ti_alen, List.getElem?_cons_zero, List.getElem?_cons_succ, true_and]
    refine ⟨by decide, ?_⟩
    refine g_icmp_ge (tgt := 61) dX9_isWord_25 rfl (fun h25 => absurd h25 (by decide)) (fun h25 => ?_)
    refine tg_go bX9_isWord_28 ?_
    simp only [ti_iload, List.getElem?_cons_zero, List.getElem?_cons_succ]
    refine g_if_eq (tgt := 61) dX9_isWord_29 rfl (fun h29 => ?_) (fun h29 => absurd rfl h29)
    refine tg_go bX9_isWord_61 ?_
    simp only [ti_iload, List.getElem?_cons_zero, List.getElem?_cons_succ]
    exact g_zret dX9_isWord_62 rfl (bZ_01 _) ⟨rfl, rfl⟩
theorem kX9_isWord_9_l (hL : L ≤ 200) (hb : f ≤ b) (hbL : b ≤ L) (hD : b - f = 7) (hK : K (some (.int (bZ (allB (fun k => decide (tx (f + k) = wSup.getD k 0)) 7)))) (wM row dm vals un kp tx len sz it ask (nI f) (nI b) rD rM cl dg nu my su le gr cz vi ov rv ct bm)) : ∀ (m k : Nat), 7 - k < m → k ≤ 7 → tg_G l mX9_isWord 1000 K 0 0 22 [.ref 0, .ref 9, .int (bZ (allB (fun k => decide (tx (f + k) = wSup.getD k 0)) k)), .int (nI k)] [] (wM row dm vals un kp tx len sz it ask (nI f) (nI b) rD rM cl dg nu my su le gr cz vi ov rv ct bm) := by
  intro m
  induction m with
  | zero => intro k h; omega
  | succ m ih =>
    intro k hm hk
    unfold wM at ih hK ⊢
    refine tg_go bX9_isWord_22 ?_
    simp only [ti_alen, ti_aload, ti_iload, List.getElem?_cons_zero, List.getElem?_cons_succ, true_and]
    refine ⟨by decide, ?_⟩
    refine g_icmp_ge (tgt := 61) dX9_isWord_25 rfl (fun h25 => ?_) (fun h25 => ?_)
    · have h25 : nI 7 ≤ nI k := h25
      rw [lI_le (by omega) (by omega)] at h25
      obtain rfl : k = 7 := by omega
      refine tg_go bX9_isWord_61 ?_
      simp only [ti_iload, List.getElem?_cons_zero, List.getElem?_cons_succ, true_and]
      refine g_zret dX9_isWord_62 rfl (bZ_01 _) ?_
      exact hK
    · have h25 : ¬ nI 7 ≤ nI k := h25
      rw [lI_le (by omega) (by omega)] at h25
      refine tg_go bX9_isWord_28 ?_
      simp only [ti_iload, List.getElem?_cons_zero, List.getElem?_cons_succ, true_and]
      refine g_if_eq (tgt := 61) dX9_isWord_29 rfl (fun h29 => ?_) (fun h29 => ?_)
      · refine tg_go bX9_isWord_61 ?_
        simp only [ti_iload, List.getElem?_cons_zero, List.getElem?_cons_succ, true_and]
        refine g_zret dX9_isWord_62 rfl (bZ_01 _) ?_
        have hm := allB_mono (7 - k) (bZ_0 h29)
        rw [show k + (7 - k) = 7 by omega] at hm
        rw [bZ_0 h29]
        rw [hm] at hK
        exact hK
      · refine tg_go bX9_isWord_32 ?_
        simp only [ti_aload, ti_getf, ti_iadd, ti_iald, ti_iload, List.getElem?_cons_zero, List.getElem?_cons_succ, true_and]
        rw [nI_add, nI_clamp (by omega), nI_clamp (by omega)]
        refine ⟨vp_in_nI (by omega) (by omega), vp_in_nI (by omega) (by omega), ?_⟩
        refine g_cut2 54 (fun z => z = bZ (decide (tx (f + k) = wSup.getD k 0))) (fun J54 => ?_) (fun z hz => ?_)
        · refine g_icmp_ne (tgt := 53) dX9_isWord_46 rfl (fun h46 => ?_) (fun h46 => ?_)
          · have h46 : ¬ tx (f + k) = wSup.getD k 0 := h46
            refine tg_go bX9_isWord_53 ?_
            simp only [ti_push, List.getElem?_cons_zero, List.getElem?_cons_succ, true_and]
            exact J54 _ (by rw [decide_eq_false h46]; rfl )
          · have h46 : tx (f + k) = wSup.getD k 0 := h46
            refine tg_go bX9_isWord_49 ?_
            simp only [ti_push, List.getElem?_cons_zero, List.getElem?_cons_succ, true_and]
            refine g_goto (tgt := 54) dX9_isWord_50 rfl ?_
            exact J54 _ (by rw [decide_eq_true h46]; rfl )
        subst hz
        refine tg_go bX9_isWord_54 ?_
        simp only [ti_iinc, ti_istore, tg_s1, tg_cl, List.getElem?_cons_zero, List.getElem?_cons_succ, List.set_cons_zero, List.set_cons_succ, true_and]
        rw [nI_1]
        refine g_goto (tgt := 22) dX9_isWord_58 rfl ?_
        have h2 := ih (k + 1) (by omega) (by omega)
        rw [allB, bZ_n h29, Bool.true_and] at h2
        exact h2
theorem kX9_isWord_9 (hL : L ≤ 200) (hb : f ≤ b) (hbL : b ≤ L) : tg_Ct l mX9_isWord 1000 [.ref 0, .ref 9] (wM row dm vals un kp tx len sz it ask (nI f) (nI b) rD rM cl dg nu my su le gr cz vi ov rv ct bm) (fun r w => r = some (.int (bZ (wordB tx f b wSup))) ∧ w = (wM row dm vals un kp tx len sz it ask (nI f) (nI b) rD rM cl dg nu my su le gr cz vi ov rv ct bm)) := by
  show tg_G _ _ _ _ _ _ _ [.ref 0, .ref 9, .null, .null] [] _
  unfold wM
  refine tg_go bX9_isWord_0 ?_
  simp only [ti_alen, ti_aload, ti_getf, ti_isub, List.getElem?_cons_zero, List.getElem?_cons_succ, true_and]
  rw [pk_sub hb]
  refine ⟨by decide, ?_⟩
  refine g_cut2 19 (fun z => z = bZ (decide (b - f = 7))) (fun J19 => ?_) (fun z hz => ?_)
  · refine g_icmp_ne (tgt := 18) dX9_isWord_11 rfl (fun h11 => ?_) (fun h11 => ?_)
    · have h11 : ¬ nI (b - f) = nI 7 := h11
      rw [lI_eq (by omega) (by omega)] at h11
      refine tg_go bX9_isWord_18 ?_
      simp only [ti_push, List.getElem?_cons_zero, List.getElem?_cons_succ, true_and]
      exact J19 _ (by rw [decide_eq_false h11]; rfl)
    · have h11 : nI (b - f) = nI 7 := h11
      rw [lI_eq (by omega) (by omega)] at h11
      refine tg_go bX9_isWord_14 ?_
      simp only [ti_push, List.getElem?_cons_zero, List.getElem?_cons_succ, true_and]
      refine g_goto (tgt := 19) dX9_isWord_15 rfl ?_
      exact J19 _ (by rw [decide_eq_true h11]; rfl)
  subst hz
  refine tg_go bX9_isWord_19 ?_
  simp only [ti_istore, ti_push, tg_s1, tg_cl, List.getElem?_cons_zero, List.getElem?_cons_succ, List.set_cons_zero, List.set_cons_succ, true_and]
  by_cases hD : b - f = 7
  · have e : wordB tx f b wSup = allB (fun k => decide (tx (f + k) = wSup.getD k 0)) 7 := by unfold wordB; rw [show wSup.length = 7 from rfl, decide_eq_true hD, Bool.true_and]
    rw [decide_eq_true hD, e]
    exact kX9_isWord_9_l hL hb hbL hD ⟨rfl, rfl⟩ 8 0 (by omega) (by omega)
  · have e : wordB tx f b wSup = false := by unfold wordB; rw [show wSup.length = 7 from rfl, decide_eq_false hD, Bool.false_and]
    rw [decide_eq_false hD, e]
    refine tg_go bX9_isWord_22 ?_
    simp only [ti_iload, ti_aload, ti_alen, List.getElem?_cons_zero, List.getElem?_cons_succ, true_and]
    refine ⟨by decide, ?_⟩
    refine g_icmp_ge (tgt := 61) dX9_isWord_25 rfl (fun h25 => absurd h25 (by decide)) (fun h25 => ?_)
    refine tg_go bX9_isWord_28 ?_
    simp only [ti_iload, List.getElem?_cons_zero, List.getElem?_cons_succ]
    refine g_if_eq (tgt := 61) dX9_isWord_29 rfl (fun h29 => ?_) (fun h29 => absurd rfl h29)
    refine tg_go bX9_isWord_61 ?_
    simp only [ti_iload, List.getElem?_cons_zero, List.getElem?_cons_succ]
    exact g_zret dX9_isWord_62 rfl (bZ_01 _) ⟨rfl, rfl⟩
theorem kX9_isWord_10_l (hL : L ≤ 200) (hb : f ≤ b) (hbL : b ≤ L) (hD : b - f = 3) (hK : K (some (.int (bZ (allB (fun k => decide (tx (f + k) = wRow.getD k 0)) 3)))) (wM row dm vals un kp tx len sz it ask (nI f) (nI b) rD rM cl dg nu my su le gr cz vi ov rv ct bm)) : ∀ (m k : Nat), 3 - k < m → k ≤ 3 → tg_G l mX9_isWord 1000 K 0 0 22 [.ref 0, .ref 10, .int (bZ (allB (fun k => decide (tx (f + k) = wRow.getD k 0)) k)), .int (nI k)] [] (wM row dm vals un kp tx len sz it ask (nI f) (nI b) rD rM cl dg nu my su le gr cz vi ov rv ct bm) := by
  intro m
  induction m with
  | zero => intro k h; omega
  | succ m ih =>
    intro k hm hk
    unfold wM at ih hK ⊢
    refine tg_go bX9_isWord_22 ?_
    simp only [ti_alen, ti_aload, ti_iload, List.getElem?_cons_zero, List.getElem?_cons_succ, true_and]
    refine ⟨by decide, ?_⟩
    refine g_icmp_ge (tgt := 61) dX9_isWord_25 rfl (fun h25 => ?_) (fun h25 => ?_)
    · have h25 : nI 3 ≤ nI k := h25
      rw [lI_le (by omega) (by omega)] at h25
      obtain rfl : k = 3 := by omega
      refine tg_go bX9_isWord_61 ?_
      simp only [ti_iload, List.getElem?_cons_zero, List.getElem?_cons_succ, true_and]
      refine g_zret dX9_isWord_62 rfl (bZ_01 _) ?_
      exact hK
    · have h25 : ¬ nI 3 ≤ nI k := h25
      rw [lI_le (by omega) (by omega)] at h25
      refine tg_go bX9_isWord_28 ?_
      simp only [ti_iload, List.getElem?_cons_zero, List.getElem?_cons_succ, true_and]
      refine g_if_eq (tgt := 61) dX9_isWord_29 rfl (fun h29 => ?_) (fun h29 => ?_)
      · refine tg_go bX9_isWord_61 ?_
        simp only [ti_iload, List.getElem?_cons_zero, List.getElem?_cons_succ, true_and]
        refine g_zret dX9_isWord_62 rfl (bZ_01 _) ?_
        have hm := allB_mono (3 - k) (bZ_0 h29)
        rw [show k + (3 - k) = 3 by omega] at hm
        rw [bZ_0 h29]
        rw [hm] at hK
        exact hK
      · refine tg_go bX9_isWord_32 ?_
        simp only [ti_aload, ti_getf, ti_iadd, ti_iald, ti_iload, List.getElem?_cons_zero, List.getElem?_cons_succ, true_and]
        rw [nI_add, nI_clamp (by omega), nI_clamp (by omega)]
        refine ⟨vp_in_nI (by omega) (by omega), vp_in_nI (by omega) (by omega), ?_⟩
        refine g_cut2 54 (fun z => z = bZ (decide (tx (f + k) = wRow.getD k 0))) (fun J54 => ?_) (fun z hz => ?_)
        · refine g_icmp_ne (tgt := 53) dX9_isWord_46 rfl (fun h46 => ?_) (fun h46 => ?_)
          · have h46 : ¬ tx (f + k) = wRow.getD k 0 := h46
            refine tg_go bX9_isWord_53 ?_
            simp only [ti_push, List.getElem?_cons_zero, List.getElem?_cons_succ, true_and]
            exact J54 _ (by rw [decide_eq_false h46]; rfl )
          · have h46 : tx (f + k) = wRow.getD k 0 := h46
            refine tg_go bX9_isWord_49 ?_
            simp only [ti_push, List.getElem?_cons_zero, List.getElem?_cons_succ, true_and]
            refine g_goto (tgt := 54) dX9_isWord_50 rfl ?_
            exact J54 _ (by rw [decide_eq_true h46]; rfl )
        subst hz
        refine tg_go bX9_isWord_54 ?_
        simp only [ti_iinc, ti_istore, tg_s1, tg_cl, List.getElem?_cons_zero, List.getElem?_cons_succ, List.set_cons_zero, List.set_cons_succ, true_and]
        rw [nI_1]
        refine g_goto (tgt := 22) dX9_isWord_58 rfl ?_
        have h2 := ih (k + 1) (by omega) (by omega)
        rw [allB, bZ_n h29, Bool.true_and] at h2
        exact h2
theorem kX9_isWord_10 (hL : L ≤ 200) (hb : f ≤ b) (hbL : b ≤ L) : tg_Ct l mX9_isWord 1000 [.ref 0, .ref 10] (wM row dm vals un kp tx len sz it ask (nI f) (nI b) rD rM cl dg nu my su le gr cz vi ov rv ct bm) (fun r w => r = some (.int (bZ (wordB tx f b wRow))) ∧ w = (wM row dm vals un kp tx len sz it ask (nI f) (nI b) rD rM cl dg nu my su le gr cz vi ov rv ct bm)) := by
  show tg_G _ _ _ _ _ _ _ [.ref 0, .ref 10, .null, .null] [] _
  unfold wM
  refine tg_go bX9_isWord_0 ?_
  simp only [ti_alen, ti_aload, ti_getf, ti_isub, List.getElem?_cons_zero, List.getElem?_cons_succ, true_and]
  rw [pk_sub hb]
  refine ⟨by decide, ?_⟩
  refine g_cut2 19 (fun z => z = bZ (decide (b - f = 3))) (fun J19 => ?_) (fun z hz => ?_)
  · refine g_icmp_ne (tgt := 18) dX9_isWord_11 rfl (fun h11 => ?_) (fun h11 => ?_)
    · have h11 : ¬ nI (b - f) = nI 3 := h11
      rw [lI_eq (by omega) (by omega)] at h11
      refine tg_go bX9_isWord_18 ?_
      simp only [ti_push, List.getElem?_cons_zero, List.getElem?_cons_succ, true_and]
      exact J19 _ (by rw [decide_eq_false h11]; rfl)
    · have h11 : nI (b - f) = nI 3 := h11
      rw [lI_eq (by omega) (by omega)] at h11
      refine tg_go bX9_isWord_14 ?_
      simp only [ti_push, List.getElem?_cons_zero, List.getElem?_cons_succ, true_and]
      refine g_goto (tgt := 19) dX9_isWord_15 rfl ?_
      exact J19 _ (by rw [decide_eq_true h11]; rfl)
  subst hz
  refine tg_go bX9_isWord_19 ?_
  simp only [ti_istore, ti_push, tg_s1, tg_cl, List.getElem?_cons_zero, List.getElem?_cons_succ, List.set_cons_zero, List.set_cons_succ, true_and]
  by_cases hD : b - f = 3
  · have e : wordB tx f b wRow = allB (fun k => decide (tx (f + k) = wRow.getD k 0)) 3 := by unfold wordB; rw [show wRow.length = 3 from rfl, decide_eq_true hD, Bool.true_and]
    rw [decide_eq_true hD, e]
    exact kX9_isWord_10_l hL hb hbL hD ⟨rfl, rfl⟩ 4 0 (by omega) (by omega)
  · have e : wordB tx f b wRow = false := by unfold wordB; rw [show wRow.length = 3 from rfl, decide_eq_false hD, Bool.false_and]
    rw [decide_eq_false hD, e]
    refine tg_go bX9_isWord_22 ?_
    simp only [ti_iload, ti_aload, ti_alen, List.getElem?_cons_zero, List.getElem?_cons_succ, true_and]
    refine ⟨by decide, ?_⟩
    refine g_icmp_ge (tgt := 61) dX9_isWord_25 rfl (fun h25 => absurd h25 (by decide)) (fun h25 => ?_)
    refine tg_go bX9_isWord_28 ?_
    simp only [ti_iload, List.getElem?_cons_zero, List.getElem?_cons_succ]
    refine g_if_eq (tgt := 61) dX9_isWord_29 rfl (fun h29 => ?_) (fun h29 => absurd rfl h29)
    refine tg_go bX9_isWord_61 ?_
    simp only [ti_iload, List.getElem?_cons_zero, List.getElem?_cons_succ]
    exact g_zret dX9_isWord_62 rfl (bZ_01 _) ⟨rfl, rfl⟩
/-- which word stands there -/
def wdH (tx : Nat → Int32) (f b : Nat) : Int32 := if wordB tx f b wTab = true then 0 else if wordB tx f b wSup = true then 1 else if wordB tx f b wRow = true then 2 else -1
theorem kX9_wordHere (hL : L ≤ 200) (hb : f ≤ b) (hbL : b ≤ L) : tg_Ct l mX9_wordHere 1000 [.ref 0] (wM row dm vals un kp tx len sz it ask (nI f) (nI b) rD rM cl dg nu my su le gr cz vi ov rv ct bm) (fun r w => r = some (.int (wdH tx f b)) ∧ w = (wM row dm vals un kp tx len sz it ask (nI f) (nI b) rD rM cl dg nu my su le gr cz vi ov rv ct bm)) := by
  show tg_G _ _ _ _ _ _ _ [.ref 0] [] _
  unfold wM
  refine tg_go bX9_wordHere_0 ?_
  simp only [ti_aload, ti_getf, List.getElem?_cons_zero, List.getElem?_cons_succ, true_and]
  refine tg_cW vX9_wordHere_5 (kX9_isWord_8 hL hb hbL) rfl rfl rfl rfl (Nat.le_of_ble_eq_true rfl) (Nat.le_of_ble_eq_true rfl) (Nat.le_of_ble_eq_true rfl) rfl ?_
  unfold wM
  refine g_if_eq (tgt := 15) dX9_wordHere_8 rfl (fun h8 => ?_) (fun h8 => ?_)
  · have n8 : ¬ wordB tx f b wTab = true := by rw [bZ_0 h8]; decide
    refine tg_go bX9_wordHere_15 ?_
    simp only [ti_aload, ti_getf, List.getElem?_cons_zero, List.getElem?_cons_succ, true_and]
    refine tg_cW vX9_wordHere_20 (kX9_isWord_9 hL hb hbL) rfl rfl rfl rfl (Nat.le_of_ble_eq_true rfl) (Nat.le_of_ble_eq_true rfl) (Nat.le_of_ble_eq_true rfl) rfl ?_
    unfold wM
    refine g_if_eq (tgt := 30) dX9_wordHere_23 rfl (fun h23 => ?_) (fun h23 => ?_)
    · have n23 : ¬ wordB tx f b wSup = true := by rw [bZ_0 h23]; decide
      refine tg_go bX9_wordHere_30 ?_
      simp only [ti_aload, ti_getf, List.getElem?_cons_zero, List.getElem?_cons_succ, true_and]
      refine tg_cW vX9_wordHere_35 (kX9_isWord_10 hL hb hbL) rfl rfl rfl rfl (Nat.le_of_ble_eq_true rfl) (Nat.le_of_ble_eq_true rfl) (Nat.le_of_ble_eq_true rfl) rfl ?_
      unfold wM
      refine g_if_eq (tgt := 45) dX9_wordHere_38 rfl (fun h38 => ?_) (fun h38 => ?_)
      · have n38 : ¬ wordB tx f b wRow = true := by rw [bZ_0 h38]; decide
        refine tg_go bX9_wordHere_45 ?_
        simp only [ti_push, List.getElem?_cons_zero, List.getElem?_cons_succ, true_and]
        refine g_iret dX9_wordHere_46 rfl ?_
        exact ⟨by unfold wdH; rw [if_neg n8, if_neg n23, if_neg n38], rfl⟩
      · refine tg_go bX9_wordHere_41 ?_
        simp only [ti_push, List.getElem?_cons_zero, List.getElem?_cons_succ, true_and]
        refine g_goto (tgt := 46) dX9_wordHere_42 rfl ?_
        refine g_iret dX9_wordHere_46 rfl ?_
        exact ⟨by unfold wdH; rw [if_neg n8, if_neg n23, if_pos (bZ_n h38)], rfl⟩
    · refine tg_go bX9_wordHere_26 ?_
      simp only [ti_push, List.getElem?_cons_zero, List.getElem?_cons_succ, true_and]
      refine g_goto (tgt := 46) dX9_wordHere_27 rfl ?_
      refine g_iret dX9_wordHere_46 rfl ?_
      exact ⟨by unfold wdH; rw [if_neg n8, if_pos (bZ_n h23)], rfl⟩
  · refine tg_go bX9_wordHere_11 ?_
    simp only [ti_push, List.getElem?_cons_zero, List.getElem?_cons_succ, true_and]
    refine g_goto (tgt := 46) dX9_wordHere_12 rfl ?_
    refine g_iret dX9_wordHere_46 rfl ?_
    exact ⟨by unfold wdH; rw [if_pos (bZ_n h8)], rfl⟩
def endB (tx : Nat → Int32) (L f : Nat) : Bool := decide (f = L) || decide (tx f = 59)
theorem kX9_isEnd (hL : L ≤ 200) (hf : f ≤ L) : tg_Ct l mX9_isEnd 1000 [.ref 0] (wM row dm vals un kp tx (nI L) sz it ask (nI f) be rD rM cl dg nu my su le gr cz vi ov rv ct bm) (fun r w => r = some (.int (bZ (endB tx L f))) ∧ w = (wM row dm vals un kp tx (nI L) sz it ask (nI f) be rD rM cl dg nu my su le gr cz vi ov rv ct bm)) := by
  show tg_G _ _ _ _ _ _ _ [.ref 0] [] _
  unfold wM
  refine tg_go bX9_isEnd_0 ?_
  simp only [ti_aload, ti_getf, List.getElem?_cons_zero, List.getElem?_cons_succ, true_and]
  refine g_icmp_eq (tgt := 25) dX9_isEnd_8 rfl (fun h8 => ?_) (fun h8 => ?_)
  · rw [lI_eq (by omega) (by omega)] at h8
    refine tg_go bX9_isEnd_25 ?_
    simp only [ti_push, List.getElem?_cons_zero, List.getElem?_cons_succ, true_and]
    refine g_goto (tgt := 30) dX9_isEnd_26 rfl ?_
    refine g_zret dX9_isEnd_30 rfl (by first | exact Or.inl rfl | exact Or.inr rfl | assumption) ?_
    exact ⟨by unfold endB; rw [decide_eq_true h8]; rfl, rfl⟩
  · rw [lI_eq (by omega) (by omega)] at h8
    refine tg_go bX9_isEnd_11 ?_
    simp only [ti_aload, ti_getf, ti_iald, ti_push, List.getElem?_cons_zero, List.getElem?_cons_succ, true_and]
    rw [nI_clamp (by omega)]
    refine ⟨vp_in_nI (by omega) (by omega), ?_⟩
    refine g_icmp_ne (tgt := 29) dX9_isEnd_22 rfl (fun h22 => ?_) (fun h22 => ?_)
    · refine tg_go bX9_isEnd_29 ?_
      simp only [ti_push, List.getElem?_cons_zero, List.getElem?_cons_succ, true_and]
      refine g_zret dX9_isEnd_30 rfl (by first | exact Or.inl rfl | exact Or.inr rfl | assumption) ?_
      exact ⟨by unfold endB; rw [decide_eq_false h8, decide_eq_false h22]; rfl, rfl⟩
    · refine tg_go bX9_isEnd_25 ?_
      simp only [ti_push, List.getElem?_cons_zero, List.getElem?_cons_succ, true_and]
      refine g_goto (tgt := 30) dX9_isEnd_26 rfl ?_
      refine g_zret dX9_isEnd_30 rfl (by first | exact Or.inl rfl | exact Or.inr rfl | assumption) ?_
      exact ⟨by unfold endB; rw [decide_eq_false h8, decide_eq_true h22]; rfl, rfl⟩
/-- the token's number, as both read it -/
def numV (tx : Nat → Int32) (f b : Nat) : Int32 := if b - f = 2 then 10 * (tx f - 48) + tx (f + 1) - 48 else tx f - 48
def numR (tx : Nat → Int32) (L f b lo hi : Nat) : Option Nat := if (¬ f = L ∧ isDg (tx f) = true ∧ b - f ≤ 2) ∧ (lo : Int) ≤ (numV tx f b).toInt ∧ (numV tx f b).toInt ≤ hi then some (numV tx f b).toInt.toNat else none
theorem numR_in {lo hi x : Nat} (h : numR tx L f b lo hi = some x) : lo ≤ x ∧ x ≤ hi ∧ numV tx f b = nI x := by
  unfold numR at h
  split at h
  · rename_i h2
    cases h
    have h3 := x_of (x := numV tx f b) (n := hi + 1) (by omega) (by omega)
    exact ⟨by omega, by omega, h3.1⟩
  · cases h
theorem kX9_readsNumber {lo hi : Nat} (hL : L ≤ 200) (hb : f ≤ b) (hbL : b ≤ L) (hlo : lo < 2 ^ 31) (hhi : hi < 2 ^ 31) : tg_Ct l mX9_readsNumber 1000 [.ref 0, .int (nI lo), .int (nI hi)] (wM row dm vals un kp tx (nI L) sz it ask (nI f) (nI b) rD rM cl dg nu my su le gr cz vi ov rv ct bm) (fun r w => (numR tx L f b lo hi = none ∧ r = some (.int 0) ∧ w = (wM row dm vals un kp tx (nI L) sz it ask (nI f) (nI b) rD rM cl dg nu my su le gr cz vi ov rv ct bm)) ∨ ∃ x, numR tx L f b lo hi = some x ∧ r = some (.int 1) ∧ w = (wM row dm vals un kp tx (nI L) sz it ask (nI (tkF tx L b)) (nI (tkB tx L (tkF tx L b))) rD rM cl dg (nI x) my su le gr cz vi ov rv ct bm)) := by
  show tg_G _ _ _ _ _ _ _ [.ref 0, .int (nI lo), .int (nI hi), .null, .null] [] _
  unfold wM
  refine tg_go bX9_readsNumber_0 ?_
  simp only [ti_aload, ti_getf, List.getElem?_cons_zero, List.getElem?_cons_succ, true_and]
  refine g_icmp_eq (tgt := 39) dX9_readsNumber_8 rfl (fun h8 => ?_) (fun h8 => ?_)
  · rw [lI_eq (by omega) (by omega)] at h8
    refine tg_go bX9_readsNumber_39 ?_
    simp only [ti_push, List.getElem?_cons_zero, List.getElem?_cons_succ, true_and]
    refine g_zret dX9_readsNumber_40 rfl (by first | exact Or.inl rfl | exact Or.inr rfl | assumption) ?_
    exact Or.inl ⟨by unfold numR; rw [if_neg (fun q => q.1.1 h8)], rfl, rfl⟩
  · rw [lI_eq (by omega) (by omega)] at h8
    refine tg_go bX9_readsNumber_11 ?_
    simp only [ti_aload, ti_getf, ti_iald, List.getElem?_cons_zero, List.getElem?_cons_succ, true_and]
    rw [nI_clamp (by omega)]
    refine ⟨vp_in_nI (by omega) (by omega), ?_⟩
    refine tg_cP vX9_readsNumber_20 (kX9_isDigit) rfl rfl (Nat.le_of_ble_eq_true rfl) (Nat.le_of_ble_eq_true rfl) ?_
    refine g_if_eq (tgt := 39) dX9_readsNumber_23 rfl (fun h23 => ?_) (fun h23 => ?_)
    · have h3 : isDg (tx f) = false := bZ_0 h23
      refine tg_go bX9_readsNumber_39 ?_
      simp only [ti_push, List.getElem?_cons_zero, List.getElem?_cons_succ, true_and]
      refine g_zret dX9_readsNumber_40 rfl (by first | exact Or.inl rfl | exact Or.inr rfl | assumption) ?_
      exact Or.inl ⟨by unfold numR; rw [if_neg (fun q => by rw [h3] at q; exact absurd q.1.2.1 (by decide))], rfl, rfl⟩
    · have h3 : isDg (tx f) = true := bZ_n h23
      refine tg_go bX9_readsNumber_26 ?_
      simp only [ti_aload, ti_getf, ti_isub, ti_push, List.getElem?_cons_zero, List.getElem?_cons_succ, true_and]
      rw [pk_sub hb]
      refine g_icmp_le (tgt := 41) dX9_readsNumber_36 rfl (fun h36 => ?_) (fun h36 => ?_)
      · rw [fa_lit, lI_le (by omega) (by omega)] at h36
        refine tg_go bX9_readsNumber_41 ?_
        simp only [ti_aload, ti_getf, ti_iald, ti_istore, ti_isub, ti_push, tg_s1, tg_cl, List.getElem?_cons_zero, List.getElem?_cons_succ, List.set_cons_zero, List.set_cons_succ, true_and]
        rw [pk_sub hb, nI_clamp (by omega)]
        refine ⟨vp_in_nI (by omega) (by omega), ?_⟩
        refine g_cut2 90 (fun z => z = numV tx f b) (fun J90 => ?_) (fun z hz => ?_)
        · refine g_icmp_ne (tgt := 89) dX9_readsNumber_64 rfl (fun h64 => ?_) (fun h64 => ?_)
          · rw [fa_lit, lI_eq (by omega) (by omega)] at h64
            refine tg_go bX9_readsNumber_89 ?_
            simp only [ti_iload, List.getElem?_cons_zero, List.getElem?_cons_succ, true_and]
            exact J90 _ (by unfold numV; rw [if_neg h64])
          · rw [fa_lit, lI_eq (by omega) (by omega)] at h64
            refine tg_go bX9_readsNumber_67 ?_
            simp only [ti_aload, ti_getf, ti_iadd, ti_iald, ti_iload, ti_imul, ti_isub, ti_push, List.getElem?_cons_zero, List.getElem?_cons_succ, true_and]
            rw [nI_1, nI_clamp (by omega)]
            refine ⟨vp_in_nI (by omega) (by omega), ?_⟩
            refine g_goto (tgt := 90) dX9_readsNumber_86 rfl ?_
            exact J90 _ (by unfold numV; rw [if_pos h64])
        subst hz
        refine tg_go bX9_readsNumber_90 ?_
        simp only [ti_i2l, ti_iload, ti_istore, tg_s1, tg_cl, List.getElem?_cons_zero, List.getElem?_cons_succ, List.set_cons_zero, List.set_cons_succ, true_and]
        refine tg_cP vX9_readsNumber_97 (kX9_in) rfl rfl (Nat.le_of_ble_eq_true rfl) (Nat.le_of_ble_eq_true rfl) ?_
        rw [w_in, in_lit hlo hhi]
        refine tg_go bX9_readsNumber_100 ?_
        simp only [ti_iload, ti_istore, tg_s1, tg_cl, List.getElem?_cons_zero, List.getElem?_cons_succ, List.set_cons_zero, List.set_cons_succ, true_and]
        refine g_if_eq (tgt := 116) dX9_readsNumber_104 rfl (fun h104 => ?_) (fun h104 => ?_)
        · have h4 := of_decide_eq_false (bZ_0 h104)
          rw [decide_eq_false h4]
          refine tg_go bX9_readsNumber_116 ?_
          simp only [ti_iload, List.getElem?_cons_zero, List.getElem?_cons_succ, true_and]
          refine g_zret dX9_readsNumber_118 rfl (bZ_01 _) ?_
          exact Or.inl ⟨by unfold numR; rw [if_neg (fun q => h4 q.2)], rfl, rfl⟩
        · have h4 := of_decide_eq_true (bZ_n h104)
          have e := x_of (x := numV tx f b) (n := hi + 1) (by omega) (by omega)
          have er : numR tx L f b lo hi = some (numV tx f b).toInt.toNat := by unfold numR; rw [if_pos ⟨⟨h8, h3, h36⟩, h4⟩]
          rw [er, decide_eq_true h4]
          generalize hcc : (numV tx f b).toInt.toNat = x at e ⊢
          rw [e.1]
          refine tg_go bX9_readsNumber_107 ?_
          simp only [ti_aload, ti_iload, ti_putfI, List.getElem?_cons_zero, List.getElem?_cons_succ, List.set_cons_zero, List.set_cons_succ, true_and]
          refine tg_cWv vX9_readsNumber_113 (kX9_nextToken hL hbL) rfl rfl rfl rfl (Nat.le_of_ble_eq_true rfl) (Nat.le_of_ble_eq_true rfl) (Nat.le_of_ble_eq_true rfl) rfl ?_
          unfold wM
          refine tg_go bX9_readsNumber_116 ?_
          simp only [ti_iload, List.getElem?_cons_zero, List.getElem?_cons_succ, true_and]
          refine g_zret dX9_readsNumber_118 rfl (bZ_01 _) ?_
          exact Or.inr ⟨x, rfl, rfl, rfl⟩
      · rw [fa_lit, lI_le (by omega) (by omega)] at h36
        refine tg_go bX9_readsNumber_39 ?_
        simp only [ti_push, List.getElem?_cons_zero, List.getElem?_cons_succ, true_and]
        refine g_zret dX9_readsNumber_40 rfl (by first | exact Or.inl rfl | exact Or.inr rfl | assumption) ?_
        exact Or.inl ⟨by unfold numR; rw [if_neg (fun q => h36 q.1.2.2)], rfl, rfl⟩
end REFD
