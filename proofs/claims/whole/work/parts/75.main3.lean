/-! THE CLASS: CubeClosures: rows of longs -/
theorem rowG_at {a : Nat} (h : a < 3) : (rowF a).map (tg_rn iL) = some (43 + a) := by
  rcases (show a = 0 ∨ a = 1 ∨ a = 2 by omega) with rfl | rfl | rfl <;> rfl
theorem fnd_np {ln : Nat → Int32} {a : Nat} {y : Int32} (hz : szOK ln) (ha : a < 3) : fndI ln a y = if npI ln (nI a) y = 0 then 1 else npI ln (nI a) y := by
  have e : (nI a).toInt = a := nI_toInt (by omega)
  have hn1 : (-1 : Int32).toInt = -1 := by decide
  unfold fndI npI
  rw [e, if_neg (show ¬ ¬ ((0 : Int) ≤ (a : Int) ∧ (a : Int) ≤ 2) by omega), Int.toNat_natCast]
  rcases hz a ha with h | ⟨q, hq, h⟩
  · rw [if_pos h, h, if_pos (show (-1 : Int32).toInt < 0 by decide), if_neg (by decide)]
  · rw [if_neg (by rw [h]; exact nI_ne1 (by omega)), h, nI_toInt (by omega), if_neg (show ¬ ((q : Int) < 0) by omega)]
    by_cases hc : 0 ≤ y.toInt ∧ y.toInt < (q : Int)
    · rw [if_pos hc, if_pos hc, if_pos rfl]
    · rw [if_neg hc, if_neg hc, if_neg (by decide)]
theorem np_row {ln : Nat → Int32} {x y : Int32} (h : ¬ (0 ≤ x.toInt ∧ x.toInt ≤ 2)) : npI ln x y = -2 := by
  unfold npI
  rw [if_pos h]
theorem np_neg {ln : Nat → Int32} {x y : Int32} : npI ln x y = 0 ∨ npI ln x y < 0 := by
  unfold npI
  repeat' split
  all_goals first
    | exact Or.inl rfl
    | exact Or.inr (by decide)
theorem xres_wk {a : Int64} {y z : Int32} (hy : 0 ≤ y.toInt ∧ y.toInt ≤ 2) : xres a y z.toInt64 = wkV a y z ∧ ovX a y z.toInt64 = wkO a y z := by
  obtain ⟨e1, e2⟩ := x_of (n := 3) (x := y) hy.1 (by omega)
  generalize y.toInt.toNat = q at e1 e2
  subst e1
  unfold xres wkV wkO
  rcases (show q = 0 ∨ q = 1 ∨ q = 2 by omega) with rfl | rfl | rfl
  · refine ⟨?_, ?_⟩
    · rw [if_pos (show nI 0 = 0 from rfl), if_neg (by decide), if_pos (show nI 0 = 0 from rfl)]
    · rw [if_neg (by decide), if_pos (show nI 0 = 0 from rfl)]
      exact ov_plus a _
  · refine ⟨?_, ?_⟩
    · rw [if_neg (by decide), if_pos (show nI 1 = 1 from rfl), if_neg (by decide), if_neg (by decide), Int64.sub_eq_add_neg]
    · rw [if_neg (by decide), if_neg (by decide)]
      exact ov_minus a z
  · refine ⟨?_, ?_⟩
    · rw [if_neg (by decide), if_neg (by decide), if_pos (show nI 2 = 2 from rfl)]
    · rw [if_pos (show nI 2 = 2 from rfl)]
      exact ov_times a _ _ (by decide) (by decide)
section MAIN4
variable {l : tg_Ln} {K : Option Value → List va_E → Prop} {told : Int64} {tx u pk pn pc pm kv kc km jv jc jm kp ln : Nat → Int32} {L d n s z p : Nat} {v c : Nat → Nat} {kd kn ke jd jn je : Int32} {P : Nat → Nat → Int64} {w : List va_E}
section GS
variable {old dn len ts tb gd gn ge td tn te qd qv cz pz px : Int32} {gv gc gm nv tv tc tm en a8 a10 ic al cs on : Nat → Int32} {hv a9 a11 : Nat → Int64} {r1 r2 r3 r4 : Nat}
theorem wA_get : ∀ a, a < 3 → (wA old told dn tx len ts tb gd gv gn gc gm ge nv td tv tn tc tm te qd qv en hv cz r1 r2 r3 r4 a8 a9 a10 a11 ic al cs on pz px pk pn pc pm kd kv kn kc km ke jd jv jn jc jm je kp ln P)[43 + a]? = some (.inl (3, 12, .inr (.inl (P a)))) := by
  intro a ha
  rcases (show a = 0 ∨ a = 1 ∨ a = 2 by omega) with rfl | rfl | rfl <;> rfl
theorem wA_set {f : Nat → Int64} : ∀ a, a < 3 → (wA old told dn tx len ts tb gd gv gn gc gm ge nv td tv tn tc tm te qd qv en hv cz r1 r2 r3 r4 a8 a9 a10 a11 ic al cs on pz px pk pn pc pm kd kv kn kc km ke jd jv jn jc jm je kp ln P).set (43 + a) (.inl (3, 12, .inr (.inl f))) = (wA old told dn tx len ts tb gd gv gn gc gm ge nv td tv tn tc tm te qd qv en hv cz r1 r2 r3 r4 a8 a9 a10 a11 ic al cs on pz px pk pn pc pm kd kv kn kc km ke jd jv jn jc jm je kp ln (updP P a f)) := by
  intro a ha
  rcases (show a = 0 ∨ a = 1 ∨ a = 2 by omega) with rfl | rfl | rfl
  · unfold wA
    simp only [List.set_cons_succ, List.set_cons_zero]
    rfl
  · unfold wA
    simp only [List.set_cons_succ, List.set_cons_zero]
    rfl
  · unfold wA
    simp only [List.set_cons_succ, List.set_cons_zero]
    rfl
end GS
theorem kX8_row {x y : Int32} (hs : (sA told tx L d v n c u s z p pk pn pc pm kd kv kn kc km ke jd jv jn jc jm je kp ln P) w) : tg_Ct l mX8_row 1000 [.ref 0, .int x, .int y] w (fun r w => (¬ (0 ≤ x.toInt ∧ x.toInt ≤ 2) ∧ r = some (.int (-2)) ∧ (sA told tx L d v n c u s z p pk pn pc pm kd kv kn kc km ke jd jv jn jc jm je kp ln P) w) ∨ ((0 ≤ x.toInt ∧ x.toInt ≤ 2) ∧ 12 < y.toInt ∧ r = some (.int (-3)) ∧ (sA told tx L d v n c u s z p pk pn pc pm kd kv kn kc km ke jd jv jn jc jm je kp ln P) w) ∨ ((0 ≤ x.toInt ∧ x.toInt ≤ 2) ∧ y.toInt < 0 ∧ r = some (.int (-13)) ∧ (sA told tx L d v n c u s z p pk pn pc pm kd kv kn kc km ke jd jv jn jc jm je kp ln P) w) ∨ ((0 ≤ x.toInt ∧ x.toInt ≤ 2) ∧ (0 ≤ y.toInt ∧ y.toInt ≤ 12) ∧ r = some (.int y) ∧ (sA told tx L d v n c u s z p pk pn pc pm kd kv kn kc km ke jd jv jn jc jm je kp (upd ln x.toInt.toNat y) (updP P x.toInt.toNat (zeP (P x.toInt.toNat) y.toInt.toNat))) w)) := by
  refine tg_gen (fun K0 hK0 => ?_)
  obtain ⟨old, dn, ts, tb, gd, gv, gn, gc, gm, ge, nv, td, tv, tn, tc, tm, te, qd, qv, en, hv, cz, r1, r2, r3, r4, a8, a9, a10, a11, ic, al, cs, on, ⟨rfl, htv, rfl, htc, htm, rfl⟩, hV, hE, ho, hJ, hO, rfl⟩ := hs
  show tg_G _ _ _ _ _ _ _ [.ref 0, .int x, .int y] [] _
  unfold wA
  refine tg_go bX8_row_0 ?_
  simp only [ti_iload, List.getElem?_cons_zero, List.getElem?_cons_succ, true_and]
  refine tg_cP vX8_row_1 (kX3_isRow') rfl rfl (Nat.le_of_ble_eq_true rfl) (Nat.le_of_ble_eq_true rfl) ?_
  refine g_if_ne (tgt := 10) dX8_row_4 rfl (fun h4 => ?_) (fun h4 => ?_)
  · have hr := of_decide_eq_true (bZ_n h4)
    refine tg_go bX8_row_10 ?_
    simp only [ti_iload, ti_push, List.getElem?_cons_zero, List.getElem?_cons_succ, true_and]
    refine g_icmp_le (tgt := 19) dX8_row_13 rfl (fun h13 => ?_) (fun h13 => ?_)
    · rw [xle] at h13
      have h13 : y.toInt ≤ 12 := h13
      refine tg_go bX8_row_19 ?_
      simp only [ti_iload, List.getElem?_cons_zero, List.getElem?_cons_succ, true_and]
      refine g_if_ge (tgt := 26) dX8_row_20 rfl (fun h20 => ?_) (fun h20 => ?_)
      · rw [xle] at h20
        have h20 : 0 ≤ y.toInt := h20
        obtain ⟨ex, hx⟩ := x_of (n := 3) (x := x) hr.1 (by omega)
        obtain ⟨ey, hy⟩ := x_of (n := 13) (x := y) h20 (by omega)
        generalize x.toInt.toNat = a at ex hx hK0
        generalize y.toInt.toNat = q at ey hy hK0
        subst ex ey
        refine tg_go bX8_row_26 ?_
        simp only [ti_aload, ti_getf, ti_iload, List.getElem?_cons_zero, List.getElem?_cons_succ, true_and]
        refine tg_cV iL vX8_row_32 (kX3_renew hx (by omega)) rfl rfl rfl rfl rfl (Nat.le_of_ble_eq_true rfl) rfl (Nat.le_of_ble_eq_true rfl) (Nat.le_of_ble_eq_true rfl) (by rintro r w1 ⟨-, rfl⟩; rfl) ?_
        rintro r w1 ⟨rfl, rfl⟩
        simp only [Option.map_some, Option.map_none, Option.toList_some, Option.toList_none, List.cons_append, List.nil_append, tg_v]
        refine tg_rw put_L ?_
        unfold wA
        refine tg_go bX8_row_35 ?_
        simp only [ti_iload, List.getElem?_cons_zero, List.getElem?_cons_succ, true_and]
        refine g_iret dX8_row_36 rfl ?_
        exact hK0 _ _ (Or.inr (Or.inr (Or.inr ⟨hr, ⟨h20, h13⟩, rfl, ⟨_, _, _, _, _, _, _, _, _, _, _, _, _, _, _, _, _, _, _, _, _, _, _, _, _, _, _, _, _, _, _, _, _, _, ⟨rfl, htv, rfl, htc, htm, rfl⟩, hV, hE, ho, hJ, hO, rfl⟩⟩)))
      · rw [xle] at h20
        have h20 : ¬ 0 ≤ y.toInt := h20
        refine tg_go bX8_row_23 ?_
        simp only [ti_push, List.getElem?_cons_zero, List.getElem?_cons_succ, true_and]
        refine g_iret dX8_row_25 rfl ?_
        exact hK0 _ _ (Or.inr (Or.inr (Or.inl ⟨hr, by omega, rfl, ⟨_, _, _, _, _, _, _, _, _, _, _, _, _, _, _, _, _, _, _, _, _, _, _, _, _, _, _, _, _, _, _, _, _, _, ⟨rfl, htv, rfl, htc, htm, rfl⟩, hV, hE, ho, hJ, hO, rfl⟩⟩)))
    · rw [xle] at h13
      have h13 : ¬ y.toInt ≤ 12 := h13
      refine tg_go bX8_row_16 ?_
      simp only [ti_push, List.getElem?_cons_zero, List.getElem?_cons_succ, true_and]
      refine g_iret dX8_row_18 rfl ?_
      exact hK0 _ _ (Or.inr (Or.inl ⟨hr, by omega, rfl, ⟨_, _, _, _, _, _, _, _, _, _, _, _, _, _, _, _, _, _, _, _, _, _, _, _, _, _, _, _, _, _, _, _, _, _, ⟨rfl, htv, rfl, htc, htm, rfl⟩, hV, hE, ho, hJ, hO, rfl⟩⟩))
  · have hr := of_decide_eq_false (bZ_0 h4)
    refine tg_go bX8_row_7 ?_
    simp only [ti_push, List.getElem?_cons_zero, List.getElem?_cons_succ, true_and]
    refine g_iret dX8_row_9 rfl ?_
    exact hK0 _ _ (Or.inl ⟨hr, rfl, ⟨_, _, _, _, _, _, _, _, _, _, _, _, _, _, _, _, _, _, _, _, _, _, _, _, _, _, _, _, _, _, _, _, _, _, ⟨rfl, htv, rfl, htc, htm, rfl⟩, hV, hE, ho, hJ, hO, rfl⟩⟩)
theorem kX8_set {x y z' : Int32} (hs : (sA told tx L d v n c u s z p pk pn pc pm kd kv kn kc km ke jd jv jn jc jm je kp ln P) w) (hz : szOK ln) : tg_Ct l mX8_set 1000 [.ref 0, .int x, .int y, .int z'] w (fun r w => (npI ln x y ≠ 0 ∧ r = some (.int (npI ln x y)) ∧ (sA told tx L d v n c u s z p pk pn pc pm kd kv kn kc km ke jd jv jn jc jm je kp ln P) w) ∨ (npI ln x y = 0 ∧ r = some (.int 1) ∧ (sA told tx L d v n c u s z p pk pn pc pm kd kv kn kc km ke jd jv jn jc jm je kp ln (updP P x.toInt.toNat (vp_updL (P x.toInt.toNat) y.toInt.toNat z'.toInt64))) w)) := by
  refine tg_gen (fun K0 hK0 => ?_)
  obtain ⟨old, dn, ts, tb, gd, gv, gn, gc, gm, ge, nv, td, tv, tn, tc, tm, te, qd, qv, en, hv, cz, r1, r2, r3, r4, a8, a9, a10, a11, ic, al, cs, on, ⟨rfl, htv, rfl, htc, htm, rfl⟩, hV, hE, ho, hJ, hO, rfl⟩ := hs
  show tg_G _ _ _ _ _ _ _ [.ref 0, .int x, .int y, .int z'] [] _
  unfold wA
  refine tg_go bX8_set_0 ?_
  simp only [ti_iload, List.getElem?_cons_zero, List.getElem?_cons_succ, true_and]
  refine tg_cP vX8_set_1 (kX3_isRow') rfl rfl (Nat.le_of_ble_eq_true rfl) (Nat.le_of_ble_eq_true rfl) ?_
  refine g_if_ne (tgt := 10) dX8_set_4 rfl (fun h4 => ?_) (fun h4 => ?_)
  · have hr := of_decide_eq_true (bZ_n h4)
    obtain ⟨ex, hx⟩ := x_of (n := 3) (x := x) hr.1 (by omega)
    generalize x.toInt.toNat = a at ex hx hK0
    subst ex
    refine tg_go bX8_set_10 ?_
    simp only [ti_aload, ti_getf, ti_i2l, ti_iload, List.getElem?_cons_zero, List.getElem?_cons_succ, true_and]
    refine tg_cV iL vX8_set_18 (kX3_put hz hx) rfl rfl rfl rfl rfl (Nat.le_of_ble_eq_true rfl) rfl (Nat.le_of_ble_eq_true rfl) (Nat.le_of_ble_eq_true rfl) (by rintro r w1 ⟨-, rfl⟩; rfl) ?_
    rintro r w1 ⟨rfl, rfl⟩
    simp only [Option.map_some, Option.map_none, Option.toList_some, Option.toList_none, List.cons_append, List.nil_append, tg_v]
    refine tg_rw put_L ?_
    unfold wA
    refine g_iret dX8_set_21 rfl ?_
    have hf := fnd_np (y := y) hz hx
    by_cases h0 : npI ln (nI a) y = 0
    · rw [if_pos h0] at hf
      rw [hf, if_pos rfl]
      exact hK0 _ _ (Or.inr ⟨h0, rfl, ⟨_, _, _, _, _, _, _, _, _, _, _, _, _, _, _, _, _, _, _, _, _, _, _, _, _, _, _, _, _, _, _, _, _, _, ⟨rfl, htv, rfl, htc, htm, rfl⟩, hV, hE, ho, hJ, hO, rfl⟩⟩)
    · rw [if_neg h0] at hf
      rw [hf, if_neg (by rcases np_neg (ln := ln) (x := nI a) (y := y) with q | q; exact absurd q h0; intro e; rw [e] at q; exact absurd q (by decide))]
      exact hK0 _ _ (Or.inl ⟨h0, rfl, ⟨_, _, _, _, _, _, _, _, _, _, _, _, _, _, _, _, _, _, _, _, _, _, _, _, _, _, _, _, _, _, _, _, _, _, ⟨rfl, htv, rfl, htc, htm, rfl⟩, hV, hE, ho, hJ, hO, rfl⟩⟩)
  · have hr := of_decide_eq_false (bZ_0 h4)
    rw [np_row hr] at hK0
    refine tg_go bX8_set_7 ?_
    simp only [ti_push, List.getElem?_cons_zero, List.getElem?_cons_succ, true_and]
    refine g_iret dX8_set_9 rfl ?_
    exact hK0 _ _ (Or.inl ⟨by decide, rfl, ⟨_, _, _, _, _, _, _, _, _, _, _, _, _, _, _, _, _, _, _, _, _, _, _, _, _, _, _, _, _, _, _, _, _, _, ⟨rfl, htv, rfl, htc, htm, rfl⟩, hV, hE, ho, hJ, hO, rfl⟩⟩)
theorem kX8_work {x i y z' : Int32} (hs : (sA told tx L d v n c u s z p pk pn pc pm kd kv kn kc km ke jd jv jn jc jm je kp ln P) w) (hz : szOK ln) : tg_Ct l mX8_work 1000 [.ref 0, .int x, .int i, .int y, .int z'] w (fun r w => (¬ (0 ≤ x.toInt ∧ x.toInt ≤ 2) ∧ r = some (.int (-2)) ∧ (sA told tx L d v n c u s z p pk pn pc pm kd kv kn kc km ke jd jv jn jc jm je kp ln P) w) ∨ ((0 ≤ x.toInt ∧ x.toInt ≤ 2) ∧ ¬ (0 ≤ y.toInt ∧ y.toInt ≤ 2) ∧ r = some (.int (-3)) ∧ (sA told tx L d v n c u s z p pk pn pc pm kd kv kn kc km ke jd jv jn jc jm je kp ln P) w) ∨ ((0 ≤ x.toInt ∧ x.toInt ≤ 2) ∧ (0 ≤ y.toInt ∧ y.toInt ≤ 2) ∧ npI ln x i ≠ 0 ∧ r = some (.int (npI ln x i)) ∧ (sA told tx L d v n c u s z p pk pn pc pm kd kv kn kc km ke jd jv jn jc jm je kp ln P) w) ∨ ((0 ≤ x.toInt ∧ x.toInt ≤ 2) ∧ (0 ≤ y.toInt ∧ y.toInt ≤ 2) ∧ npI ln x i = 0 ∧ ((wkO (P x.toInt.toNat i.toInt.toNat) y z' = true ∧ r = some (.int (-14)) ∧ (sA told tx L d v n c u s z p pk pn pc pm kd kv kn kc km ke jd jv jn jc jm je kp ln P) w) ∨ (wkO (P x.toInt.toNat i.toInt.toNat) y z' = false ∧ r = some (.int 1) ∧ (sA (wkV (P x.toInt.toNat i.toInt.toNat) y z') tx L d v n c u s z p pk pn pc pm kd kv kn kc km ke jd jv jn jc jm je kp ln (updP P x.toInt.toNat (vp_updL (P x.toInt.toNat) i.toInt.toNat (wkV (P x.toInt.toNat i.toInt.toNat) y z')))) w)))) := by
  refine tg_gen (fun K0 hK0 => ?_)
  obtain ⟨old, dn, ts, tb, gd, gv, gn, gc, gm, ge, nv, td, tv, tn, tc, tm, te, qd, qv, en, hv, cz, r1, r2, r3, r4, a8, a9, a10, a11, ic, al, cs, on, ⟨rfl, htv, rfl, htc, htm, rfl⟩, hV, hE, ho, hJ, hO, rfl⟩ := hs
  show tg_G _ _ _ _ _ _ _ [.ref 0, .int x, .int i, .int y, .int z', .null, .null, .null] [] _
  unfold wA
  refine tg_go bX8_work_0 ?_
  simp only [ti_iload, List.getElem?_cons_zero, List.getElem?_cons_succ, true_and]
  refine tg_cP vX8_work_1 (kX3_isRow') rfl rfl (Nat.le_of_ble_eq_true rfl) (Nat.le_of_ble_eq_true rfl) ?_
  refine g_if_ne (tgt := 10) dX8_work_4 rfl (fun h4 => ?_) (fun h4 => ?_)
  · have hr := of_decide_eq_true (bZ_n h4)
    refine tg_go bX8_work_10 ?_
    simp only [ti_iload, List.getElem?_cons_zero, List.getElem?_cons_succ, true_and]
    refine g_if_lt (tgt := 19) dX8_work_11 rfl (fun h11 => ?_) (fun h11 => ?_)
    · rw [xlt] at h11
      have h11 : y.toInt < 0 := h11
      refine tg_go bX8_work_19 ?_
      simp only [ti_push, List.getElem?_cons_zero, List.getElem?_cons_succ, true_and]
      refine g_iret dX8_work_21 rfl ?_
      exact hK0 _ _ (Or.inr (Or.inl ⟨hr, by omega, rfl, ⟨_, _, _, _, _, _, _, _, _, _, _, _, _, _, _, _, _, _, _, _, _, _, _, _, _, _, _, _, _, _, _, _, _, _, ⟨rfl, htv, rfl, htc, htm, rfl⟩, hV, hE, ho, hJ, hO, rfl⟩⟩))
    · rw [xlt] at h11
      have h11 : ¬ y.toInt < 0 := h11
      refine tg_go bX8_work_14 ?_
      simp only [ti_iload, ti_push, List.getElem?_cons_zero, List.getElem?_cons_succ, true_and]
      refine g_icmp_le (tgt := 22) dX8_work_16 rfl (fun h16 => ?_) (fun h16 => ?_)
      · rw [xle] at h16
        have h16 : y.toInt ≤ 2 := h16
        obtain ⟨ex, hx⟩ := x_of (n := 3) (x := x) hr.1 (by omega)
        generalize x.toInt.toNat = a at ex hx hK0
        subst ex
        have hf := fnd_np (y := i) hz hx
        refine tg_go bX8_work_22 ?_
        simp only [ti_aload, ti_getf, ti_iload, List.getElem?_cons_zero, List.getElem?_cons_succ, true_and]
        refine tg_cR iL vX8_work_28 (kX3_finds hx) rfl rfl rfl rfl rfl (Nat.le_of_ble_eq_true rfl) rfl (Nat.le_of_ble_eq_true rfl) (Nat.le_of_ble_eq_true rfl) ?_
        simp only [tg_v]
        refine tg_go bX8_work_31 ?_
        simp only [ti_iload, ti_istore, tg_s1, tg_cl, List.getElem?_cons_zero, List.getElem?_cons_succ, List.set_cons_zero, List.set_cons_succ, true_and]
        refine g_if_ge (tgt := 41) dX8_work_35 rfl (fun h35 => ?_) (fun h35 => ?_)
        · have h0 : npI ln (nI a) i = 0 := by
            rcases np_neg (ln := ln) (x := nI a) (y := i) with q | q
            · exact q
            · rw [if_neg (fun e => by rw [e] at q; exact absurd q (by decide))] at hf
              rw [hf] at h35
              exact absurd q (Int32.not_lt.mpr h35)
          obtain ⟨a', i', ea, ei, ha', hi', q', hq', hiq', hsz⟩ := np_0 hz h0
          subst ei
          obtain rfl : a = a' := (nI_eq (by omega) (by omega)).mp ea
          have e3 : (nI i').toInt.toNat = i' := by rw [nI_toInt (by omega)]; omega
          rw [e3] at hK0
          obtain ⟨ew1, ew2⟩ := xres_wk (a := P a i') (y := y) (z := z') ⟨by omega, h16⟩
          refine tg_go bX8_work_41 ?_
          simp only [ti_aald, ti_aload, ti_getf, ti_i2l, ti_iload, ti_lald, ti_lload, ti_lstore, tg_s2, tg_cl, List.getElem?_cons_zero, List.getElem?_cons_succ, List.set_cons_zero, List.set_cons_succ, true_and]
          have e1 := wA_get (old := old) (dn := dn) (len := nI L) (ts := ts) (tb := tb) (gd := gd) (gn := gn) (ge := ge) (td := nI d) (tn := nI n) (te := nI s) (qd := qd) (qv := qv) (cz := cz) (pz := nI z) (px := nI p) (kd := kd) (kn := kn) (ke := ke) (jd := jd) (jn := jn) (je := je) (told := told) (tx := tx) (gv := gv) (gc := gc) (gm := gm) (nv := nv) (tv := tv) (tc := tc) (tm := tm) (en := en) (a8 := a8) (a10 := a10) (ic := ic) (al := al) (cs := cs) (on := on) (pk := pk) (pn := pn) (pc := pc) (pm := pm) (kv := kv) (kc := kc) (km := km) (jv := jv) (jc := jc) (jm := jm) (kp := kp) (ln := ln) (hv := hv) (a9 := a9) (a11 := a11) (P := P) (r1 := r1) (r2 := r2) (r3 := r3) (r4 := r4) a hx
          unfold wA at e1
          simp only [nI_clamp (show a < 2 ^ 31 by omega), rowG_at hx, e1, nI_clamp (show i' < 2 ^ 31 by omega)]
          refine ⟨Or.inr trivial, vp_in_nI (by omega) (by omega), trivial, vp_in_nI (by omega) (by omega), ?_⟩
          refine tg_cP vX8_work_60 (kX2_isOver) rfl rfl (Nat.le_of_ble_eq_true rfl) (Nat.le_of_ble_eq_true rfl) ?_
          refine g_if_eq (tgt := 69) dX8_work_63 rfl (fun h63 => ?_) (fun h63 => ?_)
          · have hov : wkO (P a i') y z' = false := by rw [← ew2]; exact bZ_0 h63
            refine tg_go bX8_work_69 ?_
            simp only [ti_aload, ti_i2l, ti_iload, ti_lload, List.getElem?_cons_zero, List.getElem?_cons_succ, true_and]
            refine tg_cP vX8_work_76 (kX2_result) rfl rfl (Nat.le_of_ble_eq_true rfl) (Nat.le_of_ble_eq_true rfl) ?_
            rw [ew1]
            refine tg_go bX8_work_79 ?_
            simp only [ti_aald, ti_aload, ti_getf, ti_iload, ti_last, ti_push, ti_putfJ, List.getElem?_cons_zero, List.getElem?_cons_succ, List.set_cons_zero, List.set_cons_succ, true_and]
            have e1 := wA_get (old := old) (dn := dn) (len := nI L) (ts := ts) (tb := tb) (gd := gd) (gn := gn) (ge := ge) (td := nI d) (tn := nI n) (te := nI s) (qd := qd) (qv := qv) (cz := cz) (pz := nI z) (px := nI p) (kd := kd) (kn := kn) (ke := ke) (jd := jd) (jn := jn) (je := je) (told := wkV (P a i') y z') (tx := tx) (gv := gv) (gc := gc) (gm := gm) (nv := nv) (tv := tv) (tc := tc) (tm := tm) (en := en) (a8 := a8) (a10 := a10) (ic := ic) (al := al) (cs := cs) (on := on) (pk := pk) (pn := pn) (pc := pc) (pm := pm) (kv := kv) (kc := kc) (km := km) (jv := jv) (jc := jc) (jm := jm) (kp := kp) (ln := ln) (hv := hv) (a9 := a9) (a11 := a11) (P := P) (r1 := r1) (r2 := r2) (r3 := r3) (r4 := r4) a hx
            unfold wA at e1
            simp only [nI_clamp (show a < 2 ^ 31 by omega), rowG_at hx, e1, nI_clamp (show i' < 2 ^ 31 by omega)]
            refine ⟨Or.inr trivial, vp_in_nI (by omega) (by omega), trivial, vp_in_nI (by omega) (by omega), ?_⟩
            refine tg_rw (wA_set a hx) ?_
            refine g_iret dX8_work_98 rfl ?_
            exact hK0 _ _ (Or.inr (Or.inr (Or.inr ⟨hr, ⟨by omega, h16⟩, h0, Or.inr ⟨hov, rfl, ⟨_, _, _, _, _, _, _, _, _, _, _, _, _, _, _, _, _, _, _, _, _, _, _, _, _, _, _, _, _, _, _, _, _, _, ⟨rfl, htv, rfl, htc, htm, rfl⟩, hV, hE, ho, hJ, hO, rfl⟩⟩⟩)))
          · have hov : wkO (P a i') y z' = true := by rw [← ew2]; exact bZ_n h63
            refine tg_go bX8_work_66 ?_
            simp only [ti_push, List.getElem?_cons_zero, List.getElem?_cons_succ, true_and]
            refine g_iret dX8_work_68 rfl ?_
            exact hK0 _ _ (Or.inr (Or.inr (Or.inr ⟨hr, ⟨by omega, h16⟩, h0, Or.inl ⟨hov, rfl, ⟨_, _, _, _, _, _, _, _, _, _, _, _, _, _, _, _, _, _, _, _, _, _, _, _, _, _, _, _, _, _, _, _, _, _, ⟨rfl, htv, rfl, htc, htm, rfl⟩, hV, hE, ho, hJ, hO, rfl⟩⟩⟩)))
        · have hne : npI ln (nI a) i ≠ 0 := fun q => by rw [if_pos q] at hf; rw [hf] at h35; exact absurd (by decide) h35
          rw [if_neg hne] at hf
          refine tg_go bX8_work_38 ?_
          simp only [ti_iload, List.getElem?_cons_zero, List.getElem?_cons_succ, true_and]
          refine g_iret dX8_work_40 rfl ?_
          rw [hf]
          exact hK0 _ _ (Or.inr (Or.inr (Or.inl ⟨hr, ⟨by omega, h16⟩, hne, rfl, ⟨_, _, _, _, _, _, _, _, _, _, _, _, _, _, _, _, _, _, _, _, _, _, _, _, _, _, _, _, _, _, _, _, _, _, ⟨rfl, htv, rfl, htc, htm, rfl⟩, hV, hE, ho, hJ, hO, rfl⟩⟩)))
      · rw [xle] at h16
        have h16 : ¬ y.toInt ≤ 2 := h16
        refine tg_go bX8_work_19 ?_
        simp only [ti_push, List.getElem?_cons_zero, List.getElem?_cons_succ, true_and]
        refine g_iret dX8_work_21 rfl ?_
        exact hK0 _ _ (Or.inr (Or.inl ⟨hr, by omega, rfl, ⟨_, _, _, _, _, _, _, _, _, _, _, _, _, _, _, _, _, _, _, _, _, _, _, _, _, _, _, _, _, _, _, _, _, _, ⟨rfl, htv, rfl, htc, htm, rfl⟩, hV, hE, ho, hJ, hO, rfl⟩⟩))
  · have hr := of_decide_eq_false (bZ_0 h4)
    refine tg_go bX8_work_7 ?_
    simp only [ti_push, List.getElem?_cons_zero, List.getElem?_cons_succ, true_and]
    refine g_iret dX8_work_9 rfl ?_
    exact hK0 _ _ (Or.inl ⟨hr, rfl, ⟨_, _, _, _, _, _, _, _, _, _, _, _, _, _, _, _, _, _, _, _, _, _, _, _, _, _, _, _, _, _, _, _, _, _, ⟨rfl, htv, rfl, htc, htm, rfl⟩, hV, hE, ho, hJ, hO, rfl⟩⟩)
theorem kX8_bits {x i : Int32} (hs : (sA told tx L d v n c u s z p pk pn pc pm kd kv kn kc km ke jd jv jn jc jm je kp ln P) w) (hz : szOK ln) : tg_Ct l mX8_bits 1000 [.ref 0, .int x, .int i] w (fun r w => (npI ln x i ≠ 0 ∧ r = some (.int (npI ln x i)) ∧ (sA told tx L d v n c u s z p pk pn pc pm kd kv kn kc km ke jd jv jn jc jm je kp ln P) w) ∨ (npI ln x i = 0 ∧ r = some (.int 1) ∧ (sA ((bcL (P x.toInt.toNat i.toInt.toNat)).toInt64) tx L d v n c u s z p pk pn pc pm kd kv kn kc km ke jd jv jn jc jm je kp ln P) w)) := by
  refine tg_gen (fun K0 hK0 => ?_)
  obtain ⟨old, dn, ts, tb, gd, gv, gn, gc, gm, ge, nv, td, tv, tn, tc, tm, te, qd, qv, en, hv, cz, r1, r2, r3, r4, a8, a9, a10, a11, ic, al, cs, on, ⟨rfl, htv, rfl, htc, htm, rfl⟩, hV, hE, ho, hJ, hO, rfl⟩ := hs
  show tg_G _ _ _ _ _ _ _ [.ref 0, .int x, .int i, .null] [] _
  unfold wA
  refine tg_go bX8_bits_0 ?_
  simp only [ti_iload, List.getElem?_cons_zero, List.getElem?_cons_succ, true_and]
  refine tg_cP vX8_bits_1 (kX3_isRow') rfl rfl (Nat.le_of_ble_eq_true rfl) (Nat.le_of_ble_eq_true rfl) ?_
  refine g_if_ne (tgt := 10) dX8_bits_4 rfl (fun h4 => ?_) (fun h4 => ?_)
  · have hr := of_decide_eq_true (bZ_n h4)
    obtain ⟨ex, hx⟩ := x_of (n := 3) (x := x) hr.1 (by omega)
    generalize x.toInt.toNat = a at ex hx hK0
    subst ex
    have hf := fnd_np (y := i) hz hx
    refine tg_go bX8_bits_10 ?_
    simp only [ti_aload, ti_getf, ti_iload, List.getElem?_cons_zero, List.getElem?_cons_succ, true_and]
    refine tg_cR iL vX8_bits_16 (kX3_finds hx) rfl rfl rfl rfl rfl (Nat.le_of_ble_eq_true rfl) rfl (Nat.le_of_ble_eq_true rfl) (Nat.le_of_ble_eq_true rfl) ?_
    simp only [tg_v]
    refine tg_go bX8_bits_19 ?_
    simp only [ti_iload, ti_istore, tg_s1, tg_cl, List.getElem?_cons_zero, List.getElem?_cons_succ, List.set_cons_zero, List.set_cons_succ, true_and]
    refine g_if_ge (tgt := 26) dX8_bits_21 rfl (fun h21 => ?_) (fun h21 => ?_)
    · have h0 : npI ln (nI a) i = 0 := by
        rcases np_neg (ln := ln) (x := nI a) (y := i) with q | q
        · exact q
        · rw [if_neg (fun e => by rw [e] at q; exact absurd q (by decide))] at hf
          rw [hf] at h21
          exact absurd q (Int32.not_lt.mpr h21)
      obtain ⟨a', i', ea, ei, ha', hi', q', hq', hiq', hsz⟩ := np_0 hz h0
      subst ei
      obtain rfl : a = a' := (nI_eq (by omega) (by omega)).mp ea
      have e3 : (nI i').toInt.toNat = i' := by rw [nI_toInt (by omega)]; omega
      rw [e3] at hK0
      refine tg_go bX8_bits_26 ?_
      simp only [ti_aald, ti_aload, ti_getf, ti_iload, ti_lald, List.getElem?_cons_zero, List.getElem?_cons_succ, true_and]
      have e1 := wA_get (old := old) (dn := dn) (len := nI L) (ts := ts) (tb := tb) (gd := gd) (gn := gn) (ge := ge) (td := nI d) (tn := nI n) (te := nI s) (qd := qd) (qv := qv) (cz := cz) (pz := nI z) (px := nI p) (kd := kd) (kn := kn) (ke := ke) (jd := jd) (jn := jn) (je := je) (told := told) (tx := tx) (gv := gv) (gc := gc) (gm := gm) (nv := nv) (tv := tv) (tc := tc) (tm := tm) (en := en) (a8 := a8) (a10 := a10) (ic := ic) (al := al) (cs := cs) (on := on) (pk := pk) (pn := pn) (pc := pc) (pm := pm) (kv := kv) (kc := kc) (km := km) (jv := jv) (jc := jc) (jm := jm) (kp := kp) (ln := ln) (hv := hv) (a9 := a9) (a11 := a11) (P := P) (r1 := r1) (r2 := r2) (r3 := r3) (r4 := r4) a hx
      unfold wA at e1
      simp only [nI_clamp (show a < 2 ^ 31 by omega), rowG_at hx, e1, nI_clamp (show i' < 2 ^ 31 by omega)]
      refine ⟨Or.inr trivial, vp_in_nI (by omega) (by omega), trivial, vp_in_nI (by omega) (by omega), ?_⟩
      refine tg_cP vX8_bits_38 (kJ13_bitCount) rfl rfl (Nat.le_of_ble_eq_true rfl) (Nat.le_of_ble_eq_true rfl) ?_
      refine tg_go bX8_bits_41 ?_
      simp only [ti_i2l, ti_push, ti_putfJ, List.getElem?_cons_zero, List.getElem?_cons_succ, List.set_cons_zero, List.set_cons_succ, true_and]
      refine g_iret dX8_bits_46 rfl ?_
      exact hK0 _ _ (Or.inr ⟨h0, rfl, ⟨_, _, _, _, _, _, _, _, _, _, _, _, _, _, _, _, _, _, _, _, _, _, _, _, _, _, _, _, _, _, _, _, _, _, ⟨rfl, htv, rfl, htc, htm, rfl⟩, hV, hE, ho, hJ, hO, rfl⟩⟩)
    · have hne : npI ln (nI a) i ≠ 0 := fun q => by rw [if_pos q] at hf; rw [hf] at h21; exact absurd (by decide) h21
      rw [if_neg hne] at hf
      refine tg_go bX8_bits_24 ?_
      simp only [ti_iload, List.getElem?_cons_zero, List.getElem?_cons_succ, true_and]
      refine g_iret dX8_bits_25 rfl ?_
      rw [hf]
      exact hK0 _ _ (Or.inl ⟨hne, rfl, ⟨_, _, _, _, _, _, _, _, _, _, _, _, _, _, _, _, _, _, _, _, _, _, _, _, _, _, _, _, _, _, _, _, _, _, ⟨rfl, htv, rfl, htc, htm, rfl⟩, hV, hE, ho, hJ, hO, rfl⟩⟩)
  · have hr := of_decide_eq_false (bZ_0 h4)
    rw [np_row hr] at hK0
    refine tg_go bX8_bits_7 ?_
    simp only [ti_push, List.getElem?_cons_zero, List.getElem?_cons_succ, true_and]
    refine g_iret dX8_bits_9 rfl ?_
    exact hK0 _ _ (Or.inl ⟨by decide, rfl, ⟨_, _, _, _, _, _, _, _, _, _, _, _, _, _, _, _, _, _, _, _, _, _, _, _, _, _, _, _, _, _, _, _, _, _, ⟨rfl, htv, rfl, htc, htm, rfl⟩, hV, hE, ho, hJ, hO, rfl⟩⟩)
theorem kX8_drop {x : Int32} (hs : (sA told tx L d v n c u s z p pk pn pc pm kd kv kn kc km ke jd jv jn jc jm je kp ln P) w) (hz : szOK ln) : tg_Ct l mX8_drop 1000 [.ref 0, .int x] w (fun r w => (¬ (0 ≤ x.toInt ∧ x.toInt ≤ 2) ∧ r = some (.int (-2)) ∧ (sA told tx L d v n c u s z p pk pn pc pm kd kv kn kc km ke jd jv jn jc jm je kp ln P) w) ∨ ((0 ≤ x.toInt ∧ x.toInt ≤ 2) ∧ r = some (.int (if ln x.toInt.toNat < 0 then -11 else ln x.toInt.toNat)) ∧ (sA told tx L d v n c u s z p pk pn pc pm kd kv kn kc km ke jd jv jn jc jm je kp (upd ln x.toInt.toNat (-1)) P) w)) := by
  refine tg_gen (fun K0 hK0 => ?_)
  obtain ⟨old, dn, ts, tb, gd, gv, gn, gc, gm, ge, nv, td, tv, tn, tc, tm, te, qd, qv, en, hv, cz, r1, r2, r3, r4, a8, a9, a10, a11, ic, al, cs, on, ⟨rfl, htv, rfl, htc, htm, rfl⟩, hV, hE, ho, hJ, hO, rfl⟩ := hs
  show tg_G _ _ _ _ _ _ _ [.ref 0, .int x, .null] [] _
  unfold wA
  refine tg_go bX8_drop_0 ?_
  simp only [ti_iload, List.getElem?_cons_zero, List.getElem?_cons_succ, true_and]
  refine tg_cP vX8_drop_1 (kX3_isRow') rfl rfl (Nat.le_of_ble_eq_true rfl) (Nat.le_of_ble_eq_true rfl) ?_
  refine g_if_ne (tgt := 10) dX8_drop_4 rfl (fun h4 => ?_) (fun h4 => ?_)
  · have hr := of_decide_eq_true (bZ_n h4)
    obtain ⟨ex, hx⟩ := x_of (n := 3) (x := x) hr.1 (by omega)
    generalize x.toInt.toNat = a at ex hx hK0
    subst ex
    refine tg_go bX8_drop_10 ?_
    simp only [ti_aload, ti_getf, ti_iload, List.getElem?_cons_zero, List.getElem?_cons_succ, true_and]
    refine tg_cR iL vX8_drop_15 (kX3_isMissing hx) rfl rfl rfl rfl rfl (Nat.le_of_ble_eq_true rfl) rfl (Nat.le_of_ble_eq_true rfl) (Nat.le_of_ble_eq_true rfl) ?_
    simp only [tg_v]
    refine g_if_eq (tgt := 24) dX8_drop_18 rfl (fun h18 => ?_) (fun h18 => ?_)
    · have hm : ¬ ln a = -1 := of_decide_eq_false (bZ_0 h18)
      obtain ⟨q, hq, eq⟩ := (hz a hx).resolve_left hm
      refine tg_go bX8_drop_24 ?_
      simp only [ti_aload, ti_getf, ti_iald, ti_iast, ti_iload, ti_istore, ti_push, tg_s1, tg_cl, List.getElem?_cons_zero, List.getElem?_cons_succ, List.set_cons_zero, List.set_cons_succ, true_and]
      rw [nI_clamp (show a < 2 ^ 31 by omega)]
      refine ⟨vp_in_nI (by omega) (by omega), vp_in_nI (by omega) (by omega), ?_⟩
      refine g_iret dX8_drop_45 rfl ?_
      exact hK0 _ _ (Or.inr ⟨hr, by rw [eq, if_neg (nI_pos (by omega))], ⟨_, _, _, _, _, _, _, _, _, _, _, _, _, _, _, _, _, _, _, _, _, _, _, _, _, _, _, _, _, _, _, _, _, _, ⟨rfl, htv, rfl, htc, htm, rfl⟩, hV, hE, ho, hJ, hO, rfl⟩⟩)
    · have hm : ln a = -1 := of_decide_eq_true (bZ_n h18)
      refine tg_go bX8_drop_21 ?_
      simp only [ti_push, List.getElem?_cons_zero, List.getElem?_cons_succ, true_and]
      refine g_iret dX8_drop_23 rfl ?_
      refine hK0 _ _ (Or.inr ⟨hr, by rw [hm, if_pos (by decide)], ?_⟩)
      have e : upd ln a (-1) = ln := by
        funext j
        by_cases q : j = a
        · subst q; rw [pk_us, hm]
        · rw [pk_un q]
      rw [e]
      exact ⟨_, _, _, _, _, _, _, _, _, _, _, _, _, _, _, _, _, _, _, _, _, _, _, _, _, _, _, _, _, _, _, _, _, _, ⟨rfl, htv, rfl, htc, htm, rfl⟩, hV, hE, ho, hJ, hO, rfl⟩
  · have hr := of_decide_eq_false (bZ_0 h4)
    refine tg_go bX8_drop_7 ?_
    simp only [ti_push, List.getElem?_cons_zero, List.getElem?_cons_succ, true_and]
    refine g_iret dX8_drop_9 rfl ?_
    exact hK0 _ _ (Or.inl ⟨hr, rfl, ⟨_, _, _, _, _, _, _, _, _, _, _, _, _, _, _, _, _, _, _, _, _, _, _, _, _, _, _, _, _, _, _, _, _, _, ⟨rfl, htv, rfl, htc, htm, rfl⟩, hV, hE, ho, hJ, hO, rfl⟩⟩)
theorem kX8_asked (hs : (sA told tx L d v n c u s z p pk pn pc pm kd kv kn kc km ke jd jv jn jc jm je kp ln P) w) : tg_Ct l mX8_asked 1000 [.ref 0] w (fun r w => r = some (.long told) ∧ (sA told tx L d v n c u s z p pk pn pc pm kd kv kn kc km ke jd jv jn jc jm je kp ln P) w) := by
  refine tg_gen (fun K0 hK0 => ?_)
  obtain ⟨old, dn, ts, tb, gd, gv, gn, gc, gm, ge, nv, td, tv, tn, tc, tm, te, qd, qv, en, hv, cz, r1, r2, r3, r4, a8, a9, a10, a11, ic, al, cs, on, ⟨rfl, htv, rfl, htc, htm, rfl⟩, hV, hE, ho, hJ, hO, rfl⟩ := hs
  show tg_G _ _ _ _ _ _ _ [.ref 0] [] _
  unfold wA
  refine tg_go bX8_asked_0 ?_
  simp only [ti_aload, ti_getf, List.getElem?_cons_zero, List.getElem?_cons_succ, true_and]
  refine g_lret dX8_asked_4 rfl ?_
  exact hK0 _ _ ⟨rfl, ⟨_, _, _, _, _, _, _, _, _, _, _, _, _, _, _, _, _, _, _, _, _, _, _, _, _, _, _, _, _, _, _, _, _, _, ⟨rfl, htv, rfl, htc, htm, rfl⟩, hV, hE, ho, hJ, hO, rfl⟩⟩
end MAIN4
