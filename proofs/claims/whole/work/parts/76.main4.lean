/-! THE CLASS: CubeClosures: sums of rows, cells -/
theorem gSum_congr {p q : Nat → Bool} {u t : Nat → Int32} : ∀ n, (∀ i, i < n → p i = q i) → (∀ i, i < n → u i = t i) → gSum p u n = gSum q t n
  | 0, _, _ => rfl
  | n + 1, h1, h2 => by rw [gSum, gSum, gSum_congr n (fun i hi => h1 i (by omega)) (fun i hi => h2 i (by omega)), h1 n (by omega), h2 n (by omega)]
theorem lMin_congr {p q : Nat → Bool} {u t : Nat → Int32} : ∀ n, (∀ i, i < n → p i = q i) → (∀ i, i < n → u i = t i) → lMin p u n = lMin q t n
  | 0, _, _ => rfl
  | n + 1, h1, h2 => by rw [lMin, lMin, lMin_congr n (fun i hi => h1 i (by omega)) (fun i hi => h2 i (by omega)), h1 n (by omega), h2 n (by omega)]
theorem lMax_congr {p q : Nat → Bool} {u t : Nat → Int32} : ∀ n, (∀ i, i < n → p i = q i) → (∀ i, i < n → u i = t i) → lMax p u n = lMax q t n
  | 0, _, _ => rfl
  | n + 1, h1, h2 => by rw [lMax, lMax, lMax_congr n (fun i hi => h1 i (by omega)) (fun i hi => h2 i (by omega)), h1 n (by omega), h2 n (by omega)]
theorem toInt_ext {x y : Int32} (h : x.toInt = y.toInt) : x = y := Int32.toInt_inj.mp h
theorem lMin_eq {p : Nat → Bool} {u : Nat → Int32} : ∀ n, (∀ i, i < n → (u i).toInt ≤ 99) → (gMany p n = 0 → lMin p u n = 99 ∧ gMin p u n = 999999) ∧ (¬ gMany p n = 0 → lMin p u n = gMin p u n)
  | 0, _ => ⟨fun _ => ⟨rfl, rfl⟩, fun h => absurd rfl h⟩
  | n + 1, hu => by
    obtain ⟨i1, i2⟩ := lMin_eq (p := p) n (fun i hi => hu i (by omega))
    have hn := hu n (by omega)
    have h99 : (99 : Int32).toInt = 99 := by decide
    have hM : (999999 : Int32).toInt = 999999 := by decide
    rw [gMany, lMin, gMin]
    by_cases hp : p n = true
    · rw [if_pos hp, if_pos hp, if_pos hp]
      refine ⟨fun h => by omega, fun _ => ?_⟩
      by_cases h0 : gMany p n = 0
      · obtain ⟨e1, e2⟩ := i1 h0
        rw [e1, e2]
        have hg : u n < 999999 := by rw [xlt, hM]; omega
        rw [if_pos hg]
        by_cases hl : u n < 99
        · rw [if_pos hl]
        · rw [if_neg hl]
          rw [xlt, h99] at hl
          exact toInt_ext (by omega)
      · rw [i2 h0]
    · rw [if_neg hp, if_neg hp, if_neg hp]
      exact ⟨fun h => i1 (by omega), fun h => i2 (by omega)⟩
theorem lMax_eq {p : Nat → Bool} {u : Nat → Int32} : ∀ n, (∀ i, i < n → -99 ≤ (u i).toInt) → (gMany p n = 0 → lMax p u n = -99 ∧ gMax p u n = -999999) ∧ (¬ gMany p n = 0 → lMax p u n = gMax p u n)
  | 0, _ => ⟨fun _ => ⟨rfl, rfl⟩, fun h => absurd rfl h⟩
  | n + 1, hu => by
    obtain ⟨i1, i2⟩ := lMax_eq (p := p) n (fun i hi => hu i (by omega))
    have hn := hu n (by omega)
    have h99 : (-99 : Int32).toInt = -99 := by decide
    have hM : (-999999 : Int32).toInt = -999999 := by decide
    rw [gMany, lMax, gMax]
    by_cases hp : p n = true
    · rw [if_pos hp, if_pos hp, if_pos hp]
      refine ⟨fun h => by omega, fun _ => ?_⟩
      by_cases h0 : gMany p n = 0
      · obtain ⟨e1, e2⟩ := i1 h0
        rw [e1, e2]
        have hg : -999999 < u n := by rw [xlt, hM]; omega
        rw [if_pos hg]
        by_cases hl : -99 < u n
        · rw [if_pos hl]
        · rw [if_neg hl]
          rw [xlt, h99] at hl
          exact toInt_ext (by omega)
      · rw [i2 h0]
    · rw [if_neg hp, if_neg hp, if_neg hp]
      exact ⟨fun h => i1 (by omega), fun h => i2 (by omega)⟩
section MAIN5
variable {l : tg_Ln} {K : Option Value → List va_E → Prop} {told : Int64} {tx u pk pn pc pm kv kc km jv jc jm kp ln : Nat → Int32} {L d n s z p : Nat} {v c : Nat → Nat} {kd kn ke jd jn je : Int32} {P : Nat → Nat → Int64} {w : List va_E}
section SUML
variable {old dn len ts tb gd gn ge td tn te qd qv cz pz px : Int32} {gv gc gm nv tv tc tm en a8 a10 ic al cs on : Nat → Int32} {hv a9 a11 : Nat → Int64} {r1 r2 r3 r4 : Nat}
theorem kX8_sum_l {a q : Nat} (ha : a < 3) (hq : q ≤ 12) (hl : ln a = nI q) (hK1 : sumK (P a) q = none → K (some (.int (-14))) (wA old told dn tx len ts tb gd gv gn gc gm ge nv td tv tn tc tm te qd qv en hv cz r1 r2 r3 r4 a8 a9 a10 a11 ic al cs on pz px pk pn pc pm kd kv kn kc km ke jd jv jn jc jm je kp ln P)) (hK2 : ∀ t, sumK (P a) q = some t → K (some (.int (nI q))) (wA old t dn tx len ts tb gd gv gn gc gm ge nv td tv tn tc tm te qd qv en hv cz r1 r2 r3 r4 a8 a9 a10 a11 ic al cs on pz px pk pn pc pm kd kv kn kc km ke jd jv jn jc jm je kp ln P)) : ∀ (m k : Nat) (t : Int64) (x5 x6 : Value), q - k < m → k ≤ q → sumK (P a) k = some t → tg_G l mX8_sum 1000 K 0 0 29 [.ref 0, .int (nI a), .long t, .null, .int (nI k), x5, x6] [] (wA old told dn tx len ts tb gd gv gn gc gm ge nv td tv tn tc tm te qd qv en hv cz r1 r2 r3 r4 a8 a9 a10 a11 ic al cs on pz px pk pn pc pm kd kv kn kc km ke jd jv jn jc jm je kp ln P) := by
  intro m
  induction m with
  | zero => intro k t x5 x6 h; omega
  | succ m ih =>
    intro k t x5 x6 hm hk ht
    have e1 := wA_get (old := old) (dn := dn) (len := len) (ts := ts) (tb := tb) (gd := gd) (gn := gn) (ge := ge) (td := td) (tn := tn) (te := te) (qd := qd) (qv := qv) (cz := cz) (pz := pz) (px := px) (kd := kd) (kn := kn) (ke := ke) (jd := jd) (jn := jn) (je := je) (told := told) (tx := tx) (gv := gv) (gc := gc) (gm := gm) (nv := nv) (tv := tv) (tc := tc) (tm := tm) (en := en) (a8 := a8) (a10 := a10) (ic := ic) (al := al) (cs := cs) (on := on) (pk := pk) (pn := pn) (pc := pc) (pm := pm) (kv := kv) (kc := kc) (km := km) (jv := jv) (jc := jc) (jm := jm) (kp := kp) (ln := ln) (hv := hv) (a9 := a9) (a11 := a11) (P := P) (r1 := r1) (r2 := r2) (r3 := r3) (r4 := r4) a ha
    unfold wA at ih hK1 hK2 e1 ⊢
    refine tg_go bX8_sum_29 ?_
    simp only [ti_aload, ti_getf, ti_iald, ti_iload, List.getElem?_cons_zero, List.getElem?_cons_succ, true_and]
    rw [nI_clamp (show a < 2 ^ 31 by omega), hl]
    refine ⟨vp_in_nI (by omega) (by omega), ?_⟩
    refine g_icmp_ge (tgt := 81) dX8_sum_40 rfl (fun h40 => ?_) (fun h40 => ?_)
    · rw [lI_le (by omega) (by omega)] at h40
      obtain rfl : k = q := by omega
      refine tg_go bX8_sum_81 ?_
      simp only [ti_aload, ti_getf, ti_iald, ti_iload, ti_lload, ti_putfJ, List.getElem?_cons_zero, List.getElem?_cons_succ, List.set_cons_zero, List.set_cons_succ, true_and]
      rw [nI_clamp (show a < 2 ^ 31 by omega), hl]
      refine ⟨vp_in_nI (by omega) (by omega), ?_⟩
      refine g_iret dX8_sum_95 rfl ?_
      exact hK2 t ht
    · rw [lI_le (by omega) (by omega)] at h40
      refine tg_go bX8_sum_43 ?_
      simp only [ti_aald, ti_aload, ti_getf, ti_iload, ti_lald, ti_lload, ti_lstore, ti_push, tg_s2, tg_cl, List.getElem?_cons_zero, List.getElem?_cons_succ, List.set_cons_zero, List.set_cons_succ, true_and]
      simp only [nI_clamp (show a < 2 ^ 31 by omega), rowG_at ha, e1, nI_clamp (show k < 2 ^ 31 by omega)]
      refine ⟨Or.inr trivial, vp_in_nI (by omega) (by omega), trivial, vp_in_nI (by omega) (by omega), ?_⟩
      refine tg_cP vX8_sum_61 (kX2_isOver) rfl rfl (Nat.le_of_ble_eq_true rfl) (Nat.le_of_ble_eq_true rfl) ?_
      rw [ov_plus]
      refine g_if_eq (tgt := 70) dX8_sum_64 rfl (fun h64 => ?_) (fun h64 => ?_)
      · have hov : plusOv t (P a k) = false := bZ_0 h64
        refine tg_go bX8_sum_70 ?_
        simp only [ti_iinc, ti_ladd, ti_lload, ti_lstore, tg_s1, tg_cl, tg_s2, List.getElem?_cons_zero, List.getElem?_cons_succ, List.set_cons_zero, List.set_cons_succ, true_and]
        rw [nI_1]
        refine g_goto (tgt := 29) dX8_sum_78 rfl ?_
        exact ih (k + 1) _ _ _ (by omega) (by omega) (by rw [sumK, ht]; simp only; rw [if_neg (by rw [hov]; decide)])
      · have hov : plusOv t (P a k) = true := bZ_n h64
        have h2 : sumK (P a) (k + 1) = none := by rw [sumK, ht]; simp only; rw [if_pos hov]
        have h3 := sumK_none h2 (q - (k + 1))
        rw [show k + 1 + (q - (k + 1)) = q by omega] at h3
        refine tg_go bX8_sum_67 ?_
        simp only [ti_push, List.getElem?_cons_zero, List.getElem?_cons_succ, true_and]
        refine g_iret dX8_sum_69 rfl ?_
        exact hK1 h3
end SUML
theorem kX8_sum {x : Int32} (hs : (sA told tx L d v n c u s z p pk pn pc pm kd kv kn kc km ke jd jv jn jc jm je kp ln P) w) (hz : szOK ln) : tg_Ct l mX8_sum 1000 [.ref 0, .int x] w (fun r w => (¬ (0 ≤ x.toInt ∧ x.toInt ≤ 2) ∧ r = some (.int (-2)) ∧ (sA told tx L d v n c u s z p pk pn pc pm kd kv kn kc km ke jd jv jn jc jm je kp ln P) w) ∨ ((0 ≤ x.toInt ∧ x.toInt ≤ 2) ∧ ln x.toInt.toNat = -1 ∧ r = some (.int (-11)) ∧ (sA told tx L d v n c u s z p pk pn pc pm kd kv kn kc km ke jd jv jn jc jm je kp ln P) w) ∨ ((0 ≤ x.toInt ∧ x.toInt ≤ 2) ∧ ∃ q, q ≤ 12 ∧ ln x.toInt.toNat = nI q ∧ ((sumK (P x.toInt.toNat) q = none ∧ r = some (.int (-14)) ∧ (sA told tx L d v n c u s z p pk pn pc pm kd kv kn kc km ke jd jv jn jc jm je kp ln P) w) ∨ ∃ t, sumK (P x.toInt.toNat) q = some t ∧ r = some (.int (nI q)) ∧ (sA t tx L d v n c u s z p pk pn pc pm kd kv kn kc km ke jd jv jn jc jm je kp ln P) w))) := by
  refine tg_gen (fun K0 hK0 => ?_)
  obtain ⟨old, dn, ts, tb, gd, gv, gn, gc, gm, ge, nv, td, tv, tn, tc, tm, te, qd, qv, en, hv, cz, r1, r2, r3, r4, a8, a9, a10, a11, ic, al, cs, on, ⟨rfl, htv, rfl, htc, htm, rfl⟩, hV, hE, ho, hJ, hO, rfl⟩ := hs
  show tg_G _ _ _ _ _ _ _ [.ref 0, .int x, .null, .null, .null, .null, .null] [] _
  unfold wA
  refine tg_go bX8_sum_0 ?_
  simp only [ti_iload, List.getElem?_cons_zero, List.getElem?_cons_succ, true_and]
  refine tg_cP vX8_sum_1 (kX3_isRow') rfl rfl (Nat.le_of_ble_eq_true rfl) (Nat.le_of_ble_eq_true rfl) ?_
  refine g_if_ne (tgt := 10) dX8_sum_4 rfl (fun h4 => ?_) (fun h4 => ?_)
  · have hr := of_decide_eq_true (bZ_n h4)
    obtain ⟨ex, hx⟩ := x_of (n := 3) (x := x) hr.1 (by omega)
    generalize x.toInt.toNat = a at ex hx hK0
    subst ex
    refine tg_go bX8_sum_10 ?_
    simp only [ti_aload, ti_getf, ti_iload, List.getElem?_cons_zero, List.getElem?_cons_succ, true_and]
    refine tg_cR iL vX8_sum_15 (kX3_isMissing hx) rfl rfl rfl rfl rfl (Nat.le_of_ble_eq_true rfl) rfl (Nat.le_of_ble_eq_true rfl) (Nat.le_of_ble_eq_true rfl) ?_
    simp only [tg_v]
    refine g_if_eq (tgt := 24) dX8_sum_18 rfl (fun h18 => ?_) (fun h18 => ?_)
    · have hm : ¬ ln a = -1 := of_decide_eq_false (bZ_0 h18)
      obtain ⟨q, hq, eq⟩ := (hz a hx).resolve_left hm
      refine tg_go bX8_sum_24 ?_
      simp only [ti_istore, ti_lstore, ti_push, tg_s1, tg_cl, tg_s2, List.getElem?_cons_zero, List.getElem?_cons_succ, List.set_cons_zero, List.set_cons_succ, true_and]
      refine kX8_sum_l hx hq eq (fun h => ?_) (fun t h => ?_) (q + 1) 0 0 _ _ (by omega) (by omega) rfl
      · exact hK0 _ _ (Or.inr (Or.inr ⟨hr, q, hq, eq, Or.inl ⟨h, rfl, ⟨_, _, _, _, _, _, _, _, _, _, _, _, _, _, _, _, _, _, _, _, _, _, _, _, _, _, _, _, _, _, _, _, _, _, ⟨rfl, htv, rfl, htc, htm, rfl⟩, hV, hE, ho, hJ, hO, rfl⟩⟩⟩))
      · exact hK0 _ _ (Or.inr (Or.inr ⟨hr, q, hq, eq, Or.inr ⟨t, h, rfl, ⟨_, _, _, _, _, _, _, _, _, _, _, _, _, _, _, _, _, _, _, _, _, _, _, _, _, _, _, _, _, _, _, _, _, _, ⟨rfl, htv, rfl, htc, htm, rfl⟩, hV, hE, ho, hJ, hO, rfl⟩⟩⟩))
    · have hm : ln a = -1 := of_decide_eq_true (bZ_n h18)
      refine tg_go bX8_sum_21 ?_
      simp only [ti_push, List.getElem?_cons_zero, List.getElem?_cons_succ, true_and]
      refine g_iret dX8_sum_23 rfl ?_
      exact hK0 _ _ (Or.inr (Or.inl ⟨hr, hm, rfl, ⟨_, _, _, _, _, _, _, _, _, _, _, _, _, _, _, _, _, _, _, _, _, _, _, _, _, _, _, _, _, _, _, _, _, _, ⟨rfl, htv, rfl, htc, htm, rfl⟩, hV, hE, ho, hJ, hO, rfl⟩⟩))
  · have hr := of_decide_eq_false (bZ_0 h4)
    refine tg_go bX8_sum_7 ?_
    simp only [ti_push, List.getElem?_cons_zero, List.getElem?_cons_succ, true_and]
    refine g_iret dX8_sum_9 rfl ?_
    exact hK0 _ _ (Or.inl ⟨hr, rfl, ⟨_, _, _, _, _, _, _, _, _, _, _, _, _, _, _, _, _, _, _, _, _, _, _, _, _, _, _, _, _, _, _, _, _, _, ⟨rfl, htv, rfl, htc, htm, rfl⟩, hV, hE, ho, hJ, hO, rfl⟩⟩)
theorem kX8_load {x i y : Int32} (hs : (sA told tx L d v n c u s z p pk pn pc pm kd kv kn kc km ke jd jv jn jc jm je kp ln P) w) (hz : szOK ln) : tg_Ct l mX8_load 1000 [.ref 0, .int x, .int i, .int y] w (fun r w => (¬ (0 ≤ x.toInt ∧ x.toInt ≤ 2) ∧ r = some (.int (-2)) ∧ (sA told tx L d v n c u s z p pk pn pc pm kd kv kn kc km ke jd jv jn jc jm je kp ln P) w) ∨ ((0 ≤ x.toInt ∧ x.toInt ≤ 2) ∧ cellOK d v y = false ∧ r = some (.int (-3)) ∧ (sA told tx L d v n c u s z p pk pn pc pm kd kv kn kc km ke jd jv jn jc jm je kp ln P) w) ∨ ((0 ≤ x.toInt ∧ x.toInt ≤ 2) ∧ cellOK d v y = true ∧ npI ln x i ≠ 0 ∧ r = some (.int (npI ln x i)) ∧ (sA told tx L d v n c u s z p pk pn pc pm kd kv kn kc km ke jd jv jn jc jm je kp ln P) w) ∨ ((0 ≤ x.toInt ∧ x.toInt ≤ 2) ∧ cellOK d v y = true ∧ npI ln x i = 0 ∧ r = some (.int 1) ∧ (sA told tx L d v n c u s z p pk pn pc pm kd kv kn kc km ke jd jv jn jc jm je kp ln (updP P x.toInt.toNat (vp_updL (P x.toInt.toNat) i.toInt.toNat (gSum (cvP d c y.toInt.toNat) u n).toInt64))) w)) := by
  refine tg_gen (fun K0 hK0 => ?_)
  obtain ⟨old, dn, ts, tb, gd, gv, gn, gc, gm, ge, nv, td, tv, tn, tc, tm, te, qd, qv, en, hv, cz, r1, r2, r3, r4, a8, a9, a10, a11, ic, al, cs, on, ⟨rfl, htv, rfl, htc, htm, rfl⟩, hV, hE, ho, hJ, hO, rfl⟩ := hs
  have hn40 : n ≤ 40 := hE.1
  show tg_G _ _ _ _ _ _ _ [.ref 0, .int x, .int i, .int y] [] _
  unfold wA
  refine tg_go bX8_load_0 ?_
  simp only [ti_iload, List.getElem?_cons_zero, List.getElem?_cons_succ, true_and]
  refine tg_cP vX8_load_1 (kX3_isRow') rfl rfl (Nat.le_of_ble_eq_true rfl) (Nat.le_of_ble_eq_true rfl) ?_
  refine g_if_ne (tgt := 10) dX8_load_4 rfl (fun h4 => ?_) (fun h4 => ?_)
  · have hr := of_decide_eq_true (bZ_n h4)
    obtain ⟨ex, hx⟩ := x_of (n := 3) (x := x) hr.1 (by omega)
    generalize x.toInt.toNat = a at ex hx hK0
    subst ex
    refine tg_go bX8_load_10 ?_
    simp only [ti_aload, ti_getf, ti_iload, List.getElem?_cons_zero, List.getElem?_cons_succ, true_and]
    refine tg_cR iT vX8_load_15 (kX6_isCellCode hV.2.1 (fun k hk => ⟨htv k hk, (hV.2.2 k hk).2⟩)) rfl rfl rfl rfl rfl (Nat.le_of_ble_eq_true rfl) rfl (Nat.le_of_ble_eq_true rfl) (Nat.le_of_ble_eq_true rfl) ?_
    simp only [tg_v]
    refine g_if_ne (tgt := 24) dX8_load_18 rfl (fun h18 => ?_) (fun h18 => ?_)
    · have hcl : cellOK d v y = true := bZ_n h18
      obtain ⟨e, he1, he2⟩ := cellOK_in hcl
      have h7 := pow7 hV.2.1
      have ee : y.toInt.toNat = e := by rw [he1, nI_toInt (by omega)]; omega
      rw [ee] at hK0
      subst he1
      refine tg_go bX8_load_24 ?_
      simp only [ti_aload, ti_getf, ti_iload, List.getElem?_cons_zero, List.getElem?_cons_succ, true_and]
      refine tg_cWe vX8_load_35 (kX8_freshCells htv htc hV hE ho hJ hO) rfl rfl rfl rfl (Nat.le_of_ble_eq_true rfl) (Nat.le_of_ble_eq_true rfl) (Nat.le_of_ble_eq_true rfl) (by rintro r w1 ⟨-, hv, cz, r1, r2, r3, r4, a8, a9, a10, a11, ic, al, cs, on, -, -, rfl⟩; rfl) ?_
      rintro r w1 ⟨rfl, hv, cz, r1, r2, r3, r4, a8, a9, a10, a11, ic, al, cs, on, hJ, hO, rfl⟩
      simp only [Option.toList_some, List.cons_append, List.nil_append]
      unfold wA
      refine tg_go bX8_load_38 ?_
      simp only [ti_iload, List.getElem?_cons_zero, List.getElem?_cons_succ, true_and]
      refine tg_cR iC vX8_load_39 (kX0_coverOf (cellO_cls hO).1 hV.2.1 hn40 (by omega)) rfl rfl rfl rfl rfl (Nat.le_of_ble_eq_true rfl) rfl (Nat.le_of_ble_eq_true rfl) (Nat.le_of_ble_eq_true rfl) ?_
      simp only [tg_v]
      refine tg_cR iT vX8_load_42 (kX6_sumOf hn40) rfl rfl rfl rfl rfl (Nat.le_of_ble_eq_true rfl) rfl (Nat.le_of_ble_eq_true rfl) (Nat.le_of_ble_eq_true rfl) ?_
      simp only [tg_v]
      rw [gSum_congr (q := cvP d c e) (t := u) n (fun i hi => cbit_mk (by omega) hi) htm]
      refine tg_go bX8_load_45 ?_
      simp only [ti_i2l, List.getElem?_cons_zero, List.getElem?_cons_succ, true_and]
      refine tg_cV iL vX8_load_46 (kX3_put hz hx) rfl rfl rfl rfl rfl (Nat.le_of_ble_eq_true rfl) rfl (Nat.le_of_ble_eq_true rfl) (Nat.le_of_ble_eq_true rfl) (by rintro r w1 ⟨-, rfl⟩; rfl) ?_
      rintro r w1 ⟨rfl, rfl⟩
      simp only [Option.map_some, Option.map_none, Option.toList_some, Option.toList_none, List.cons_append, List.nil_append, tg_v]
      refine tg_rw put_L ?_
      unfold wA
      refine g_iret dX8_load_49 rfl ?_
      have hf := fnd_np (y := i) hz hx
      by_cases h0 : npI ln (nI a) i = 0
      · rw [if_pos h0] at hf
        rw [hf, if_pos rfl]
        exact hK0 _ _ (Or.inr (Or.inr (Or.inr ⟨hr, hcl, h0, rfl, ⟨_, _, _, _, _, _, _, _, _, _, _, _, _, _, _, _, _, _, _, _, _, _, _, _, _, _, _, _, _, _, _, _, _, _, ⟨rfl, htv, rfl, htc, htm, rfl⟩, hV, hE, Or.inl rfl, hJ, fun _ => hO, rfl⟩⟩)))
      · rw [if_neg h0] at hf
        rw [hf, if_neg (by rcases np_neg (ln := ln) (x := nI a) (y := i) with q | q; exact absurd q h0; intro e; rw [e] at q; exact absurd q (by decide))]
        exact hK0 _ _ (Or.inr (Or.inr (Or.inl ⟨hr, hcl, h0, rfl, ⟨_, _, _, _, _, _, _, _, _, _, _, _, _, _, _, _, _, _, _, _, _, _, _, _, _, _, _, _, _, _, _, _, _, _, ⟨rfl, htv, rfl, htc, htm, rfl⟩, hV, hE, Or.inl rfl, hJ, fun _ => hO, rfl⟩⟩)))
    · have hcl : cellOK d v y = false := bZ_0 h18
      refine tg_go bX8_load_21 ?_
      simp only [ti_push, List.getElem?_cons_zero, List.getElem?_cons_succ, true_and]
      refine g_iret dX8_load_23 rfl ?_
      exact hK0 _ _ (Or.inr (Or.inl ⟨hr, hcl, rfl, ⟨_, _, _, _, _, _, _, _, _, _, _, _, _, _, _, _, _, _, _, _, _, _, _, _, _, _, _, _, _, _, _, _, _, _, ⟨rfl, htv, rfl, htc, htm, rfl⟩, hV, hE, ho, hJ, hO, rfl⟩⟩))
  · have hr := of_decide_eq_false (bZ_0 h4)
    refine tg_go bX8_load_7 ?_
    simp only [ti_push, List.getElem?_cons_zero, List.getElem?_cons_succ, true_and]
    refine g_iret dX8_load_9 rfl ?_
    exact hK0 _ _ (Or.inl ⟨hr, rfl, ⟨_, _, _, _, _, _, _, _, _, _, _, _, _, _, _, _, _, _, _, _, _, _, _, _, _, _, _, _, _, _, _, _, _, _, ⟨rfl, htv, rfl, htc, htm, rfl⟩, hV, hE, ho, hJ, hO, rfl⟩⟩)
theorem kX8_cell {x y : Int32} (hs : (sA told tx L d v n c u s z p pk pn pc pm kd kv kn kc km ke jd jv jn jc jm je kp ln P) w) : tg_Ct l mX8_cell 1000 [.ref 0, .int x, .int y] w (fun r w => ((¬ (cellOK d v x = true ∧ 0 ≤ y.toInt ∧ y.toInt ≤ 3) ∧ r = some (.int (-3))) ∨ ((cellOK d v x = true ∧ 0 ≤ y.toInt ∧ y.toInt ≤ 3) ∧ r = some (.int (aCell d n c u x.toInt.toNat y)))) ∧ (sA told tx L d v n c u s z p pk pn pc pm kd kv kn kc km ke jd jv jn jc jm je kp ln P) w) := by
  refine tg_gen (fun K0 hK0 => ?_)
  obtain ⟨old, dn, ts, tb, gd, gv, gn, gc, gm, ge, nv, td, tv, tn, tc, tm, te, qd, qv, en, hv, cz, r1, r2, r3, r4, a8, a9, a10, a11, ic, al, cs, on, ⟨rfl, htv, rfl, htc, htm, rfl⟩, hV, hE, ho, hJ, hO, rfl⟩ := hs
  have hn40 : n ≤ 40 := hE.1
  show tg_G _ _ _ _ _ _ _ [.ref 0, .int x, .int y, .null, .null] [] _
  unfold wA
  refine tg_go bX8_cell_0 ?_
  simp only [ti_aload, ti_getf, ti_iload, List.getElem?_cons_zero, List.getElem?_cons_succ, true_and]
  refine tg_cR iT vX8_cell_5 (kX6_isCellCode hV.2.1 (fun k hk => ⟨htv k hk, (hV.2.2 k hk).2⟩)) rfl rfl rfl rfl rfl (Nat.le_of_ble_eq_true rfl) rfl (Nat.le_of_ble_eq_true rfl) (Nat.le_of_ble_eq_true rfl) ?_
  simp only [tg_v]
  refine g_if_eq (tgt := 20) dX8_cell_8 rfl (fun h8 => ?_) (fun h8 => ?_)
  · have hcl : cellOK d v x = false := bZ_0 h8
    refine tg_go bX8_cell_20 ?_
    simp only [ti_push, List.getElem?_cons_zero, List.getElem?_cons_succ, true_and]
    refine g_iret dX8_cell_22 rfl ?_
    exact hK0 _ _ ⟨Or.inl ⟨fun q => by rw [hcl] at q; exact absurd q.1 (by decide), rfl⟩, ⟨_, _, _, _, _, _, _, _, _, _, _, _, _, _, _, _, _, _, _, _, _, _, _, _, _, _, _, _, _, _, _, _, _, _, ⟨rfl, htv, rfl, htc, htm, rfl⟩, hV, hE, ho, hJ, hO, rfl⟩⟩
  · have hcl : cellOK d v x = true := bZ_n h8
    refine tg_go bX8_cell_11 ?_
    simp only [ti_iload, List.getElem?_cons_zero, List.getElem?_cons_succ, true_and]
    refine g_if_lt (tgt := 20) dX8_cell_12 rfl (fun h12 => ?_) (fun h12 => ?_)
    · rw [xlt] at h12
      have h12 : y.toInt < 0 := h12
      refine tg_go bX8_cell_20 ?_
      simp only [ti_push, List.getElem?_cons_zero, List.getElem?_cons_succ, true_and]
      refine g_iret dX8_cell_22 rfl ?_
      exact hK0 _ _ ⟨Or.inl ⟨by omega, rfl⟩, ⟨_, _, _, _, _, _, _, _, _, _, _, _, _, _, _, _, _, _, _, _, _, _, _, _, _, _, _, _, _, _, _, _, _, _, ⟨rfl, htv, rfl, htc, htm, rfl⟩, hV, hE, ho, hJ, hO, rfl⟩⟩
    · rw [xlt] at h12
      have h12 : ¬ y.toInt < 0 := h12
      refine tg_go bX8_cell_15 ?_
      simp only [ti_iload, ti_push, List.getElem?_cons_zero, List.getElem?_cons_succ, true_and]
      refine g_icmp_le (tgt := 23) dX8_cell_17 rfl (fun h17 => ?_) (fun h17 => ?_)
      · rw [xle] at h17
        have h17 : y.toInt ≤ 3 := h17
        obtain ⟨e, he1, he2⟩ := cellOK_in hcl
        have h7 := pow7 hV.2.1
        have ee : x.toInt.toNat = e := by rw [he1, nI_toInt (by omega)]; omega
        rw [ee] at hK0
        unfold aCell at hK0
        subst he1
        refine tg_go bX8_cell_23 ?_
        simp only [ti_aload, List.getElem?_cons_zero, List.getElem?_cons_succ, true_and]
        refine tg_cWe vX8_cell_24 (kX8_freshCells htv htc hV hE ho hJ hO) rfl rfl rfl rfl (Nat.le_of_ble_eq_true rfl) (Nat.le_of_ble_eq_true rfl) (Nat.le_of_ble_eq_true rfl) (by rintro r w1 ⟨-, hv, cz, r1, r2, r3, r4, a8, a9, a10, a11, ic, al, cs, on, -, -, rfl⟩; rfl) ?_
        rintro r w1 ⟨rfl, hv, cz, r1, r2, r3, r4, a8, a9, a10, a11, ic, al, cs, on, hJ, hO, rfl⟩
        simp only [Option.toList_some, List.cons_append, List.nil_append]
        unfold wA
        refine tg_go bX8_cell_27 ?_
        simp only [ti_iload, List.getElem?_cons_zero, List.getElem?_cons_succ, true_and]
        refine tg_cR iC vX8_cell_28 (kX0_coverOf (cellO_cls hO).1 hV.2.1 hn40 (by omega)) rfl rfl rfl rfl rfl (Nat.le_of_ble_eq_true rfl) rfl (Nat.le_of_ble_eq_true rfl) (Nat.le_of_ble_eq_true rfl) ?_
        simp only [tg_v]
        refine tg_go bX8_cell_31 ?_
        simp only [ti_iload, ti_lstore, tg_s2, tg_cl, List.getElem?_cons_zero, List.getElem?_cons_succ, List.set_cons_zero, List.set_cons_succ, true_and]
        refine g_if_ne (tgt := 41) dX8_cell_33 rfl (fun h33 => ?_) (fun h33 => ?_)
        · refine tg_go bX8_cell_41 ?_
          simp only [ti_iload, ti_push, List.getElem?_cons_zero, List.getElem?_cons_succ, true_and]
          refine g_icmp_ne (tgt := 59) dX8_cell_43 rfl (fun h43 => ?_) (fun h43 => ?_)
          · refine tg_go bX8_cell_59 ?_
            simp only [ti_lcmp, ti_lload, ti_push, List.getElem?_cons_zero, List.getElem?_cons_succ, true_and]
            refine g_if_ne (tgt := 67) dX8_cell_62 rfl (fun h62 => ?_) (fun h62 => ?_)
            · rw [cmp_eq0, mk_zero hn40] at h62
              have h0 : ¬ gMany (cvP d c e) n = 0 := fun q => h62 ((gMany_0 n).mp q)
              refine tg_go bX8_cell_67 ?_
              simp only [ti_iload, ti_push, List.getElem?_cons_zero, List.getElem?_cons_succ, true_and]
              refine g_icmp_ne (tgt := 83) dX8_cell_69 rfl (fun h69 => ?_) (fun h69 => ?_)
              · refine tg_go bX8_cell_83 ?_
                simp only [ti_aload, ti_getf, ti_lload, List.getElem?_cons_zero, List.getElem?_cons_succ, true_and]
                refine tg_cR iT vX8_cell_88 (kX6_greatestOf hn40) rfl rfl rfl rfl rfl (Nat.le_of_ble_eq_true rfl) rfl (Nat.le_of_ble_eq_true rfl) (Nat.le_of_ble_eq_true rfl) ?_
                simp only [tg_v]
                rw [lMax_congr (q := cvP d c e) (t := u) n (fun i hi => cbit_mk (by omega) hi) htm, (lMax_eq n (fun i hi => (hE.2.2.2 i hi).1)).2 h0]
                refine tg_go bX8_cell_91 ?_
                simp only [ti_iadd, ti_push, List.getElem?_cons_zero, List.getElem?_cons_succ, true_and]
                refine g_iret dX8_cell_95 rfl ?_
                exact hK0 _ _ ⟨Or.inr ⟨⟨hcl, by omega, h17⟩, by rw [if_neg h33, if_neg h43, if_neg h0, if_neg h69, Int32.add_comm]⟩, ⟨_, _, _, _, _, _, _, _, _, _, _, _, _, _, _, _, _, _, _, _, _, _, _, _, _, _, _, _, _, _, _, _, _, _, ⟨rfl, htv, rfl, htc, htm, rfl⟩, hV, hE, Or.inl rfl, hJ, fun _ => hO, rfl⟩⟩
              · refine tg_go bX8_cell_72 ?_
                simp only [ti_aload, ti_getf, ti_lload, List.getElem?_cons_zero, List.getElem?_cons_succ, true_and]
                refine tg_cR iT vX8_cell_77 (kX6_leastOf hn40) rfl rfl rfl rfl rfl (Nat.le_of_ble_eq_true rfl) rfl (Nat.le_of_ble_eq_true rfl) (Nat.le_of_ble_eq_true rfl) ?_
                simp only [tg_v]
                rw [lMin_congr (q := cvP d c e) (t := u) n (fun i hi => cbit_mk (by omega) hi) htm, (lMin_eq n (fun i hi => (hE.2.2.2 i hi).2)).2 h0]
                refine g_goto (tgt := 91) dX8_cell_80 rfl ?_
                refine tg_go bX8_cell_91 ?_
                simp only [ti_iadd, ti_push, List.getElem?_cons_zero, List.getElem?_cons_succ, true_and]
                refine g_iret dX8_cell_95 rfl ?_
                exact hK0 _ _ ⟨Or.inr ⟨⟨hcl, by omega, h17⟩, by rw [if_neg h33, if_neg h43, if_neg h0, if_pos h69, Int32.add_comm]⟩, ⟨_, _, _, _, _, _, _, _, _, _, _, _, _, _, _, _, _, _, _, _, _, _, _, _, _, _, _, _, _, _, _, _, _, _, ⟨rfl, htv, rfl, htc, htm, rfl⟩, hV, hE, Or.inl rfl, hJ, fun _ => hO, rfl⟩⟩
            · rw [cmp_eq0, mk_zero hn40] at h62
              have h0 : gMany (cvP d c e) n = 0 := (gMany_0 n).mpr h62
              refine tg_go bX8_cell_65 ?_
              simp only [ti_push, List.getElem?_cons_zero, List.getElem?_cons_succ, true_and]
              refine g_iret dX8_cell_66 rfl ?_
              exact hK0 _ _ ⟨Or.inr ⟨⟨hcl, by omega, h17⟩, by rw [if_neg h33, if_neg h43, if_pos h0]⟩, ⟨_, _, _, _, _, _, _, _, _, _, _, _, _, _, _, _, _, _, _, _, _, _, _, _, _, _, _, _, _, _, _, _, _, _, ⟨rfl, htv, rfl, htc, htm, rfl⟩, hV, hE, Or.inl rfl, hJ, fun _ => hO, rfl⟩⟩
          · refine tg_go bX8_cell_46 ?_
            simp only [ti_aload, ti_getf, ti_lload, List.getElem?_cons_zero, List.getElem?_cons_succ, true_and]
            refine tg_cR iT vX8_cell_51 (kX6_sumOf hn40) rfl rfl rfl rfl rfl (Nat.le_of_ble_eq_true rfl) rfl (Nat.le_of_ble_eq_true rfl) (Nat.le_of_ble_eq_true rfl) ?_
            simp only [tg_v]
            rw [gSum_congr (q := cvP d c e) (t := u) n (fun i hi => cbit_mk (by omega) hi) htm]
            refine tg_go bX8_cell_54 ?_
            simp only [ti_iadd, ti_push, List.getElem?_cons_zero, List.getElem?_cons_succ, true_and]
            refine g_iret dX8_cell_58 rfl ?_
            exact hK0 _ _ ⟨Or.inr ⟨⟨hcl, by omega, h17⟩, by rw [if_neg h33, if_pos h43]⟩, ⟨_, _, _, _, _, _, _, _, _, _, _, _, _, _, _, _, _, _, _, _, _, _, _, _, _, _, _, _, _, _, _, _, _, _, ⟨rfl, htv, rfl, htc, htm, rfl⟩, hV, hE, Or.inl rfl, hJ, fun _ => hO, rfl⟩⟩
        · refine tg_go bX8_cell_36 ?_
          simp only [ti_lload, List.getElem?_cons_zero, List.getElem?_cons_succ, true_and]
          refine tg_cP vX8_cell_37 (kJ13_bitCount) rfl rfl (Nat.le_of_ble_eq_true rfl) (Nat.le_of_ble_eq_true rfl) ?_
          rw [bc_mk (by omega)]
          refine g_iret dX8_cell_40 rfl ?_
          exact hK0 _ _ ⟨Or.inr ⟨⟨hcl, by omega, h17⟩, by rw [if_pos h33]⟩, ⟨_, _, _, _, _, _, _, _, _, _, _, _, _, _, _, _, _, _, _, _, _, _, _, _, _, _, _, _, _, _, _, _, _, _, ⟨rfl, htv, rfl, htc, htm, rfl⟩, hV, hE, Or.inl rfl, hJ, fun _ => hO, rfl⟩⟩
      · rw [xle] at h17
        have h17 : ¬ y.toInt ≤ 3 := h17
        refine tg_go bX8_cell_20 ?_
        simp only [ti_push, List.getElem?_cons_zero, List.getElem?_cons_succ, true_and]
        refine g_iret dX8_cell_22 rfl ?_
        exact hK0 _ _ ⟨Or.inl ⟨by omega, rfl⟩, ⟨_, _, _, _, _, _, _, _, _, _, _, _, _, _, _, _, _, _, _, _, _, _, _, _, _, _, _, _, _, _, _, _, _, _, ⟨rfl, htv, rfl, htc, htm, rfl⟩, hV, hE, ho, hJ, hO, rfl⟩⟩
theorem kX8_closure {x : Int32} (hs : (sA told tx L d v n c u s z p pk pn pc pm kd kv kn kc km ke jd jv jn jc jm je kp ln P) w) : tg_Ct l mX8_closure 1000 [.ref 0, .int x] w (fun r w => ((cellOK d v x = false ∧ r = some (.int (-3))) ∨ (cellOK d v x = true ∧ r = some (.int (oI (gClo d (cvP d c x.toInt.toNat) c n))))) ∧ (sA told tx L d v n c u s z p pk pn pc pm kd kv kn kc km ke jd jv jn jc jm je kp ln P) w) := by
  refine tg_gen (fun K0 hK0 => ?_)
  obtain ⟨old, dn, ts, tb, gd, gv, gn, gc, gm, ge, nv, td, tv, tn, tc, tm, te, qd, qv, en, hv, cz, r1, r2, r3, r4, a8, a9, a10, a11, ic, al, cs, on, ⟨rfl, htv, rfl, htc, htm, rfl⟩, hV, hE, ho, hJ, hO, rfl⟩ := hs
  have hn40 : n ≤ 40 := hE.1
  show tg_G _ _ _ _ _ _ _ [.ref 0, .int x, .null] [] _
  unfold wA
  refine tg_go bX8_closure_0 ?_
  simp only [ti_aload, ti_getf, ti_iload, List.getElem?_cons_zero, List.getElem?_cons_succ, true_and]
  refine tg_cR iT vX8_closure_5 (kX6_isCellCode hV.2.1 (fun k hk => ⟨htv k hk, (hV.2.2 k hk).2⟩)) rfl rfl rfl rfl rfl (Nat.le_of_ble_eq_true rfl) rfl (Nat.le_of_ble_eq_true rfl) (Nat.le_of_ble_eq_true rfl) ?_
  simp only [tg_v]
  refine g_if_ne (tgt := 14) dX8_closure_8 rfl (fun h8 => ?_) (fun h8 => ?_)
  · have hcl : cellOK d v x = true := bZ_n h8
    obtain ⟨e, he1, he2⟩ := cellOK_in hcl
    have h7 := pow7 hV.2.1
    have ee : x.toInt.toNat = e := by rw [he1, nI_toInt (by omega)]; omega
    rw [ee] at hK0
    subst he1
    refine tg_go bX8_closure_14 ?_
    simp only [ti_aload, List.getElem?_cons_zero, List.getElem?_cons_succ, true_and]
    refine tg_cWe vX8_closure_15 (kX8_freshCells htv htc hV hE ho hJ hO) rfl rfl rfl rfl (Nat.le_of_ble_eq_true rfl) (Nat.le_of_ble_eq_true rfl) (Nat.le_of_ble_eq_true rfl) (by rintro r w1 ⟨-, hv, cz, r1, r2, r3, r4, a8, a9, a10, a11, ic, al, cs, on, -, -, rfl⟩; rfl) ?_
    rintro r w1 ⟨rfl, hv, cz, r1, r2, r3, r4, a8, a9, a10, a11, ic, al, cs, on, hJ, hO, rfl⟩
    simp only [Option.toList_some, List.cons_append, List.nil_append]
    unfold wA
    refine tg_go bX8_closure_18 ?_
    simp only [ti_aload, ti_astore, ti_iload, tg_s1, tg_cl, List.getElem?_cons_zero, List.getElem?_cons_succ, List.set_cons_zero, List.set_cons_succ, true_and]
    refine tg_cR iC vX8_closure_22 (kX0_coverOf (cellO_cls hO).1 hV.2.1 hn40 (by omega)) rfl rfl rfl rfl rfl (Nat.le_of_ble_eq_true rfl) rfl (Nat.le_of_ble_eq_true rfl) (Nat.le_of_ble_eq_true rfl) ?_
    simp only [tg_v]
    refine tg_cR iC vX8_closure_25 (kX0_closureOf (cellO_cls hO).1 hV.2.1 hn40 (cOK_of hE) htc) rfl rfl rfl rfl rfl (Nat.le_of_ble_eq_true rfl) rfl (Nat.le_of_ble_eq_true rfl) (Nat.le_of_ble_eq_true rfl) ?_
    simp only [tg_v]
    refine g_iret dX8_closure_28 rfl ?_
    exact hK0 _ _ ⟨Or.inr ⟨hcl, rfl⟩, ⟨_, _, _, _, _, _, _, _, _, _, _, _, _, _, _, _, _, _, _, _, _, _, _, _, _, _, _, _, _, _, _, _, _, _, ⟨rfl, htv, rfl, htc, htm, rfl⟩, hV, hE, Or.inl rfl, hJ, fun _ => hO, rfl⟩⟩
  · have hcl : cellOK d v x = false := bZ_0 h8
    refine tg_go bX8_closure_11 ?_
    simp only [ti_push, List.getElem?_cons_zero, List.getElem?_cons_succ, true_and]
    refine g_iret dX8_closure_13 rfl ?_
    exact hK0 _ _ ⟨Or.inl ⟨hcl, rfl⟩, ⟨_, _, _, _, _, _, _, _, _, _, _, _, _, _, _, _, _, _, _, _, _, _, _, _, _, _, _, _, _, _, _, _, _, _, ⟨rfl, htv, rfl, htc, htm, rfl⟩, hV, hE, ho, hJ, hO, rfl⟩⟩
theorem kX8_kept {x : Int32} (hs : (sA told tx L d v n c u s z p pk pn pc pm kd kv kn kc km ke jd jv jn jc jm je kp ln P) w) : tg_Ct l mX8_kept 1000 [.ref 0, .int x] w (fun r w => ((x.toInt < 0 ∧ r = some (.int (-3))) ∨ (0 ≤ x.toInt ∧ r = some (.int (oI (nth (cuB d n s c) (7 ^ d) x.toInt.toNat))))) ∧ (sA told tx L d v n c u s z p pk pn pc pm kd kv kn kc km ke jd jv jn jc jm je kp ln P) w) := by
  refine tg_gen (fun K0 hK0 => ?_)
  obtain ⟨old, dn, ts, tb, gd, gv, gn, gc, gm, ge, nv, td, tv, tn, tc, tm, te, qd, qv, en, hv, cz, r1, r2, r3, r4, a8, a9, a10, a11, ic, al, cs, on, ⟨rfl, htv, rfl, htc, htm, rfl⟩, hV, hE, ho, hJ, hO, rfl⟩ := hs
  have hn40 : n ≤ 40 := hE.1
  show tg_G _ _ _ _ _ _ _ [.ref 0, .int x] [] _
  unfold wA
  refine tg_go bX8_kept_0 ?_
  simp only [ti_iload, List.getElem?_cons_zero, List.getElem?_cons_succ, true_and]
  refine g_if_ge (tgt := 9) dX8_kept_1 rfl (fun h1 => ?_) (fun h1 => ?_)
  · rw [xle] at h1
    have h1 : 0 ≤ x.toInt := h1
    have hlt := Int32.toInt_lt x
    obtain ⟨ex, hx⟩ := x_of (n := 2 ^ 31) h1 (by omega)
    generalize x.toInt.toNat = q at ex hx hK0
    subst ex
    refine tg_go bX8_kept_9 ?_
    simp only [ti_aload, List.getElem?_cons_zero, List.getElem?_cons_succ, true_and]
    refine tg_cWe vX8_kept_10 (kX8_freshCells htv htc hV hE ho hJ hO) rfl rfl rfl rfl (Nat.le_of_ble_eq_true rfl) (Nat.le_of_ble_eq_true rfl) (Nat.le_of_ble_eq_true rfl) (by rintro r w1 ⟨-, hv, cz, r1, r2, r3, r4, a8, a9, a10, a11, ic, al, cs, on, -, -, rfl⟩; rfl) ?_
    rintro r w1 ⟨rfl, hv, cz, r1, r2, r3, r4, a8, a9, a10, a11, ic, al, cs, on, hJ, hO, rfl⟩
    simp only [Option.toList_some, List.cons_append, List.nil_append]
    unfold wA
    refine tg_go bX8_kept_13 ?_
    simp only [ti_iload, List.getElem?_cons_zero, List.getElem?_cons_succ, true_and]
    refine tg_cR iC vX8_kept_14 (kX0_codeInCube' hV.2.1 hn40 hE.2.1.2 hx hO) rfl rfl rfl rfl rfl (Nat.le_of_ble_eq_true rfl) rfl (Nat.le_of_ble_eq_true rfl) (Nat.le_of_ble_eq_true rfl) ?_
    simp only [tg_v]
    refine g_iret dX8_kept_17 rfl ?_
    exact hK0 _ _ ⟨Or.inr ⟨h1, rfl⟩, ⟨_, _, _, _, _, _, _, _, _, _, _, _, _, _, _, _, _, _, _, _, _, _, _, _, _, _, _, _, _, _, _, _, _, _, ⟨rfl, htv, rfl, htc, htm, rfl⟩, hV, hE, Or.inl rfl, hJ, fun _ => hO, rfl⟩⟩
  · rw [xle] at h1
    have h1 : ¬ 0 ≤ x.toInt := h1
    refine tg_go bX8_kept_4 ?_
    simp only [ti_push, List.getElem?_cons_zero, List.getElem?_cons_succ, true_and]
    refine g_goto (tgt := 17) dX8_kept_6 rfl ?_
    refine g_iret dX8_kept_17 rfl ?_
    exact hK0 _ _ ⟨Or.inl ⟨by omega, rfl⟩, ⟨_, _, _, _, _, _, _, _, _, _, _, _, _, _, _, _, _, _, _, _, _, _, _, _, _, _, _, _, _, _, _, _, _, _, ⟨rfl, htv, rfl, htc, htm, rfl⟩, hV, hE, ho, hJ, hO, rfl⟩⟩
theorem kX8_ask {x y : Int32} (hs : (sA told tx L d v n c u s z p pk pn pc pm kd kv kn kc km ke jd jv jn jc jm je kp ln P) w) : tg_Ct l mX8_ask 1000 [.ref 0, .int x, .int y] w (fun r w => ((¬ (cellOK d v x = true ∧ 0 ≤ y.toInt ∧ y.toInt ≤ 1) ∧ r = some (.int (-3))) ∨ ((cellOK d v x = true ∧ 0 ≤ y.toInt ∧ y.toInt ≤ 1) ∧ r = some (.int (aAsk d n s c u x.toInt.toNat y)))) ∧ (sA told tx L d v n c u s z p pk pn pc pm kd kv kn kc km ke jd jv jn jc jm je kp ln P) w) := by
  refine tg_gen (fun K0 hK0 => ?_)
  obtain ⟨old, dn, ts, tb, gd, gv, gn, gc, gm, ge, nv, td, tv, tn, tc, tm, te, qd, qv, en, hv, cz, r1, r2, r3, r4, a8, a9, a10, a11, ic, al, cs, on, ⟨rfl, htv, rfl, htc, htm, rfl⟩, hV, hE, ho, hJ, hO, rfl⟩ := hs
  have hn40 : n ≤ 40 := hE.1
  show tg_G _ _ _ _ _ _ _ [.ref 0, .int x, .int y, .null, .null, .null] [] _
  unfold wA
  refine tg_go bX8_ask_0 ?_
  simp only [ti_aload, ti_getf, ti_iload, List.getElem?_cons_zero, List.getElem?_cons_succ, true_and]
  refine tg_cR iT vX8_ask_5 (kX6_isCellCode hV.2.1 (fun k hk => ⟨htv k hk, (hV.2.2 k hk).2⟩)) rfl rfl rfl rfl rfl (Nat.le_of_ble_eq_true rfl) rfl (Nat.le_of_ble_eq_true rfl) (Nat.le_of_ble_eq_true rfl) ?_
  simp only [tg_v]
  refine g_if_eq (tgt := 20) dX8_ask_8 rfl (fun h8 => ?_) (fun h8 => ?_)
  · have hcl : cellOK d v x = false := bZ_0 h8
    refine tg_go bX8_ask_20 ?_
    simp only [ti_push, List.getElem?_cons_zero, List.getElem?_cons_succ, true_and]
    refine g_iret dX8_ask_22 rfl ?_
    exact hK0 _ _ ⟨Or.inl ⟨fun q => by rw [hcl] at q; exact absurd q.1 (by decide), rfl⟩, ⟨_, _, _, _, _, _, _, _, _, _, _, _, _, _, _, _, _, _, _, _, _, _, _, _, _, _, _, _, _, _, _, _, _, _, ⟨rfl, htv, rfl, htc, htm, rfl⟩, hV, hE, ho, hJ, hO, rfl⟩⟩
  · have hcl : cellOK d v x = true := bZ_n h8
    refine tg_go bX8_ask_11 ?_
    simp only [ti_iload, List.getElem?_cons_zero, List.getElem?_cons_succ, true_and]
    refine g_if_lt (tgt := 20) dX8_ask_12 rfl (fun h12 => ?_) (fun h12 => ?_)
    · rw [xlt] at h12
      have h12 : y.toInt < 0 := h12
      refine tg_go bX8_ask_20 ?_
      simp only [ti_push, List.getElem?_cons_zero, List.getElem?_cons_succ, true_and]
      refine g_iret dX8_ask_22 rfl ?_
      exact hK0 _ _ ⟨Or.inl ⟨by omega, rfl⟩, ⟨_, _, _, _, _, _, _, _, _, _, _, _, _, _, _, _, _, _, _, _, _, _, _, _, _, _, _, _, _, _, _, _, _, _, ⟨rfl, htv, rfl, htc, htm, rfl⟩, hV, hE, ho, hJ, hO, rfl⟩⟩
    · rw [xlt] at h12
      have h12 : ¬ y.toInt < 0 := h12
      refine tg_go bX8_ask_15 ?_
      simp only [ti_iload, ti_push, List.getElem?_cons_zero, List.getElem?_cons_succ, true_and]
      refine g_icmp_le (tgt := 23) dX8_ask_17 rfl (fun h17 => ?_) (fun h17 => ?_)
      · rw [xle] at h17
        have h17 : y.toInt ≤ 1 := h17
        obtain ⟨e, he1, he2⟩ := cellOK_in hcl
        have h7 := pow7 hV.2.1
        have ee : x.toInt.toNat = e := by rw [he1, nI_toInt (by omega)]; omega
        rw [ee] at hK0
        unfold aAsk at hK0
        have hle := gMany_le (cvP d c e) n
        have hs19 := hE.2.1
        subst he1
        refine tg_go bX8_ask_23 ?_
        simp only [ti_aload, List.getElem?_cons_zero, List.getElem?_cons_succ, true_and]
        refine tg_cWe vX8_ask_24 (kX8_freshCells htv htc hV hE ho hJ hO) rfl rfl rfl rfl (Nat.le_of_ble_eq_true rfl) (Nat.le_of_ble_eq_true rfl) (Nat.le_of_ble_eq_true rfl) (by rintro r w1 ⟨-, hv, cz, r1, r2, r3, r4, a8, a9, a10, a11, ic, al, cs, on, -, -, rfl⟩; rfl) ?_
        rintro r w1 ⟨rfl, hv, cz, r1, r2, r3, r4, a8, a9, a10, a11, ic, al, cs, on, hJ, hO, rfl⟩
        simp only [Option.toList_some, List.cons_append, List.nil_append]
        unfold wA
        refine tg_go bX8_ask_27 ?_
        simp only [ti_iload, List.getElem?_cons_zero, List.getElem?_cons_succ, true_and]
        refine tg_cR iC vX8_ask_28 (kX0_coverOf (cellO_cls hO).1 hV.2.1 hn40 (by omega)) rfl rfl rfl rfl rfl (Nat.le_of_ble_eq_true rfl) rfl (Nat.le_of_ble_eq_true rfl) (Nat.le_of_ble_eq_true rfl) ?_
        simp only [tg_v]
        refine tg_go bX8_ask_31 ?_
        simp only [ti_lload, ti_lstore, tg_s2, tg_cl, List.getElem?_cons_zero, List.getElem?_cons_succ, List.set_cons_zero, List.set_cons_succ, true_and]
        refine tg_cP vX8_ask_33 (kJ13_bitCount) rfl rfl (Nat.le_of_ble_eq_true rfl) (Nat.le_of_ble_eq_true rfl) ?_
        rw [bc_mk (by omega)]
        refine tg_go bX8_ask_36 ?_
        simp only [ti_aload, ti_getf, ti_iload, ti_istore, tg_s1, tg_cl, List.getElem?_cons_zero, List.getElem?_cons_succ, List.set_cons_zero, List.set_cons_succ, true_and]
        refine g_icmp_ge (tgt := 52) dX8_ask_47 rfl (fun h47 => ?_) (fun h47 => ?_)
        · rw [lI_le (by omega) (by omega)] at h47
          refine tg_go bX8_ask_52 ?_
          simp only [ti_iload, List.getElem?_cons_zero, List.getElem?_cons_succ, true_and]
          refine g_if_ne (tgt := 61) dX8_ask_53 rfl (fun h53 => ?_) (fun h53 => ?_)
          · refine tg_go bX8_ask_61 ?_
            simp only [ti_aload, ti_getf, ti_lload, List.getElem?_cons_zero, List.getElem?_cons_succ, true_and]
            refine tg_cR iT vX8_ask_66 (kX6_sumOf hn40) rfl rfl rfl rfl rfl (Nat.le_of_ble_eq_true rfl) rfl (Nat.le_of_ble_eq_true rfl) (Nat.le_of_ble_eq_true rfl) ?_
            simp only [tg_v]
            rw [gSum_congr (q := cvP d c e) (t := u) n (fun i hi => cbit_mk (by omega) hi) htm]
            refine tg_go bX8_ask_69 ?_
            simp only [ti_iadd, ti_push, List.getElem?_cons_zero, List.getElem?_cons_succ, true_and]
            refine g_iret dX8_ask_73 rfl ?_
            exact hK0 _ _ ⟨Or.inr ⟨⟨hcl, by omega, h17⟩, by rw [if_neg (by omega), if_neg h53]⟩, ⟨_, _, _, _, _, _, _, _, _, _, _, _, _, _, _, _, _, _, _, _, _, _, _, _, _, _, _, _, _, _, _, _, _, _, ⟨rfl, htv, rfl, htc, htm, rfl⟩, hV, hE, Or.inl rfl, hJ, fun _ => hO, rfl⟩⟩
          · refine tg_go bX8_ask_56 ?_
            simp only [ti_iload, List.getElem?_cons_zero, List.getElem?_cons_succ, true_and]
            refine g_goto (tgt := 73) dX8_ask_58 rfl ?_
            refine g_iret dX8_ask_73 rfl ?_
            exact hK0 _ _ ⟨Or.inr ⟨⟨hcl, by omega, h17⟩, by rw [if_neg (by omega), if_pos h53]⟩, ⟨_, _, _, _, _, _, _, _, _, _, _, _, _, _, _, _, _, _, _, _, _, _, _, _, _, _, _, _, _, _, _, _, _, _, ⟨rfl, htv, rfl, htc, htm, rfl⟩, hV, hE, Or.inl rfl, hJ, fun _ => hO, rfl⟩⟩
        · rw [lI_le (by omega) (by omega)] at h47
          refine tg_go bX8_ask_50 ?_
          simp only [ti_push, List.getElem?_cons_zero, List.getElem?_cons_succ, true_and]
          refine g_iret dX8_ask_51 rfl ?_
          exact hK0 _ _ ⟨Or.inr ⟨⟨hcl, by omega, h17⟩, by rw [if_pos (Or.inr (by omega))]⟩, ⟨_, _, _, _, _, _, _, _, _, _, _, _, _, _, _, _, _, _, _, _, _, _, _, _, _, _, _, _, _, _, _, _, _, _, ⟨rfl, htv, rfl, htc, htm, rfl⟩, hV, hE, Or.inl rfl, hJ, fun _ => hO, rfl⟩⟩
      · rw [xle] at h17
        have h17 : ¬ y.toInt ≤ 1 := h17
        refine tg_go bX8_ask_20 ?_
        simp only [ti_push, List.getElem?_cons_zero, List.getElem?_cons_succ, true_and]
        refine g_iret dX8_ask_22 rfl ?_
        exact hK0 _ _ ⟨Or.inl ⟨by omega, rfl⟩, ⟨_, _, _, _, _, _, _, _, _, _, _, _, _, _, _, _, _, _, _, _, _, _, _, _, _, _, _, _, _, _, _, _, _, _, ⟨rfl, htv, rfl, htc, htm, rfl⟩, hV, hE, ho, hJ, hO, rfl⟩⟩
end MAIN5
