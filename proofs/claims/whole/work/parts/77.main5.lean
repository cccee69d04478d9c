/-! THE CLASS: CubeClosures: parting, what is foretold, keys, counts -/
theorem valT_congr {f g : Nat → Int32} : ∀ n, (∀ k, k < n → f k = g k) → valT f n = valT g n
  | 0, _ => rfl
  | n + 1, h => by rw [valT, valT, valT_congr n (fun k hk => h k (by omega)), h n (by omega)]
theorem bsC_in (en : Nat → Int32) {d : Nat} (h1 : 1 ≤ d) (h4 : d ≤ 4) : ∀ i, i < (tg_ol (d - 1)).length → ∃ o, o < 10000 ∧ (bsC en d (i + 1)).1 = nI o
  | i, hi => by
    rw [bsC]
    split
    · exact ⟨ordN d i, (ordN_ok h1 h4 hi).2, rfl⟩
    · next h =>
      cases i with
      | zero => exact absurd (Or.inl rfl) h
      | succ i => exact bsC_in en h1 h4 i (by omega)
theorem bsC_at (en : Nat → Int32) {d : Nat} (h1 : 1 ≤ d) (h4 : d ≤ 4) : ∃ o, o < 10000 ∧ (bsC en d (tg_ol (d - 1)).length).1 = nI o := by
  have h0 : 0 < (tg_ol (d - 1)).length := by
    rcases (by omega : d = 1 ∨ d = 2 ∨ d = 3 ∨ d = 4) with rfl | rfl | rfl | rfl <;> decide
  obtain ⟨o, h⟩ := bsC_in en h1 h4 ((tg_ol (d - 1)).length - 1) (by omega)
  rw [show (tg_ol (d - 1)).length - 1 + 1 = (tg_ol (d - 1)).length by omega] at h
  exact ⟨o, h⟩
def aCntC (d n s z L : Nat) (v c : Nat → Nat) (ln : Nat → Int32) (x : Int32) : Int32 := if x = 0 then nI d else if x = 1 then nI n else if x = 2 then nI s else if x = 3 then nI (suN (csN d n c (7 ^ d)) s (41 - s)) else if x = 4 then nI (suN (alN d n c (7 ^ d)) s (41 - s)) else if x = 5 then valT (fun k => nI (v k)) d else if x = 6 then 0 + plc ln 0 + plc ln 1 + plc ln 2 else if x = 7 then nI z else if x = 8 then nI L else -3
section MAIN6
variable {l : tg_Ln} {K : Option Value → List va_E → Prop} {told : Int64} {tx u pk pn pc pm kv kc km jv jc jm kp ln : Nat → Int32} {L d n s z p : Nat} {v c : Nat → Nat} {kd kn ke jd jn je : Int32} {P : Nat → Nat → Int64} {w : List va_E}
theorem kX8_part {x y : Int32} (hs : (sA told tx L d v n c u s z p pk pn pc pm kd kv kn kc km ke jd jv jn jc jm je kp ln P) w) : tg_Ct l mX8_part 1000 [.ref 0, .int x, .int y] w (fun r w => ((¬ (orderOK d x = true ∧ 0 ≤ y.toInt ∧ y.toInt ≤ 1) ∧ r = some (.int (-3))) ∨ ((orderOK d x = true ∧ 0 ≤ y.toInt ∧ y.toInt ≤ 1) ∧ ∃ en, (∀ q, q < 16 → en q = nI (enF d n s c (7 ^ d) q)) ∧ r = some (.int (if y = 0 then wkP en d (2 ^ d - 1) x.toInt.toNat 0 else nI (gMany (goB d n s c) (7 ^ d)))))) ∧ (sA told tx L d v n c u s z p pk pn pc pm kd kv kn kc km ke jd jv jn jc jm je kp ln P) w) := by
  refine tg_gen (fun K0 hK0 => ?_)
  obtain ⟨old, dn, ts, tb, gd, gv, gn, gc, gm, ge, nv, td, tv, tn, tc, tm, te, qd, qv, en, hv, cz, r1, r2, r3, r4, a8, a9, a10, a11, ic, al, cs, on, ⟨rfl, htv, rfl, htc, htm, rfl⟩, hV, hE, ho, hJ, hO, rfl⟩ := hs
  have hn40 : n ≤ 40 := hE.1
  show tg_G _ _ _ _ _ _ _ [.ref 0, .int x, .int y, .null] [] _
  unfold wA
  refine tg_go bX8_part_0 ?_
  simp only [ti_aload, ti_getf, ti_iload, List.getElem?_cons_zero, List.getElem?_cons_succ, true_and]
  refine tg_cP vX8_part_8 (kX4_isOrder hV.2.1) rfl rfl (Nat.le_of_ble_eq_true rfl) (Nat.le_of_ble_eq_true rfl) ?_
  refine g_if_eq (tgt := 23) dX8_part_11 rfl (fun h11 => ?_) (fun h11 => ?_)
  · have hcl : orderOK d x = false := bZ_0 h11
    refine tg_go bX8_part_23 ?_
    simp only [ti_push, List.getElem?_cons_zero, List.getElem?_cons_succ, true_and]
    refine g_iret dX8_part_25 rfl ?_
    exact hK0 _ _ ⟨Or.inl ⟨fun q => by rw [hcl] at q; exact absurd q.1 (by decide), rfl⟩, ⟨_, _, _, _, _, _, _, _, _, _, _, _, _, _, _, _, _, _, _, _, _, _, _, _, _, _, _, _, _, _, _, _, _, _, ⟨rfl, htv, rfl, htc, htm, rfl⟩, hV, hE, ho, hJ, hO, rfl⟩⟩
  · have hcl : orderOK d x = true := bZ_n h11
    refine tg_go bX8_part_14 ?_
    simp only [ti_iload, List.getElem?_cons_zero, List.getElem?_cons_succ, true_and]
    refine g_if_lt (tgt := 23) dX8_part_15 rfl (fun h15 => ?_) (fun h15 => ?_)
    · rw [xlt] at h15
      have h15 : y.toInt < 0 := h15
      refine tg_go bX8_part_23 ?_
      simp only [ti_push, List.getElem?_cons_zero, List.getElem?_cons_succ, true_and]
      refine g_iret dX8_part_25 rfl ?_
      exact hK0 _ _ ⟨Or.inl ⟨by omega, rfl⟩, ⟨_, _, _, _, _, _, _, _, _, _, _, _, _, _, _, _, _, _, _, _, _, _, _, _, _, _, _, _, _, _, _, _, _, _, ⟨rfl, htv, rfl, htc, htm, rfl⟩, hV, hE, ho, hJ, hO, rfl⟩⟩
    · rw [xlt] at h15
      have h15 : ¬ y.toInt < 0 := h15
      refine tg_go bX8_part_18 ?_
      simp only [ti_iload, ti_push, List.getElem?_cons_zero, List.getElem?_cons_succ, true_and]
      refine g_icmp_le (tgt := 26) dX8_part_20 rfl (fun h20 => ?_) (fun h20 => ?_)
      · rw [xle] at h20
        have h20 : y.toInt ≤ 1 := h20
        obtain ⟨o, he1, he2⟩ := orderOK_in hcl
        have h10 := pow10 hV.2.1
        have ee : x.toInt.toNat = o := by rw [he1, nI_toInt (by omega)]; omega
        rw [ee] at hK0
        subst he1
        refine tg_go bX8_part_26 ?_
        simp only [ti_aload, List.getElem?_cons_zero, List.getElem?_cons_succ, true_and]
        refine tg_cWe vX8_part_27 (kX8_freshCells htv htc hV hE ho hJ hO) rfl rfl rfl rfl (Nat.le_of_ble_eq_true rfl) (Nat.le_of_ble_eq_true rfl) (Nat.le_of_ble_eq_true rfl) (by rintro r w1 ⟨-, hv, cz, r1, r2, r3, r4, a8, a9, a10, a11, ic, al, cs, on, -, -, rfl⟩; rfl) ?_
        rintro r w1 ⟨rfl, hv, cz, r1, r2, r3, r4, a8, a9, a10, a11, ic, al, cs, on, hJ, hO, rfl⟩
        simp only [Option.toList_some, List.cons_append, List.nil_append]
        unfold wA
        refine tg_cV iC vX8_part_30 (kX0_parted' hV.2.1 hn40 hE.2.1.2 hO) rfl rfl rfl rfl rfl (Nat.le_of_ble_eq_true rfl) rfl (Nat.le_of_ble_eq_true rfl) (Nat.le_of_ble_eq_true rfl) (by rintro r w1 ⟨-, en, -, rfl⟩; rfl) ?_
        rintro r w1 ⟨rfl, en, hen, rfl⟩
        simp only [Option.map_some, Option.toList_some, List.cons_append, List.nil_append, tg_v]
        rw [show tg_rn iC 5 = 14 from rfl]
        refine tg_rw put_C ?_
        unfold wA
        refine tg_go bX8_part_33 ?_
        simp only [ti_astore, ti_iload, tg_s1, tg_cl, List.getElem?_cons_zero, List.getElem?_cons_succ, List.set_cons_zero, List.set_cons_succ, true_and]
        refine g_if_ne (tgt := 46) dX8_part_35 rfl (fun h35 => ?_) (fun h35 => ?_)
        · refine tg_go bX8_part_46 ?_
          simp only [ti_aload, ti_getf, List.getElem?_cons_zero, List.getElem?_cons_succ, true_and]
          refine g_iret dX8_part_50 rfl ?_
          exact hK0 _ _ ⟨Or.inr ⟨⟨hcl, by omega, h20⟩, en, hen, by rw [if_neg h35]⟩, ⟨_, _, _, _, _, _, _, _, _, _, _, _, _, _, _, _, _, _, _, _, _, _, _, _, _, _, _, _, _, _, _, _, _, _, ⟨rfl, htv, rfl, htc, htm, rfl⟩, hV, hE, Or.inl rfl, hJ, fun _ => hO, rfl⟩⟩
        · refine tg_go bX8_part_38 ?_
          simp only [ti_aload, ti_iload, List.getElem?_cons_zero, List.getElem?_cons_succ, true_and]
          refine tg_cR iQ vX8_part_40 (kX4_workBy hV.2.1 (by omega)) rfl rfl rfl rfl rfl (Nat.le_of_ble_eq_true rfl) rfl (Nat.le_of_ble_eq_true rfl) (Nat.le_of_ble_eq_true rfl) ?_
          simp only [tg_v]
          refine g_goto (tgt := 50) dX8_part_43 rfl ?_
          refine g_iret dX8_part_50 rfl ?_
          exact hK0 _ _ ⟨Or.inr ⟨⟨hcl, by omega, h20⟩, en, hen, by rw [if_pos h35]⟩, ⟨_, _, _, _, _, _, _, _, _, _, _, _, _, _, _, _, _, _, _, _, _, _, _, _, _, _, _, _, _, _, _, _, _, _, ⟨rfl, htv, rfl, htc, htm, rfl⟩, hV, hE, Or.inl rfl, hJ, fun _ => hO, rfl⟩⟩
      · rw [xle] at h20
        have h20 : ¬ y.toInt ≤ 1 := h20
        refine tg_go bX8_part_23 ?_
        simp only [ti_push, List.getElem?_cons_zero, List.getElem?_cons_succ, true_and]
        refine g_iret dX8_part_25 rfl ?_
        exact hK0 _ _ ⟨Or.inl ⟨by omega, rfl⟩, ⟨_, _, _, _, _, _, _, _, _, _, _, _, _, _, _, _, _, _, _, _, _, _, _, _, _, _, _, _, _, _, _, _, _, _, ⟨rfl, htv, rfl, htc, htm, rfl⟩, hV, hE, ho, hJ, hO, rfl⟩⟩
theorem kX8_best {x : Int32} (hs : (sA told tx L d v n c u s z p pk pn pc pm kd kv kn kc km ke jd jv jn jc jm je kp ln P) w) : tg_Ct l mX8_best 1000 [.ref 0, .int x] w (fun r w => ((¬ (0 ≤ x.toInt ∧ x.toInt ≤ 1) ∧ r = some (.int (-3))) ∨ ((0 ≤ x.toInt ∧ x.toInt ≤ 1) ∧ ∃ en, (∀ q, q < 16 → en q = nI (enF d n s c (7 ^ d) q)) ∧ r = some (.int (if x = 0 then (bsC en d (tg_ol (d - 1)).length).1 else wkP en d (2 ^ d - 1) (bsC en d (tg_ol (d - 1)).length).1.toInt.toNat 0)))) ∧ (sA told tx L d v n c u s z p pk pn pc pm kd kv kn kc km ke jd jv jn jc jm je kp ln P) w) := by
  refine tg_gen (fun K0 hK0 => ?_)
  obtain ⟨old, dn, ts, tb, gd, gv, gn, gc, gm, ge, nv, td, tv, tn, tc, tm, te, qd, qv, en, hv, cz, r1, r2, r3, r4, a8, a9, a10, a11, ic, al, cs, on, ⟨rfl, htv, rfl, htc, htm, rfl⟩, hV, hE, ho, hJ, hO, rfl⟩ := hs
  have hn40 : n ≤ 40 := hE.1
  show tg_G _ _ _ _ _ _ _ [.ref 0, .int x, .null, .null] [] _
  unfold wA
  refine tg_go bX8_best_0 ?_
  simp only [ti_iload, List.getElem?_cons_zero, List.getElem?_cons_succ, true_and]
  refine g_if_lt (tgt := 9) dX8_best_1 rfl (fun h1 => ?_) (fun h1 => ?_)
  · rw [xlt] at h1
    have h1 : x.toInt < 0 := h1
    refine tg_go bX8_best_9 ?_
    simp only [ti_push, List.getElem?_cons_zero, List.getElem?_cons_succ, true_and]
    refine g_iret dX8_best_11 rfl ?_
    exact hK0 _ _ ⟨Or.inl ⟨by omega, rfl⟩, ⟨_, _, _, _, _, _, _, _, _, _, _, _, _, _, _, _, _, _, _, _, _, _, _, _, _, _, _, _, _, _, _, _, _, _, ⟨rfl, htv, rfl, htc, htm, rfl⟩, hV, hE, ho, hJ, hO, rfl⟩⟩
  · rw [xlt] at h1
    have h1 : ¬ x.toInt < 0 := h1
    refine tg_go bX8_best_4 ?_
    simp only [ti_iload, ti_push, List.getElem?_cons_zero, List.getElem?_cons_succ, true_and]
    refine g_icmp_le (tgt := 12) dX8_best_6 rfl (fun h6 => ?_) (fun h6 => ?_)
    · rw [xle] at h6
      have h6 : x.toInt ≤ 1 := h6
      refine tg_go bX8_best_12 ?_
      simp only [ti_aload, List.getElem?_cons_zero, List.getElem?_cons_succ, true_and]
      refine tg_cWe vX8_best_13 (kX8_freshCells htv htc hV hE ho hJ hO) rfl rfl rfl rfl (Nat.le_of_ble_eq_true rfl) (Nat.le_of_ble_eq_true rfl) (Nat.le_of_ble_eq_true rfl) (by rintro r w1 ⟨-, hv, cz, r1, r2, r3, r4, a8, a9, a10, a11, ic, al, cs, on, -, -, rfl⟩; rfl) ?_
      rintro r w1 ⟨rfl, hv, cz, r1, r2, r3, r4, a8, a9, a10, a11, ic, al, cs, on, hJ, hO, rfl⟩
      simp only [Option.toList_some, List.cons_append, List.nil_append]
      unfold wA
      refine tg_cV iC vX8_best_16 (kX0_parted' hV.2.1 hn40 hE.2.1.2 hO) rfl rfl rfl rfl rfl (Nat.le_of_ble_eq_true rfl) rfl (Nat.le_of_ble_eq_true rfl) (Nat.le_of_ble_eq_true rfl) (by rintro r w1 ⟨-, en, -, rfl⟩; rfl) ?_
      rintro r w1 ⟨rfl, en, hen, rfl⟩
      simp only [Option.map_some, Option.toList_some, List.cons_append, List.nil_append, tg_v]
      rw [show tg_rn iC 5 = 14 from rfl]
      refine tg_rw put_C ?_
      unfold wA
      obtain ⟨o, ho1, ho2⟩ := bsC_at en hV.1 hV.2.1
      refine tg_go bX8_best_19 ?_
      simp only [ti_aload, ti_astore, tg_s1, tg_cl, List.getElem?_cons_zero, List.getElem?_cons_succ, List.set_cons_zero, List.set_cons_succ, true_and]
      refine tg_cR iQ vX8_best_21 (kX4_bestOrder hV.1 hV.2.1) rfl rfl rfl rfl rfl (Nat.le_of_ble_eq_true rfl) rfl (Nat.le_of_ble_eq_true rfl) (Nat.le_of_ble_eq_true rfl) ?_
      simp only [tg_v]
      refine tg_go bX8_best_24 ?_
      simp only [ti_iload, ti_istore, tg_s1, tg_cl, List.getElem?_cons_zero, List.getElem?_cons_succ, List.set_cons_zero, List.set_cons_succ, true_and]
      refine g_if_ne (tgt := 33) dX8_best_26 rfl (fun h26 => ?_) (fun h26 => ?_)
      · have hw2 : (bsC en d (tg_ol (d - 1)).length).1.toInt.toNat = o := by rw [ho2, nI_toInt (by omega)]; omega
        refine tg_go bX8_best_33 ?_
        simp only [ti_aload, ti_iload, List.getElem?_cons_zero, List.getElem?_cons_succ, true_and]
        rw [ho2]
        refine tg_cR iQ vX8_best_35 (kX4_workBy hV.2.1 (show o < 2 ^ 31 by omega)) rfl rfl rfl rfl rfl (Nat.le_of_ble_eq_true rfl) rfl (Nat.le_of_ble_eq_true rfl) (Nat.le_of_ble_eq_true rfl) ?_
        simp only [tg_v]
        refine g_iret dX8_best_38 rfl ?_
        exact hK0 _ _ ⟨Or.inr ⟨⟨by omega, h6⟩, en, hen, by rw [if_neg h26, hw2]⟩, ⟨_, _, _, _, _, _, _, _, _, _, _, _, _, _, _, _, _, _, _, _, _, _, _, _, _, _, _, _, _, _, _, _, _, _, ⟨rfl, htv, rfl, htc, htm, rfl⟩, hV, hE, Or.inl rfl, hJ, fun _ => hO, rfl⟩⟩
      · refine tg_go bX8_best_29 ?_
        simp only [ti_iload, List.getElem?_cons_zero, List.getElem?_cons_succ, true_and]
        refine g_goto (tgt := 38) dX8_best_30 rfl ?_
        refine g_iret dX8_best_38 rfl ?_
        exact hK0 _ _ ⟨Or.inr ⟨⟨by omega, h6⟩, en, hen, by rw [if_pos h26]⟩, ⟨_, _, _, _, _, _, _, _, _, _, _, _, _, _, _, _, _, _, _, _, _, _, _, _, _, _, _, _, _, _, _, _, _, _, ⟨rfl, htv, rfl, htc, htm, rfl⟩, hV, hE, Or.inl rfl, hJ, fun _ => hO, rfl⟩⟩
    · rw [xle] at h6
      have h6 : ¬ x.toInt ≤ 1 := h6
      refine tg_go bX8_best_9 ?_
      simp only [ti_push, List.getElem?_cons_zero, List.getElem?_cons_succ, true_and]
      refine g_iret dX8_best_11 rfl ?_
      exact hK0 _ _ ⟨Or.inl ⟨by omega, rfl⟩, ⟨_, _, _, _, _, _, _, _, _, _, _, _, _, _, _, _, _, _, _, _, _, _, _, _, _, _, _, _, _, _, _, _, _, _, ⟨rfl, htv, rfl, htc, htm, rfl⟩, hV, hE, ho, hJ, hO, rfl⟩⟩
theorem kX8_more {x y : Int32} (hs : (sA told tx L d v n c u s z p pk pn pc pm kd kv kn kc km ke jd jv jn jc jm je kp ln P) w) : tg_Ct l mX8_more 1000 [.ref 0, .int x, .int y] w (fun r w => ((¬ (wholeOK d v x = true ∧ 0 ≤ y.toInt ∧ y.toInt ≤ 1) ∧ r = some (.int (-3))) ∨ ((wholeOK d v x = true ∧ 0 ≤ y.toInt ∧ y.toInt ≤ 1) ∧ n = 40 ∧ r = some (.int (-5))) ∨ ((wholeOK d v x = true ∧ 0 ≤ y.toInt ∧ y.toInt ≤ 1) ∧ n < 40 ∧ r = some (.int (nI (if y = 0 then suN (csN d n c (7 ^ d)) s (41 - s) + gMany (gnB d n s c x.toInt.toNat) (2 ^ d) else gMany (gnB d n s c x.toInt.toNat) (2 ^ d)))))) ∧ (sA told tx L d v n c u s z p pk pn pc pm kd kv kn kc km ke jd jv jn jc jm je kp ln P) w) := by
  refine tg_gen (fun K0 hK0 => ?_)
  obtain ⟨old, dn, ts, tb, gd, gv, gn, gc, gm, ge, nv, td, tv, tn, tc, tm, te, qd, qv, en, hv, cz, r1, r2, r3, r4, a8, a9, a10, a11, ic, al, cs, on, ⟨rfl, htv, rfl, htc, htm, rfl⟩, hV, hE, ho, hJ, hO, rfl⟩ := hs
  have hn40 : n ≤ 40 := hE.1
  have hs19 := hE.2.1
  show tg_G _ _ _ _ _ _ _ [.ref 0, .int x, .int y, .null, .null] [] _
  unfold wA
  refine tg_go bX8_more_0 ?_
  simp only [ti_aload, ti_getf, ti_iload, List.getElem?_cons_zero, List.getElem?_cons_succ, true_and]
  refine tg_cR iT vX8_more_5 (kX6_isEntryCode hV.2.1 (fun k hk => ⟨htv k hk, (hV.2.2 k hk).2⟩)) rfl rfl rfl rfl rfl (Nat.le_of_ble_eq_true rfl) rfl (Nat.le_of_ble_eq_true rfl) (Nat.le_of_ble_eq_true rfl) ?_
  simp only [tg_v]
  refine g_if_eq (tgt := 20) dX8_more_8 rfl (fun h8 => ?_) (fun h8 => ?_)
  · have hcl : wholeOK d v x = false := bZ_0 h8
    refine tg_go bX8_more_20 ?_
    simp only [ti_push, List.getElem?_cons_zero, List.getElem?_cons_succ, true_and]
    refine g_iret dX8_more_22 rfl ?_
    exact hK0 _ _ ⟨Or.inl ⟨fun q => by rw [hcl] at q; exact absurd q.1 (by decide), rfl⟩, ⟨_, _, _, _, _, _, _, _, _, _, _, _, _, _, _, _, _, _, _, _, _, _, _, _, _, _, _, _, _, _, _, _, _, _, ⟨rfl, htv, rfl, htc, htm, rfl⟩, hV, hE, ho, hJ, hO, rfl⟩⟩
  · have hcl : wholeOK d v x = true := bZ_n h8
    refine tg_go bX8_more_11 ?_
    simp only [ti_iload, List.getElem?_cons_zero, List.getElem?_cons_succ, true_and]
    refine g_if_lt (tgt := 20) dX8_more_12 rfl (fun h12 => ?_) (fun h12 => ?_)
    · rw [xlt] at h12
      have h12 : y.toInt < 0 := h12
      refine tg_go bX8_more_20 ?_
      simp only [ti_push, List.getElem?_cons_zero, List.getElem?_cons_succ, true_and]
      refine g_iret dX8_more_22 rfl ?_
      exact hK0 _ _ ⟨Or.inl ⟨by omega, rfl⟩, ⟨_, _, _, _, _, _, _, _, _, _, _, _, _, _, _, _, _, _, _, _, _, _, _, _, _, _, _, _, _, _, _, _, _, _, ⟨rfl, htv, rfl, htc, htm, rfl⟩, hV, hE, ho, hJ, hO, rfl⟩⟩
    · rw [xlt] at h12
      have h12 : ¬ y.toInt < 0 := h12
      refine tg_go bX8_more_15 ?_
      simp only [ti_iload, ti_push, List.getElem?_cons_zero, List.getElem?_cons_succ, true_and]
      refine g_icmp_le (tgt := 23) dX8_more_17 rfl (fun h17 => ?_) (fun h17 => ?_)
      · rw [xle] at h17
        have h17 : y.toInt ≤ 1 := h17
        obtain ⟨e, he1, he2⟩ := wholeOK_in hcl
        have h7 := pow7 hV.2.1
        have ee : x.toInt.toNat = e := by rw [he1, nI_toInt (by omega)]; omega
        rw [ee] at hK0
        subst he1
        refine tg_go bX8_more_23 ?_
        simp only [ti_aload, ti_getf, ti_push, List.getElem?_cons_zero, List.getElem?_cons_succ, true_and]
        refine g_icmp_lt (tgt := 38) dX8_more_32 rfl (fun h32 => ?_) (fun h32 => ?_)
        · rw [fa_lit, lI_lt (by omega) (by omega)] at h32
          refine tg_go bX8_more_38 ?_
          simp only [ti_aload, List.getElem?_cons_zero, List.getElem?_cons_succ, true_and]
          refine tg_cWe vX8_more_39 (kX8_freshCells htv htc hV hE ho hJ hO) rfl rfl rfl rfl (Nat.le_of_ble_eq_true rfl) (Nat.le_of_ble_eq_true rfl) (Nat.le_of_ble_eq_true rfl) (by rintro r w1 ⟨-, hv, cz, r1, r2, r3, r4, a8, a9, a10, a11, ic, al, cs, on, -, -, rfl⟩; rfl) ?_
          rintro r w1 ⟨rfl, hv, cz, r1, r2, r3, r4, a8, a9, a10, a11, ic, al, cs, on, hJ, hO, rfl⟩
          simp only [Option.toList_some, List.cons_append, List.nil_append]
          unfold wA
          refine tg_go bX8_more_42 ?_
          simp only [ti_aload, ti_astore, ti_iload, tg_s1, tg_cl, List.getElem?_cons_zero, List.getElem?_cons_succ, List.set_cons_zero, List.set_cons_succ, true_and]
          refine tg_cR iC vX8_more_45 (kX0_gainedWith (cellO_cls hO).1 hV.2.1 hn40 hs19.2 (cOK_of hE) htc (by omega)) rfl rfl rfl rfl rfl (Nat.le_of_ble_eq_true rfl) rfl (Nat.le_of_ble_eq_true rfl) (Nat.le_of_ble_eq_true rfl) ?_
          simp only [tg_v]
          refine tg_go bX8_more_48 ?_
          simp only [ti_iload, ti_istore, tg_s1, tg_cl, List.getElem?_cons_zero, List.getElem?_cons_succ, List.set_cons_zero, List.set_cons_succ, true_and]
          refine g_if_ne (tgt := 71) dX8_more_51 rfl (fun h51 => ?_) (fun h51 => ?_)
          · refine tg_go bX8_more_71 ?_
            simp only [ti_iload, List.getElem?_cons_zero, List.getElem?_cons_succ, true_and]
            refine g_iret dX8_more_73 rfl ?_
            exact hK0 _ _ ⟨Or.inr (Or.inr ⟨⟨hcl, by omega, h17⟩, h32, by rw [if_neg h51]⟩), ⟨_, _, _, _, _, _, _, _, _, _, _, _, _, _, _, _, _, _, _, _, _, _, _, _, _, _, _, _, _, _, _, _, _, _, ⟨rfl, htv, rfl, htc, htm, rfl⟩, hV, hE, Or.inl rfl, hJ, fun _ => hO, rfl⟩⟩
          · refine tg_go bX8_more_54 ?_
            simp only [ti_aload, ti_getf, List.getElem?_cons_zero, List.getElem?_cons_succ, true_and]
            refine tg_cR iC vX8_more_62 (kX0_cubeSize (cellO_cls hO).2.2.1 (by omega)) rfl rfl rfl rfl rfl (Nat.le_of_ble_eq_true rfl) rfl (Nat.le_of_ble_eq_true rfl) (Nat.le_of_ble_eq_true rfl) ?_
            simp only [tg_v]
            refine tg_go bX8_more_65 ?_
            simp only [ti_iadd, ti_iload, List.getElem?_cons_zero, List.getElem?_cons_succ, true_and]
            rw [nI_add]
            refine g_goto (tgt := 73) dX8_more_68 rfl ?_
            refine g_iret dX8_more_73 rfl ?_
            exact hK0 _ _ ⟨Or.inr (Or.inr ⟨⟨hcl, by omega, h17⟩, h32, by rw [if_pos h51]⟩), ⟨_, _, _, _, _, _, _, _, _, _, _, _, _, _, _, _, _, _, _, _, _, _, _, _, _, _, _, _, _, _, _, _, _, _, ⟨rfl, htv, rfl, htc, htm, rfl⟩, hV, hE, Or.inl rfl, hJ, fun _ => hO, rfl⟩⟩
        · rw [fa_lit, lI_lt (by omega) (by omega)] at h32
          refine tg_go bX8_more_35 ?_
          simp only [ti_push, List.getElem?_cons_zero, List.getElem?_cons_succ, true_and]
          refine g_iret dX8_more_37 rfl ?_
          exact hK0 _ _ ⟨Or.inr (Or.inl ⟨⟨hcl, by omega, h17⟩, by omega, rfl⟩), ⟨_, _, _, _, _, _, _, _, _, _, _, _, _, _, _, _, _, _, _, _, _, _, _, _, _, _, _, _, _, _, _, _, _, _, ⟨rfl, htv, rfl, htc, htm, rfl⟩, hV, hE, ho, hJ, hO, rfl⟩⟩
      · rw [xle] at h17
        have h17 : ¬ y.toInt ≤ 1 := h17
        refine tg_go bX8_more_20 ?_
        simp only [ti_push, List.getElem?_cons_zero, List.getElem?_cons_succ, true_and]
        refine g_iret dX8_more_22 rfl ?_
        exact hK0 _ _ ⟨Or.inl ⟨by omega, rfl⟩, ⟨_, _, _, _, _, _, _, _, _, _, _, _, _, _, _, _, _, _, _, _, _, _, _, _, _, _, _, _, _, _, _, _, _, _, ⟨rfl, htv, rfl, htc, htm, rfl⟩, hV, hE, ho, hJ, hO, rfl⟩⟩
theorem kX8_less {x y : Int32} (hs : (sA told tx L d v n c u s z p pk pn pc pm kd kv kn kc km ke jd jv jn jc jm je kp ln P) w) : tg_Ct l mX8_less 1000 [.ref 0, .int x, .int y] w (fun r w => ((¬ (0 ≤ x.toInt ∧ x.toInt < n) ∧ r = some (.int (-2))) ∨ ((0 ≤ x.toInt ∧ x.toInt < n) ∧ ¬ (0 ≤ y.toInt ∧ y.toInt ≤ 1) ∧ r = some (.int (-3))) ∨ ((0 ≤ x.toInt ∧ x.toInt < n) ∧ (0 ≤ y.toInt ∧ y.toInt ≤ 1) ∧ r = some (.int (if y = 0 then nI (suN (csN d n c (7 ^ d)) s (41 - s)) - nI (gMany (lsB d n s c x.toInt.toNat) (2 ^ d)) else nI (gMany (lsB d n s c x.toInt.toNat) (2 ^ d)))))) ∧ (sA told tx L d v n c u s z p pk pn pc pm kd kv kn kc km ke jd jv jn jc jm je kp ln P) w) := by
  refine tg_gen (fun K0 hK0 => ?_)
  obtain ⟨old, dn, ts, tb, gd, gv, gn, gc, gm, ge, nv, td, tv, tn, tc, tm, te, qd, qv, en, hv, cz, r1, r2, r3, r4, a8, a9, a10, a11, ic, al, cs, on, ⟨rfl, htv, rfl, htc, htm, rfl⟩, hV, hE, ho, hJ, hO, rfl⟩ := hs
  have hn40 : n ≤ 40 := hE.1
  have hs19 := hE.2.1
  show tg_G _ _ _ _ _ _ _ [.ref 0, .int x, .int y, .null, .null] [] _
  unfold wA
  refine tg_go bX8_less_0 ?_
  simp only [ti_aload, ti_getf, ti_iload, List.getElem?_cons_zero, List.getElem?_cons_succ, true_and]
  refine tg_cR iT vX8_less_5 (kX6_hasEntry hn40) rfl rfl rfl rfl rfl (Nat.le_of_ble_eq_true rfl) rfl (Nat.le_of_ble_eq_true rfl) (Nat.le_of_ble_eq_true rfl) ?_
  simp only [tg_v]
  refine g_if_ne (tgt := 14) dX8_less_8 rfl (fun h8 => ?_) (fun h8 => ?_)
  · have hw := of_decide_eq_true (bZ_n h8)
    obtain ⟨ex, hx⟩ := x_of hw.1 hw.2
    generalize x.toInt.toNat = e at ex hx hK0
    subst ex
    refine tg_go bX8_less_14 ?_
    simp only [ti_iload, List.getElem?_cons_zero, List.getElem?_cons_succ, true_and]
    refine g_if_lt (tgt := 23) dX8_less_15 rfl (fun h15 => ?_) (fun h15 => ?_)
    · rw [xlt] at h15
      have h15 : y.toInt < 0 := h15
      refine tg_go bX8_less_23 ?_
      simp only [ti_push, List.getElem?_cons_zero, List.getElem?_cons_succ, true_and]
      refine g_iret dX8_less_25 rfl ?_
      exact hK0 _ _ ⟨Or.inr (Or.inl ⟨hw, by omega, rfl⟩), ⟨_, _, _, _, _, _, _, _, _, _, _, _, _, _, _, _, _, _, _, _, _, _, _, _, _, _, _, _, _, _, _, _, _, _, ⟨rfl, htv, rfl, htc, htm, rfl⟩, hV, hE, ho, hJ, hO, rfl⟩⟩
    · rw [xlt] at h15
      have h15 : ¬ y.toInt < 0 := h15
      refine tg_go bX8_less_18 ?_
      simp only [ti_iload, ti_push, List.getElem?_cons_zero, List.getElem?_cons_succ, true_and]
      refine g_icmp_le (tgt := 26) dX8_less_20 rfl (fun h20 => ?_) (fun h20 => ?_)
      · rw [xle] at h20
        have h20 : y.toInt ≤ 1 := h20
        refine tg_go bX8_less_26 ?_
        simp only [ti_aload, List.getElem?_cons_zero, List.getElem?_cons_succ, true_and]
        refine tg_cWe vX8_less_27 (kX8_freshCells htv htc hV hE ho hJ hO) rfl rfl rfl rfl (Nat.le_of_ble_eq_true rfl) (Nat.le_of_ble_eq_true rfl) (Nat.le_of_ble_eq_true rfl) (by rintro r w1 ⟨-, hv, cz, r1, r2, r3, r4, a8, a9, a10, a11, ic, al, cs, on, -, -, rfl⟩; rfl) ?_
        rintro r w1 ⟨rfl, hv, cz, r1, r2, r3, r4, a8, a9, a10, a11, ic, al, cs, on, hJ, hO, rfl⟩
        simp only [Option.toList_some, List.cons_append, List.nil_append]
        unfold wA
        refine tg_go bX8_less_30 ?_
        simp only [ti_aload, ti_astore, ti_iload, tg_s1, tg_cl, List.getElem?_cons_zero, List.getElem?_cons_succ, List.set_cons_zero, List.set_cons_succ, true_and]
        refine tg_cR iC vX8_less_33 (kX0_lostWithout (cellO_cls hO).1 hV.2.1 hn40 hs19.2 (cOK_of hE) htc hx) rfl rfl rfl rfl rfl (Nat.le_of_ble_eq_true rfl) rfl (Nat.le_of_ble_eq_true rfl) (Nat.le_of_ble_eq_true rfl) ?_
        simp only [tg_v]
        refine tg_go bX8_less_36 ?_
        simp only [ti_iload, ti_istore, tg_s1, tg_cl, List.getElem?_cons_zero, List.getElem?_cons_succ, List.set_cons_zero, List.set_cons_succ, true_and]
        refine g_if_ne (tgt := 59) dX8_less_39 rfl (fun h39 => ?_) (fun h39 => ?_)
        · refine tg_go bX8_less_59 ?_
          simp only [ti_iload, List.getElem?_cons_zero, List.getElem?_cons_succ, true_and]
          refine g_iret dX8_less_61 rfl ?_
          exact hK0 _ _ ⟨Or.inr (Or.inr ⟨hw, ⟨by omega, h20⟩, by rw [if_neg h39]⟩), ⟨_, _, _, _, _, _, _, _, _, _, _, _, _, _, _, _, _, _, _, _, _, _, _, _, _, _, _, _, _, _, _, _, _, _, ⟨rfl, htv, rfl, htc, htm, rfl⟩, hV, hE, Or.inl rfl, hJ, fun _ => hO, rfl⟩⟩
        · refine tg_go bX8_less_42 ?_
          simp only [ti_aload, ti_getf, List.getElem?_cons_zero, List.getElem?_cons_succ, true_and]
          refine tg_cR iC vX8_less_50 (kX0_cubeSize (cellO_cls hO).2.2.1 (by omega)) rfl rfl rfl rfl rfl (Nat.le_of_ble_eq_true rfl) rfl (Nat.le_of_ble_eq_true rfl) (Nat.le_of_ble_eq_true rfl) ?_
          simp only [tg_v]
          refine tg_go bX8_less_53 ?_
          simp only [ti_iload, ti_isub, List.getElem?_cons_zero, List.getElem?_cons_succ, true_and]
          refine g_goto (tgt := 61) dX8_less_56 rfl ?_
          refine g_iret dX8_less_61 rfl ?_
          exact hK0 _ _ ⟨Or.inr (Or.inr ⟨hw, ⟨by omega, h20⟩, by rw [if_pos h39]⟩), ⟨_, _, _, _, _, _, _, _, _, _, _, _, _, _, _, _, _, _, _, _, _, _, _, _, _, _, _, _, _, _, _, _, _, _, ⟨rfl, htv, rfl, htc, htm, rfl⟩, hV, hE, Or.inl rfl, hJ, fun _ => hO, rfl⟩⟩
      · rw [xle] at h20
        have h20 : ¬ y.toInt ≤ 1 := h20
        refine tg_go bX8_less_23 ?_
        simp only [ti_push, List.getElem?_cons_zero, List.getElem?_cons_succ, true_and]
        refine g_iret dX8_less_25 rfl ?_
        exact hK0 _ _ ⟨Or.inr (Or.inl ⟨hw, by omega, rfl⟩), ⟨_, _, _, _, _, _, _, _, _, _, _, _, _, _, _, _, _, _, _, _, _, _, _, _, _, _, _, _, _, _, _, _, _, _, ⟨rfl, htv, rfl, htc, htm, rfl⟩, hV, hE, ho, hJ, hO, rfl⟩⟩
  · have hw := of_decide_eq_false (bZ_0 h8)
    refine tg_go bX8_less_11 ?_
    simp only [ti_push, List.getElem?_cons_zero, List.getElem?_cons_succ, true_and]
    refine g_iret dX8_less_13 rfl ?_
    exact hK0 _ _ ⟨Or.inl ⟨hw, rfl⟩, ⟨_, _, _, _, _, _, _, _, _, _, _, _, _, _, _, _, _, _, _, _, _, _, _, _, _, _, _, _, _, _, _, _, _, _, ⟨rfl, htv, rfl, htc, htm, rfl⟩, hV, hE, ho, hJ, hO, rfl⟩⟩
theorem kX8_cap {x : Int32} (hs : (sA told tx L d v n c u s z p pk pn pc pm kd kv kn kc km ke jd jv jn jc jm je kp ln P) w) : tg_Ct l mX8_cap 1000 [.ref 0, .int x] w (fun r w => ((¬ (0 ≤ x.toInt ∧ x.toInt ≤ 2400) ∧ r = some (.int (-3))) ∨ ((0 ≤ x.toInt ∧ x.toInt ≤ 2400) ∧ r = some (.int (nI (lsR (csN d n c (7 ^ d)) x.toInt.toNat 40 1))))) ∧ (sA told tx L d v n c u s z p pk pn pc pm kd kv kn kc km ke jd jv jn jc jm je kp ln P) w) := by
  refine tg_gen (fun K0 hK0 => ?_)
  obtain ⟨old, dn, ts, tb, gd, gv, gn, gc, gm, ge, nv, td, tv, tn, tc, tm, te, qd, qv, en, hv, cz, r1, r2, r3, r4, a8, a9, a10, a11, ic, al, cs, on, ⟨rfl, htv, rfl, htc, htm, rfl⟩, hV, hE, ho, hJ, hO, rfl⟩ := hs
  have h7 := pow7 hV.2.1
  show tg_G _ _ _ _ _ _ _ [.ref 0, .int x] [] _
  unfold wA
  refine tg_go bX8_cap_0 ?_
  simp only [ti_iload, List.getElem?_cons_zero, List.getElem?_cons_succ, true_and]
  refine g_if_lt (tgt := 11) dX8_cap_1 rfl (fun h1 => ?_) (fun h1 => ?_)
  · rw [xlt] at h1
    have h1 : x.toInt < 0 := h1
    refine tg_go bX8_cap_11 ?_
    simp only [ti_push, List.getElem?_cons_zero, List.getElem?_cons_succ, true_and]
    refine g_goto (tgt := 24) dX8_cap_13 rfl ?_
    refine g_iret dX8_cap_24 rfl ?_
    exact hK0 _ _ ⟨Or.inl ⟨by omega, rfl⟩, ⟨_, _, _, _, _, _, _, _, _, _, _, _, _, _, _, _, _, _, _, _, _, _, _, _, _, _, _, _, _, _, _, _, _, _, ⟨rfl, htv, rfl, htc, htm, rfl⟩, hV, hE, ho, hJ, hO, rfl⟩⟩
  · rw [xlt] at h1
    have h1 : ¬ x.toInt < 0 := h1
    refine tg_go bX8_cap_4 ?_
    simp only [ti_iload, ti_push, List.getElem?_cons_zero, List.getElem?_cons_succ, true_and]
    refine g_icmp_le (tgt := 16) dX8_cap_8 rfl (fun h8 => ?_) (fun h8 => ?_)
    · rw [xle] at h8
      have h8 : x.toInt ≤ 2400 := h8
      obtain ⟨ex, hx⟩ := x_of (n := 2401) (x := x) (by omega) (by omega)
      generalize x.toInt.toNat = q at ex hx hK0
      subst ex
      refine tg_go bX8_cap_16 ?_
      simp only [ti_aload, List.getElem?_cons_zero, List.getElem?_cons_succ, true_and]
      refine tg_cWe vX8_cap_17 (kX8_freshCells htv htc hV hE ho hJ hO) rfl rfl rfl rfl (Nat.le_of_ble_eq_true rfl) (Nat.le_of_ble_eq_true rfl) (Nat.le_of_ble_eq_true rfl) (by rintro r w1 ⟨-, hv, cz, r1, r2, r3, r4, a8, a9, a10, a11, ic, al, cs, on, -, -, rfl⟩; rfl) ?_
      rintro r w1 ⟨rfl, hv, cz, r1, r2, r3, r4, a8, a9, a10, a11, ic, al, cs, on, hJ, hO, rfl⟩
      simp only [Option.toList_some, List.cons_append, List.nil_append]
      unfold wA
      refine tg_go bX8_cap_20 ?_
      simp only [ti_iload, List.getElem?_cons_zero, List.getElem?_cons_succ, true_and]
      refine tg_cR iC vX8_cap_21 (kX0_leastSupportFor (cellO_cls hO).2.2.1 (fun j => Nat.le_trans (gMany_le _ _) h7) (by omega)) rfl rfl rfl rfl rfl (Nat.le_of_ble_eq_true rfl) rfl (Nat.le_of_ble_eq_true rfl) (Nat.le_of_ble_eq_true rfl) ?_
      simp only [tg_v]
      refine g_iret dX8_cap_24 rfl ?_
      exact hK0 _ _ ⟨Or.inr ⟨⟨by omega, h8⟩, rfl⟩, ⟨_, _, _, _, _, _, _, _, _, _, _, _, _, _, _, _, _, _, _, _, _, _, _, _, _, _, _, _, _, _, _, _, _, _, ⟨rfl, htv, rfl, htc, htm, rfl⟩, hV, hE, Or.inl rfl, hJ, fun _ => hO, rfl⟩⟩
    · rw [xle] at h8
      have h8 : ¬ x.toInt ≤ 2400 := h8
      refine tg_go bX8_cap_11 ?_
      simp only [ti_push, List.getElem?_cons_zero, List.getElem?_cons_succ, true_and]
      refine g_goto (tgt := 24) dX8_cap_13 rfl ?_
      refine g_iret dX8_cap_24 rfl ?_
      exact hK0 _ _ ⟨Or.inl ⟨by omega, rfl⟩, ⟨_, _, _, _, _, _, _, _, _, _, _, _, _, _, _, _, _, _, _, _, _, _, _, _, _, _, _, _, _, _, _, _, _, _, ⟨rfl, htv, rfl, htc, htm, rfl⟩, hV, hE, ho, hJ, hO, rfl⟩⟩
theorem kX8_key (hs : (sA told tx L d v n c u s z p pk pn pc pm kd kv kn kc km ke jd jv jn jc jm je kp ln P) w) : tg_Ct l mX8_key 1000 [.ref 0] w (fun r w => (∃ on, (∀ q, q < 16 → on q = nI (onN d n c (7 ^ d) q)) ∧ r = some (.int (kyC on n (2 ^ d)))) ∧ (sA told tx L d v n c u s z p pk pn pc pm kd kv kn kc km ke jd jv jn jc jm je kp ln P) w) := by
  refine tg_gen (fun K0 hK0 => ?_)
  obtain ⟨old, dn, ts, tb, gd, gv, gn, gc, gm, ge, nv, td, tv, tn, tc, tm, te, qd, qv, en, hv, cz, r1, r2, r3, r4, a8, a9, a10, a11, ic, al, cs, on, ⟨rfl, htv, rfl, htc, htm, rfl⟩, hV, hE, ho, hJ, hO, rfl⟩ := hs
  show tg_G _ _ _ _ _ _ _ [.ref 0] [] _
  unfold wA
  refine tg_go bX8_key_0 ?_
  simp only [ti_aload, List.getElem?_cons_zero, List.getElem?_cons_succ, true_and]
  refine tg_cWe vX8_key_1 (kX8_freshCells htv htc hV hE ho hJ hO) rfl rfl rfl rfl (Nat.le_of_ble_eq_true rfl) (Nat.le_of_ble_eq_true rfl) (Nat.le_of_ble_eq_true rfl) (by rintro r w1 ⟨-, hv, cz, r1, r2, r3, r4, a8, a9, a10, a11, ic, al, cs, on, -, -, rfl⟩; rfl) ?_
  rintro r w1 ⟨rfl, hv, cz, r1, r2, r3, r4, a8, a9, a10, a11, ic, al, cs, on, hJ, hO, rfl⟩
  simp only [Option.toList_some, List.cons_append, List.nil_append]
  unfold wA
  refine tg_cR iC vX8_key_4 (kX0_leastKey hV.2.1) rfl rfl rfl rfl rfl (Nat.le_of_ble_eq_true rfl) rfl (Nat.le_of_ble_eq_true rfl) (Nat.le_of_ble_eq_true rfl) ?_
  simp only [tg_v]
  refine g_iret dX8_key_7 rfl ?_
  exact hK0 _ _ ⟨⟨on, (cellO_cls hO).2.2.2, rfl⟩, ⟨_, _, _, _, _, _, _, _, _, _, _, _, _, _, _, _, _, _, _, _, _, _, _, _, _, _, _, _, _, _, _, _, _, _, ⟨rfl, htv, rfl, htc, htm, rfl⟩, hV, hE, Or.inl rfl, hJ, fun _ => hO, rfl⟩⟩
theorem kX8_rule {x y : Int32} (hs : (sA told tx L d v n c u s z p pk pn pc pm kd kv kn kc km ke jd jv jn jc jm je kp ln P) w) : tg_Ct l mX8_rule 1000 [.ref 0, .int x, .int y] w (fun r w => ((¬ ((0 ≤ x.toInt ∧ x.toInt < (2 ^ d : Nat)) ∧ (0 ≤ y.toInt ∧ y.toInt < d)) ∧ r = some (.int (-3))) ∨ (((0 ≤ x.toInt ∧ x.toInt < (2 ^ d : Nat)) ∧ (0 ≤ y.toInt ∧ y.toInt < d)) ∧ r = some (.int (bZ (decide (onN d n c (7 ^ d) x.toInt.toNat = onN d n c (7 ^ d) (x.toInt.toNat ||| 2 ^ y.toInt.toNat))))))) ∧ (sA told tx L d v n c u s z p pk pn pc pm kd kv kn kc km ke jd jv jn jc jm je kp ln P) w) := by
  refine tg_gen (fun K0 hK0 => ?_)
  obtain ⟨old, dn, ts, tb, gd, gv, gn, gc, gm, ge, nv, td, tv, tn, tc, tm, te, qd, qv, en, hv, cz, r1, r2, r3, r4, a8, a9, a10, a11, ic, al, cs, on, ⟨rfl, htv, rfl, htc, htm, rfl⟩, hV, hE, ho, hJ, hO, rfl⟩ := hs
  have hd4 := hV.2.1
  have h7 := pow7 hV.2.1
  have h16 := pow2 hV.2.1
  show tg_G _ _ _ _ _ _ _ [.ref 0, .int x, .int y] [] _
  unfold wA
  refine tg_go bX8_rule_0 ?_
  simp only [ti_iload, List.getElem?_cons_zero, List.getElem?_cons_succ, true_and]
  refine g_if_lt (tgt := 32) dX8_rule_1 rfl (fun h1 => ?_) (fun h1 => ?_)
  · rw [xlt] at h1
    have h1 : x.toInt < 0 := h1
    refine tg_go bX8_rule_32 ?_
    simp only [ti_push, List.getElem?_cons_zero, List.getElem?_cons_succ, true_and]
    refine g_iret dX8_rule_34 rfl ?_
    exact hK0 _ _ ⟨Or.inl ⟨by omega, rfl⟩, ⟨_, _, _, _, _, _, _, _, _, _, _, _, _, _, _, _, _, _, _, _, _, _, _, _, _, _, _, _, _, _, _, _, _, _, ⟨rfl, htv, rfl, htc, htm, rfl⟩, hV, hE, ho, hJ, hO, rfl⟩⟩
  · rw [xlt] at h1
    have h1 : ¬ x.toInt < 0 := h1
    refine tg_go bX8_rule_4 ?_
    simp only [ti_aload, ti_getf, ti_iload, ti_ishl, ti_push, List.getElem?_cons_zero, List.getElem?_cons_succ, true_and]
    rw [shl1 hd4]
    refine g_icmp_ge (tgt := 32) dX8_rule_14 rfl (fun h14 => ?_) (fun h14 => ?_)
    · rw [xle, nI_toInt (by omega)] at h14
      refine tg_go bX8_rule_32 ?_
      simp only [ti_push, List.getElem?_cons_zero, List.getElem?_cons_succ, true_and]
      refine g_iret dX8_rule_34 rfl ?_
      exact hK0 _ _ ⟨Or.inl ⟨by omega, rfl⟩, ⟨_, _, _, _, _, _, _, _, _, _, _, _, _, _, _, _, _, _, _, _, _, _, _, _, _, _, _, _, _, _, _, _, _, _, ⟨rfl, htv, rfl, htc, htm, rfl⟩, hV, hE, ho, hJ, hO, rfl⟩⟩
    · rw [xle, nI_toInt (by omega)] at h14
      refine tg_go bX8_rule_17 ?_
      simp only [ti_iload, List.getElem?_cons_zero, List.getElem?_cons_succ, true_and]
      refine g_if_lt (tgt := 32) dX8_rule_18 rfl (fun h18 => ?_) (fun h18 => ?_)
      · rw [xlt] at h18
        have h18 : y.toInt < 0 := h18
        refine tg_go bX8_rule_32 ?_
        simp only [ti_push, List.getElem?_cons_zero, List.getElem?_cons_succ, true_and]
        refine g_iret dX8_rule_34 rfl ?_
        exact hK0 _ _ ⟨Or.inl ⟨by omega, rfl⟩, ⟨_, _, _, _, _, _, _, _, _, _, _, _, _, _, _, _, _, _, _, _, _, _, _, _, _, _, _, _, _, _, _, _, _, _, ⟨rfl, htv, rfl, htc, htm, rfl⟩, hV, hE, ho, hJ, hO, rfl⟩⟩
      · rw [xlt] at h18
        have h18 : ¬ y.toInt < 0 := h18
        refine tg_go bX8_rule_21 ?_
        simp only [ti_aload, ti_getf, ti_iload, List.getElem?_cons_zero, List.getElem?_cons_succ, true_and]
        refine g_icmp_lt (tgt := 35) dX8_rule_29 rfl (fun h29 => ?_) (fun h29 => ?_)
        · rw [xlt, nI_toInt (by omega)] at h29
          obtain ⟨ex, hx⟩ := x_of (n := 2 ^ d) (x := x) (by omega) (by omega)
          obtain ⟨ey, hy⟩ := x_of (n := d) (x := y) (by omega) (by omega)
          have hin : (0 ≤ x.toInt ∧ x.toInt < (2 ^ d : Nat)) ∧ (0 ≤ y.toInt ∧ y.toInt < d) := ⟨⟨by omega, by omega⟩, by omega, by omega⟩
          generalize x.toInt.toNat = q at ex hx hK0
          generalize y.toInt.toNat = k at ey hy hK0
          subst ex ey
          refine tg_go bX8_rule_35 ?_
          simp only [ti_aload, List.getElem?_cons_zero, List.getElem?_cons_succ, true_and]
          refine tg_cWe vX8_rule_36 (kX8_freshCells htv htc hV hE ho hJ hO) rfl rfl rfl rfl (Nat.le_of_ble_eq_true rfl) (Nat.le_of_ble_eq_true rfl) (Nat.le_of_ble_eq_true rfl) (by rintro r w1 ⟨-, hv, cz, r1, r2, r3, r4, a8, a9, a10, a11, ic, al, cs, on, -, -, rfl⟩; rfl) ?_
          rintro r w1 ⟨rfl, hv, cz, r1, r2, r3, r4, a8, a9, a10, a11, ic, al, cs, on, hJ, hO, rfl⟩
          simp only [Option.toList_some, List.cons_append, List.nil_append]
          unfold wA
          refine tg_go bX8_rule_39 ?_
          simp only [ti_iload, List.getElem?_cons_zero, List.getElem?_cons_succ, true_and]
          refine tg_cR iC vX8_rule_41 (kX0_settles hd4 hx hy) rfl rfl rfl rfl rfl (Nat.le_of_ble_eq_true rfl) rfl (Nat.le_of_ble_eq_true rfl) (Nat.le_of_ble_eq_true rfl) ?_
          simp only [tg_v]
          have hq16 : q ||| 2 ^ k < 16 := or_lt16 (by omega) (by omega)
          rw [(cellO_cls hO).2.2.2 q (by omega), (cellO_cls hO).2.2.2 _ hq16]
          have hb1 : onN d n c (7 ^ d) q ≤ 7 ^ d := gMany_le _ _
          have hb2 : onN d n c (7 ^ d) (q ||| 2 ^ k) ≤ 7 ^ d := gMany_le _ _
          simp only [lI_eq (show onN d n c (7 ^ d) q < 2 ^ 31 by omega) (show onN d n c (7 ^ d) (q ||| 2 ^ k) < 2 ^ 31 by omega)]
          refine g_if_eq (tgt := 51) dX8_rule_44 rfl (fun h44 => ?_) (fun h44 => ?_)
          · refine tg_go bX8_rule_51 ?_
            simp only [ti_push, List.getElem?_cons_zero, List.getElem?_cons_succ, true_and]
            refine g_iret dX8_rule_52 rfl ?_
            exact hK0 _ _ ⟨Or.inr ⟨hin, by rw [bZ_0 h44]; rfl⟩, ⟨_, _, _, _, _, _, _, _, _, _, _, _, _, _, _, _, _, _, _, _, _, _, _, _, _, _, _, _, _, _, _, _, _, _, ⟨rfl, htv, rfl, htc, htm, rfl⟩, hV, hE, Or.inl rfl, hJ, fun _ => hO, rfl⟩⟩
          · refine tg_go bX8_rule_47 ?_
            simp only [ti_push, List.getElem?_cons_zero, List.getElem?_cons_succ, true_and]
            refine g_goto (tgt := 52) dX8_rule_48 rfl ?_
            refine g_iret dX8_rule_52 rfl ?_
            exact hK0 _ _ ⟨Or.inr ⟨hin, by rw [bZ_n h44]; rfl⟩, ⟨_, _, _, _, _, _, _, _, _, _, _, _, _, _, _, _, _, _, _, _, _, _, _, _, _, _, _, _, _, _, _, _, _, _, ⟨rfl, htv, rfl, htc, htm, rfl⟩, hV, hE, Or.inl rfl, hJ, fun _ => hO, rfl⟩⟩
        · rw [xlt, nI_toInt (by omega)] at h29
          refine tg_go bX8_rule_32 ?_
          simp only [ti_push, List.getElem?_cons_zero, List.getElem?_cons_succ, true_and]
          refine g_iret dX8_rule_34 rfl ?_
          exact hK0 _ _ ⟨Or.inl ⟨by omega, rfl⟩, ⟨_, _, _, _, _, _, _, _, _, _, _, _, _, _, _, _, _, _, _, _, _, _, _, _, _, _, _, _, _, _, _, _, _, _, ⟨rfl, htv, rfl, htc, htm, rfl⟩, hV, hE, ho, hJ, hO, rfl⟩⟩
theorem kX8_count {x : Int32} (hs : (sA told tx L d v n c u s z p pk pn pc pm kd kv kn kc km ke jd jv jn jc jm je kp ln P) w) : tg_Ct l mX8_count 1000 [.ref 0, .int x] w (fun r w => r = some (.int (aCntC d n s z L v c ln x)) ∧ (sA told tx L d v n c u s z p pk pn pc pm kd kv kn kc km ke jd jv jn jc jm je kp ln P) w) := by
  refine tg_gen (fun K0 hK0 => ?_)
  obtain ⟨old, dn, ts, tb, gd, gv, gn, gc, gm, ge, nv, td, tv, tn, tc, tm, te, qd, qv, en, hv, cz, r1, r2, r3, r4, a8, a9, a10, a11, ic, al, cs, on, ⟨rfl, htv, rfl, htc, htm, rfl⟩, hV, hE, ho, hJ, hO, rfl⟩ := hs
  have hs19 := hE.2.1
  unfold aCntC at hK0
  show tg_G _ _ _ _ _ _ _ [.ref 0, .int x] [] _
  unfold wA
  refine tg_go bX8_count_0 ?_
  simp only [ti_iload, List.getElem?_cons_zero, List.getElem?_cons_succ, true_and]
  have hcs : x = 0 ∨ x = 1 ∨ x = 2 ∨ x = 3 ∨ x = 4 ∨ x = 5 ∨ x = 6 ∨ x = 7 ∨ x = 8 ∨ (x.toInt < 0 ∨ 8 < x.toInt) := by
    by_cases h : 0 ≤ x.toInt ∧ x.toInt ≤ 8
    · obtain ⟨e1, e2⟩ := x_of (n := 9) h.1 (by omega)
      generalize x.toInt.toNat = q at e1 e2
      subst e1
      rcases (show q = 0 ∨ q = 1 ∨ q = 2 ∨ q = 3 ∨ q = 4 ∨ q = 5 ∨ q = 6 ∨ q = 7 ∨ q = 8 by omega) with rfl | rfl | rfl | rfl | rfl | rfl | rfl | rfl | rfl <;> simp [nI]
    · have : x.toInt < 0 ∨ 8 < x.toInt := by omega
      simp [this]
  rcases hcs with rfl | rfl | rfl | rfl | rfl | rfl | rfl | rfl | rfl | hx
  · refine g_tblIn (off := 51) (tgt := 52) dX8_count_1 (by decide) (by decide) rfl rfl ?_
    refine tg_go bX8_count_52 ?_
    simp only [ti_aload, ti_getf, List.getElem?_cons_zero, List.getElem?_cons_succ, true_and]
    refine g_iret dX8_count_59 rfl ?_
    exact hK0 _ _ ⟨rfl, ⟨_, _, _, _, _, _, _, _, _, _, _, _, _, _, _, _, _, _, _, _, _, _, _, _, _, _, _, _, _, _, _, _, _, _, ⟨rfl, htv, rfl, htc, htm, rfl⟩, hV, hE, ho, hJ, hO, rfl⟩⟩
  · refine g_tblIn (off := 59) (tgt := 60) dX8_count_1 (by decide) (by decide) rfl rfl ?_
    refine tg_go bX8_count_60 ?_
    simp only [ti_aload, ti_getf, List.getElem?_cons_zero, List.getElem?_cons_succ, true_and]
    refine g_iret dX8_count_67 rfl ?_
    exact hK0 _ _ ⟨rfl, ⟨_, _, _, _, _, _, _, _, _, _, _, _, _, _, _, _, _, _, _, _, _, _, _, _, _, _, _, _, _, _, _, _, _, _, ⟨rfl, htv, rfl, htc, htm, rfl⟩, hV, hE, ho, hJ, hO, rfl⟩⟩
  · refine g_tblIn (off := 67) (tgt := 68) dX8_count_1 (by decide) (by decide) rfl rfl ?_
    refine tg_go bX8_count_68 ?_
    simp only [ti_aload, ti_getf, List.getElem?_cons_zero, List.getElem?_cons_succ, true_and]
    refine g_iret dX8_count_75 rfl ?_
    exact hK0 _ _ ⟨rfl, ⟨_, _, _, _, _, _, _, _, _, _, _, _, _, _, _, _, _, _, _, _, _, _, _, _, _, _, _, _, _, _, _, _, _, _, ⟨rfl, htv, rfl, htc, htm, rfl⟩, hV, hE, ho, hJ, hO, rfl⟩⟩
  · refine g_tblIn (off := 75) (tgt := 76) dX8_count_1 (by decide) (by decide) rfl rfl ?_
    refine tg_go bX8_count_76 ?_
    simp only [ti_aload, List.getElem?_cons_zero, List.getElem?_cons_succ, true_and]
    refine tg_cWe vX8_count_77 (kX8_freshCells htv htc hV hE ho hJ hO) rfl rfl rfl rfl (Nat.le_of_ble_eq_true rfl) (Nat.le_of_ble_eq_true rfl) (Nat.le_of_ble_eq_true rfl) (by rintro r w1 ⟨-, hv, cz, r1, r2, r3, r4, a8, a9, a10, a11, ic, al, cs, on, -, -, rfl⟩; rfl) ?_
    rintro r w1 ⟨rfl, hv, cz, r1, r2, r3, r4, a8, a9, a10, a11, ic, al, cs, on, hJ, hO, rfl⟩
    simp only [Option.toList_some, List.cons_append, List.nil_append]
    unfold wA
    refine tg_go bX8_count_80 ?_
    simp only [ti_aload, ti_getf, List.getElem?_cons_zero, List.getElem?_cons_succ, true_and]
    refine tg_cR iC vX8_count_87 (kX0_cubeSize (cellO_cls hO).2.2.1 (by omega)) rfl rfl rfl rfl rfl (Nat.le_of_ble_eq_true rfl) rfl (Nat.le_of_ble_eq_true rfl) (Nat.le_of_ble_eq_true rfl) ?_
    simp only [tg_v]
    refine g_iret dX8_count_90 rfl ?_
    exact hK0 _ _ ⟨rfl, ⟨_, _, _, _, _, _, _, _, _, _, _, _, _, _, _, _, _, _, _, _, _, _, _, _, _, _, _, _, _, _, _, _, _, _, ⟨rfl, htv, rfl, htc, htm, rfl⟩, hV, hE, Or.inl rfl, hJ, fun _ => hO, rfl⟩⟩
  · refine g_tblIn (off := 90) (tgt := 91) dX8_count_1 (by decide) (by decide) rfl rfl ?_
    refine tg_go bX8_count_91 ?_
    simp only [ti_aload, List.getElem?_cons_zero, List.getElem?_cons_succ, true_and]
    refine tg_cWe vX8_count_92 (kX8_freshCells htv htc hV hE ho hJ hO) rfl rfl rfl rfl (Nat.le_of_ble_eq_true rfl) (Nat.le_of_ble_eq_true rfl) (Nat.le_of_ble_eq_true rfl) (by rintro r w1 ⟨-, hv, cz, r1, r2, r3, r4, a8, a9, a10, a11, ic, al, cs, on, -, -, rfl⟩; rfl) ?_
    rintro r w1 ⟨rfl, hv, cz, r1, r2, r3, r4, a8, a9, a10, a11, ic, al, cs, on, hJ, hO, rfl⟩
    simp only [Option.toList_some, List.cons_append, List.nil_append]
    unfold wA
    refine tg_go bX8_count_95 ?_
    simp only [ti_aload, ti_getf, List.getElem?_cons_zero, List.getElem?_cons_succ, true_and]
    refine tg_cR iC vX8_count_102 (kX0_cellsWith (cellO_cls hO).2.1 (by omega)) rfl rfl rfl rfl rfl (Nat.le_of_ble_eq_true rfl) rfl (Nat.le_of_ble_eq_true rfl) (Nat.le_of_ble_eq_true rfl) ?_
    simp only [tg_v]
    refine g_iret dX8_count_105 rfl ?_
    exact hK0 _ _ ⟨rfl, ⟨_, _, _, _, _, _, _, _, _, _, _, _, _, _, _, _, _, _, _, _, _, _, _, _, _, _, _, _, _, _, _, _, _, _, ⟨rfl, htv, rfl, htc, htm, rfl⟩, hV, hE, Or.inl rfl, hJ, fun _ => hO, rfl⟩⟩
  · refine g_tblIn (off := 105) (tgt := 106) dX8_count_1 (by decide) (by decide) rfl rfl ?_
    refine tg_go bX8_count_106 ?_
    simp only [ti_aload, ti_getf, List.getElem?_cons_zero, List.getElem?_cons_succ, true_and]
    refine tg_cR iT vX8_count_110 (kX6_valueFigures hV.2.1) rfl rfl rfl rfl rfl (Nat.le_of_ble_eq_true rfl) rfl (Nat.le_of_ble_eq_true rfl) (Nat.le_of_ble_eq_true rfl) ?_
    simp only [tg_v]
    rw [valT_congr (g := fun k => nI (v k)) d htv]
    refine g_iret dX8_count_113 rfl ?_
    exact hK0 _ _ ⟨rfl, ⟨_, _, _, _, _, _, _, _, _, _, _, _, _, _, _, _, _, _, _, _, _, _, _, _, _, _, _, _, _, _, _, _, _, _, ⟨rfl, htv, rfl, htc, htm, rfl⟩, hV, hE, ho, hJ, hO, rfl⟩⟩
  · refine g_tblIn (off := 113) (tgt := 114) dX8_count_1 (by decide) (by decide) rfl rfl ?_
    refine tg_go bX8_count_114 ?_
    simp only [ti_aload, ti_getf, List.getElem?_cons_zero, List.getElem?_cons_succ, true_and]
    refine tg_cR iL vX8_count_118 (kX3_placesInAll) rfl rfl rfl rfl rfl (Nat.le_of_ble_eq_true rfl) rfl (Nat.le_of_ble_eq_true rfl) (Nat.le_of_ble_eq_true rfl) ?_
    simp only [tg_v]
    refine g_iret dX8_count_121 rfl ?_
    exact hK0 _ _ ⟨rfl, ⟨_, _, _, _, _, _, _, _, _, _, _, _, _, _, _, _, _, _, _, _, _, _, _, _, _, _, _, _, _, _, _, _, _, _, ⟨rfl, htv, rfl, htc, htm, rfl⟩, hV, hE, ho, hJ, hO, rfl⟩⟩
  · refine g_tblIn (off := 121) (tgt := 122) dX8_count_1 (by decide) (by decide) rfl rfl ?_
    refine tg_go bX8_count_122 ?_
    simp only [ti_aload, ti_getf, List.getElem?_cons_zero, List.getElem?_cons_succ, true_and]
    refine g_iret dX8_count_129 rfl ?_
    exact hK0 _ _ ⟨rfl, ⟨_, _, _, _, _, _, _, _, _, _, _, _, _, _, _, _, _, _, _, _, _, _, _, _, _, _, _, _, _, _, _, _, _, _, ⟨rfl, htv, rfl, htc, htm, rfl⟩, hV, hE, ho, hJ, hO, rfl⟩⟩
  · refine g_tblIn (off := 129) (tgt := 130) dX8_count_1 (by decide) (by decide) rfl rfl ?_
    refine tg_go bX8_count_130 ?_
    simp only [ti_aload, ti_getf, List.getElem?_cons_zero, List.getElem?_cons_succ, true_and]
    refine g_iret dX8_count_137 rfl ?_
    exact hK0 _ _ ⟨rfl, ⟨_, _, _, _, _, _, _, _, _, _, _, _, _, _, _, _, _, _, _, _, _, _, _, _, _, _, _, _, _, _, _, _, _, _, ⟨rfl, htv, rfl, htc, htm, rfl⟩, hV, hE, ho, hJ, hO, rfl⟩⟩
  · refine g_tblOut (tgt := 138) dX8_count_1 hx rfl ?_
    refine tg_go bX8_count_138 ?_
    simp only [ti_push, List.getElem?_cons_zero, List.getElem?_cons_succ, true_and]
    refine g_iret dX8_count_140 rfl ?_
    refine hK0 _ _ ⟨?_, ⟨_, _, _, _, _, _, _, _, _, _, _, _, _, _, _, _, _, _, _, _, _, _, _, _, _, _, _, _, _, _, _, _, _, _, ⟨rfl, htv, rfl, htc, htm, rfl⟩, hV, hE, ho, hJ, hO, rfl⟩⟩
    have key : ∀ q : Int32, 0 ≤ q.toInt → q.toInt ≤ 8 → ¬ x = q := fun q h1 h2 e => by rw [e] at hx; omega
    rw [if_neg (key 0 (by decide) (by decide)), if_neg (key 1 (by decide) (by decide)), if_neg (key 2 (by decide) (by decide)), if_neg (key 3 (by decide) (by decide)), if_neg (key 4 (by decide) (by decide)), if_neg (key 5 (by decide) (by decide)), if_neg (key 6 (by decide) (by decide)), if_neg (key 7 (by decide) (by decide)), if_neg (key 8 (by decide) (by decide))]
end MAIN6
