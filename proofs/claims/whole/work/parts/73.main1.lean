/-! THE CLASS: CubeClosures: text, entries -/
section PUTS2
variable {old dn len ts tb gd gn ge td tn te qd qv cz pz px kd kn ke jd jn je : Int32} {told : Int64} {tx gv gc gm nv tv tc tm en a8 a10 ic al cs on pk pn pc pm kv kc km jv jc jm kp ln : Nat → Int32} {hv a9 a11 : Nat → Int64} {P : Nat → Nat → Int64} {r1 r2 r3 r4 : Nat}
variable {dn' len' ts' tb' gd' gn' ge' td' tn' te' : Int32} {tx' gv' gc' gm' nv' tv' tc' tm' : Nat → Int32}
theorem put_X : tg_put (tg_rn iX) (wA old told dn tx len ts tb gd gv gn gc gm ge nv td tv tn tc tm te qd qv en hv cz r1 r2 r3 r4 a8 a9 a10 a11 ic al cs on pz px pk pn pc pm kd kv kn kc km ke jd jv jn jc jm je kp ln P) iX (wX tx' len' ts' tb') = (wA old told dn tx' len' ts' tb' gd gv gn gc gm ge nv td tv tn tc tm te qd qv en hv cz r1 r2 r3 r4 a8 a9 a10 a11 ic al cs on pz px pk pn pc pm kd kv kn kc km ke jd jv jn jc jm je kp ln P) := by
  unfold wA wX
  simp only [tg_put, List.set_cons_succ, List.set_cons_zero]
  rfl
theorem put_KT : tg_put (tg_rn iKT) (wA old told dn tx len ts tb gd gv gn gc gm ge nv td tv tn tc tm te qd qv en hv cz r1 r2 r3 r4 a8 a9 a10 a11 ic al cs on pz px pk pn pc pm kd kv kn kc km ke jd jv jn jc jm je kp ln P) iKT (wKT tx' len' ts' tb' dn' gd' gv' gn' gc' gm' ge' nv' td' tv' tn' tc' tm' te') = (wA old told dn' tx' len' ts' tb' gd' gv' gn' gc' gm' ge' nv' td' tv' tn' tc' tm' te' qd qv en hv cz r1 r2 r3 r4 a8 a9 a10 a11 ic al cs on pz px pk pn pc pm kd kv kn kc km ke jd jv jn jc jm je kp ln P) := by
  unfold wA wKT
  simp only [tg_put, List.set_cons_succ, List.set_cons_zero]
  rfl
theorem put_TG : tg_put (tg_rn [10, 11, 12, 13, 4, 5, 6, 7]) (wA old told dn tx len ts tb gd gv gn gc gm ge nv td tv tn tc tm te qd qv en hv cz r1 r2 r3 r4 a8 a9 a10 a11 ic al cs on pz px pk pn pc pm kd kv kn kc km ke jd jv jn jc jm je kp ln P) [10, 11, 12, 13, 4, 5, 6, 7] (wT2 td' tv' tn' tc' tm' te' gd' gv' gn' gc' gm' ge') = (wA old told dn tx len ts tb gd' gv' gn' gc' gm' ge' nv td' tv' tn' tc' tm' te' qd qv en hv cz r1 r2 r3 r4 a8 a9 a10 a11 ic al cs on pz px pk pn pc pm kd kv kn kc km ke jd jv jn jc jm je kp ln P) := by
  unfold wA wT2
  simp only [tg_put, List.set_cons_succ, List.set_cons_zero]
  rfl
theorem put_KT0 : tg_put (tg_rn [31, 32, 33, 34, 10, 11, 12, 13]) (wA old told dn tx len ts tb gd gv gn gc gm ge nv td tv tn tc tm te qd qv en hv cz r1 r2 r3 r4 a8 a9 a10 a11 ic al cs on pz px pk pn pc pm kd kv kn kc km ke jd jv jn jc jm je kp ln P) [31, 32, 33, 34, 10, 11, 12, 13] (wT2 td' tv' tn' tc' tm' te' gd' gv' gn' gc' gm' ge') = (wA old told dn tx len ts tb gd gv gn gc gm ge nv gd' gv' gn' gc' gm' ge' qd qv en hv cz r1 r2 r3 r4 a8 a9 a10 a11 ic al cs on pz px pk pn pc pm td' tv' tn' tc' tm' te' jd jv jn jc jm je kp ln P) := by
  unfold wA wT2
  simp only [tg_put, List.set_cons_succ, List.set_cons_zero]
  rfl
theorem put_KT1 : tg_put (tg_rn [35, 36, 37, 38, 10, 11, 12, 13]) (wA old told dn tx len ts tb gd gv gn gc gm ge nv td tv tn tc tm te qd qv en hv cz r1 r2 r3 r4 a8 a9 a10 a11 ic al cs on pz px pk pn pc pm kd kv kn kc km ke jd jv jn jc jm je kp ln P) [35, 36, 37, 38, 10, 11, 12, 13] (wT2 td' tv' tn' tc' tm' te' gd' gv' gn' gc' gm' ge') = (wA old told dn tx len ts tb gd gv gn gc gm ge nv gd' gv' gn' gc' gm' ge' qd qv en hv cz r1 r2 r3 r4 a8 a9 a10 a11 ic al cs on pz px pk pn pc pm kd kv kn kc km ke td' tv' tn' tc' tm' te' kp ln P) := by
  unfold wA wT2
  simp only [tg_put, List.set_cons_succ, List.set_cons_zero]
  rfl
theorem put_TK0 : tg_put (tg_rn [10, 11, 12, 13, 31, 32, 33, 34]) (wA old told dn tx len ts tb gd gv gn gc gm ge nv td tv tn tc tm te qd qv en hv cz r1 r2 r3 r4 a8 a9 a10 a11 ic al cs on pz px pk pn pc pm kd kv kn kc km ke jd jv jn jc jm je kp ln P) [10, 11, 12, 13, 31, 32, 33, 34] (wT2 td' tv' tn' tc' tm' te' gd' gv' gn' gc' gm' ge') = (wA old told dn tx len ts tb gd gv gn gc gm ge nv td' tv' tn' tc' tm' te' qd qv en hv cz r1 r2 r3 r4 a8 a9 a10 a11 ic al cs on pz px pk pn pc pm gd' gv' gn' gc' gm' ge' jd jv jn jc jm je kp ln P) := by
  unfold wA wT2
  simp only [tg_put, List.set_cons_succ, List.set_cons_zero]
  rfl
theorem put_TK1 : tg_put (tg_rn [10, 11, 12, 13, 35, 36, 37, 38]) (wA old told dn tx len ts tb gd gv gn gc gm ge nv td tv tn tc tm te qd qv en hv cz r1 r2 r3 r4 a8 a9 a10 a11 ic al cs on pz px pk pn pc pm kd kv kn kc km ke jd jv jn jc jm je kp ln P) [10, 11, 12, 13, 35, 36, 37, 38] (wT2 td' tv' tn' tc' tm' te' gd' gv' gn' gc' gm' ge') = (wA old told dn tx len ts tb gd gv gn gc gm ge nv td' tv' tn' tc' tm' te' qd qv en hv cz r1 r2 r3 r4 a8 a9 a10 a11 ic al cs on pz px pk pn pc pm kd kv kn kc km ke gd' gv' gn' gc' gm' ge' kp ln P) := by
  unfold wA wT2
  simp only [tg_put, List.set_cons_succ, List.set_cons_zero]
  rfl
end PUTS2
theorem xlt {x y : Int32} : (x < y) = (x.toInt < y.toInt) := propext Int32.lt_iff_toInt_lt
theorem xle {x y : Int32} : (x ≤ y) = (x.toInt ≤ y.toInt) := propext Int32.le_iff_toInt_le
section MAIN2
variable {l : tg_Ln} {K : Option Value → List va_E → Prop} {told : Int64} {tx u pk pn pc pm kv kc km jv jc jm kp ln : Nat → Int32} {L d n s z p : Nat} {v c : Nat → Nat} {kd kn ke jd jn je : Int32} {P : Nat → Nat → Int64} {w : List va_E}
theorem kX8_write {x : Int32} (hs : (sA told tx L d v n c u s z p pk pn pc pm kd kv kn kc km ke jd jv jn jc jm je kp ln P) w) (hL : L ≤ 200) : tg_Ct l mX8_write 1000 [.ref 0, .int x] w (fun r w => (¬ (0 ≤ x.toInt ∧ x.toInt ≤ 255) ∧ r = some (.int (-3)) ∧ (sA told tx L d v n c u s z p pk pn pc pm kd kv kn kc km ke jd jv jn jc jm je kp ln P) w) ∨ ((0 ≤ x.toInt ∧ x.toInt ≤ 255) ∧ L = 200 ∧ r = some (.int (-5)) ∧ (sA told tx L d v n c u s z p pk pn pc pm kd kv kn kc km ke jd jv jn jc jm je kp ln P) w) ∨ ((0 ≤ x.toInt ∧ x.toInt ≤ 255) ∧ L < 200 ∧ r = some (.int (nI (L + 1))) ∧ (sA told (upd tx L x) (L + 1) d v n c u s z p pk pn pc pm kd kv kn kc km ke jd jv jn jc jm je kp ln P) w)) := by
  refine tg_gen (fun K0 hK0 => ?_)
  obtain ⟨old, dn, ts, tb, gd, gv, gn, gc, gm, ge, nv, td, tv, tn, tc, tm, te, qd, qv, en, hv, cz, r1, r2, r3, r4, a8, a9, a10, a11, ic, al, cs, on, ⟨rfl, htv, rfl, htc, htm, rfl⟩, hV, hE, ho, hJ, hO, rfl⟩ := hs
  show tg_G _ _ _ _ _ _ _ [.ref 0, .int x] [] _
  unfold wA
  refine tg_go bX8_write_0 ?_
  simp only [ti_iload, List.getElem?_cons_zero, List.getElem?_cons_succ, true_and]
  refine g_if_lt (tgt := 11) dX8_write_1 rfl (fun h1 => ?_) (fun h1 => ?_)
  · rw [xlt] at h1
    have h1 : x.toInt < 0 := h1
    refine tg_go bX8_write_11 ?_
    simp only [ti_push, List.getElem?_cons_zero, List.getElem?_cons_succ, true_and]
    refine g_iret dX8_write_13 rfl ?_
    exact hK0 _ _ (Or.inl ⟨by omega, rfl, ⟨_, _, _, _, _, _, _, _, _, _, _, _, _, _, _, _, _, _, _, _, _, _, _, _, _, _, _, _, _, _, _, _, _, _, ⟨rfl, htv, rfl, htc, htm, rfl⟩, hV, hE, ho, hJ, hO, rfl⟩⟩)
  · rw [xlt] at h1
    have h1 : ¬ x.toInt < 0 := h1
    refine tg_go bX8_write_4 ?_
    simp only [ti_iload, ti_push, List.getElem?_cons_zero, List.getElem?_cons_succ, true_and]
    refine g_icmp_le (tgt := 14) dX8_write_8 rfl (fun h8 => ?_) (fun h8 => ?_)
    · rw [xle] at h8
      have h8 : x.toInt ≤ 255 := h8
      obtain ⟨ex, hx⟩ := x_of (n := 256) (x := x) (by omega) (by omega)
      refine tg_go bX8_write_14 ?_
      simp only [ti_aload, ti_getf, ti_i2c, ti_iload, List.getElem?_cons_zero, List.getElem?_cons_succ, true_and]
      have e2 : (x.toUInt32 % 65536).toInt32 = x := by
        rw [pk_char, ex, pk_tn (by omega), Nat.mod_eq_of_lt (by omega), ← ex]
      rw [e2]
      by_cases h200 : L < 200
      · refine tg_cV iX vX8_write_20 (kX7_append_t h200 (by rw [ex]; unfold vp_nar; rw [(pk_charN (show x.toInt.toNat < 65536 by omega)).1])) rfl rfl rfl rfl rfl (Nat.le_of_ble_eq_true rfl) rfl (Nat.le_of_ble_eq_true rfl) (Nat.le_of_ble_eq_true rfl) (by rintro r w1 ⟨-, rfl⟩; rfl) ?_
        rintro r w1 ⟨rfl, rfl⟩
        simp only [Option.map_some, Option.map_none, Option.toList_some, Option.toList_none, List.cons_append, List.nil_append, tg_v]
        refine tg_rw put_X ?_
        unfold wA
        refine g_if_eq (tgt := 36) dX8_write_23 rfl (fun h23 => ?_) (fun h23 => ?_)
        · exact absurd h23 (by decide)
        · refine tg_go bX8_write_26 ?_
          simp only [ti_aload, ti_getf, List.getElem?_cons_zero, List.getElem?_cons_succ, true_and]
          refine g_goto (tgt := 38) dX8_write_33 rfl ?_
          refine g_iret dX8_write_38 rfl ?_
          exact hK0 _ _ (Or.inr (Or.inr ⟨⟨by omega, by omega⟩, h200, rfl, ⟨_, _, _, _, _, _, _, _, _, _, _, _, _, _, _, _, _, _, _, _, _, _, _, _, _, _, _, _, _, _, _, _, _, _, ⟨rfl, htv, rfl, htc, htm, rfl⟩, hV, hE, ho, hJ, hO, rfl⟩⟩))
      · obtain rfl : L = 200 := by omega
        refine tg_cV iX vX8_write_20 (kX7_append_f) rfl rfl rfl rfl rfl (Nat.le_of_ble_eq_true rfl) rfl (Nat.le_of_ble_eq_true rfl) (Nat.le_of_ble_eq_true rfl) (by rintro r w1 ⟨-, rfl⟩; rfl) ?_
        rintro r w1 ⟨rfl, rfl⟩
        simp only [Option.map_some, Option.map_none, Option.toList_some, Option.toList_none, List.cons_append, List.nil_append, tg_v]
        refine tg_rw put_X ?_
        unfold wA
        refine g_if_eq (tgt := 36) dX8_write_23 rfl (fun h23 => ?_) (fun h23 => ?_)
        · refine tg_go bX8_write_36 ?_
          simp only [ti_push, List.getElem?_cons_zero, List.getElem?_cons_succ, true_and]
          refine g_iret dX8_write_38 rfl ?_
          exact hK0 _ _ (Or.inr (Or.inl ⟨⟨by omega, by omega⟩, rfl, rfl, ⟨_, _, _, _, _, _, _, _, _, _, _, _, _, _, _, _, _, _, _, _, _, _, _, _, _, _, _, _, _, _, _, _, _, _, ⟨rfl, htv, rfl, htc, htm, rfl⟩, hV, hE, ho, hJ, hO, rfl⟩⟩))
        · exact absurd rfl h23
    · rw [xle] at h8
      have h8 : ¬ x.toInt ≤ 255 := h8
      refine tg_go bX8_write_11 ?_
      simp only [ti_push, List.getElem?_cons_zero, List.getElem?_cons_succ, true_and]
      refine g_iret dX8_write_13 rfl ?_
      exact hK0 _ _ (Or.inl ⟨by omega, rfl, ⟨_, _, _, _, _, _, _, _, _, _, _, _, _, _, _, _, _, _, _, _, _, _, _, _, _, _, _, _, _, _, _, _, _, _, ⟨rfl, htv, rfl, htc, htm, rfl⟩, hV, hE, ho, hJ, hO, rfl⟩⟩)
theorem kX8_erase (hs : (sA told tx L d v n c u s z p pk pn pc pm kd kv kn kc km ke jd jv jn jc jm je kp ln P) w) : tg_Ct l mX8_erase 1000 [.ref 0] w (fun r w => r = some (.int (nI L)) ∧ (sA told tx 0 d v n c u s z p pk pn pc pm kd kv kn kc km ke jd jv jn jc jm je kp ln P) w) := by
  refine tg_gen (fun K0 hK0 => ?_)
  obtain ⟨old, dn, ts, tb, gd, gv, gn, gc, gm, ge, nv, td, tv, tn, tc, tm, te, qd, qv, en, hv, cz, r1, r2, r3, r4, a8, a9, a10, a11, ic, al, cs, on, ⟨rfl, htv, rfl, htc, htm, rfl⟩, hV, hE, ho, hJ, hO, rfl⟩ := hs
  show tg_G _ _ _ _ _ _ _ [.ref 0, .null] [] _
  unfold wA
  refine tg_go bX8_erase_0 ?_
  simp only [ti_aload, ti_getf, ti_iload, ti_istore, ti_push, ti_putfI, tg_s1, tg_cl, List.getElem?_cons_zero, List.getElem?_cons_succ, List.set_cons_zero, List.set_cons_succ, true_and]
  refine g_iret dX8_erase_17 rfl ?_
  exact hK0 _ _ ⟨rfl, ⟨_, _, _, _, _, _, _, _, _, _, _, _, _, _, _, _, _, _, _, _, _, _, _, _, _, _, _, _, _, _, _, _, _, _, ⟨rfl, htv, rfl, htc, htm, rfl⟩, hV, hE, ho, hJ, hO, rfl⟩⟩
theorem kX8_fault {vals row : Nat → Int32} (hs : (sA told tx L d v n c u s z p pk pn pc pm kd kv kn kc km ke jd jv jn jc jm je kp ln P) w) (hL : L ≤ 200) (hvals : ∀ k, k < d → vals k = nI (v k)) (hrow : tbR row d 0 n s c u) : tg_Ct l mX8_fault 1000 [.ref 0] w (fun r w => r = some (.int (if (txR tx L d n vals).1.1 = true then -1 else nI (txR tx L d n vals).1.2.1)) ∧ (sA told tx L d v n c u s z p pk pn pc pm kd kv kn kc km ke jd jv jn jc jm je kp ln P) w) := by
  refine tg_gen (fun K0 hK0 => ?_)
  obtain ⟨old, dn, ts, tb, gd, gv, gn, gc, gm, ge, nv, td, tv, tn, tc, tm, te, qd, qv, en, hv, cz, r1, r2, r3, r4, a8, a9, a10, a11, ic, al, cs, on, ⟨rfl, htv, rfl, htc, htm, rfl⟩, hV, hE, ho, hJ, hO, rfl⟩ := hs
  have hm : mat (nI d) tv (nI n) tc tm (nI s) (nI d) vals row d v n c u s := ⟨⟨rfl, htv, rfl, htc, htm, rfl⟩, rfl, hvals, hrow, hV, hE⟩
  show tg_G _ _ _ _ _ _ _ [.ref 0] [] _
  unfold wA
  refine tg_go bX8_fault_0 ?_
  simp only [ti_aload, ti_getf, List.getElem?_cons_zero, List.getElem?_cons_succ, true_and]
  refine tg_cV iKT vX8_fault_8 (kX1_draftUpon hL hm) rfl rfl rfl rfl rfl (Nat.le_of_ble_eq_true rfl) rfl (Nat.le_of_ble_eq_true rfl) (Nat.le_of_ble_eq_true rfl) (by rintro r w1 ⟨-, ts, tb, dn, td, tv, tn, tc, tm, te, nv, rfl, -⟩; rfl) ?_
  rintro r w1 ⟨rfl, ts, tb, dn, gd, gv, gn, gc, gm, ge, nv, rfl, -⟩
  simp only [Option.map_some, Option.toList_some, List.cons_append, List.nil_append, tg_v]
  refine tg_rw put_KT ?_
  refine g_iret dX8_fault_11 rfl ?_
  exact hK0 _ _ ⟨rfl, ⟨_, _, _, _, _, _, _, _, _, _, _, _, _, _, _, _, _, _, _, _, _, _, _, _, _, _, _, _, _, _, _, _, _, _, ⟨rfl, htv, rfl, htc, htm, rfl⟩, hV, hE, ho, hJ, hO, rfl⟩⟩
theorem kX8_add {x y : Int32} (hs : (sA told tx L d v n c u s z p pk pn pc pm kd kv kn kc km ke jd jv jn jc jm je kp ln P) w) (hz : z ≤ 8) (hp : p < 8) : tg_Ct l mX8_add 1000 [.ref 0, .int x, .int y] w (fun r w => (¬ (wholeOK d v x = true ∧ -99 ≤ y.toInt ∧ y.toInt ≤ 99) ∧ r = some (.int (-3)) ∧ (sA told tx L d v n c u s z p pk pn pc pm kd kv kn kc km ke jd jv jn jc jm je kp ln P) w) ∨ ((wholeOK d v x = true ∧ -99 ≤ y.toInt ∧ y.toInt ≤ 99) ∧ n = 40 ∧ r = some (.int (-5)) ∧ (sA told tx L d v n c u s z p pk pn pc pm kd kv kn kc km ke jd jv jn jc jm je kp ln P) w) ∨ ((wholeOK d v x = true ∧ -99 ≤ y.toInt ∧ y.toInt ≤ 99) ∧ n < 40 ∧ r = some (.int (nI (n + 1))) ∧ (sA told tx L d v (n + 1) (exC c n x.toInt.toNat) (exC u n y) s (min (z + 1) 8) (nx8 p) (upd pk p 0) (upd pn p (nI n)) (upd pc p x) (upd pm p y) kd kv kn kc km ke jd jv jn jc jm je kp ln P) w)) := by
  refine tg_gen (fun K0 hK0 => ?_)
  obtain ⟨old, dn, ts, tb, gd, gv, gn, gc, gm, ge, nv, td, tv, tn, tc, tm, te, qd, qv, en, hv, cz, r1, r2, r3, r4, a8, a9, a10, a11, ic, al, cs, on, ⟨rfl, htv, rfl, htc, htm, rfl⟩, hV, hE, ho, hJ, hO, rfl⟩ := hs
  have hn40 : n ≤ 40 := hE.1
  show tg_G _ _ _ _ _ _ _ [.ref 0, .int x, .int y] [] _
  unfold wA
  refine tg_go bX8_add_0 ?_
  simp only [ti_aload, ti_getf, ti_iload, List.getElem?_cons_zero, List.getElem?_cons_succ, true_and]
  refine tg_cR iT vX8_add_5 (kX6_isEntryCode hV.2.1 (fun k hk => ⟨htv k hk, (hV.2.2 k hk).2⟩)) rfl rfl rfl rfl rfl (Nat.le_of_ble_eq_true rfl) rfl (Nat.le_of_ble_eq_true rfl) (Nat.le_of_ble_eq_true rfl) ?_
  simp only [tg_v]
  refine g_if_eq (tgt := 23) dX8_add_8 rfl (fun h8 => ?_) (fun h8 => ?_)
  · have hw : wholeOK d v x = false := bZ_0 h8
    refine tg_go bX8_add_23 ?_
    simp only [ti_push, List.getElem?_cons_zero, List.getElem?_cons_succ, true_and]
    refine g_iret dX8_add_25 rfl ?_
    exact hK0 _ _ (Or.inl ⟨fun q => by rw [hw] at q; exact absurd q.1 (by decide), rfl, ⟨_, _, _, _, _, _, _, _, _, _, _, _, _, _, _, _, _, _, _, _, _, _, _, _, _, _, _, _, _, _, _, _, _, _, ⟨rfl, htv, rfl, htc, htm, rfl⟩, hV, hE, ho, hJ, hO, rfl⟩⟩)
  · have hw : wholeOK d v x = true := bZ_n h8
    refine tg_go bX8_add_11 ?_
    simp only [ti_iload, ti_push, List.getElem?_cons_zero, List.getElem?_cons_succ, true_and]
    refine g_icmp_lt (tgt := 23) dX8_add_14 rfl (fun h14 => ?_) (fun h14 => ?_)
    · rw [xlt] at h14
      have h14 : y.toInt < -99 := h14
      refine tg_go bX8_add_23 ?_
      simp only [ti_push, List.getElem?_cons_zero, List.getElem?_cons_succ, true_and]
      refine g_iret dX8_add_25 rfl ?_
      exact hK0 _ _ (Or.inl ⟨by omega, rfl, ⟨_, _, _, _, _, _, _, _, _, _, _, _, _, _, _, _, _, _, _, _, _, _, _, _, _, _, _, _, _, _, _, _, _, _, ⟨rfl, htv, rfl, htc, htm, rfl⟩, hV, hE, ho, hJ, hO, rfl⟩⟩)
    · rw [xlt] at h14
      have h14 : ¬ y.toInt < -99 := h14
      refine tg_go bX8_add_17 ?_
      simp only [ti_iload, ti_push, List.getElem?_cons_zero, List.getElem?_cons_succ, true_and]
      refine g_icmp_le (tgt := 26) dX8_add_20 rfl (fun h20 => ?_) (fun h20 => ?_)
      · rw [xle] at h20
        have h20 : y.toInt ≤ 99 := h20
        refine tg_go bX8_add_26 ?_
        simp only [ti_aload, ti_getf, ti_push, List.getElem?_cons_zero, List.getElem?_cons_succ, true_and]
        refine g_icmp_lt (tgt := 41) dX8_add_35 rfl (fun h35 => ?_) (fun h35 => ?_)
        · rw [fa_lit, lI_lt (by omega) (by omega)] at h35
          refine tg_go bX8_add_41 ?_
          simp only [ti_aload, ti_getf, ti_iload, ti_push, List.getElem?_cons_zero, List.getElem?_cons_succ, true_and]
          refine tg_cV iP vX8_add_55 (kX5_record hp hz) rfl rfl rfl rfl rfl (Nat.le_of_ble_eq_true rfl) rfl (Nat.le_of_ble_eq_true rfl) (Nat.le_of_ble_eq_true rfl) (by rintro r w1 ⟨-, rfl⟩; rfl) ?_
          rintro r w1 ⟨rfl, rfl⟩
          simp only [Option.map_some, Option.map_none, Option.toList_some, Option.toList_none, List.cons_append, List.nil_append, tg_v]
          refine tg_rw put_P ?_
          unfold wA
          refine tg_go bX8_add_58 ?_
          simp only [ti_aload, ti_getf, ti_iload, List.getElem?_cons_zero, List.getElem?_cons_succ, true_and]
          refine tg_cV iT vX8_add_71 (kX6_insert h35 (Nat.le_refl n)) rfl rfl rfl rfl rfl (Nat.le_of_ble_eq_true rfl) rfl (Nat.le_of_ble_eq_true rfl) (Nat.le_of_ble_eq_true rfl) (by rintro r w1 ⟨-, rfl⟩; rfl) ?_
          rintro r w1 ⟨rfl, rfl⟩
          simp only [Option.map_some, Option.map_none, Option.toList_some, Option.toList_none, List.cons_append, List.nil_append, tg_v]
          refine tg_rw put_T ?_
          unfold wA
          refine tg_go bX8_add_74 ?_
          simp only [ti_aload, ti_getf, ti_push, ti_putfZ, List.getElem?_cons_zero, List.getElem?_cons_succ, List.set_cons_zero, List.set_cons_succ, true_and]
          refine ⟨Or.inr trivial, ?_⟩
          refine g_iret dX8_add_86 rfl ?_
          obtain ⟨a, ha1, ha2⟩ := wholeOK_in hw
          have ea : x.toInt.toNat = a := by rw [ha1, nI_toInt (by have := pow7 hV.2.1; omega)]; omega
          refine hK0 _ _ (Or.inr (Or.inr ⟨⟨hw, by omega, by omega⟩, h35, rfl, ⟨_, _, _, _, _, _, _, _, _, _, _, _, _, _, _, _, _, _, _, _, _, _, _, _, _, _, _, _, _, _, _, _, _, _, ⟨rfl, htv, rfl, ?_, ?_, rfl⟩, hV, ?_, Or.inr rfl, hJ, fun q => absurd q (by decide), rfl⟩⟩))
          · intro i hi
            unfold exC
            by_cases q : i = n
            · subst q; rw [if_pos rfl, tIns_at, ea]; exact ha1
            · rw [if_neg q, tIns_lt (by omega)]; exact htc i (by omega)
          · intro i hi
            unfold exC
            by_cases q : i = n
            · subst q; rw [if_pos rfl, tIns_at]
            · rw [if_neg q, tIns_lt (by omega)]; exact htm i (by omega)
          · refine ⟨by omega, hE.2.1, fun i hi => ?_, fun i hi => ?_⟩
            · unfold exC
              by_cases q : i = n
              · rw [if_pos q]
                rw [← hfB_whole] at hw
                unfold hfB at hw
                rw [hfR_eq] at hw
                simp only [Bool.and_eq_true, decide_eq_true_eq, allB_true] at hw
                exact ⟨hw.2.1, hw.2.2⟩
              · rw [if_neg q]; exact hE.2.2.1 i (by omega)
            · unfold exC
              by_cases q : i = n
              · rw [if_pos q]; exact ⟨by omega, by omega⟩
              · rw [if_neg q]; exact hE.2.2.2 i (by omega)
        · rw [fa_lit, lI_lt (by omega) (by omega)] at h35
          refine tg_go bX8_add_38 ?_
          simp only [ti_push, List.getElem?_cons_zero, List.getElem?_cons_succ, true_and]
          refine g_iret dX8_add_40 rfl ?_
          exact hK0 _ _ (Or.inr (Or.inl ⟨⟨hw, by omega, by omega⟩, by omega, rfl, ⟨_, _, _, _, _, _, _, _, _, _, _, _, _, _, _, _, _, _, _, _, _, _, _, _, _, _, _, _, _, _, _, _, _, _, ⟨rfl, htv, rfl, htc, htm, rfl⟩, hV, hE, ho, hJ, hO, rfl⟩⟩))
      · rw [xle] at h20
        have h20 : ¬ y.toInt ≤ 99 := h20
        refine tg_go bX8_add_23 ?_
        simp only [ti_push, List.getElem?_cons_zero, List.getElem?_cons_succ, true_and]
        refine g_iret dX8_add_25 rfl ?_
        exact hK0 _ _ (Or.inl ⟨by omega, rfl, ⟨_, _, _, _, _, _, _, _, _, _, _, _, _, _, _, _, _, _, _, _, _, _, _, _, _, _, _, _, _, _, _, _, _, _, ⟨rfl, htv, rfl, htc, htm, rfl⟩, hV, hE, ho, hJ, hO, rfl⟩⟩)
theorem kX8_remove {x : Int32} (hs : (sA told tx L d v n c u s z p pk pn pc pm kd kv kn kc km ke jd jv jn jc jm je kp ln P) w) (hz : z ≤ 8) (hp : p < 8) : tg_Ct l mX8_remove 1000 [.ref 0, .int x] w (fun r w => (¬ (0 ≤ x.toInt ∧ x.toInt < n) ∧ r = some (.int (-2)) ∧ (sA told tx L d v n c u s z p pk pn pc pm kd kv kn kc km ke jd jv jn jc jm je kp ln P) w) ∨ ((0 ≤ x.toInt ∧ x.toInt < n) ∧ r = some (.int (nI (n - 1))) ∧ (sA told tx L d v (n - 1) (delC c x.toInt.toNat) (delC u x.toInt.toNat) s (min (z + 1) 8) (nx8 p) (upd pk p 1) (upd pn p x) (upd pc p (nI (c x.toInt.toNat))) (upd pm p (u x.toInt.toNat)) kd kv kn kc km ke jd jv jn jc jm je kp ln P) w)) := by
  refine tg_gen (fun K0 hK0 => ?_)
  obtain ⟨old, dn, ts, tb, gd, gv, gn, gc, gm, ge, nv, td, tv, tn, tc, tm, te, qd, qv, en, hv, cz, r1, r2, r3, r4, a8, a9, a10, a11, ic, al, cs, on, ⟨rfl, htv, rfl, htc, htm, rfl⟩, hV, hE, ho, hJ, hO, rfl⟩ := hs
  have hn40 : n ≤ 40 := hE.1
  show tg_G _ _ _ _ _ _ _ [.ref 0, .int x] [] _
  unfold wA
  refine tg_go bX8_remove_0 ?_
  simp only [ti_aload, ti_getf, ti_iload, List.getElem?_cons_zero, List.getElem?_cons_succ, true_and]
  refine tg_cR iT vX8_remove_5 (kX6_hasEntry hn40) rfl rfl rfl rfl rfl (Nat.le_of_ble_eq_true rfl) rfl (Nat.le_of_ble_eq_true rfl) (Nat.le_of_ble_eq_true rfl) ?_
  simp only [tg_v]
  refine g_if_ne (tgt := 14) dX8_remove_8 rfl (fun h8 => ?_) (fun h8 => ?_)
  · have hw := of_decide_eq_true (bZ_n h8)
    obtain ⟨ex, hx⟩ := x_of hw.1 hw.2
    generalize x.toInt.toNat = e at ex hx hK0
    subst ex
    refine tg_go bX8_remove_14 ?_
    simp only [ti_aload, ti_getf, ti_iald, ti_iload, ti_push, List.getElem?_cons_zero, List.getElem?_cons_succ, true_and]
    rw [nI_clamp (by omega), htc e hx, htm e hx]
    refine ⟨vp_in_nI (by omega) (by omega), vp_in_nI (by omega) (by omega), ?_⟩
    refine tg_cV iP vX8_remove_38 (kX5_record hp hz) rfl rfl rfl rfl rfl (Nat.le_of_ble_eq_true rfl) rfl (Nat.le_of_ble_eq_true rfl) (Nat.le_of_ble_eq_true rfl) (by rintro r w1 ⟨-, rfl⟩; rfl) ?_
    rintro r w1 ⟨rfl, rfl⟩
    simp only [Option.map_some, Option.map_none, Option.toList_some, Option.toList_none, List.cons_append, List.nil_append, tg_v]
    refine tg_rw put_P ?_
    unfold wA
    refine tg_go bX8_remove_41 ?_
    simp only [ti_aload, ti_getf, ti_iload, List.getElem?_cons_zero, List.getElem?_cons_succ, true_and]
    refine tg_cV iT vX8_remove_46 (kX6_takeOut hn40 hx) rfl rfl rfl rfl rfl (Nat.le_of_ble_eq_true rfl) rfl (Nat.le_of_ble_eq_true rfl) (Nat.le_of_ble_eq_true rfl) (by rintro r w1 ⟨-, rfl⟩; rfl) ?_
    rintro r w1 ⟨rfl, rfl⟩
    simp only [Option.map_some, Option.map_none, Option.toList_some, Option.toList_none, List.cons_append, List.nil_append, tg_v]
    refine tg_rw put_T ?_
    unfold wA
    refine tg_go bX8_remove_49 ?_
    simp only [ti_aload, ti_getf, ti_push, ti_putfZ, List.getElem?_cons_zero, List.getElem?_cons_succ, List.set_cons_zero, List.set_cons_succ, true_and]
    refine ⟨Or.inr trivial, ?_⟩
    refine g_iret dX8_remove_61 rfl ?_
    refine hK0 _ _ (Or.inr ⟨hw, rfl, ⟨_, _, _, _, _, _, _, _, _, _, _, _, _, _, _, _, _, _, _, _, _, _, _, _, _, _, _, _, _, _, _, _, _, _, ⟨rfl, htv, rfl, ?_, ?_, rfl⟩, hV, ?_, Or.inr rfl, hJ, fun q => absurd q (by decide), rfl⟩⟩)
    · intro i hi
      unfold delC
      by_cases q : i < e
      · rw [if_pos q, tDel_lt q]; exact htc i (by omega)
      · rw [if_neg q, tDel_ge (by omega) (by omega)]; exact htc (i + 1) (by omega)
    · intro i hi
      unfold delC
      by_cases q : i < e
      · rw [if_pos q, tDel_lt q]; exact htm i (by omega)
      · rw [if_neg q, tDel_ge (by omega) (by omega)]; exact htm (i + 1) (by omega)
    · refine ⟨by omega, hE.2.1, fun i hi => ?_, fun i hi => ?_⟩
      · unfold delC
        by_cases q : i < e
        · rw [if_pos q]; exact hE.2.2.1 i (by omega)
        · rw [if_neg q]; exact hE.2.2.1 (i + 1) (by omega)
      · unfold delC
        by_cases q : i < e
        · rw [if_pos q]; exact hE.2.2.2 i (by omega)
        · rw [if_neg q]; exact hE.2.2.2 (i + 1) (by omega)
  · have hw := of_decide_eq_false (bZ_0 h8)
    refine tg_go bX8_remove_11 ?_
    simp only [ti_push, List.getElem?_cons_zero, List.getElem?_cons_succ, true_and]
    refine g_iret dX8_remove_13 rfl ?_
    exact hK0 _ _ (Or.inl ⟨hw, rfl, ⟨_, _, _, _, _, _, _, _, _, _, _, _, _, _, _, _, _, _, _, _, _, _, _, _, _, _, _, _, _, _, _, _, _, _, ⟨rfl, htv, rfl, htc, htm, rfl⟩, hV, hE, ho, hJ, hO, rfl⟩⟩)
theorem kX8_support {x : Int32} (hs : (sA told tx L d v n c u s z p pk pn pc pm kd kv kn kc km ke jd jv jn jc jm je kp ln P) w) (hz : z ≤ 8) (hp : p < 8) : tg_Ct l mX8_support 1000 [.ref 0, .int x] w (fun r w => (¬ (1 ≤ x.toInt ∧ x.toInt ≤ 9) ∧ r = some (.int (-3)) ∧ (sA told tx L d v n c u s z p pk pn pc pm kd kv kn kc km ke jd jv jn jc jm je kp ln P) w) ∨ ((1 ≤ x.toInt ∧ x.toInt ≤ 9) ∧ x = nI s ∧ r = some (.int (-4)) ∧ (sA told tx L d v n c u s z p pk pn pc pm kd kv kn kc km ke jd jv jn jc jm je kp ln P) w) ∨ ((1 ≤ x.toInt ∧ x.toInt ≤ 9) ∧ x ≠ nI s ∧ r = some (.int (nI s)) ∧ (sA told tx L d v n c u (x.toInt.toNat) (min (z + 1) 8) (nx8 p) (upd pk p 2) (upd pn p (nI s)) (upd pc p 0) (upd pm p 0) kd kv kn kc km ke jd jv jn jc jm je kp ln P) w)) := by
  refine tg_gen (fun K0 hK0 => ?_)
  obtain ⟨old, dn, ts, tb, gd, gv, gn, gc, gm, ge, nv, td, tv, tn, tc, tm, te, qd, qv, en, hv, cz, r1, r2, r3, r4, a8, a9, a10, a11, ic, al, cs, on, ⟨rfl, htv, rfl, htc, htm, rfl⟩, hV, hE, ho, hJ, hO, rfl⟩ := hs
  show tg_G _ _ _ _ _ _ _ [.ref 0, .int x, .null] [] _
  unfold wA
  refine tg_go bX8_support_0 ?_
  simp only [ti_iload, ti_push, List.getElem?_cons_zero, List.getElem?_cons_succ, true_and]
  refine g_icmp_lt (tgt := 11) dX8_support_2 rfl (fun h2 => ?_) (fun h2 => ?_)
  · rw [xlt] at h2
    have h2 : x.toInt < 1 := h2
    refine tg_go bX8_support_11 ?_
    simp only [ti_push, List.getElem?_cons_zero, List.getElem?_cons_succ, true_and]
    refine g_iret dX8_support_13 rfl ?_
    exact hK0 _ _ (Or.inl ⟨by omega, rfl, ⟨_, _, _, _, _, _, _, _, _, _, _, _, _, _, _, _, _, _, _, _, _, _, _, _, _, _, _, _, _, _, _, _, _, _, ⟨rfl, htv, rfl, htc, htm, rfl⟩, hV, hE, ho, hJ, hO, rfl⟩⟩)
  · rw [xlt] at h2
    have h2 : ¬ x.toInt < 1 := h2
    refine tg_go bX8_support_5 ?_
    simp only [ti_iload, ti_push, List.getElem?_cons_zero, List.getElem?_cons_succ, true_and]
    refine g_icmp_le (tgt := 14) dX8_support_8 rfl (fun h8 => ?_) (fun h8 => ?_)
    · rw [xle] at h8
      have h8 : x.toInt ≤ 9 := h8
      refine tg_go bX8_support_14 ?_
      simp only [ti_aload, ti_getf, ti_iload, ti_istore, tg_s1, tg_cl, List.getElem?_cons_zero, List.getElem?_cons_succ, List.set_cons_zero, List.set_cons_succ, true_and]
      refine g_icmp_ne (tgt := 30) dX8_support_24 rfl (fun h24 => ?_) (fun h24 => ?_)
      · refine tg_go bX8_support_30 ?_
        simp only [ti_aload, ti_getf, ti_iload, ti_push, List.getElem?_cons_zero, List.getElem?_cons_succ, true_and]
        refine tg_cV iP vX8_support_38 (kX5_record hp hz) rfl rfl rfl rfl rfl (Nat.le_of_ble_eq_true rfl) rfl (Nat.le_of_ble_eq_true rfl) (Nat.le_of_ble_eq_true rfl) (by rintro r w1 ⟨-, rfl⟩; rfl) ?_
        rintro r w1 ⟨rfl, rfl⟩
        simp only [Option.map_some, Option.map_none, Option.toList_some, Option.toList_none, List.cons_append, List.nil_append, tg_v]
        refine tg_rw put_P ?_
        unfold wA
        refine tg_go bX8_support_41 ?_
        simp only [ti_aload, ti_getf, ti_iload, ti_putfI, List.getElem?_cons_zero, List.getElem?_cons_succ, List.set_cons_zero, List.set_cons_succ, true_and]
        refine g_iret dX8_support_50 rfl ?_
        obtain ⟨ex, hx⟩ := x_of (n := 10) (x := x) (by omega) (by omega)
        exact hK0 _ _ (Or.inr (Or.inr ⟨⟨by omega, by omega⟩, h24, rfl, ⟨_, _, _, _, _, _, _, _, _, _, _, _, _, _, _, _, _, _, _, _, _, _, _, _, _, _, _, _, _, _, _, _, _, _, ⟨rfl, htv, rfl, htc, htm, ex⟩, hV, ⟨hE.1, ⟨by omega, by omega⟩, hE.2.2.1, hE.2.2.2⟩, ho, hJ, hO, rfl⟩⟩))
      · refine tg_go bX8_support_27 ?_
        simp only [ti_push, List.getElem?_cons_zero, List.getElem?_cons_succ, true_and]
        refine g_iret dX8_support_29 rfl ?_
        exact hK0 _ _ (Or.inr (Or.inl ⟨⟨by omega, by omega⟩, h24, rfl, ⟨_, _, _, _, _, _, _, _, _, _, _, _, _, _, _, _, _, _, _, _, _, _, _, _, _, _, _, _, _, _, _, _, _, _, ⟨rfl, htv, rfl, htc, htm, rfl⟩, hV, hE, ho, hJ, hO, rfl⟩⟩))
    · rw [xle] at h8
      have h8 : ¬ x.toInt ≤ 9 := h8
      refine tg_go bX8_support_11 ?_
      simp only [ti_push, List.getElem?_cons_zero, List.getElem?_cons_succ, true_and]
      refine g_iret dX8_support_13 rfl ?_
      exact hK0 _ _ (Or.inl ⟨by omega, rfl, ⟨_, _, _, _, _, _, _, _, _, _, _, _, _, _, _, _, _, _, _, _, _, _, _, _, _, _, _, _, _, _, _, _, _, _, ⟨rfl, htv, rfl, htc, htm, rfl⟩, hV, hE, ho, hJ, hO, rfl⟩⟩)
end MAIN2
