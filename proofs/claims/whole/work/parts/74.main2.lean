/-! THE CLASS: CubeClosures: read, undo, keep, back, entry -/
theorem rdR_f {tx : Nat → Int32} {L : Nat} : ∀ (m q : Nat) (R : Bool × Nat × Nat × Nat × (Nat → Int32) × Nat), R.2.1 ≤ L → (R.1 = true → R.2.2.1 ≤ L ∧ rvOK R.2.2.2.1 R.2.2.2.2.1 ∧ R.2.2.2.2.2 ≤ 40) → (rdR tx L m q R).1.2.1 ≤ L
  | 0, q, R, h1, h2 => h1
  | m + 1, q, R, h1, h2 => by
    rw [rdR]
    split
    · rename_i hc
      split
      · obtain ⟨k1, k2, k3⟩ := h2 hc.1
        have hf := tkF_le (tx := tx) k1
        have hb := tkB_in (tx := tx) hf
        have hin := clR_in (tx := tx) (L := L) (f := tkF tx L R.2.2.1) (b := tkB tx L (tkF tx L R.2.2.1)) hb.1 hb.2.1 k2 k3
        exact rdR_f m (q + 1) _ (Nat.le_trans hin.1 hin.2.1) (fun h => ⟨hin.2.1, (hin.2.2.2 h).1, hin.2.2.1⟩)
      · exact h1
    · exact h1
theorem txR_f {tx vals : Nat → Int32} {L d n : Nat} (hv : rvOK d vals) (hn : n ≤ 40) : (txR tx L d n vals).1.2.1 ≤ L := by
  have hf := tkF_le (tx := tx) (Nat.zero_le L)
  have hb := tkB_in (tx := tx) hf
  have hin := clR_in (tx := tx) (L := L) (f := tkF tx L 0) (b := tkB tx L (tkF tx L 0)) hb.1 hb.2.1 hv hn
  exact rdR_f 24 1 _ (Nat.le_trans hin.1 hin.2.1) (fun h => ⟨hin.2.1, (hin.2.2.2 h).1, hin.2.2.1⟩)
def insC {α : Type} (c : Nat → α) (e : Nat) (a : α) : Nat → α := fun i => if i < e then c i else if i = e then a else c (i - 1)
theorem kpF_0 : kpF 0 = some 31 := rfl
theorem kpF_1 : kpF 1 = some 35 := rfl
theorem cl_0 : (0 : Int32).toNatClampNeg = 0 := by decide
theorem cl_1 : (1 : Int32).toNatClampNeg = 1 := by decide
theorem vin_0 : vp_in 0 2 := vp_in_nI (n := 0) (by omega) (by omega)
theorem vin_1 : vp_in 1 2 := vp_in_nI (n := 1) (by omega) (by omega)
theorem in_01 {x : Int32} (h0 : ¬ x.toInt < 0) (h1 : x.toInt < 2) : x = 0 ∨ x = 1 := by
  obtain ⟨e1, e2⟩ := x_of (n := 2) (x := x) (by omega) (by omega)
  generalize x.toInt.toNat = q at e1 e2
  subst e1
  rcases (show q = 0 ∨ q = 1 by omega) with rfl | rfl
  · exact Or.inl rfl
  · exact Or.inr rfl
section MAIN3
variable {l : tg_Ln} {K : Option Value → List va_E → Prop} {told : Int64} {tx u pk pn pc pm kv kc km jv jc jm kp ln : Nat → Int32} {L d n s z p : Nat} {v c : Nat → Nat} {kd kn ke jd jn je : Int32} {P : Nat → Nat → Int64} {w : List va_E}
section RD
variable {old dn len ts tb gd gn ge td tn te qd qv cz pz px : Int32} {gv gc gm nv tv tc tm en a8 a10 ic al cs on : Nat → Int32} {hv a9 a11 : Nat → Int64} {r1 r2 r3 r4 : Nat}
theorem kX8_rd_2 (hK : K (some (.int dn)) (wA old told dn tx 0 ts tb gd gv gn gc gm ge nv td tv tn tc tm te qd qv en hv cz r1 r2 r3 r4 a8 a9 a10 a11 ic al cs on pz px pk pn pc pm kd kv kn kc km ke jd jv jn jc jm je kp ln P)) : tg_G l mX8_read 1000 K 0 0 47 [.ref 0, .int (nI 2)] [] (wA old told dn tx len ts tb gd gv gn gc gm ge nv td tv tn tc tm te qd qv en hv cz r1 r2 r3 r4 a8 a9 a10 a11 ic al cs on pz px pk pn pc pm kd kv kn kc km ke jd jv jn jc jm je kp ln P) := by
  unfold wA at hK ⊢
  refine tg_go bX8_read_47 ?_
  simp only [ti_iload, ti_push, List.getElem?_cons_zero, List.getElem?_cons_succ, true_and]
  refine g_icmp_ge (tgt := 65) dX8_read_49 rfl (fun h49 => ?_) (fun h49 => ?_)
  · refine tg_go bX8_read_65 ?_
    simp only [ti_aload, ti_getf, ti_push, ti_putfI, List.getElem?_cons_zero, List.getElem?_cons_succ, List.set_cons_zero, List.set_cons_succ, true_and]
    refine g_iret dX8_read_80 rfl ?_
    exact hK
  · exact absurd (by decide) h49
theorem kX8_rd_s {k : Nat} (hk : k < 2) (hK : tg_G l mX8_read 1000 K 0 0 47 [.ref 0, .int (nI (k + 1))] [] (wA old told dn tx len ts tb gd gv gn gc gm ge nv td tv tn tc tm te qd qv en hv cz r1 r2 r3 r4 a8 a9 a10 a11 ic al cs on pz px pk pn pc pm kd kv kn kc km ke jd jv jn jc jm je (upd kp k 0) ln P)) : tg_G l mX8_read 1000 K 0 0 47 [.ref 0, .int (nI k)] [] (wA old told dn tx len ts tb gd gv gn gc gm ge nv td tv tn tc tm te qd qv en hv cz r1 r2 r3 r4 a8 a9 a10 a11 ic al cs on pz px pk pn pc pm kd kv kn kc km ke jd jv jn jc jm je kp ln P) := by
  unfold wA at hK ⊢
  refine tg_go bX8_read_47 ?_
  simp only [ti_iload, ti_push, List.getElem?_cons_zero, List.getElem?_cons_succ, true_and]
  refine g_icmp_ge (tgt := 65) dX8_read_49 rfl (fun h49 => ?_) (fun h49 => ?_)
  · rw [fa_lit, lI_le (by omega) (by omega)] at h49; omega
  · refine tg_go bX8_read_52 ?_
    simp only [ti_aload, ti_getf, ti_iinc, ti_iload, ti_push, ti_zast, tg_s1, tg_cl, List.getElem?_cons_zero, List.getElem?_cons_succ, List.set_cons_zero, List.set_cons_succ, true_and]
    rw [nI_1, nI_clamp (by omega)]
    refine ⟨vp_in_nI (by omega) (by omega), rfl, ?_⟩
    refine g_goto (tgt := 47) dX8_read_62 rfl ?_
    exact hK
end RD
theorem kX8_read {vals row : Nat → Int32} (hs : (sA told tx L d v n c u s z p pk pn pc pm kd kv kn kc km ke jd jv jn jc jm je kp ln P) w) (hL : L ≤ 200) (hvals : ∀ k, k < d → vals k = nI (v k)) (hrow : tbR row d 0 n s c u) : tg_Ct l mX8_read 1000 [.ref 0] w (fun r w => ((txR tx L d n vals).1.1 = false ∧ r = some (.int (-4)) ∧ (sA told tx L d v n c u s z p pk pn pc pm kd kv kn kc km ke jd jv jn jc jm je kp ln P) w) ∨ ((txR tx L d n vals).1.1 = true ∧ r = some (.int (nI (txR tx L d n vals).2)) ∧ ∃ d' v' n' c' u' s', (txE tx L d n vals (nI d) vals row).1 = nI d' ∧ (∀ k, k < d' → (txE tx L d n vals (nI d) vals row).2.1 k = nI (v' k)) ∧ tbR (txE tx L d n vals (nI d) vals row).2.2 d' 0 n' s' c' u' ∧ (sA told tx 0 d' v' n' c' u' s' 0 p pk pn pc pm kd kv kn kc km ke jd jv jn jc jm je (upd (upd kp 0 0) 1 0) ln P) w)) := by
  refine tg_gen (fun K0 hK0 => ?_)
  obtain ⟨old, dn, ts, tb, gd, gv, gn, gc, gm, ge, nv, td, tv, tn, tc, tm, te, qd, qv, en, hv, cz, r1, r2, r3, r4, a8, a9, a10, a11, ic, al, cs, on, ⟨rfl, htv, rfl, htc, htm, rfl⟩, hV, hE, ho, hJ, hO, rfl⟩ := hs
  have hm : mat (nI d) tv (nI n) tc tm (nI s) (nI d) vals row d v n c u s := ⟨⟨rfl, htv, rfl, htc, htm, rfl⟩, rfl, hvals, hrow, hV, hE⟩
  have hf := txR_f (tx := tx) (L := L) (d := d) (n := n) (vals := vals) ⟨hV.2.1, fun j hj => ⟨v j, (hV.2.2 j hj).1, (hV.2.2 j hj).2, hvals j hj⟩⟩ hE.1
  show tg_G _ _ _ _ _ _ _ [.ref 0, .null] [] _
  unfold wA
  refine tg_go bX8_read_0 ?_
  simp only [ti_aload, ti_getf, List.getElem?_cons_zero, List.getElem?_cons_succ, true_and]
  refine tg_cV iKT vX8_read_8 (kX1_draftUpon hL hm) rfl rfl rfl rfl rfl (Nat.le_of_ble_eq_true rfl) rfl (Nat.le_of_ble_eq_true rfl) (Nat.le_of_ble_eq_true rfl) (by rintro r w1 ⟨-, ts, tb, dn, td, tv, tn, tc, tm, te, nv, rfl, -⟩; rfl) ?_
  rintro r w1 ⟨rfl, ts, tb, dn, gd, gv, gn, gc, gm, ge, nv, rfl, hdu⟩
  simp only [Option.map_some, Option.toList_some, List.cons_append, List.nil_append, tg_v]
  refine tg_rw put_KT ?_
  unfold wA
  rcases hok : (txR tx L d n vals).1.1 with _ | _
  · simp only [Bool.false_eq_true, if_false]
    refine tg_go bX8_read_11 ?_
    simp only [ti_push, List.getElem?_cons_zero, List.getElem?_cons_succ, true_and]
    refine g_icmp_eq (tgt := 18) dX8_read_12 rfl (fun h12 => ?_) (fun h12 => ?_)
    · exact absurd h12 (nI_ne1 (by omega))
    · refine tg_go bX8_read_15 ?_
      simp only [ti_push, List.getElem?_cons_zero, List.getElem?_cons_succ, true_and]
      refine g_iret dX8_read_17 rfl ?_
      exact hK0 _ _ (Or.inl ⟨hok, rfl, ⟨_, _, _, _, _, _, _, _, _, _, _, _, _, _, _, _, _, _, _, _, _, _, _, _, _, _, _, _, _, _, _, _, _, _, ⟨rfl, htv, rfl, htc, htm, rfl⟩, hV, hE, ho, hJ, hO, rfl⟩⟩)
  · simp only [if_true]
    obtain ⟨rfl, d', v', n', c', u', s', ⟨rfl, hgv, rfl, hgc, hgm, rfl⟩, e1, e2, e3, hV', hE'⟩ := hdu hok
    refine tg_go bX8_read_11 ?_
    simp only [ti_push, List.getElem?_cons_zero, List.getElem?_cons_succ, true_and]
    refine g_icmp_eq (tgt := 18) dX8_read_12 rfl (fun h12 => ?_) (fun h12 => ?_)
    · refine tg_go bX8_read_18 ?_
      simp only [ti_aload, ti_getf, List.getElem?_cons_zero, List.getElem?_cons_succ, true_and]
      refine tg_cV [10, 11, 12, 13, 4, 5, 6, 7] vX8_read_29 (kX6_copyFrom) rfl rfl rfl rfl rfl (Nat.le_of_ble_eq_true rfl) rfl (Nat.le_of_ble_eq_true rfl) (Nat.le_of_ble_eq_true rfl) (by rintro r w1 ⟨-, rfl⟩; rfl) ?_
      rintro r w1 ⟨rfl, rfl⟩
      simp only [Option.map_some, Option.map_none, Option.toList_some, Option.toList_none, List.cons_append, List.nil_append, tg_v]
      refine tg_rw put_TG ?_
      unfold wA
      refine tg_go bX8_read_32 ?_
      simp only [ti_aload, ti_getf, ti_istore, ti_push, ti_putfI, ti_putfZ, tg_s1, tg_cl, List.getElem?_cons_zero, List.getElem?_cons_succ, List.set_cons_zero, List.set_cons_succ, true_and]
      refine ⟨Or.inr trivial, ?_⟩
      refine kX8_rd_s (k := 0) (by omega) (kX8_rd_s (k := 1) (by omega) (kX8_rd_2 ?_))
      exact hK0 _ _ (Or.inr ⟨hok, rfl, d', v', n', c', u', s', e1, e2, e3, ⟨_, _, _, _, _, _, _, _, _, _, _, _, _, _, _, _, _, _, _, _, _, _, _, _, _, _, _, _, _, _, _, _, _, _, ⟨rfl, hgv, rfl, hgc, hgm, rfl⟩, hV', hE', Or.inr rfl, hJ, fun q => absurd q (by decide), rfl⟩⟩)
    · exact absurd rfl h12
theorem kX8_undo_0 (hs : (sA told tx L d v n c u s 0 p pk pn pc pm kd kv kn kc km ke jd jv jn jc jm je kp ln P) w) : tg_Ct l mX8_undo 1000 [.ref 0] w (fun r w => r = some (.int (-4)) ∧ (sA told tx L d v n c u s 0 p pk pn pc pm kd kv kn kc km ke jd jv jn jc jm je kp ln P) w) := by
  refine tg_gen (fun K0 hK0 => ?_)
  obtain ⟨old, dn, ts, tb, gd, gv, gn, gc, gm, ge, nv, td, tv, tn, tc, tm, te, qd, qv, en, hv, cz, r1, r2, r3, r4, a8, a9, a10, a11, ic, al, cs, on, ⟨rfl, htv, rfl, htc, htm, rfl⟩, hV, hE, ho, hJ, hO, rfl⟩ := hs
  show tg_G _ _ _ _ _ _ _ [.ref 0] [] _
  unfold wA
  refine tg_go bX8_undo_0 ?_
  simp only [ti_aload, ti_getf, List.getElem?_cons_zero, List.getElem?_cons_succ, true_and]
  refine g_if_ne (tgt := 13) dX8_undo_7 rfl (fun h7 => ?_) (fun h7 => ?_)
  · exact absurd rfl h7
  · refine tg_go bX8_undo_10 ?_
    simp only [ti_push, List.getElem?_cons_zero, List.getElem?_cons_succ, true_and]
    refine g_iret dX8_undo_12 rfl ?_
    exact hK0 _ _ ⟨rfl, ⟨_, _, _, _, _, _, _, _, _, _, _, _, _, _, _, _, _, _, _, _, _, _, _, _, _, _, _, _, _, _, _, _, _, _, ⟨rfl, htv, rfl, htc, htm, rfl⟩, hV, hE, ho, hJ, hO, rfl⟩⟩
theorem kX8_undo_add {q : Nat} (hs : (sA told tx L d v n c u s z p pk pn pc pm kd kv kn kc km ke jd jv jn jc jm je kp ln P) w) (hp : p < 8) (hz : 0 < z) (hz8 : z ≤ 8) (hk : pk (pv8 p) = 0) (hq : pn (pv8 p) = nI q) (hqn : q < n) : tg_Ct l mX8_undo 1000 [.ref 0] w (fun r w => r = some (.int (nI (z - 1))) ∧ (sA told tx L d v (n - 1) (delC c q) (delC u q) s (z - 1) (pv8 p) pk pn pc pm kd kv kn kc km ke jd jv jn jc jm je kp ln P) w) := by
  refine tg_gen (fun K0 hK0 => ?_)
  obtain ⟨old, dn, ts, tb, gd, gv, gn, gc, gm, ge, nv, td, tv, tn, tc, tm, te, qd, qv, en, hv, cz, r1, r2, r3, r4, a8, a9, a10, a11, ic, al, cs, on, ⟨rfl, htv, rfl, htc, htm, rfl⟩, hV, hE, ho, hJ, hO, rfl⟩ := hs
  have hn40 : n ≤ 40 := hE.1
  show tg_G _ _ _ _ _ _ _ [.ref 0] [] _
  unfold wA
  refine tg_go bX8_undo_0 ?_
  simp only [ti_aload, ti_getf, List.getElem?_cons_zero, List.getElem?_cons_succ, true_and]
  refine g_if_ne (tgt := 13) dX8_undo_7 rfl (fun h7 => ?_) (fun h7 => ?_)
  · refine tg_go bX8_undo_13 ?_
    simp only [ti_aload, ti_getf, List.getElem?_cons_zero, List.getElem?_cons_succ, true_and]
    refine tg_cV iPT vX8_undo_21 (kX5_undo_add hp hz hz8 hk hq hqn hn40) rfl rfl rfl rfl rfl (Nat.le_of_ble_eq_true rfl) rfl (Nat.le_of_ble_eq_true rfl) (Nat.le_of_ble_eq_true rfl) (by rintro r w1 ⟨-, rfl⟩; rfl) ?_
    rintro r w1 ⟨rfl, rfl⟩
    simp only [Option.map_some, Option.map_none, Option.toList_some, Option.toList_none, List.cons_append, List.nil_append, tg_v]
    refine tg_rw put_PT ?_
    unfold wA
    refine tg_go bX8_undo_24 ?_
    simp only [ti_aload, ti_getf, ti_push, ti_putfZ, List.getElem?_cons_zero, List.getElem?_cons_succ, List.set_cons_zero, List.set_cons_succ, true_and]
    refine ⟨Or.inr trivial, ?_⟩
    refine g_iret dX8_undo_36 rfl ?_
    refine hK0 _ _ ⟨rfl, ⟨_, _, _, _, _, _, _, _, _, _, _, _, _, _, _, _, _, _, _, _, _, _, _, _, _, _, _, _, _, _, _, _, _, _, ⟨rfl, htv, rfl, ?_, ?_, rfl⟩, hV, ?_, Or.inr rfl, hJ, fun q => absurd q (by decide), rfl⟩⟩
    · intro i hi
      unfold delC
      by_cases h : i < q
      · rw [if_pos h, tDel_lt h]; exact htc i (by omega)
      · rw [if_neg h, tDel_ge (by omega) (by omega)]; exact htc (i + 1) (by omega)
    · intro i hi
      unfold delC
      by_cases h : i < q
      · rw [if_pos h, tDel_lt h]; exact htm i (by omega)
      · rw [if_neg h, tDel_ge (by omega) (by omega)]; exact htm (i + 1) (by omega)
    · refine ⟨by omega, hE.2.1, fun i hi => ?_, fun i hi => ?_⟩
      · unfold delC
        by_cases h : i < q
        · rw [if_pos h]; exact hE.2.2.1 i (by omega)
        · rw [if_neg h]; exact hE.2.2.1 (i + 1) (by omega)
      · unfold delC
        by_cases h : i < q
        · rw [if_pos h]; exact hE.2.2.2 i (by omega)
        · rw [if_neg h]; exact hE.2.2.2 (i + 1) (by omega)
  · rw [fa_lit, lI_eq (by omega) (by omega)] at h7; omega
theorem kX8_undo_rem {q a : Nat} {y : Int32} (hs : (sA told tx L d v n c u s z p pk pn pc pm kd kv kn kc km ke jd jv jn jc jm je kp ln P) w) (hp : p < 8) (hz : 0 < z) (hz8 : z ≤ 8) (hk : pk (pv8 p) = 1) (hq : pn (pv8 p) = nI q) (hqn : q ≤ n) (hn : n < 40) (ha : pc (pv8 p) = nI a) (hy : pm (pv8 p) = y) (hav : a < 7 ^ d ∧ ∀ k, k < d → 1 ≤ figN d a k ∧ figN d a k ≤ v k) (hyv : -99 ≤ y.toInt ∧ y.toInt ≤ 99) : tg_Ct l mX8_undo 1000 [.ref 0] w (fun r w => r = some (.int (nI (z - 1))) ∧ (sA told tx L d v (n + 1) (insC c q a) (insC u q y) s (z - 1) (pv8 p) pk pn pc pm kd kv kn kc km ke jd jv jn jc jm je kp ln P) w) := by
  refine tg_gen (fun K0 hK0 => ?_)
  obtain ⟨old, dn, ts, tb, gd, gv, gn, gc, gm, ge, nv, td, tv, tn, tc, tm, te, qd, qv, en, hv, cz, r1, r2, r3, r4, a8, a9, a10, a11, ic, al, cs, on, ⟨rfl, htv, rfl, htc, htm, rfl⟩, hV, hE, ho, hJ, hO, rfl⟩ := hs
  show tg_G _ _ _ _ _ _ _ [.ref 0] [] _
  unfold wA
  refine tg_go bX8_undo_0 ?_
  simp only [ti_aload, ti_getf, List.getElem?_cons_zero, List.getElem?_cons_succ, true_and]
  refine g_if_ne (tgt := 13) dX8_undo_7 rfl (fun h7 => ?_) (fun h7 => ?_)
  · refine tg_go bX8_undo_13 ?_
    simp only [ti_aload, ti_getf, List.getElem?_cons_zero, List.getElem?_cons_succ, true_and]
    refine tg_cV iPT vX8_undo_21 (kX5_undo_rem hp hz hz8 hk hq hqn hn) rfl rfl rfl rfl rfl (Nat.le_of_ble_eq_true rfl) rfl (Nat.le_of_ble_eq_true rfl) (Nat.le_of_ble_eq_true rfl) (by rintro r w1 ⟨-, rfl⟩; rfl) ?_
    rintro r w1 ⟨rfl, rfl⟩
    simp only [Option.map_some, Option.map_none, Option.toList_some, Option.toList_none, List.cons_append, List.nil_append, tg_v]
    refine tg_rw put_PT ?_
    unfold wA
    refine tg_go bX8_undo_24 ?_
    simp only [ti_aload, ti_getf, ti_push, ti_putfZ, List.getElem?_cons_zero, List.getElem?_cons_succ, List.set_cons_zero, List.set_cons_succ, true_and]
    refine ⟨Or.inr trivial, ?_⟩
    refine g_iret dX8_undo_36 rfl ?_
    rw [ha, hy]
    refine hK0 _ _ ⟨rfl, ⟨_, _, _, _, _, _, _, _, _, _, _, _, _, _, _, _, _, _, _, _, _, _, _, _, _, _, _, _, _, _, _, _, _, _, ⟨rfl, htv, rfl, ?_, ?_, rfl⟩, hV, ?_, Or.inr rfl, hJ, fun q => absurd q (by decide), rfl⟩⟩
    · intro i hi
      unfold insC
      by_cases h : i < q
      · rw [if_pos h, tIns_lt h]; exact htc i (by omega)
      · by_cases h2 : i = q
        · subst h2; rw [if_neg h, if_pos rfl, tIns_at]
        · rw [if_neg h, if_neg h2, tIns_gt (by omega) (by omega)]; exact htc (i - 1) (by omega)
    · intro i hi
      unfold insC
      by_cases h : i < q
      · rw [if_pos h, tIns_lt h]; exact htm i (by omega)
      · by_cases h2 : i = q
        · subst h2; rw [if_neg h, if_pos rfl, tIns_at]
        · rw [if_neg h, if_neg h2, tIns_gt (by omega) (by omega)]; exact htm (i - 1) (by omega)
    · refine ⟨by omega, hE.2.1, fun i hi => ?_, fun i hi => ?_⟩
      · unfold insC
        by_cases h : i < q
        · rw [if_pos h]; exact hE.2.2.1 i (by omega)
        · by_cases h2 : i = q
          · rw [if_neg h, if_pos h2]; exact hav
          · rw [if_neg h, if_neg h2]; exact hE.2.2.1 (i - 1) (by omega)
      · unfold insC
        by_cases h : i < q
        · rw [if_pos h]; exact hE.2.2.2 i (by omega)
        · by_cases h2 : i = q
          · rw [if_neg h, if_pos h2]; exact hyv
          · rw [if_neg h, if_neg h2]; exact hE.2.2.2 (i - 1) (by omega)
  · rw [fa_lit, lI_eq (by omega) (by omega)] at h7; omega
theorem kX8_undo_sup {q : Nat} (hs : (sA told tx L d v n c u s z p pk pn pc pm kd kv kn kc km ke jd jv jn jc jm je kp ln P) w) (hp : p < 8) (hz : 0 < z) (hz8 : z ≤ 8) (hk : pk (pv8 p) = 2) (hq : pn (pv8 p) = nI q) (hqn : 1 ≤ q ∧ q ≤ 9) : tg_Ct l mX8_undo 1000 [.ref 0] w (fun r w => r = some (.int (nI (z - 1))) ∧ (sA told tx L d v n c u q (z - 1) (pv8 p) pk pn pc pm kd kv kn kc km ke jd jv jn jc jm je kp ln P) w) := by
  refine tg_gen (fun K0 hK0 => ?_)
  obtain ⟨old, dn, ts, tb, gd, gv, gn, gc, gm, ge, nv, td, tv, tn, tc, tm, te, qd, qv, en, hv, cz, r1, r2, r3, r4, a8, a9, a10, a11, ic, al, cs, on, ⟨rfl, htv, rfl, htc, htm, rfl⟩, hV, hE, ho, hJ, hO, rfl⟩ := hs
  show tg_G _ _ _ _ _ _ _ [.ref 0] [] _
  unfold wA
  refine tg_go bX8_undo_0 ?_
  simp only [ti_aload, ti_getf, List.getElem?_cons_zero, List.getElem?_cons_succ, true_and]
  refine g_if_ne (tgt := 13) dX8_undo_7 rfl (fun h7 => ?_) (fun h7 => ?_)
  · refine tg_go bX8_undo_13 ?_
    simp only [ti_aload, ti_getf, List.getElem?_cons_zero, List.getElem?_cons_succ, true_and]
    refine tg_cV iPT vX8_undo_21 (kX5_undo_sup hp hz hz8 hk) rfl rfl rfl rfl rfl (Nat.le_of_ble_eq_true rfl) rfl (Nat.le_of_ble_eq_true rfl) (Nat.le_of_ble_eq_true rfl) (by rintro r w1 ⟨-, rfl⟩; rfl) ?_
    rintro r w1 ⟨rfl, rfl⟩
    simp only [Option.map_some, Option.map_none, Option.toList_some, Option.toList_none, List.cons_append, List.nil_append, tg_v]
    refine tg_rw put_PT ?_
    unfold wA
    refine tg_go bX8_undo_24 ?_
    simp only [ti_aload, ti_getf, ti_push, ti_putfZ, List.getElem?_cons_zero, List.getElem?_cons_succ, List.set_cons_zero, List.set_cons_succ, true_and]
    refine ⟨Or.inr trivial, ?_⟩
    refine g_iret dX8_undo_36 rfl ?_
    exact hK0 _ _ ⟨rfl, ⟨_, _, _, _, _, _, _, _, _, _, _, _, _, _, _, _, _, _, _, _, _, _, _, _, _, _, _, _, _, _, _, _, _, _, ⟨rfl, htv, rfl, htc, htm, hq⟩, hV, ⟨hE.1, hqn, hE.2.2.1, hE.2.2.2⟩, Or.inr rfl, hJ, fun q => absurd q (by decide), rfl⟩⟩
  · rw [fa_lit, lI_eq (by omega) (by omega)] at h7; omega
theorem kX8_keep {x : Int32} (hs : (sA told tx L d v n c u s z p pk pn pc pm kd kv kn kc km ke jd jv jn jc jm je kp ln P) w) : tg_Ct l mX8_keep 1000 [.ref 0, .int x] w (fun r w => (¬ (0 ≤ x.toInt ∧ x.toInt ≤ 1) ∧ r = some (.int (-2)) ∧ (sA told tx L d v n c u s z p pk pn pc pm kd kv kn kc km ke jd jv jn jc jm je kp ln P) w) ∨ (x = 0 ∧ r = some (.int (nI n)) ∧ ∃ td tv tn tc tm te, tC td tv tn tc tm te d v n c u s ∧ (sA told tx L d v n c u s z p pk pn pc pm td tv tn tc tm te jd jv jn jc jm je (upd kp 0 1) ln P) w) ∨ (x = 1 ∧ r = some (.int (nI n)) ∧ ∃ td tv tn tc tm te, tC td tv tn tc tm te d v n c u s ∧ (sA told tx L d v n c u s z p pk pn pc pm kd kv kn kc km ke td tv tn tc tm te (upd kp 1 1) ln P) w)) := by
  refine tg_gen (fun K0 hK0 => ?_)
  obtain ⟨old, dn, ts, tb, gd, gv, gn, gc, gm, ge, nv, td, tv, tn, tc, tm, te, qd, qv, en, hv, cz, r1, r2, r3, r4, a8, a9, a10, a11, ic, al, cs, on, ⟨rfl, htv, rfl, htc, htm, rfl⟩, hV, hE, ho, hJ, hO, rfl⟩ := hs
  by_cases hr : 0 ≤ x.toInt ∧ x.toInt ≤ 1
  · rcases in_01 (x := x) (by omega) (by omega) with rfl | rfl
    · skip
      show tg_G _ _ _ _ _ _ _ [.ref 0, .int 0] [] _
      unfold wA
      refine tg_go bX8_keep_0 ?_
      simp only [ti_iload, List.getElem?_cons_zero, List.getElem?_cons_succ, true_and]
      refine g_if_lt (tgt := 9) dX8_keep_1 rfl (fun h1 => ?_) (fun h1 => ?_)
      · exact absurd h1 (by decide)
      · refine tg_go bX8_keep_4 ?_
        simp only [ti_iload, ti_push, List.getElem?_cons_zero, List.getElem?_cons_succ, true_and]
        refine g_icmp_lt (tgt := 12) dX8_keep_6 rfl (fun h6 => ?_) (fun h6 => ?_)
        · refine tg_go bX8_keep_12 ?_
          simp only [ti_aald, ti_aload, ti_getf, ti_iload, List.getElem?_cons_zero, List.getElem?_cons_succ, true_and]
          rw [cl_0, kpF_0]
          refine ⟨Or.inl trivial, vin_0, ?_⟩
          refine tg_cV [31, 32, 33, 34, 10, 11, 12, 13] vX8_keep_22 (kX6_copyFrom) rfl rfl rfl rfl rfl (Nat.le_of_ble_eq_true rfl) rfl (Nat.le_of_ble_eq_true rfl) (Nat.le_of_ble_eq_true rfl) (by rintro r w1 ⟨-, rfl⟩; rfl) ?_
          rintro r w1 ⟨rfl, rfl⟩
          simp only [Option.map_some, Option.map_none, Option.toList_some, Option.toList_none, List.cons_append, List.nil_append, tg_v]
          refine tg_rw put_KT0 ?_
          unfold wA
          refine tg_go bX8_keep_25 ?_
          simp only [ti_aload, ti_getf, ti_iload, ti_push, ti_zast, List.getElem?_cons_zero, List.getElem?_cons_succ, List.set_cons_zero, List.set_cons_succ, true_and]
          rw [cl_0]
          refine ⟨vin_0, rfl, ?_⟩
          refine g_iret dX8_keep_39 rfl ?_
          exact hK0 _ _ (Or.inr (Or.inl ⟨rfl, rfl, _, _, _, _, _, _, ⟨rfl, htv, rfl, htc, htm, rfl⟩, ⟨_, _, _, _, _, _, _, _, _, _, _, _, _, _, _, _, _, _, _, _, _, _, _, _, _, _, _, _, _, _, _, _, _, _, ⟨rfl, htv, rfl, htc, htm, rfl⟩, hV, hE, ho, hJ, hO, rfl⟩⟩))
        · exact absurd (by decide) h6
    · skip
      show tg_G _ _ _ _ _ _ _ [.ref 0, .int 1] [] _
      unfold wA
      refine tg_go bX8_keep_0 ?_
      simp only [ti_iload, List.getElem?_cons_zero, List.getElem?_cons_succ, true_and]
      refine g_if_lt (tgt := 9) dX8_keep_1 rfl (fun h1 => ?_) (fun h1 => ?_)
      · exact absurd h1 (by decide)
      · refine tg_go bX8_keep_4 ?_
        simp only [ti_iload, ti_push, List.getElem?_cons_zero, List.getElem?_cons_succ, true_and]
        refine g_icmp_lt (tgt := 12) dX8_keep_6 rfl (fun h6 => ?_) (fun h6 => ?_)
        · refine tg_go bX8_keep_12 ?_
          simp only [ti_aald, ti_aload, ti_getf, ti_iload, List.getElem?_cons_zero, List.getElem?_cons_succ, true_and]
          rw [cl_1, kpF_1]
          refine ⟨Or.inl trivial, vin_1, ?_⟩
          refine tg_cV [35, 36, 37, 38, 10, 11, 12, 13] vX8_keep_22 (kX6_copyFrom) rfl rfl rfl rfl rfl (Nat.le_of_ble_eq_true rfl) rfl (Nat.le_of_ble_eq_true rfl) (Nat.le_of_ble_eq_true rfl) (by rintro r w1 ⟨-, rfl⟩; rfl) ?_
          rintro r w1 ⟨rfl, rfl⟩
          simp only [Option.map_some, Option.map_none, Option.toList_some, Option.toList_none, List.cons_append, List.nil_append, tg_v]
          refine tg_rw put_KT1 ?_
          unfold wA
          refine tg_go bX8_keep_25 ?_
          simp only [ti_aload, ti_getf, ti_iload, ti_push, ti_zast, List.getElem?_cons_zero, List.getElem?_cons_succ, List.set_cons_zero, List.set_cons_succ, true_and]
          rw [cl_1]
          refine ⟨vin_1, rfl, ?_⟩
          refine g_iret dX8_keep_39 rfl ?_
          exact hK0 _ _ (Or.inr (Or.inr ⟨rfl, rfl, _, _, _, _, _, _, ⟨rfl, htv, rfl, htc, htm, rfl⟩, ⟨_, _, _, _, _, _, _, _, _, _, _, _, _, _, _, _, _, _, _, _, _, _, _, _, _, _, _, _, _, _, _, _, _, _, ⟨rfl, htv, rfl, htc, htm, rfl⟩, hV, hE, ho, hJ, hO, rfl⟩⟩))
        · exact absurd (by decide) h6
  · skip
    show tg_G _ _ _ _ _ _ _ [.ref 0, .int x] [] _
    unfold wA
    refine tg_go bX8_keep_0 ?_
    simp only [ti_iload, List.getElem?_cons_zero, List.getElem?_cons_succ, true_and]
    refine g_if_lt (tgt := 9) dX8_keep_1 rfl (fun h1 => ?_) (fun h1 => ?_)
    · refine tg_go bX8_keep_9 ?_
      simp only [ti_push, List.getElem?_cons_zero, List.getElem?_cons_succ, true_and]
      refine g_iret dX8_keep_11 rfl ?_
      exact hK0 _ _ (Or.inl ⟨hr, rfl, ⟨_, _, _, _, _, _, _, _, _, _, _, _, _, _, _, _, _, _, _, _, _, _, _, _, _, _, _, _, _, _, _, _, _, _, ⟨rfl, htv, rfl, htc, htm, rfl⟩, hV, hE, ho, hJ, hO, rfl⟩⟩)
    · rw [xlt] at h1
      have h1 : ¬ x.toInt < 0 := h1
      refine tg_go bX8_keep_4 ?_
      simp only [ti_iload, ti_push, List.getElem?_cons_zero, List.getElem?_cons_succ, true_and]
      refine g_icmp_lt (tgt := 12) dX8_keep_6 rfl (fun h6 => ?_) (fun h6 => ?_)
      · rw [xlt] at h6
        have h6 : x.toInt < 2 := h6
        omega
      · refine tg_go bX8_keep_9 ?_
        simp only [ti_push, List.getElem?_cons_zero, List.getElem?_cons_succ, true_and]
        refine g_iret dX8_keep_11 rfl ?_
        exact hK0 _ _ (Or.inl ⟨hr, rfl, ⟨_, _, _, _, _, _, _, _, _, _, _, _, _, _, _, _, _, _, _, _, _, _, _, _, _, _, _, _, _, _, _, _, _, _, ⟨rfl, htv, rfl, htc, htm, rfl⟩, hV, hE, ho, hJ, hO, rfl⟩⟩)
/-- what is kept at a place -/
def kpT (kp : Nat → Int32) (k : Nat) (td : Int32) (tv : Nat → Int32) (tn : Int32) (tc tm : Nat → Int32) (te : Int32) (d : Nat) (v : Nat → Nat) (n : Nat) (c : Nat → Nat) (u : Nat → Int32) (s : Nat) : Prop := kp k = 0 ∨ (kp k = 1 ∧ tC td tv tn tc tm te d v n c u s ∧ eOK d v n c u s)
theorem kX8_back {x : Int32} {n0 s0 n1 s1 : Nat} {c0 c1 : Nat → Nat} {u0 u1 : Nat → Int32} (hs : (sA told tx L d v n c u s z p pk pn pc pm kd kv kn kc km ke jd jv jn jc jm je kp ln P) w) (h0 : kpT kp 0 kd kv kn kc km ke d v n0 c0 u0 s0) (hq1 : kpT kp 1 jd jv jn jc jm je d v n1 c1 u1 s1) : tg_Ct l mX8_back 1000 [.ref 0, .int x] w (fun r w => (¬ (0 ≤ x.toInt ∧ x.toInt ≤ 1) ∧ r = some (.int (-2)) ∧ (sA told tx L d v n c u s z p pk pn pc pm kd kv kn kc km ke jd jv jn jc jm je kp ln P) w) ∨ ((0 ≤ x.toInt ∧ x.toInt ≤ 1) ∧ kp x.toInt.toNat = 0 ∧ r = some (.int (-4)) ∧ (sA told tx L d v n c u s z p pk pn pc pm kd kv kn kc km ke jd jv jn jc jm je kp ln P) w) ∨ (x = 0 ∧ kp 0 = 1 ∧ r = some (.int (nI n0)) ∧ (sA told tx L d v n0 c0 u0 s0 0 p pk pn pc pm kd kv kn kc km ke jd jv jn jc jm je kp ln P) w) ∨ (x = 1 ∧ kp 1 = 1 ∧ r = some (.int (nI n1)) ∧ (sA told tx L d v n1 c1 u1 s1 0 p pk pn pc pm kd kv kn kc km ke jd jv jn jc jm je kp ln P) w)) := by
  refine tg_gen (fun K0 hK0 => ?_)
  obtain ⟨old, dn, ts, tb, gd, gv, gn, gc, gm, ge, nv, td, tv, tn, tc, tm, te, qd, qv, en, hv, cz, r1, r2, r3, r4, a8, a9, a10, a11, ic, al, cs, on, ⟨rfl, htv, rfl, htc, htm, rfl⟩, hV, hE, ho, hJ, hO, rfl⟩ := hs
  by_cases hr : 0 ≤ x.toInt ∧ x.toInt ≤ 1
  · rcases in_01 (x := x) (by omega) (by omega) with rfl | rfl
    · skip
      show tg_G _ _ _ _ _ _ _ [.ref 0, .int 0] [] _
      unfold wA
      refine tg_go bX8_back_0 ?_
      simp only [ti_iload, List.getElem?_cons_zero, List.getElem?_cons_succ, true_and]
      refine g_if_lt (tgt := 9) dX8_back_1 rfl (fun h1 => ?_) (fun h1 => ?_)
      · exact absurd h1 (by decide)
      · refine tg_go bX8_back_4 ?_
        simp only [ti_iload, ti_push, List.getElem?_cons_zero, List.getElem?_cons_succ, true_and]
        refine g_icmp_lt (tgt := 12) dX8_back_6 rfl (fun h6 => ?_) (fun h6 => ?_)
        · refine tg_go bX8_back_12 ?_
          simp only [ti_aload, ti_getf, ti_iload, ti_zald, List.getElem?_cons_zero, List.getElem?_cons_succ, true_and]
          rw [cl_0]
          refine ⟨vin_0, ?_⟩
          refine g_if_ne (tgt := 24) dX8_back_18 rfl (fun h18 => ?_) (fun h18 => ?_)
          · obtain ⟨hkk, ⟨rfl, hkv, rfl, hkc, hkm, rfl⟩, hkE⟩ := h0.resolve_left h18
            refine tg_go bX8_back_24 ?_
            simp only [ti_aald, ti_aload, ti_getf, ti_iload, List.getElem?_cons_zero, List.getElem?_cons_succ, true_and]
            rw [cl_0, kpF_0]
            refine ⟨Or.inl trivial, vin_0, ?_⟩
            refine tg_cV [10, 11, 12, 13, 31, 32, 33, 34] vX8_back_34 (kX6_copyFrom) rfl rfl rfl rfl rfl (Nat.le_of_ble_eq_true rfl) rfl (Nat.le_of_ble_eq_true rfl) (Nat.le_of_ble_eq_true rfl) (by rintro r w1 ⟨-, rfl⟩; rfl) ?_
            rintro r w1 ⟨rfl, rfl⟩
            simp only [Option.map_some, Option.map_none, Option.toList_some, Option.toList_none, List.cons_append, List.nil_append, tg_v]
            refine tg_rw put_TK0 ?_
            unfold wA
            refine tg_go bX8_back_37 ?_
            simp only [ti_aload, ti_getf, ti_push, ti_putfI, ti_putfZ, List.getElem?_cons_zero, List.getElem?_cons_succ, List.set_cons_zero, List.set_cons_succ, true_and]
            refine ⟨Or.inr trivial, ?_⟩
            refine g_iret dX8_back_57 rfl ?_
            exact hK0 _ _ (Or.inr (Or.inr (Or.inl ⟨rfl, hkk, rfl, ⟨_, _, _, _, _, _, _, _, _, _, _, _, _, _, _, _, _, _, _, _, _, _, _, _, _, _, _, _, _, _, _, _, _, _, ⟨rfl, hkv, rfl, hkc, hkm, rfl⟩, hV, hkE, Or.inr rfl, hJ, fun q => absurd q (by decide), rfl⟩⟩)))
          · refine tg_go bX8_back_21 ?_
            simp only [ti_push, List.getElem?_cons_zero, List.getElem?_cons_succ, true_and]
            refine g_iret dX8_back_23 rfl ?_
            exact hK0 _ _ (Or.inr (Or.inl ⟨hr, h18, rfl, ⟨_, _, _, _, _, _, _, _, _, _, _, _, _, _, _, _, _, _, _, _, _, _, _, _, _, _, _, _, _, _, _, _, _, _, ⟨rfl, htv, rfl, htc, htm, rfl⟩, hV, hE, ho, hJ, hO, rfl⟩⟩))
        · exact absurd (by decide) h6
    · skip
      show tg_G _ _ _ _ _ _ _ [.ref 0, .int 1] [] _
      unfold wA
      refine tg_go bX8_back_0 ?_
      simp only [ti_iload, List.getElem?_cons_zero, List.getElem?_cons_succ, true_and]
      refine g_if_lt (tgt := 9) dX8_back_1 rfl (fun h1 => ?_) (fun h1 => ?_)
      · exact absurd h1 (by decide)
      · refine tg_go bX8_back_4 ?_
        simp only [ti_iload, ti_push, List.getElem?_cons_zero, List.getElem?_cons_succ, true_and]
        refine g_icmp_lt (tgt := 12) dX8_back_6 rfl (fun h6 => ?_) (fun h6 => ?_)
        · refine tg_go bX8_back_12 ?_
          simp only [ti_aload, ti_getf, ti_iload, ti_zald, List.getElem?_cons_zero, List.getElem?_cons_succ, true_and]
          rw [cl_1]
          refine ⟨vin_1, ?_⟩
          refine g_if_ne (tgt := 24) dX8_back_18 rfl (fun h18 => ?_) (fun h18 => ?_)
          · obtain ⟨hkk, ⟨rfl, hkv, rfl, hkc, hkm, rfl⟩, hkE⟩ := hq1.resolve_left h18
            refine tg_go bX8_back_24 ?_
            simp only [ti_aald, ti_aload, ti_getf, ti_iload, List.getElem?_cons_zero, List.getElem?_cons_succ, true_and]
            rw [cl_1, kpF_1]
            refine ⟨Or.inl trivial, vin_1, ?_⟩
            refine tg_cV [10, 11, 12, 13, 35, 36, 37, 38] vX8_back_34 (kX6_copyFrom) rfl rfl rfl rfl rfl (Nat.le_of_ble_eq_true rfl) rfl (Nat.le_of_ble_eq_true rfl) (Nat.le_of_ble_eq_true rfl) (by rintro r w1 ⟨-, rfl⟩; rfl) ?_
            rintro r w1 ⟨rfl, rfl⟩
            simp only [Option.map_some, Option.map_none, Option.toList_some, Option.toList_none, List.cons_append, List.nil_append, tg_v]
            refine tg_rw put_TK1 ?_
            unfold wA
            refine tg_go bX8_back_37 ?_
            simp only [ti_aload, ti_getf, ti_push, ti_putfI, ti_putfZ, List.getElem?_cons_zero, List.getElem?_cons_succ, List.set_cons_zero, List.set_cons_succ, true_and]
            refine ⟨Or.inr trivial, ?_⟩
            refine g_iret dX8_back_57 rfl ?_
            exact hK0 _ _ (Or.inr (Or.inr (Or.inr ⟨rfl, hkk, rfl, ⟨_, _, _, _, _, _, _, _, _, _, _, _, _, _, _, _, _, _, _, _, _, _, _, _, _, _, _, _, _, _, _, _, _, _, ⟨rfl, hkv, rfl, hkc, hkm, rfl⟩, hV, hkE, Or.inr rfl, hJ, fun q => absurd q (by decide), rfl⟩⟩)))
          · refine tg_go bX8_back_21 ?_
            simp only [ti_push, List.getElem?_cons_zero, List.getElem?_cons_succ, true_and]
            refine g_iret dX8_back_23 rfl ?_
            exact hK0 _ _ (Or.inr (Or.inl ⟨hr, h18, rfl, ⟨_, _, _, _, _, _, _, _, _, _, _, _, _, _, _, _, _, _, _, _, _, _, _, _, _, _, _, _, _, _, _, _, _, _, ⟨rfl, htv, rfl, htc, htm, rfl⟩, hV, hE, ho, hJ, hO, rfl⟩⟩))
        · exact absurd (by decide) h6
  · skip
    show tg_G _ _ _ _ _ _ _ [.ref 0, .int x] [] _
    unfold wA
    refine tg_go bX8_back_0 ?_
    simp only [ti_iload, List.getElem?_cons_zero, List.getElem?_cons_succ, true_and]
    refine g_if_lt (tgt := 9) dX8_back_1 rfl (fun h1 => ?_) (fun h1 => ?_)
    · refine tg_go bX8_back_9 ?_
      simp only [ti_push, List.getElem?_cons_zero, List.getElem?_cons_succ, true_and]
      refine g_iret dX8_back_11 rfl ?_
      exact hK0 _ _ (Or.inl ⟨hr, rfl, ⟨_, _, _, _, _, _, _, _, _, _, _, _, _, _, _, _, _, _, _, _, _, _, _, _, _, _, _, _, _, _, _, _, _, _, ⟨rfl, htv, rfl, htc, htm, rfl⟩, hV, hE, ho, hJ, hO, rfl⟩⟩)
    · rw [xlt] at h1
      have h1 : ¬ x.toInt < 0 := h1
      refine tg_go bX8_back_4 ?_
      simp only [ti_iload, ti_push, List.getElem?_cons_zero, List.getElem?_cons_succ, true_and]
      refine g_icmp_lt (tgt := 12) dX8_back_6 rfl (fun h6 => ?_) (fun h6 => ?_)
      · rw [xlt] at h6
        have h6 : x.toInt < 2 := h6
        omega
      · refine tg_go bX8_back_9 ?_
        simp only [ti_push, List.getElem?_cons_zero, List.getElem?_cons_succ, true_and]
        refine g_iret dX8_back_11 rfl ?_
        exact hK0 _ _ (Or.inl ⟨hr, rfl, ⟨_, _, _, _, _, _, _, _, _, _, _, _, _, _, _, _, _, _, _, _, _, _, _, _, _, _, _, _, _, _, _, _, _, _, ⟨rfl, htv, rfl, htc, htm, rfl⟩, hV, hE, ho, hJ, hO, rfl⟩⟩)
theorem kX8_entry {x y : Int32} (hs : (sA told tx L d v n c u s z p pk pn pc pm kd kv kn kc km ke jd jv jn jc jm je kp ln P) w) : tg_Ct l mX8_entry 1000 [.ref 0, .int x, .int y] w (fun r w => ((¬ (0 ≤ x.toInt ∧ x.toInt < n) ∧ r = some (.int (-2))) ∨ ((0 ≤ x.toInt ∧ x.toInt < n) ∧ y = 0 ∧ r = some (.int (nI (c x.toInt.toNat)))) ∨ ((0 ≤ x.toInt ∧ x.toInt < n) ∧ y = 1 ∧ r = some (.int (u x.toInt.toNat + 1000))) ∨ ((0 ≤ x.toInt ∧ x.toInt < n) ∧ ¬ y = 0 ∧ ¬ y = 1 ∧ r = some (.int (-3)))) ∧ (sA told tx L d v n c u s z p pk pn pc pm kd kv kn kc km ke jd jv jn jc jm je kp ln P) w) := by
  refine tg_gen (fun K0 hK0 => ?_)
  obtain ⟨old, dn, ts, tb, gd, gv, gn, gc, gm, ge, nv, td, tv, tn, tc, tm, te, qd, qv, en, hv, cz, r1, r2, r3, r4, a8, a9, a10, a11, ic, al, cs, on, ⟨rfl, htv, rfl, htc, htm, rfl⟩, hV, hE, ho, hJ, hO, rfl⟩ := hs
  have hn40 : n ≤ 40 := hE.1
  show tg_G _ _ _ _ _ _ _ [.ref 0, .int x, .int y] [] _
  unfold wA
  refine tg_go bX8_entry_0 ?_
  simp only [ti_aload, ti_getf, ti_iload, List.getElem?_cons_zero, List.getElem?_cons_succ, true_and]
  refine tg_cR iT vX8_entry_5 (kX6_hasEntry hn40) rfl rfl rfl rfl rfl (Nat.le_of_ble_eq_true rfl) rfl (Nat.le_of_ble_eq_true rfl) (Nat.le_of_ble_eq_true rfl) ?_
  simp only [tg_v]
  refine g_if_ne (tgt := 14) dX8_entry_8 rfl (fun h8 => ?_) (fun h8 => ?_)
  · have hw := of_decide_eq_true (bZ_n h8)
    obtain ⟨ex, hx⟩ := x_of hw.1 hw.2
    generalize x.toInt.toNat = e at ex hx hK0
    subst ex
    refine tg_go bX8_entry_14 ?_
    simp only [ti_iload, List.getElem?_cons_zero, List.getElem?_cons_succ, true_and]
    rcases (show y = 0 ∨ y = 1 ∨ (¬ y = 0 ∧ ¬ y = 1) by by_cases h0 : y = 0; exact Or.inl h0; by_cases h1 : y = 1; exact Or.inr (Or.inl h1); exact Or.inr (Or.inr ⟨h0, h1⟩)) with rfl | rfl | ⟨n0, n1⟩
    · refine g_lookup (off := 25) (tgt := 40) dX8_entry_15 rfl rfl rfl ?_
      refine tg_go bX8_entry_40 ?_
      simp only [ti_aload, ti_getf, ti_iald, ti_iload, List.getElem?_cons_zero, List.getElem?_cons_succ, true_and]
      rw [nI_clamp (by omega), htc e hx]
      refine ⟨vp_in_nI (by omega) (by omega), ?_⟩
      refine g_iret dX8_entry_49 rfl ?_
      exact hK0 _ _ ⟨Or.inr (Or.inl ⟨hw, rfl, rfl⟩), ⟨_, _, _, _, _, _, _, _, _, _, _, _, _, _, _, _, _, _, _, _, _, _, _, _, _, _, _, _, _, _, _, _, _, _, ⟨rfl, htv, rfl, htc, htm, rfl⟩, hV, hE, ho, hJ, hO, rfl⟩⟩
    · refine g_lookup (off := 35) (tgt := 50) dX8_entry_15 rfl rfl rfl ?_
      refine tg_go bX8_entry_50 ?_
      simp only [ti_aload, ti_getf, ti_iadd, ti_iald, ti_iload, ti_push, List.getElem?_cons_zero, List.getElem?_cons_succ, true_and]
      rw [nI_clamp (by omega), htm e hx]
      refine ⟨vp_in_nI (by omega) (by omega), ?_⟩
      refine g_iret dX8_entry_63 rfl ?_
      exact hK0 _ _ ⟨Or.inr (Or.inr (Or.inl ⟨hw, rfl, rfl⟩)), ⟨_, _, _, _, _, _, _, _, _, _, _, _, _, _, _, _, _, _, _, _, _, _, _, _, _, _, _, _, _, _, _, _, _, _, ⟨rfl, htv, rfl, htc, htm, rfl⟩, hV, hE, ho, hJ, hO, rfl⟩⟩
    · refine g_lookup (off := 49) (tgt := 64) dX8_entry_15 rfl (by have a0 : ¬ y.toInt = 0 := fun q => n0 (Int32.toInt_inj.mp q); have a1 : ¬ y.toInt = 1 := fun q => n1 (Int32.toInt_inj.mp q); simp [Op.lookupswitch.offset, a0, a1, Ne.symm, eq_comm]) rfl ?_
      refine tg_go bX8_entry_64 ?_
      simp only [ti_push, List.getElem?_cons_zero, List.getElem?_cons_succ, true_and]
      refine g_iret dX8_entry_66 rfl ?_
      exact hK0 _ _ ⟨Or.inr (Or.inr (Or.inr ⟨hw, n0, n1, rfl⟩)), ⟨_, _, _, _, _, _, _, _, _, _, _, _, _, _, _, _, _, _, _, _, _, _, _, _, _, _, _, _, _, _, _, _, _, _, ⟨rfl, htv, rfl, htc, htm, rfl⟩, hV, hE, ho, hJ, hO, rfl⟩⟩
  · have hw := of_decide_eq_false (bZ_0 h8)
    refine tg_go bX8_entry_11 ?_
    simp only [ti_push, List.getElem?_cons_zero, List.getElem?_cons_succ, true_and]
    refine g_iret dX8_entry_13 rfl ?_
    exact hK0 _ _ ⟨Or.inl ⟨hw, rfl⟩, ⟨_, _, _, _, _, _, _, _, _, _, _, _, _, _, _, _, _, _, _, _, _, _, _, _, _, _, _, _, _, _, _, _, _, _, ⟨rfl, htv, rfl, htc, htm, rfl⟩, hV, hE, ho, hJ, hO, rfl⟩⟩
end MAIN3
