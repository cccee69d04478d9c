/-! THE CLASS: Cells: spreadBy, the loops -/
section SPREAD2
variable {l : tg_Ln} {K : Option Value → List va_E → Prop} {tv tc tm en ic al cs on : Nat → Int32} {hv : Nat → Int64} {td tn te qd qv cz : Int32} {d n s : Nat} {v c : Nat → Nat} {cd : Nat → Int32} {cv : Nat → Int64}
theorem neK_640 {d n k : Nat} {c : Nat → Nat} (hn : n ≤ 40) (hk : k ≤ 4) : gMany (neK d n c k) (7 ^ k) ≤ 640 := by
  have hcnt := neK_cnt (d := d) (n := n) (c := c) k
  have hpk : 2 ^ k ≤ 16 := pow2 hk
  have hb1 : n * 2 ^ k ≤ 40 * 16 := Nat.mul_le_mul hn hpk
  omega
theorem kX0_sp_2f {k a : Nat} (hh : hvOK hv d n c) (hd : d ≤ 4) (hk : k < d) (hn : n ≤ 40) (htv : tv k = nI (v k)) (hv6 : v k ≤ 6) (hcv6 : ∀ i, i < n → dg (d - 1 - k) (c i) ≤ v k) (ha : a < 7 ^ k) (hne : neK d n c k a = true) (hls : lsO (neK d n c k) (7 ^ k) (fun a => mkN (pcv d c k a) n) cd cv) (hK : ∀ oc ov x4 x5 x6, lsO (neK d n c (k + 1)) (7 * a + 7) (fun a => mkN (pcv d c (k + 1) a) n) oc ov → tg_G l mX0_spreadBy 1000 K 0 0 108 [.ref 0, .int (nI k), .int (nI (gMany (neK d n c (k + 1)) (7 * a + 7))), .int (nI (gMany (neK d n c k) a)), x4, x5, x6] [] (wCf (nI d) tv tn tc tm te qd qv en hv cz cd cv oc ov ic al cs on)) : ∀ (m f : Nat) (oc : Nat → Int32) (ov : Nat → Int64) (x5 x6 : Value), v k + 1 - f < m → f ≤ v k + 1 → lsO (neK d n c (k + 1)) (7 * a + f) (fun a => mkN (pcv d c (k + 1) a) n) oc ov → tg_G l mX0_spreadBy 1000 K 0 0 15 [.ref 0, .int (nI k), .int (nI (gMany (neK d n c (k + 1)) (7 * a + f))), .int (nI (gMany (neK d n c k) a)), .int (nI f), x5, x6] [] (wCf (nI d) tv tn tc tm te qd qv en hv cz cd cv oc ov ic al cs on) := by
  have hb1 := neK_640 (d := d) (c := c) hn (show k ≤ 4 by omega)
  have hb2 := neK_640 (d := d) (c := c) hn (show k + 1 ≤ 4 by omega)
  have hjlt := gMany_lt hne ha
  have h7k : 7 * 7 ^ k = 7 ^ (k + 1) := by rw [Nat.pow_succ']
  have hpk7 : 7 ^ k ≤ 7 ^ 4 := Nat.pow_le_pow_right (by decide) (by omega)
  obtain ⟨hcda, hcva⟩ := hls a ha hne
  have hcva : cv (gMany (neK d n c k) a) = lN (mkN (pcv d c k a) n) := hcva
  intro m
  induction m with
  | zero => intro f oc ov x5 x6 h; omega
  | succ m ih =>
    intro f oc ov x5 x6 hm hf hlo
    have hsp := gMany_le2 (p := neK d n c (k + 1)) (show 7 * a + f ≤ 7 ^ (k + 1) by omega)
    have tail := fun (hfv : f ≤ v k) => kX0_sp_3f (l := l) (K := K) (td := nI d) (tv := tv) (tn := tn) (tc := tc) (tm := tm) (te := te) (qd := qd) (qv := qv) (en := en) (hv := hv) (cz := cz) (cd := cd) (cv := cv) (oc := oc) (ov := ov) (ic := ic) (al := al) (cs := cs) (on := on) (d := d) (n := n) (c := c) (k := k) (a := a) (f := f) hn (by omega) (by omega) (by omega) (by omega) (fun z => by
      have := gMany_lt (A := 7 ^ (k + 1)) z (by omega)
      omega) hcda (fun z => by
      have hl1 : lsO (neK d n c (k + 1)) (7 * a + f + 1) (fun a => mkN (pcv d c (k + 1) a) n) oc ov := lsO_skip (m := 1) hlo (fun b h1 h2 => by
        have e : b = 7 * a + f := by omega
        rw [e]
        exact z)
      have h2 := ih (f + 1) oc ov (.long (lN (mkN (pcv d c (k + 1) (7 * a + f)) n))) .null (by omega) (by omega) hl1
      rw [show 7 * a + (f + 1) = 7 * a + f + 1 by omega, gMany, z, if_neg (by decide), Nat.add_zero] at h2
      exact h2) (fun z => by
      have h2 := ih (f + 1) _ _ (.long (lN (mkN (pcv d c (k + 1) (7 * a + f)) n))) .null (by omega) (by omega) (lsO_put hlo)
      rw [show 7 * a + (f + 1) = 7 * a + f + 1 by omega, gMany, if_pos z] at h2
      exact h2)
    unfold wCf wC at ih hK tail ⊢
    refine tg_go bX0_spreadBy_15 ?_
    simp only [ti_aload, ti_getf, ti_iald, ti_iload, List.getElem?_cons_zero, List.getElem?_cons_succ, true_and]
    rw [nI_clamp (by omega), htv]
    refine ⟨vp_in_nI (by omega) (by omega), ?_⟩
    refine g_icmp_gt (tgt := 108) dX0_spreadBy_26 rfl (fun h26 => ?_) (fun h26 => ?_)
    · rw [lI_lt (by omega) (by omega)] at h26
      obtain rfl : f = v k + 1 := by omega
      have hsk : ∀ b, 7 * a + (v k + 1) ≤ b → b < 7 * a + (v k + 1) + (6 - v k) → neK d n c (k + 1) b = false := fun b h1 h2 => by
        rw [show b = 7 * a + (b - 7 * a) by omega]
        exact neK_v hk (by omega) hcv6 (by omega)
      have e1 := gMany_skip (p := neK d n c (k + 1)) (6 - v k) hsk
      have e2 := lsO_skip hlo hsk
      rw [show 7 * a + (v k + 1) + (6 - v k) = 7 * a + 7 by omega] at e1 e2
      rw [← e1]
      exact hK _ _ _ _ _ e2
    · rw [lI_lt (by omega) (by omega)] at h26
      refine tg_go bX0_spreadBy_29 ?_
      simp only [ti_iload, List.getElem?_cons_zero, List.getElem?_cons_succ, true_and]
      refine g_if_ne (tgt := 43) dX0_spreadBy_31 rfl (fun h31 => ?_) (fun h31 => ?_)
      · rw [fa_lit, lI_eq (by omega) (by omega)] at h31
        refine tg_go bX0_spreadBy_43 ?_
        simp only [ti_aload, ti_getf, ti_iload, ti_lald, List.getElem?_cons_zero, List.getElem?_cons_succ, true_and]
        rw [nI_clamp (by omega), hcva]
        refine ⟨vp_in_nI (by omega) (by omega), ?_⟩
        refine tg_cW vX0_spreadBy_53 (kX0_havingFigure (k := k) (f := f) hh hd hk (by omega) (by omega)) rfl rfl rfl rfl (Nat.le_of_ble_eq_true rfl) (Nat.le_of_ble_eq_true rfl) (Nat.le_of_ble_eq_true rfl) rfl ?_
        unfold wC
        refine tg_go bX0_spreadBy_56 ?_
        simp only [ti_land, List.getElem?_cons_zero, List.getElem?_cons_succ, true_and]
        rw [mk_and, mk_congr (q := pcv d c (k + 1) (7 * a + f)) (fun i hi => by
          rw [pcv_s hk a f i (by omega), decide_eq_false h31, Bool.false_or, Bool.and_comm]
          congr 1
          exact decide_eq_decide.mpr eq_comm)]
        exact tail (by omega) _ _
      · rw [fa_lit, lI_eq (by omega) (by omega)] at h31
        refine tg_go bX0_spreadBy_34 ?_
        simp only [ti_aload, ti_getf, ti_iload, ti_lald, List.getElem?_cons_zero, List.getElem?_cons_succ, true_and]
        rw [nI_clamp (by omega), hcva, mk_congr (q := pcv d c (k + 1) (7 * a + f)) (fun i hi => by rw [pcv_s hk a f i (by omega), decide_eq_true h31]; simp)]
        refine ⟨vp_in_nI (by omega) (by omega), ?_⟩
        refine g_goto (tgt := 57) dX0_spreadBy_40 rfl ?_
        exact tail (by omega) _ _
theorem kX0_sp_1f {k : Nat} (hh : hvOK hv d n c) (hd : d ≤ 4) (hk : k < d) (hn : n ≤ 40) (htv : tv k = nI (v k)) (hv6 : v k ≤ 6) (hcv6 : ∀ i, i < n → dg (d - 1 - k) (c i) ≤ v k) (hls : lsO (neK d n c k) (7 ^ k) (fun a => mkN (pcv d c k a) n) cd cv) (hK : ∀ oc ov x3 x4 x5 x6, lsO (neK d n c (k + 1)) (7 ^ (k + 1)) (fun a => mkN (pcv d c (k + 1) a) n) oc ov → tg_G l mX0_spreadBy 1000 K 0 0 114 [.ref 0, .int (nI k), .int (nI (gMany (neK d n c (k + 1)) (7 ^ (k + 1)))), x3, x4, x5, x6] [] (wCf (nI d) tv tn tc tm te qd qv en hv (nI (gMany (neK d n c k) (7 ^ k))) cd cv oc ov ic al cs on)) : ∀ (m a : Nat) (oc : Nat → Int32) (ov : Nat → Int64) (x4 x5 x6 : Value), 7 ^ k - a < m → a ≤ 7 ^ k → lsO (neK d n c (k + 1)) (7 * a) (fun a => mkN (pcv d c (k + 1) a) n) oc ov → tg_G l mX0_spreadBy 1000 K 0 0 4 [.ref 0, .int (nI k), .int (nI (gMany (neK d n c (k + 1)) (7 * a))), .int (nI (gMany (neK d n c k) a)), x4, x5, x6] [] (wCf (nI d) tv tn tc tm te qd qv en hv (nI (gMany (neK d n c k) (7 ^ k))) cd cv oc ov ic al cs on) := by
  have hb1 := neK_640 (d := d) (c := c) hn (show k ≤ 4 by omega)
  have h7k : 7 * 7 ^ k = 7 ^ (k + 1) := by rw [Nat.pow_succ']
  intro m
  induction m with
  | zero => intro a oc ov x4 x5 x6 h; omega
  | succ m ih =>
    intro a oc ov x4 x5 x6 hm ha hlo
    by_cases hend : a = 7 ^ k
    · subst hend
      rw [h7k] at hlo ⊢
      unfold wCf wC at hK ⊢
      refine tg_go bX0_spreadBy_4 ?_
      simp only [ti_aload, ti_getf, ti_iload, List.getElem?_cons_zero, List.getElem?_cons_succ, true_and]
      refine g_icmp_ge (tgt := 114) dX0_spreadBy_9 rfl (fun h9 => ?_) (fun h9 => ?_)
      · exact hK _ _ _ _ _ _ hlo
      · exact absurd (Int32.le_refl _) h9
    · cases hne : neK d n c k a with
      | false =>
        have hsk : ∀ b, 7 * a ≤ b → b < 7 * a + 7 → neK d n c (k + 1) b = false := fun b h1 h2 => by
          rw [show b = 7 * a + (b - 7 * a) by omega]
          exact neK_f hk (by omega) hne
        have e1 := gMany_skip (p := neK d n c (k + 1)) 7 hsk
        have h2 := ih (a + 1) oc ov x4 x5 x6 (by omega) (by omega) (lsO_skip hlo hsk)
        rw [show 7 * (a + 1) = 7 * a + 7 by omega, e1, gMany, hne, if_neg (by decide), Nat.add_zero] at h2
        exact h2
      | true =>
        have hlt := gMany_lt hne (show a < 7 ^ k by omega)
        have main := kX0_sp_2f (l := l) (K := K) (tn := tn) (tc := tc) (tm := tm) (te := te) (qd := qd) (qv := qv) (en := en) (cz := nI (gMany (neK d n c k) (7 ^ k))) (ic := ic) (al := al) (cs := cs) (on := on) hh hd hk hn htv hv6 hcv6 (show a < 7 ^ k by omega) hne hls (fun oc' ov' y4 y5 y6 hl' => by
          have h2 := ih (a + 1) oc' ov' y4 y5 y6 (by omega) (by omega) hl'
          rw [show 7 * (a + 1) = 7 * a + 7 by omega, show gMany (neK d n c k) (a + 1) = gMany (neK d n c k) a + 1 from by rw [gMany, if_pos hne]] at h2
          unfold wCf wC at h2 ⊢
          refine tg_go bX0_spreadBy_108 ?_
          simp only [ti_iinc, tg_s1, tg_cl, List.getElem?_cons_zero, List.getElem?_cons_succ, List.set_cons_zero, List.set_cons_succ]
          rw [nI_1]
          exact g_goto (tgt := 4) dX0_spreadBy_111 rfl h2) (v k + 2) 0 oc ov x5 x6 (by omega) (by omega) hlo
        rw [Nat.add_zero] at main
        unfold wCf wC at main ⊢
        refine tg_go bX0_spreadBy_4 ?_
        simp only [ti_aload, ti_getf, ti_iload, List.getElem?_cons_zero, List.getElem?_cons_succ, true_and]
        refine g_icmp_ge (tgt := 114) dX0_spreadBy_9 rfl (fun h9 => ?_) (fun h9 => ?_)
        · rw [lI_le (by omega) (by omega)] at h9; omega
        · refine tg_go bX0_spreadBy_12 ?_
          simp only [ti_istore, ti_push, tg_s1, tg_cl, List.getElem?_cons_zero, List.getElem?_cons_succ, List.set_cons_zero, List.set_cons_succ, true_and]
          exact main
theorem kX0_sp_2t {k a : Nat} (hh : hvOK hv d n c) (hd : d ≤ 4) (hk : k < d) (hn : n ≤ 40) (htv : tv k = nI (v k)) (hv6 : v k ≤ 6) (hcv6 : ∀ i, i < n → dg (d - 1 - k) (c i) ≤ v k) (ha : a < 7 ^ k) (hne : neK d n c k a = true) (hls : lsO (neK d n c k) (7 ^ k) (fun a => mkN (pcv d c k a) n) cd cv) (hK : ∀ oc ov x4 x5 x6, lsO (neK d n c (k + 1)) (7 * a + 7) (fun a => mkN (pcv d c (k + 1) a) n) oc ov → tg_G l mX0_spreadBy 1000 K 0 0 108 [.ref 0, .int (nI k), .int (nI (gMany (neK d n c (k + 1)) (7 * a + 7))), .int (nI (gMany (neK d n c k) a)), x4, x5, x6] [] (wCt (nI d) tv tn tc tm te qd qv en hv cz cd cv oc ov ic al cs on)) : ∀ (m f : Nat) (oc : Nat → Int32) (ov : Nat → Int64) (x5 x6 : Value), v k + 1 - f < m → f ≤ v k + 1 → lsO (neK d n c (k + 1)) (7 * a + f) (fun a => mkN (pcv d c (k + 1) a) n) oc ov → tg_G l mX0_spreadBy 1000 K 0 0 15 [.ref 0, .int (nI k), .int (nI (gMany (neK d n c (k + 1)) (7 * a + f))), .int (nI (gMany (neK d n c k) a)), .int (nI f), x5, x6] [] (wCt (nI d) tv tn tc tm te qd qv en hv cz cd cv oc ov ic al cs on) := by
  have hb1 := neK_640 (d := d) (c := c) hn (show k ≤ 4 by omega)
  have hb2 := neK_640 (d := d) (c := c) hn (show k + 1 ≤ 4 by omega)
  have hjlt := gMany_lt hne ha
  have h7k : 7 * 7 ^ k = 7 ^ (k + 1) := by rw [Nat.pow_succ']
  have hpk7 : 7 ^ k ≤ 7 ^ 4 := Nat.pow_le_pow_right (by decide) (by omega)
  obtain ⟨hcda, hcva⟩ := hls a ha hne
  have hcva : cv (gMany (neK d n c k) a) = lN (mkN (pcv d c k a) n) := hcva
  intro m
  induction m with
  | zero => intro f oc ov x5 x6 h; omega
  | succ m ih =>
    intro f oc ov x5 x6 hm hf hlo
    have hsp := gMany_le2 (p := neK d n c (k + 1)) (show 7 * a + f ≤ 7 ^ (k + 1) by omega)
    have tail := fun (hfv : f ≤ v k) => kX0_sp_3t (l := l) (K := K) (td := nI d) (tv := tv) (tn := tn) (tc := tc) (tm := tm) (te := te) (qd := qd) (qv := qv) (en := en) (hv := hv) (cz := cz) (cd := cd) (cv := cv) (oc := oc) (ov := ov) (ic := ic) (al := al) (cs := cs) (on := on) (d := d) (n := n) (c := c) (k := k) (a := a) (f := f) hn (by omega) (by omega) (by omega) (by omega) (fun z => by
      have := gMany_lt (A := 7 ^ (k + 1)) z (by omega)
      omega) hcda (fun z => by
      have hl1 : lsO (neK d n c (k + 1)) (7 * a + f + 1) (fun a => mkN (pcv d c (k + 1) a) n) oc ov := lsO_skip (m := 1) hlo (fun b h1 h2 => by
        have e : b = 7 * a + f := by omega
        rw [e]
        exact z)
      have h2 := ih (f + 1) oc ov (.long (lN (mkN (pcv d c (k + 1) (7 * a + f)) n))) .null (by omega) (by omega) hl1
      rw [show 7 * a + (f + 1) = 7 * a + f + 1 by omega, gMany, z, if_neg (by decide), Nat.add_zero] at h2
      exact h2) (fun z => by
      have h2 := ih (f + 1) _ _ (.long (lN (mkN (pcv d c (k + 1) (7 * a + f)) n))) .null (by omega) (by omega) (lsO_put hlo)
      rw [show 7 * a + (f + 1) = 7 * a + f + 1 by omega, gMany, if_pos z] at h2
      exact h2)
    unfold wCt wC at ih hK tail ⊢
    refine tg_go bX0_spreadBy_15 ?_
    simp only [ti_aload, ti_getf, ti_iald, ti_iload, List.getElem?_cons_zero, List.getElem?_cons_succ, true_and]
    rw [nI_clamp (by omega), htv]
    refine ⟨vp_in_nI (by omega) (by omega), ?_⟩
    refine g_icmp_gt (tgt := 108) dX0_spreadBy_26 rfl (fun h26 => ?_) (fun h26 => ?_)
    · rw [lI_lt (by omega) (by omega)] at h26
      obtain rfl : f = v k + 1 := by omega
      have hsk : ∀ b, 7 * a + (v k + 1) ≤ b → b < 7 * a + (v k + 1) + (6 - v k) → neK d n c (k + 1) b = false := fun b h1 h2 => by
        rw [show b = 7 * a + (b - 7 * a) by omega]
        exact neK_v hk (by omega) hcv6 (by omega)
      have e1 := gMany_skip (p := neK d n c (k + 1)) (6 - v k) hsk
      have e2 := lsO_skip hlo hsk
      rw [show 7 * a + (v k + 1) + (6 - v k) = 7 * a + 7 by omega] at e1 e2
      rw [← e1]
      exact hK _ _ _ _ _ e2
    · rw [lI_lt (by omega) (by omega)] at h26
      refine tg_go bX0_spreadBy_29 ?_
      simp only [ti_iload, List.getElem?_cons_zero, List.getElem?_cons_succ, true_and]
      refine g_if_ne (tgt := 43) dX0_spreadBy_31 rfl (fun h31 => ?_) (fun h31 => ?_)
      · rw [fa_lit, lI_eq (by omega) (by omega)] at h31
        refine tg_go bX0_spreadBy_43 ?_
        simp only [ti_aload, ti_getf, ti_iload, ti_lald, List.getElem?_cons_zero, List.getElem?_cons_succ, true_and]
        rw [nI_clamp (by omega), hcva]
        refine ⟨vp_in_nI (by omega) (by omega), ?_⟩
        refine tg_cW vX0_spreadBy_53 (kX0_havingFigure (k := k) (f := f) hh hd hk (by omega) (by omega)) rfl rfl rfl rfl (Nat.le_of_ble_eq_true rfl) (Nat.le_of_ble_eq_true rfl) (Nat.le_of_ble_eq_true rfl) rfl ?_
        unfold wC
        refine tg_go bX0_spreadBy_56 ?_
        simp only [ti_land, List.getElem?_cons_zero, List.getElem?_cons_succ, true_and]
        rw [mk_and, mk_congr (q := pcv d c (k + 1) (7 * a + f)) (fun i hi => by
          rw [pcv_s hk a f i (by omega), decide_eq_false h31, Bool.false_or, Bool.and_comm]
          congr 1
          exact decide_eq_decide.mpr eq_comm)]
        exact tail (by omega) _ _
      · rw [fa_lit, lI_eq (by omega) (by omega)] at h31
        refine tg_go bX0_spreadBy_34 ?_
        simp only [ti_aload, ti_getf, ti_iload, ti_lald, List.getElem?_cons_zero, List.getElem?_cons_succ, true_and]
        rw [nI_clamp (by omega), hcva, mk_congr (q := pcv d c (k + 1) (7 * a + f)) (fun i hi => by rw [pcv_s hk a f i (by omega), decide_eq_true h31]; simp)]
        refine ⟨vp_in_nI (by omega) (by omega), ?_⟩
        refine g_goto (tgt := 57) dX0_spreadBy_40 rfl ?_
        exact tail (by omega) _ _
theorem kX0_sp_1t {k : Nat} (hh : hvOK hv d n c) (hd : d ≤ 4) (hk : k < d) (hn : n ≤ 40) (htv : tv k = nI (v k)) (hv6 : v k ≤ 6) (hcv6 : ∀ i, i < n → dg (d - 1 - k) (c i) ≤ v k) (hls : lsO (neK d n c k) (7 ^ k) (fun a => mkN (pcv d c k a) n) cd cv) (hK : ∀ oc ov x3 x4 x5 x6, lsO (neK d n c (k + 1)) (7 ^ (k + 1)) (fun a => mkN (pcv d c (k + 1) a) n) oc ov → tg_G l mX0_spreadBy 1000 K 0 0 114 [.ref 0, .int (nI k), .int (nI (gMany (neK d n c (k + 1)) (7 ^ (k + 1)))), x3, x4, x5, x6] [] (wCt (nI d) tv tn tc tm te qd qv en hv (nI (gMany (neK d n c k) (7 ^ k))) cd cv oc ov ic al cs on)) : ∀ (m a : Nat) (oc : Nat → Int32) (ov : Nat → Int64) (x4 x5 x6 : Value), 7 ^ k - a < m → a ≤ 7 ^ k → lsO (neK d n c (k + 1)) (7 * a) (fun a => mkN (pcv d c (k + 1) a) n) oc ov → tg_G l mX0_spreadBy 1000 K 0 0 4 [.ref 0, .int (nI k), .int (nI (gMany (neK d n c (k + 1)) (7 * a))), .int (nI (gMany (neK d n c k) a)), x4, x5, x6] [] (wCt (nI d) tv tn tc tm te qd qv en hv (nI (gMany (neK d n c k) (7 ^ k))) cd cv oc ov ic al cs on) := by
  have hb1 := neK_640 (d := d) (c := c) hn (show k ≤ 4 by omega)
  have h7k : 7 * 7 ^ k = 7 ^ (k + 1) := by rw [Nat.pow_succ']
  intro m
  induction m with
  | zero => intro a oc ov x4 x5 x6 h; omega
  | succ m ih =>
    intro a oc ov x4 x5 x6 hm ha hlo
    by_cases hend : a = 7 ^ k
    · subst hend
      rw [h7k] at hlo ⊢
      unfold wCt wC at hK ⊢
      refine tg_go bX0_spreadBy_4 ?_
      simp only [ti_aload, ti_getf, ti_iload, List.getElem?_cons_zero, List.getElem?_cons_succ, true_and]
      refine g_icmp_ge (tgt := 114) dX0_spreadBy_9 rfl (fun h9 => ?_) (fun h9 => ?_)
      · exact hK _ _ _ _ _ _ hlo
      · exact absurd (Int32.le_refl _) h9
    · cases hne : neK d n c k a with
      | false =>
        have hsk : ∀ b, 7 * a ≤ b → b < 7 * a + 7 → neK d n c (k + 1) b = false := fun b h1 h2 => by
          rw [show b = 7 * a + (b - 7 * a) by omega]
          exact neK_f hk (by omega) hne
        have e1 := gMany_skip (p := neK d n c (k + 1)) 7 hsk
        have h2 := ih (a + 1) oc ov x4 x5 x6 (by omega) (by omega) (lsO_skip hlo hsk)
        rw [show 7 * (a + 1) = 7 * a + 7 by omega, e1, gMany, hne, if_neg (by decide), Nat.add_zero] at h2
        exact h2
      | true =>
        have hlt := gMany_lt hne (show a < 7 ^ k by omega)
        have main := kX0_sp_2t (l := l) (K := K) (tn := tn) (tc := tc) (tm := tm) (te := te) (qd := qd) (qv := qv) (en := en) (cz := nI (gMany (neK d n c k) (7 ^ k))) (ic := ic) (al := al) (cs := cs) (on := on) hh hd hk hn htv hv6 hcv6 (show a < 7 ^ k by omega) hne hls (fun oc' ov' y4 y5 y6 hl' => by
          have h2 := ih (a + 1) oc' ov' y4 y5 y6 (by omega) (by omega) hl'
          rw [show 7 * (a + 1) = 7 * a + 7 by omega, show gMany (neK d n c k) (a + 1) = gMany (neK d n c k) a + 1 from by rw [gMany, if_pos hne]] at h2
          unfold wCt wC at h2 ⊢
          refine tg_go bX0_spreadBy_108 ?_
          simp only [ti_iinc, tg_s1, tg_cl, List.getElem?_cons_zero, List.getElem?_cons_succ, List.set_cons_zero, List.set_cons_succ]
          rw [nI_1]
          exact g_goto (tgt := 4) dX0_spreadBy_111 rfl h2) (v k + 2) 0 oc ov x5 x6 (by omega) (by omega) hlo
        rw [Nat.add_zero] at main
        unfold wCt wC at main ⊢
        refine tg_go bX0_spreadBy_4 ?_
        simp only [ti_aload, ti_getf, ti_iload, List.getElem?_cons_zero, List.getElem?_cons_succ, true_and]
        refine g_icmp_ge (tgt := 114) dX0_spreadBy_9 rfl (fun h9 => ?_) (fun h9 => ?_)
        · rw [lI_le (by omega) (by omega)] at h9; omega
        · refine tg_go bX0_spreadBy_12 ?_
          simp only [ti_istore, ti_push, tg_s1, tg_cl, List.getElem?_cons_zero, List.getElem?_cons_succ, List.set_cons_zero, List.set_cons_succ, true_and]
          exact main
end SPREAD2
