/-! THE CLASS: Cells: the list is made; what is told from it -/
/-- the cells as they are told of a table -/
def clsO (d n : Nat) (c : Nat → Nat) (hv : Nat → Int64) (cz : Int32) (cd : Nat → Int32) (cv : Nat → Int64) (ic al cs on : Nat → Int32) : Prop := hvOK hv d n c ∧ cz = nI (gMany (neD d n c) (7 ^ d)) ∧ lsO (neD d n c) (7 ^ d) (fun a => mkN (cvP d c a) n) cd cv ∧ icO d n c (7 ^ d) ic ∧ (∀ q, q ≤ 40 → al q = nI (alN d n c (7 ^ d) q)) ∧ (∀ q, q ≤ 40 → cs q = nI (csN d n c (7 ^ d) q)) ∧ (∀ q, q < 16 → on q = nI (onN d n c (7 ^ d) q))
def wCs (sw : Bool) (td : Int32) (tv : Nat → Int32) (tn : Int32) (tc tm : Nat → Int32) (te : Int32) (qd qv : Int32) (en : Nat → Int32) (hv : Nat → Int64) (cz : Int32) (cd : Nat → Int32) (cv : Nat → Int64) (oc : Nat → Int32) (ov : Nat → Int64) (ic al cs on : Nat → Int32) : List va_E := match sw with
  | false => wCf td tv tn tc tm te qd qv en hv cz cd cv oc ov ic al cs on
  | true => wCt td tv tn tc tm te qd qv en hv cz cd cv oc ov ic al cs on
theorem wCs_len {sw sw' : Bool} {td td' : Int32} {tv tv' : Nat → Int32} {tn tn' : Int32} {tc tc' tm tm' : Nat → Int32} {te te' qd qd' qv qv' : Int32} {en en' : Nat → Int32} {hv hv' : Nat → Int64} {cz cz' : Int32} {cd cd' : Nat → Int32} {cv cv' : Nat → Int64} {oc oc' : Nat → Int32} {ov ov' : Nat → Int64} {ic ic' al al' cs cs' on on' : Nat → Int32} : (wCs sw td tv tn tc tm te qd qv en hv cz cd cv oc ov ic al cs on).length = (wCs sw' td' tv' tn' tc' tm' te' qd' qv' en' hv' cz' cd' cv' oc' ov' ic' al' cs' on').length := by cases sw <;> cases sw' <;> rfl
section LIST
variable {l : tg_Ln} {K : Option Value → List va_E → Prop} {tv tc tm en : Nat → Int32} {hv : Nat → Int64} {td tn te qd qv cz : Int32} {d n s : Nat} {v c : Nat → Nat} {cd oc : Nat → Int32} {cv ov : Nat → Int64}
theorem kX0_tallyf {ic al cs on : Nat → Int32} (hh : hvOK hv d n c) (hd : d ≤ 4) (hn : n ≤ 40) (hc : cOK d n c) (ht : ∀ i, i < n → tc i = nI (c i)) (hls : lsO (neD d n c) (7 ^ d) (fun a => mkN (cvP d c a) n) cd cv) : tg_Ct l mX0_tally 1000 [.ref 0] (wCf (nI d) tv (nI n) tc tm te qd qv en hv (nI (gMany (neD d n c) (7 ^ d))) cd cv oc ov ic al cs on) (fun r w => r = none ∧ ∃ ic al cs on, clsO d n c hv (nI (gMany (neD d n c) (7 ^ d))) cd cv ic al cs on ∧ w = (wCf (nI d) tv (nI n) tc tm te qd qv en hv (nI (gMany (neD d n c) (7 ^ d))) cd cv oc ov ic al cs on)) := by
  have e0 : ∀ q, alN d n c 0 q = 0 ∧ csN d n c 0 q = 0 ∧ onN d n c 0 q = 0 := fun q => ⟨rfl, rfl, rfl⟩
  show tg_G _ _ _ _ _ _ _ [.ref 0, .null, .null] [] _
  unfold wCf wC
  refine tg_go bX0_tally_0 ?_
  simp only [ti_istore, ti_push, tg_s1, tg_cl, List.getElem?_cons_zero, List.getElem?_cons_succ, List.set_cons_zero, List.set_cons_succ, true_and]
  refine kX0_ta_1 42 0 al cs (by omega) (by omega) (fun j hj => by omega) (fun j hj => by omega) (fun al' cs' on' z1 z2 z3 => ?_)
  unfold wC
  refine tg_go bX0_tally_49 ?_
  simp only [ti_push, ti_istore, tg_s1, tg_cl, List.getElem?_cons_zero, List.getElem?_cons_succ, List.set_cons_zero, List.set_cons_succ]
  exact kX0_ta_3f hh hd hn hc ht hls (fun ic al cs on h1 h2 h3 h4 => ⟨rfl, ic, al, cs, on, ⟨hh, rfl, hls, h1, h2, h3, h4⟩, rfl⟩) (7 ^ d + 1) 0 ic al' cs' on' .null (Nat.lt_succ_of_le (Nat.sub_le _ _)) (Nat.zero_le _) (fun a ha => absurd ha (by omega)) (fun q hq => by rw [z1 q (by omega), (e0 q).1]; rfl) (fun q hq => by rw [z2 q (by omega), (e0 q).2.1]; rfl) (fun q hq => by rw [z3 q (by omega), (e0 q).2.2]; rfl)
theorem kX0_tallyt {ic al cs on : Nat → Int32} (hh : hvOK hv d n c) (hd : d ≤ 4) (hn : n ≤ 40) (hc : cOK d n c) (ht : ∀ i, i < n → tc i = nI (c i)) (hls : lsO (neD d n c) (7 ^ d) (fun a => mkN (cvP d c a) n) cd cv) : tg_Ct l mX0_tally 1000 [.ref 0] (wCt (nI d) tv (nI n) tc tm te qd qv en hv (nI (gMany (neD d n c) (7 ^ d))) cd cv oc ov ic al cs on) (fun r w => r = none ∧ ∃ ic al cs on, clsO d n c hv (nI (gMany (neD d n c) (7 ^ d))) cd cv ic al cs on ∧ w = (wCt (nI d) tv (nI n) tc tm te qd qv en hv (nI (gMany (neD d n c) (7 ^ d))) cd cv oc ov ic al cs on)) := by
  have e0 : ∀ q, alN d n c 0 q = 0 ∧ csN d n c 0 q = 0 ∧ onN d n c 0 q = 0 := fun q => ⟨rfl, rfl, rfl⟩
  show tg_G _ _ _ _ _ _ _ [.ref 0, .null, .null] [] _
  unfold wCt wC
  refine tg_go bX0_tally_0 ?_
  simp only [ti_istore, ti_push, tg_s1, tg_cl, List.getElem?_cons_zero, List.getElem?_cons_succ, List.set_cons_zero, List.set_cons_succ, true_and]
  refine kX0_ta_1 42 0 al cs (by omega) (by omega) (fun j hj => by omega) (fun j hj => by omega) (fun al' cs' on' z1 z2 z3 => ?_)
  unfold wC
  refine tg_go bX0_tally_49 ?_
  simp only [ti_push, ti_istore, tg_s1, tg_cl, List.getElem?_cons_zero, List.getElem?_cons_succ, List.set_cons_zero, List.set_cons_succ]
  exact kX0_ta_3t hh hd hn hc ht hls (fun ic al cs on h1 h2 h3 h4 => ⟨rfl, ic, al, cs, on, ⟨hh, rfl, hls, h1, h2, h3, h4⟩, rfl⟩) (7 ^ d + 1) 0 ic al' cs' on' .null (Nat.lt_succ_of_le (Nat.sub_le _ _)) (Nat.zero_le _) (fun a ha => absurd ha (by omega)) (fun q hq => by rw [z1 q (by omega), (e0 q).1]; rfl) (fun q hq => by rw [z2 q (by omega), (e0 q).2.1]; rfl) (fun q hq => by rw [z3 q (by omega), (e0 q).2.2]; rfl)
theorem kX0_list_l {ic al cs on : Nat → Int32} (hh : hvOK hv d n c) (hd : d ≤ 4) (hn : n ≤ 40) (hc : cOK d n c) (ht : ∀ i, i < n → tc i = nI (c i)) (htv : ∀ k, k < d → tv k = nI (v k) ∧ v k ≤ 6) (hcv : ∀ k, k < d → ∀ i, i < n → dg (d - 1 - k) (c i) ≤ v k) (hK : ∀ sw cd cv oc ov ic al cs on, clsO d n c hv (nI (gMany (neD d n c) (7 ^ d))) cd cv ic al cs on → K none (wCs sw (nI d) tv (nI n) tc tm te qd qv en hv (nI (gMany (neD d n c) (7 ^ d))) cd cv oc ov ic al cs on)) : ∀ (m k : Nat) (sw : Bool) (cd : Nat → Int32) (cv : Nat → Int64) (oc : Nat → Int32) (ov : Nat → Int64), d - k < m → k ≤ d → lsO (neK d n c k) (7 ^ k) (fun a => mkN (pcv d c k a) n) cd cv → tg_G l mX0_list 1000 K 0 0 50 [.ref 0, .int (nI k)] [] (wCs sw (nI d) tv (nI n) tc tm te qd qv en hv (nI (gMany (neK d n c k) (7 ^ k))) cd cv oc ov ic al cs on) := by
  intro m
  induction m with
  | zero => intro k sw cd cv oc ov h; omega
  | succ m ih =>
    intro k sw cd cv oc ov hm hk hls
    by_cases hend : k = d
    · subst hend
      rw [neK_d] at hls ⊢
      have hls : lsO (neD k n c) (7 ^ k) (fun a => mkN (cvP k c a) n) cd cv := fun a ha hp => by
        have h9 := hls a ha hp
        have e9 : mkN (pcv k c k a) n = mkN (cvP k c a) n := by rw [pcv_d]
        exact ⟨h9.1, h9.2.trans (congrArg lN e9)⟩
      cases sw with
      | false =>
        simp only [wCs]
        unfold wCf wC
        refine tg_go bX0_list_50 ?_
        simp only [ti_aload, ti_getf, ti_iload, List.getElem?_cons_zero, List.getElem?_cons_succ, true_and]
        refine g_icmp_ge (tgt := 72) dX0_list_58 rfl (fun h58 => ?_) (fun h58 => ?_)
        · refine tg_go bX0_list_72 ?_
          simp only [ti_aload, List.getElem?_cons_zero, List.getElem?_cons_succ, true_and]
          refine tg_cWe vX0_list_73 (kX0_tallyf hh hd hn hc ht hls) rfl rfl rfl rfl (Nat.le_of_ble_eq_true rfl) (Nat.le_of_ble_eq_true rfl) (Nat.le_of_ble_eq_true rfl) (by rintro r w1 ⟨-, _, _, _, _, -, rfl⟩; rfl) ?_
          rintro r w1 ⟨rfl, ic', al', cs', on', hcl, rfl⟩
          simp only [Option.toList_none, List.nil_append]
          refine g_vret dX0_list_76 rfl ?_
          exact hK false _ _ _ _ _ _ _ _ hcl
        · exact absurd (Int32.le_refl _) h58
      | true =>
        simp only [wCs]
        unfold wCt wC
        refine tg_go bX0_list_50 ?_
        simp only [ti_aload, ti_getf, ti_iload, List.getElem?_cons_zero, List.getElem?_cons_succ, true_and]
        refine g_icmp_ge (tgt := 72) dX0_list_58 rfl (fun h58 => ?_) (fun h58 => ?_)
        · refine tg_go bX0_list_72 ?_
          simp only [ti_aload, List.getElem?_cons_zero, List.getElem?_cons_succ, true_and]
          refine tg_cWe vX0_list_73 (kX0_tallyt hh hd hn hc ht hls) rfl rfl rfl rfl (Nat.le_of_ble_eq_true rfl) (Nat.le_of_ble_eq_true rfl) (Nat.le_of_ble_eq_true rfl) (by rintro r w1 ⟨-, _, _, _, _, -, rfl⟩; rfl) ?_
          rintro r w1 ⟨rfl, ic', al', cs', on', hcl, rfl⟩
          simp only [Option.toList_none, List.nil_append]
          refine g_vret dX0_list_76 rfl ?_
          exact hK true _ _ _ _ _ _ _ _ hcl
        · exact absurd (Int32.le_refl _) h58
    · obtain ⟨htv1, htv6⟩ := htv k (by omega)
      cases sw with
      | false =>
        simp only [wCs]
        unfold wCf wC
        refine tg_go bX0_list_50 ?_
        simp only [ti_aload, ti_getf, ti_iload, List.getElem?_cons_zero, List.getElem?_cons_succ, true_and]
        refine g_icmp_ge (tgt := 72) dX0_list_58 rfl (fun h58 => ?_) (fun h58 => ?_)
        · rw [lI_le (by omega) (by omega)] at h58; omega
        · refine tg_go bX0_list_61 ?_
          simp only [ti_aload, ti_iload, List.getElem?_cons_zero, List.getElem?_cons_succ, true_and]
          refine tg_cWe vX0_list_63 (kX0_spreadByf hh hd (show k < d by omega) hn htv1 htv6 (hcv k (by omega)) hls) rfl rfl rfl rfl (Nat.le_of_ble_eq_true rfl) (Nat.le_of_ble_eq_true rfl) (Nat.le_of_ble_eq_true rfl) (by rintro r w1 ⟨-, _, _, _, _, -, rfl⟩; rfl) ?_
          rintro r w1 ⟨rfl, cd', cv', oc', ov', hl', rfl⟩
          simp only [Option.toList_none, List.nil_append]
          unfold wCt wC
          refine tg_go bX0_list_66 ?_
          simp only [ti_iinc, tg_s1, tg_cl, List.getElem?_cons_zero, List.getElem?_cons_succ, List.set_cons_zero, List.set_cons_succ, true_and]
          rw [nI_1]
          refine g_goto (tgt := 50) dX0_list_69 rfl ?_
          exact ih (k + 1) true cd' cv' oc' ov' (by omega) (by omega) hl'
      | true =>
        simp only [wCs]
        unfold wCt wC
        refine tg_go bX0_list_50 ?_
        simp only [ti_aload, ti_getf, ti_iload, List.getElem?_cons_zero, List.getElem?_cons_succ, true_and]
        refine g_icmp_ge (tgt := 72) dX0_list_58 rfl (fun h58 => ?_) (fun h58 => ?_)
        · rw [lI_le (by omega) (by omega)] at h58; omega
        · refine tg_go bX0_list_61 ?_
          simp only [ti_aload, ti_iload, List.getElem?_cons_zero, List.getElem?_cons_succ, true_and]
          refine tg_cWe vX0_list_63 (kX0_spreadByt hh hd (show k < d by omega) hn htv1 htv6 (hcv k (by omega)) hls) rfl rfl rfl rfl (Nat.le_of_ble_eq_true rfl) (Nat.le_of_ble_eq_true rfl) (Nat.le_of_ble_eq_true rfl) (by rintro r w1 ⟨-, _, _, _, _, -, rfl⟩; rfl) ?_
          rintro r w1 ⟨rfl, cd', cv', oc', ov', hl', rfl⟩
          simp only [Option.toList_none, List.nil_append]
          unfold wCf wC
          refine tg_go bX0_list_66 ?_
          simp only [ti_iinc, tg_s1, tg_cl, List.getElem?_cons_zero, List.getElem?_cons_succ, List.set_cons_zero, List.set_cons_succ, true_and]
          rw [nI_1]
          refine g_goto (tgt := 50) dX0_list_69 rfl ?_
          exact ih (k + 1) false cd' cv' oc' ov' (by omega) (by omega) hl'
theorem kX0_listf {ic al cs on : Nat → Int32} (hd : d ≤ 4) (hn : n ≤ 40) (hc : cOK d n c) (ht : ∀ i, i < n → tc i = nI (c i)) (htv : ∀ k, k < d → tv k = nI (v k) ∧ v k ≤ 6) (hcv : ∀ k, k < d → ∀ i, i < n → dg (d - 1 - k) (c i) ≤ v k) : tg_Ct l mX0_list 1000 [.ref 0] (wCf (nI d) tv (nI n) tc tm te qd qv en hv cz cd cv oc ov ic al cs on) (fun r w => r = none ∧ ∃ sw hv cz cd cv oc ov ic al cs on, clsO d n c hv cz cd cv ic al cs on ∧ w = (wCs sw (nI d) tv (nI n) tc tm te qd qv en hv cz cd cv oc ov ic al cs on)) := by
  refine tg_gen (fun K0 hK0 => ?_)
  have e0 : neK d n c 0 0 = decide (0 < n) := by
    unfold neK
    congr 1
    rw [gMany_congr (p := pcv d c 0 0) (q := fun _ => true) (fun i hi => rfl)]
    have : ∀ k, gMany (fun _ => true) k = k := fun k => by
      induction k with
      | zero => rfl
      | succ k ih => rw [gMany, ih]; simp
    rw [this]
  have e1 : gMany (neK d n c 0) (7 ^ 0) = if 0 < n then 1 else 0 := by
    show gMany (neK d n c 0) 1 = _
    rw [gMany, e0, gMany]
    split <;> simp_all
  show tg_G _ _ _ _ _ _ _ [.ref 0, .null] [] _
  unfold wCf wC
  refine tg_go bX0_list_0 ?_
  simp only [ti_aload, List.getElem?_cons_zero, List.getElem?_cons_succ, true_and]
  refine tg_cWe vX0_list_1 (kX0_findHaving hd hn hc ht) rfl rfl rfl rfl (Nat.le_of_ble_eq_true rfl) (Nat.le_of_ble_eq_true rfl) (Nat.le_of_ble_eq_true rfl) (by rintro r w1 ⟨-, _, -, rfl⟩; rfl) ?_
  rintro r w1 ⟨rfl, hv', hh, rfl⟩
  simp only [Option.toList_none, List.nil_append]
  unfold wC
  refine tg_go bX0_list_4 ?_
  simp only [ti_aload, ti_getf, ti_push, ti_putfI, List.getElem?_cons_zero, List.getElem?_cons_succ, List.set_cons_zero, List.set_cons_succ, true_and]
  refine g_if_le (tgt := 48) dX0_list_16 rfl (fun h16 => ?_) (fun h16 => ?_)
  · rw [fa_lit, lI_le (by omega) (by omega)] at h16
    refine tg_go bX0_list_48 ?_
    simp only [ti_istore, ti_push, tg_s1, tg_cl, List.getElem?_cons_zero, List.getElem?_cons_succ, List.set_cons_zero, List.set_cons_succ, true_and]
    have h := kX0_list_l (l := l) (K := K0) (tv := tv) (tc := tc) (tm := tm) (te := te) (qd := qd) (qv := qv) (en := en) (ic := ic) (al := al) (cs := cs) (on := on) hh hd hn hc ht htv hcv (fun sw cd cv oc ov ic al cs on h => hK0 _ _ ⟨rfl, sw, hv', _, cd, cv, oc, ov, ic, al, cs, on, h, rfl⟩) (d + 1) 0 false cd cv oc ov (by omega) (by omega) (fun a ha hp => by
      have ha : a < 1 := ha
      obtain rfl : a = 0 := by omega
      rw [e0, decide_eq_false (by omega)] at hp
      cases hp)
    rw [e1, if_neg (by omega)] at h
    exact h
  · rw [fa_lit, lI_le (by omega) (by omega)] at h16
    refine tg_go bX0_list_19 ?_
    simp only [ti_aload, ti_getf, ti_iast, ti_last, ti_lshl, ti_lsub, ti_push, ti_putfI, List.getElem?_cons_zero, List.getElem?_cons_succ, List.set_cons_zero, List.set_cons_succ, true_and]
    rw [sb_cl0, full_mk (by omega)]
    refine ⟨vp_in_nI (n := 0) (by omega) (by omega), vp_in_nI (n := 0) (by omega) (by omega), ?_⟩
    refine tg_go bX0_list_48 ?_
    simp only [ti_istore, ti_push, tg_s1, tg_cl, List.getElem?_cons_zero, List.getElem?_cons_succ, List.set_cons_zero, List.set_cons_succ, true_and]
    have h := kX0_list_l (l := l) (K := K0) (tv := tv) (tc := tc) (tm := tm) (te := te) (qd := qd) (qv := qv) (en := en) (ic := ic) (al := al) (cs := cs) (on := on) hh hd hn hc ht htv hcv (fun sw cd cv oc ov ic al cs on h => hK0 _ _ ⟨rfl, sw, hv', _, cd, cv, oc, ov, ic, al, cs, on, h, rfl⟩) (d + 1) 0 false (upd cd 0 0) (vp_updL cv 0 (lN (mkN (fun _ => true) n))) oc ov (by omega) (by omega) (fun a ha hp => by
      have ha : a < 1 := ha
      obtain rfl : a = 0 := by omega
      rw [show gMany (neK d n c 0) 0 = 0 from rfl, pk_us, pk_uLs]
      exact ⟨rfl, congrArg lN (mk_congr (fun i hi => rfl))⟩)
    rw [e1, if_pos (by omega)] at h
    exact h
theorem kX0_listt {ic al cs on : Nat → Int32} (hd : d ≤ 4) (hn : n ≤ 40) (hc : cOK d n c) (ht : ∀ i, i < n → tc i = nI (c i)) (htv : ∀ k, k < d → tv k = nI (v k) ∧ v k ≤ 6) (hcv : ∀ k, k < d → ∀ i, i < n → dg (d - 1 - k) (c i) ≤ v k) : tg_Ct l mX0_list 1000 [.ref 0] (wCt (nI d) tv (nI n) tc tm te qd qv en hv cz cd cv oc ov ic al cs on) (fun r w => r = none ∧ ∃ sw hv cz cd cv oc ov ic al cs on, clsO d n c hv cz cd cv ic al cs on ∧ w = (wCs sw (nI d) tv (nI n) tc tm te qd qv en hv cz cd cv oc ov ic al cs on)) := by
  refine tg_gen (fun K0 hK0 => ?_)
  have e0 : neK d n c 0 0 = decide (0 < n) := by
    unfold neK
    congr 1
    rw [gMany_congr (p := pcv d c 0 0) (q := fun _ => true) (fun i hi => rfl)]
    have : ∀ k, gMany (fun _ => true) k = k := fun k => by
      induction k with
      | zero => rfl
      | succ k ih => rw [gMany, ih]; simp
    rw [this]
  have e1 : gMany (neK d n c 0) (7 ^ 0) = if 0 < n then 1 else 0 := by
    show gMany (neK d n c 0) 1 = _
    rw [gMany, e0, gMany]
    split <;> simp_all
  show tg_G _ _ _ _ _ _ _ [.ref 0, .null] [] _
  unfold wCt wC
  refine tg_go bX0_list_0 ?_
  simp only [ti_aload, List.getElem?_cons_zero, List.getElem?_cons_succ, true_and]
  refine tg_cWe vX0_list_1 (kX0_findHaving hd hn hc ht) rfl rfl rfl rfl (Nat.le_of_ble_eq_true rfl) (Nat.le_of_ble_eq_true rfl) (Nat.le_of_ble_eq_true rfl) (by rintro r w1 ⟨-, _, -, rfl⟩; rfl) ?_
  rintro r w1 ⟨rfl, hv', hh, rfl⟩
  simp only [Option.toList_none, List.nil_append]
  unfold wC
  refine tg_go bX0_list_4 ?_
  simp only [ti_aload, ti_getf, ti_push, ti_putfI, List.getElem?_cons_zero, List.getElem?_cons_succ, List.set_cons_zero, List.set_cons_succ, true_and]
  refine g_if_le (tgt := 48) dX0_list_16 rfl (fun h16 => ?_) (fun h16 => ?_)
  · rw [fa_lit, lI_le (by omega) (by omega)] at h16
    refine tg_go bX0_list_48 ?_
    simp only [ti_istore, ti_push, tg_s1, tg_cl, List.getElem?_cons_zero, List.getElem?_cons_succ, List.set_cons_zero, List.set_cons_succ, true_and]
    have h := kX0_list_l (l := l) (K := K0) (tv := tv) (tc := tc) (tm := tm) (te := te) (qd := qd) (qv := qv) (en := en) (ic := ic) (al := al) (cs := cs) (on := on) hh hd hn hc ht htv hcv (fun sw cd cv oc ov ic al cs on h => hK0 _ _ ⟨rfl, sw, hv', _, cd, cv, oc, ov, ic, al, cs, on, h, rfl⟩) (d + 1) 0 true cd cv oc ov (by omega) (by omega) (fun a ha hp => by
      have ha : a < 1 := ha
      obtain rfl : a = 0 := by omega
      rw [e0, decide_eq_false (by omega)] at hp
      cases hp)
    rw [e1, if_neg (by omega)] at h
    exact h
  · rw [fa_lit, lI_le (by omega) (by omega)] at h16
    refine tg_go bX0_list_19 ?_
    simp only [ti_aload, ti_getf, ti_iast, ti_last, ti_lshl, ti_lsub, ti_push, ti_putfI, List.getElem?_cons_zero, List.getElem?_cons_succ, List.set_cons_zero, List.set_cons_succ, true_and]
    rw [sb_cl0, full_mk (by omega)]
    refine ⟨vp_in_nI (n := 0) (by omega) (by omega), vp_in_nI (n := 0) (by omega) (by omega), ?_⟩
    refine tg_go bX0_list_48 ?_
    simp only [ti_istore, ti_push, tg_s1, tg_cl, List.getElem?_cons_zero, List.getElem?_cons_succ, List.set_cons_zero, List.set_cons_succ, true_and]
    have h := kX0_list_l (l := l) (K := K0) (tv := tv) (tc := tc) (tm := tm) (te := te) (qd := qd) (qv := qv) (en := en) (ic := ic) (al := al) (cs := cs) (on := on) hh hd hn hc ht htv hcv (fun sw cd cv oc ov ic al cs on h => hK0 _ _ ⟨rfl, sw, hv', _, cd, cv, oc, ov, ic, al, cs, on, h, rfl⟩) (d + 1) 0 true (upd cd 0 0) (vp_updL cv 0 (lN (mkN (fun _ => true) n))) oc ov (by omega) (by omega) (fun a ha hp => by
      have ha : a < 1 := ha
      obtain rfl : a = 0 := by omega
      rw [show gMany (neK d n c 0) 0 = 0 from rfl, pk_us, pk_uLs]
      exact ⟨rfl, congrArg lN (mk_congr (fun i hi => rfl))⟩)
    rw [e1, if_pos (by omega)] at h
    exact h
theorem kX0_list {sw : Bool} {ic al cs on : Nat → Int32} (hd : d ≤ 4) (hn : n ≤ 40) (hc : cOK d n c) (ht : ∀ i, i < n → tc i = nI (c i)) (htv : ∀ k, k < d → tv k = nI (v k) ∧ v k ≤ 6) (hcv : ∀ k, k < d → ∀ i, i < n → dg (d - 1 - k) (c i) ≤ v k) : tg_Ct l mX0_list 1000 [.ref 0] (wCs sw (nI d) tv (nI n) tc tm te qd qv en hv cz cd cv oc ov ic al cs on) (fun r w => r = none ∧ ∃ sw hv cz cd cv oc ov ic al cs on, clsO d n c hv cz cd cv ic al cs on ∧ w = (wCs sw (nI d) tv (nI n) tc tm te qd qv en hv cz cd cv oc ov ic al cs on)) := by
  cases sw
  · exact kX0_listf hd hn hc ht htv hcv
  · exact kX0_listt hd hn hc ht htv hcv
end LIST
