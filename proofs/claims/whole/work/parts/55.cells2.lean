/-! THE CLASS: Cells: closures, sets, what one entry more or less would do -/
theorem first_of {p : Nat → Bool} : ∀ n, (∀ i, i < n → p i = false) ∨ ∃ i, i < n ∧ p i = true ∧ ∀ j, j < i → p j = false
  | 0 => Or.inl (fun i h => by omega)
  | n + 1 => by
    rcases first_of (p := p) n with h | ⟨i, h1, h2, h3⟩
    · cases hp : p n with
      | false => exact Or.inl (fun i hi => by
          rcases Nat.lt_succ_iff_lt_or_eq.mp hi with q | q
          · exact h i q
          · rw [q]; exact hp)
      | true => exact Or.inr ⟨n, by omega, hp, h⟩
    · exact Or.inr ⟨i, by omega, h2, h3⟩
theorem gMany_0 {p : Nat → Bool} : ∀ n, gMany p n = 0 ↔ ∀ i, i < n → p i = false
  | 0 => ⟨fun _ i h => by omega, fun _ => rfl⟩
  | n + 1 => by
    rw [gMany]
    cases hp : p n with
    | false =>
      rw [if_neg (by decide), Nat.add_zero, gMany_0 n]
      constructor
      · intro h i hi
        rcases Nat.lt_succ_iff_lt_or_eq.mp hi with q | q
        · exact h i q
        · rw [q]; exact hp
      · exact fun h i hi => h i (by omega)
    | true =>
      rw [if_pos rfl]
      constructor
      · intro h; omega
      · intro h
        have := h n (by omega)
        rw [hp] at this
        cases this
/-- whether a cell with these entries is in the cube -/
def inQ (d n s : Nat) (c : Nat → Nat) (a : Nat) (p : Nat → Bool) : Bool := decide (s ≤ gMany p n) && decide (gClo d p c n = some a)
theorem oI_some {o : Option Nat} {a : Nat} (ha : a < 2 ^ 31) (h : ∀ x, o = some x → x < 2 ^ 31) : (oI o = nI a) = (o = some a) := oI_eq ha h
section CELLS2
variable {l : tg_Ln} {K : Option Value → List va_E → Prop} {tv tc tm en a8 a10 ic al cs on : Nat → Int32} {hv a9 a11 : Nat → Int64} {td tn te qd qv cz : Int32} {r1 r2 r3 r4 : Nat} {d n s : Nat} {v c : Nat → Nat}
theorem kX0_closureOf {p : Nat → Bool} (hh : hvOK hv d n c) (hd : d ≤ 4) (hn : n ≤ 40) (hc : cOK d n c) (ht : ∀ i, i < n → tc i = nI (c i)) : tg_Ct l mX0_closureOf 1000 [.ref 0, .long (lN (mkN p n))] (wC (nI d) tv (nI n) tc tm te qd qv en hv cz r1 r2 r3 r4 a8 a9 a10 a11 ic al cs on) (fun r w => r = some (.int (oI (gClo d p c n))) ∧ w = (wC (nI d) tv (nI n) tc tm te qd qv en hv cz r1 r2 r3 r4 a8 a9 a10 a11 ic al cs on)) := by
  refine tg_gen (fun K0 hK0 => ?_)
  have hp7 := pow7 hd
  rcases first_of (p := p) n with h0 | ⟨i, hi, hpi, hlo⟩
  · rw [(gClo_none n).mpr h0] at hK0
    show tg_G _ _ _ _ _ _ _ [.ref 0, .long (lN (mkN p n)), .null, .null] [] _
    unfold wC
    refine tg_go bX0_closureOf_0 ?_
    simp only [ti_lcmp, ti_lload, ti_push, List.getElem?_cons_zero, List.getElem?_cons_succ, true_and]
    refine g_if_ne (tgt := 8) dX0_closureOf_3 rfl (fun h3 => ?_) (fun h3 => ?_)
    · rw [cmp_eq0, mk_zero hn] at h3
      exact absurd h0 h3
    · refine tg_go bX0_closureOf_6 ?_
      simp only [ti_push, List.getElem?_cons_zero, List.getElem?_cons_succ, true_and]
      refine g_iret dX0_closureOf_7 rfl ?_
      exact hK0 _ _ ⟨rfl, rfl⟩
  · rw [sh_gClo hc hi hpi] at hK0
    have hci := (hc i hi).1
    show tg_G _ _ _ _ _ _ _ [.ref 0, .long (lN (mkN p n)), .null, .null] [] _
    unfold wC
    refine tg_go bX0_closureOf_0 ?_
    simp only [ti_lcmp, ti_lload, ti_push, List.getElem?_cons_zero, List.getElem?_cons_succ, true_and]
    refine g_if_ne (tgt := 8) dX0_closureOf_3 rfl (fun h3 => ?_) (fun h3 => ?_)
    · refine tg_go bX0_closureOf_8 ?_
      simp only [ti_land, ti_lload, ti_lneg, ti_lsub, ti_push, List.getElem?_cons_zero, List.getElem?_cons_succ, true_and]
      refine tg_cP vX0_closureOf_14 (kJ13_bitCount) rfl rfl (Nat.le_of_ble_eq_true rfl) (Nat.le_of_ble_eq_true rfl) ?_
      rw [low_bit hn hi hpi hlo]
      refine tg_go bX0_closureOf_17 ?_
      simp only [ti_aload, ti_getf, ti_iload, ti_istore, tg_s1, tg_cl, List.getElem?_cons_zero, List.getElem?_cons_succ, List.set_cons_zero, List.set_cons_succ, true_and]
      refine tg_cV [1, 2, 3, 4] vX0_closureOf_23 (kX6_hasEntry (td := nI d) (tv := tv) (te := te) (tc := tc) (tm := tm) (x := nI i) hn) rfl rfl rfl rfl rfl (Nat.le_of_ble_eq_true rfl) rfl (Nat.le_of_ble_eq_true rfl) (Nat.le_of_ble_eq_true rfl) (by rintro r w1 ⟨-, rfl⟩; rfl) ?_
      rintro r w1 ⟨rfl, rfl⟩
      simp only [Option.map_some, Option.map_none, Option.toList_some, Option.toList_none, List.cons_append, List.nil_append, tg_v]
      refine (show tg_G _ _ _ _ _ _ _ _ _ (wC (nI d) tv (nI n) tc tm te qd qv en hv cz r1 r2 r3 r4 a8 a9 a10 a11 ic al cs on) from ?_)
      unfold wC
      rw [show entOK n (nI i) = true from decide_eq_true (by rw [nI_toInt (by omega)]; omega)]
      refine g_if_eq (tgt := 46) dX0_closureOf_26 rfl (fun h26 => ?_) (fun h26 => ?_)
      · exact absurd h26 (by decide)
      · refine tg_go bX0_closureOf_29 ?_
        simp only [ti_aload, ti_getf, ti_iald, ti_iload, ti_lload, List.getElem?_cons_zero, List.getElem?_cons_succ, true_and]
        rw [nI_clamp (by omega), ht i hi]
        refine ⟨vp_in_nI (by omega) (by omega), ?_⟩
        refine tg_cW vX0_closureOf_40 (kX0_sharedWith (e := c i) (p := p) hh hd hn (by omega)) rfl rfl rfl rfl (Nat.le_of_ble_eq_true rfl) (Nat.le_of_ble_eq_true rfl) (Nat.le_of_ble_eq_true rfl) rfl ?_
        unfold wC
        refine g_goto (tgt := 47) dX0_closureOf_43 rfl ?_
        refine g_iret dX0_closureOf_47 rfl ?_
        exact hK0 _ _ ⟨rfl, rfl⟩
    · rw [cmp_eq0, mk_zero hn] at h3
      rw [h3 i hi] at hpi
      cases hpi
theorem kX0_dimensionsOf_l {a : Nat} {x1 : Int32} (hd : d ≤ 4) (ha : a < 2 ^ 31) : ∀ (r t : Nat), r + t = d → K (some (.int (nI (dmB d a d)))) (wC (nI d) tv tn tc tm te qd qv en hv cz r1 r2 r3 r4 a8 a9 a10 a11 ic al cs on) → tg_G l mX0_dimensionsOf 1000 K 0 0 15 [.ref 0, .int x1, .int (nI (dmB d a t)), .int (nI (a / 7 ^ t)), .int (nI r - 1)] [] (wC (nI d) tv tn tc tm te qd qv en hv cz r1 r2 r3 r4 a8 a9 a10 a11 ic al cs on) := by
  intro r
  induction r with
  | zero =>
    intro t hrt hK
    obtain rfl : t = d := by omega
    unfold wC at hK ⊢
    refine tg_go bX0_dimensionsOf_15 ?_
    simp only [ti_iload, List.getElem?_cons_zero, List.getElem?_cons_succ, true_and]
    refine g_if_lt (tgt := 45) dX0_dimensionsOf_17 rfl (fun h17 => ?_) (fun h17 => ?_)
    · refine tg_go bX0_dimensionsOf_45 ?_
      simp only [ti_iload, List.getElem?_cons_zero, List.getElem?_cons_succ, true_and]
      refine g_iret dX0_dimensionsOf_46 rfl ?_
      exact hK
    · exact absurd (by decide) h17
  | succ r ih =>
    intro t hrt hK
    have hat : a / 7 ^ t < 2 ^ 31 := Nat.lt_of_le_of_lt (Nat.div_le_self _ _) ha
    have hdg := dg_lt t a
    have edg : a / 7 ^ t % 7 = dg t a := rfl
    have ediv : a / 7 ^ t / 7 = a / 7 ^ (t + 1) := by rw [Nat.div_div_eq_div_mul, ← Nat.pow_succ]
    unfold wC at ih hK ⊢
    rw [show nI (r + 1) - 1 = nI r from nI_pred r]
    refine tg_go bX0_dimensionsOf_15 ?_
    simp only [ti_iload, List.getElem?_cons_zero, List.getElem?_cons_succ, true_and]
    refine g_if_lt (tgt := 45) dX0_dimensionsOf_17 rfl (fun h17 => ?_) (fun h17 => ?_)
    · exact absurd h17 (nI_pos (by omega))
    · refine tg_go bX0_dimensionsOf_20 ?_
      simp only [ti_iload, ti_irem, ti_push, List.getElem?_cons_zero, List.getElem?_cons_succ, true_and]
      rw [rem7 hat, edg]
      refine ⟨ne7, ?_⟩
      refine g_if_le (tgt := 34) dX0_dimensionsOf_24 rfl (fun h24 => ?_) (fun h24 => ?_)
      · rw [fa_lit, lI_le (by omega) (by omega)] at h24
        refine tg_go bX0_dimensionsOf_34 ?_
        simp only [ti_idiv, ti_iinc, ti_iload, ti_istore, ti_push, tg_s1, tg_cl, List.getElem?_cons_zero, List.getElem?_cons_succ, List.set_cons_zero, List.set_cons_succ, true_and]
        rw [div7 hat, ediv]
        refine ⟨ne7, ?_⟩
        refine g_goto (tgt := 15) dX0_dimensionsOf_42 rfl ?_
        have h2 := ih (t + 1) (by omega) hK
        rw [show nI r - 1 = nI r + -1 from by rw [Int32.sub_eq_add_neg]] at h2
        rw [dmB, if_neg (by omega)] at h2
        exact h2
      · rw [fa_lit, lI_le (by omega) (by omega)] at h24
        refine tg_go bX0_dimensionsOf_27 ?_
        simp only [ti_iload, ti_ior, ti_ishl, ti_istore, ti_push, tg_s1, tg_cl, List.getElem?_cons_zero, List.getElem?_cons_succ, List.set_cons_zero, List.set_cons_succ, true_and]
        rw [show (1 : Int32) = nI 1 from rfl, nI_shl (by omega) (sh4 (by omega)), nI_or, Nat.one_mul]
        refine tg_go bX0_dimensionsOf_34 ?_
        simp only [ti_idiv, ti_iinc, ti_iload, ti_istore, ti_push, tg_s1, tg_cl, List.getElem?_cons_zero, List.getElem?_cons_succ, List.set_cons_zero, List.set_cons_succ, true_and]
        rw [div7 hat, ediv]
        refine ⟨ne7, ?_⟩
        refine g_goto (tgt := 15) dX0_dimensionsOf_42 rfl ?_
        have h2 := ih (t + 1) (by omega) hK
        rw [show nI r - 1 = nI r + -1 from by rw [Int32.sub_eq_add_neg]] at h2
        rw [dmB, if_pos (by omega), show d - 1 - t = r by omega] at h2
        exact h2
theorem kX0_dimensionsOf {a : Nat} (hd : d ≤ 4) (ha : a < 2 ^ 31) : tg_Ct l mX0_dimensionsOf 1000 [.ref 0, .int (nI a)] (wC (nI d) tv tn tc tm te qd qv en hv cz r1 r2 r3 r4 a8 a9 a10 a11 ic al cs on) (fun r w => r = some (.int (nI (dmB d a d))) ∧ w = (wC (nI d) tv tn tc tm te qd qv en hv cz r1 r2 r3 r4 a8 a9 a10 a11 ic al cs on)) := by
  show tg_G _ _ _ _ _ _ _ [.ref 0, .int (nI a), .null, .null, .null] [] _
  unfold wC
  refine tg_go bX0_dimensionsOf_0 ?_
  simp only [ti_aload, ti_getf, ti_iload, ti_istore, ti_isub, ti_push, tg_s1, tg_cl, List.getElem?_cons_zero, List.getElem?_cons_succ, List.set_cons_zero, List.set_cons_succ, true_and]
  have h := kX0_dimensionsOf_l (l := l) (tv := tv) (tc := tc) (tm := tm) (te := te) (qd := qd) (qv := qv) (en := en) (hv := hv) (cz := cz) (r1 := r1) (r2 := r2) (r3 := r3) (r4 := r4) (a8 := a8) (a9 := a9) (a10 := a10) (a11 := a11) (ic := ic) (al := al) (cs := cs) (on := on) (tn := tn) (x1 := nI a) (K := fun r w => r = some (.int (nI (dmB d a d))) ∧ w = (wC (nI d) tv tn tc tm te qd qv en hv cz r1 r2 r3 r4 a8 a9 a10 a11 ic al cs on)) hd ha d 0 (by omega) ⟨rfl, rfl⟩
  rw [Nat.pow_zero, Nat.div_one] at h
  exact h
theorem kX0_within_l {e q : Nat} {x1 : Int32} (hd : d ≤ 4) (he : e < 2 ^ 31) (hq : q < 2 ^ 31) : ∀ (r t : Nat), r + t = d → K (some (.int (nI (smD (wiF d e q) d)))) (wC (nI d) tv tn tc tm te qd qv en hv cz r1 r2 r3 r4 a8 a9 a10 a11 ic al cs on) → tg_G l mX0_within 1000 K 0 0 19 [.ref 0, .int x1, .int (nI q), .int (nI (smD (wiF d e q) t)), .int (nI (7 ^ t)), .int (nI (e / 7 ^ t)), .int (nI r - 1)] [] (wC (nI d) tv tn tc tm te qd qv en hv cz r1 r2 r3 r4 a8 a9 a10 a11 ic al cs on) := by
  intro r
  induction r with
  | zero =>
    intro t hrt hK
    obtain rfl : t = d := by omega
    unfold wC at hK ⊢
    refine tg_go bX0_within_19 ?_
    simp only [ti_iload, List.getElem?_cons_zero, List.getElem?_cons_succ, true_and]
    refine g_if_lt (tgt := 64) dX0_within_21 rfl (fun h21 => ?_) (fun h21 => ?_)
    · refine tg_go bX0_within_64 ?_
      simp only [ti_iload, List.getElem?_cons_zero, List.getElem?_cons_succ, true_and]
      refine g_iret dX0_within_65 rfl ?_
      exact hK
    · exact absurd (by decide) h21
  | succ r ih =>
    intro t hrt hK
    have hat : e / 7 ^ t < 2 ^ 31 := Nat.lt_of_le_of_lt (Nat.div_le_self _ _) he
    have edg : e / 7 ^ t % 7 = dg t e := rfl
    have ediv : e / 7 ^ t / 7 = e / 7 ^ (t + 1) := by rw [Nat.div_div_eq_div_mul, ← Nat.pow_succ]
    have ep : nI (7 ^ t) * 7 = nI (7 ^ (t + 1)) := pk_mul (7 ^ t) 7
    unfold wC at ih hK ⊢
    rw [show nI (r + 1) - 1 = nI r from nI_pred r]
    refine tg_go bX0_within_19 ?_
    simp only [ti_iload, List.getElem?_cons_zero, List.getElem?_cons_succ, true_and]
    refine g_if_lt (tgt := 64) dX0_within_21 rfl (fun h21 => ?_) (fun h21 => ?_)
    · exact absurd h21 (nI_pos (by omega))
    · refine tg_go bX0_within_24 ?_
      simp only [ti_iand, ti_iload, ti_ishr, ti_push, List.getElem?_cons_zero, List.getElem?_cons_succ, true_and]
      refine g_if_eq (tgt := 44) dX0_within_30 rfl (fun h30 => ?_) (fun h30 => ?_)
      · rw [nI_bit hq (by omega)] at h30
        refine tg_go bX0_within_44 ?_
        simp only [ti_idiv, ti_iinc, ti_iload, ti_imul, ti_istore, ti_push, tg_s1, tg_cl, List.getElem?_cons_zero, List.getElem?_cons_succ, List.set_cons_zero, List.set_cons_succ, true_and]
        rw [div7 hat, ediv, ep]
        refine ⟨ne7, ?_⟩
        refine g_goto (tgt := 19) dX0_within_61 rfl ?_
        have h2 := ih (t + 1) (by omega) hK
        rw [show nI r - 1 = nI r + -1 from by rw [Int32.sub_eq_add_neg]] at h2
        rw [smD, show wiF d e q t = 0 from by unfold wiF; rw [show d - 1 - t = r by omega, h30, if_neg (by decide)], Nat.zero_mul, Nat.add_zero] at h2
        exact h2
      · rw [nI_bit hq (by omega)] at h30
        have h30 := eq_true_of_ne_false h30
        refine tg_go bX0_within_33 ?_
        simp only [ti_iadd, ti_iload, ti_imul, ti_irem, ti_istore, ti_push, tg_s1, tg_cl, List.getElem?_cons_zero, List.getElem?_cons_succ, List.set_cons_zero, List.set_cons_succ, true_and]
        rw [rem7 hat, edg, pk_mul, nI_add]
        refine ⟨ne7, ?_⟩
        refine tg_go bX0_within_44 ?_
        simp only [ti_idiv, ti_iinc, ti_iload, ti_imul, ti_istore, ti_push, tg_s1, tg_cl, List.getElem?_cons_zero, List.getElem?_cons_succ, List.set_cons_zero, List.set_cons_succ, true_and]
        rw [div7 hat, ediv, ep]
        refine ⟨ne7, ?_⟩
        refine g_goto (tgt := 19) dX0_within_61 rfl ?_
        have h2 := ih (t + 1) (by omega) hK
        rw [show nI r - 1 = nI r + -1 from by rw [Int32.sub_eq_add_neg]] at h2
        rw [smD, show wiF d e q t = dg t e from by unfold wiF; rw [show d - 1 - t = r by omega, h30, if_pos rfl]] at h2
        exact h2
theorem kX0_within {e q : Nat} (hd : d ≤ 4) (he : e < 2 ^ 31) (hq : q < 2 ^ 31) : tg_Ct l mX0_within 1000 [.ref 0, .int (nI e), .int (nI q)] (wC (nI d) tv tn tc tm te qd qv en hv cz r1 r2 r3 r4 a8 a9 a10 a11 ic al cs on) (fun r w => r = some (.int (nI (smD (wiF d e q) d))) ∧ w = (wC (nI d) tv tn tc tm te qd qv en hv cz r1 r2 r3 r4 a8 a9 a10 a11 ic al cs on)) := by
  show tg_G _ _ _ _ _ _ _ [.ref 0, .int (nI e), .int (nI q), .null, .null, .null, .null] [] _
  unfold wC
  refine tg_go bX0_within_0 ?_
  simp only [ti_aload, ti_getf, ti_iload, ti_istore, ti_isub, ti_push, tg_s1, tg_cl, List.getElem?_cons_zero, List.getElem?_cons_succ, List.set_cons_zero, List.set_cons_succ, true_and]
  have h := kX0_within_l (l := l) (tv := tv) (tc := tc) (tm := tm) (te := te) (qd := qd) (qv := qv) (en := en) (hv := hv) (cz := cz) (r1 := r1) (r2 := r2) (r3 := r3) (r4 := r4) (a8 := a8) (a9 := a9) (a10 := a10) (a11 := a11) (ic := ic) (al := al) (cs := cs) (on := on) (tn := tn) (x1 := nI e) (K := fun r w => r = some (.int (nI (smD (wiF d e q) d))) ∧ w = (wC (nI d) tv tn tc tm te qd qv en hv cz r1 r2 r3 r4 a8 a9 a10 a11 ic al cs on)) hd he hq d 0 (by omega) ⟨rfl, rfl⟩
  rw [Nat.pow_zero, Nat.div_one] at h
  exact h
theorem kX0_isInCube {a : Nat} {p : Nat → Bool} (hh : hvOK hv d n c) (hd : d ≤ 4) (hn : n ≤ 40) (hs : s ≤ 9) (hc : cOK d n c) (ht : ∀ i, i < n → tc i = nI (c i)) (ha : a < 2 ^ 31) : tg_Ct l mX0_isInCube 1000 [.ref 0, .int (nI a), .long (lN (mkN p n))] (wC (nI d) tv (nI n) tc tm (nI s) qd qv en hv cz r1 r2 r3 r4 a8 a9 a10 a11 ic al cs on) (fun r w => r = some (.int (bZ (inQ d n s c a p))) ∧ w = (wC (nI d) tv (nI n) tc tm (nI s) qd qv en hv cz r1 r2 r3 r4 a8 a9 a10 a11 ic al cs on)) := by
  refine tg_gen (fun K0 hK0 => ?_)
  have hp7 := pow7 hd
  have hgm := gMany_le p n
  have eo := oI_eq (o := gClo d p c n) (a := a) ha (fun x hx => by have := gClo_lt n (fun i hi => (hc i hi).1) x hx; omega)
  unfold inQ at hK0
  show tg_G _ _ _ _ _ _ _ [.ref 0, .int (nI a), .long (lN (mkN p n)), .null] [] _
  unfold wC
  refine tg_go bX0_isInCube_0 ?_
  simp only [ti_lload, List.getElem?_cons_zero, List.getElem?_cons_succ, true_and]
  refine tg_cP vX0_isInCube_1 (kJ13_bitCount) rfl rfl (Nat.le_of_ble_eq_true rfl) (Nat.le_of_ble_eq_true rfl) ?_
  rw [bc_mk (by omega)]
  refine tg_go bX0_isInCube_4 ?_
  simp only [ti_aload, ti_getf, List.getElem?_cons_zero, List.getElem?_cons_succ, true_and]
  refine g_icmp_lt (tgt := 27) dX0_isInCube_11 rfl (fun h11 => ?_) (fun h11 => ?_)
  · rw [lI_lt (by omega) (by omega)] at h11
    refine tg_go bX0_isInCube_27 ?_
    simp only [ti_push, List.getElem?_cons_zero, List.getElem?_cons_succ, true_and]
    refine g_zret dX0_isInCube_28 rfl (by first | exact Or.inl rfl | exact Or.inr rfl | assumption) ?_
    exact hK0 _ _ ⟨by rw [decide_eq_false (by omega)]; rfl, rfl⟩
  · rw [lI_lt (by omega) (by omega)] at h11
    refine tg_go bX0_isInCube_14 ?_
    simp only [ti_aload, ti_lload, List.getElem?_cons_zero, List.getElem?_cons_succ, true_and]
    refine tg_cW vX0_isInCube_16 (kX0_closureOf (p := p) hh hd hn hc ht) rfl rfl rfl rfl (Nat.le_of_ble_eq_true rfl) (Nat.le_of_ble_eq_true rfl) (Nat.le_of_ble_eq_true rfl) rfl ?_
    unfold wC
    refine tg_go bX0_isInCube_19 ?_
    simp only [ti_iload, List.getElem?_cons_zero, List.getElem?_cons_succ, true_and]
    refine g_icmp_ne (tgt := 27) dX0_isInCube_20 rfl (fun h20 => ?_) (fun h20 => ?_)
    · rw [eo] at h20
      refine tg_go bX0_isInCube_27 ?_
      simp only [ti_push, List.getElem?_cons_zero, List.getElem?_cons_succ, true_and]
      refine g_zret dX0_isInCube_28 rfl (by first | exact Or.inl rfl | exact Or.inr rfl | assumption) ?_
      exact hK0 _ _ ⟨by rw [decide_eq_true (show s ≤ gMany p n by omega), decide_eq_false h20]; rfl, rfl⟩
    · rw [eo] at h20
      refine tg_go bX0_isInCube_23 ?_
      simp only [ti_push, List.getElem?_cons_zero, List.getElem?_cons_succ, true_and]
      refine g_goto (tgt := 28) dX0_isInCube_24 rfl ?_
      refine g_zret dX0_isInCube_28 rfl (by first | exact Or.inl rfl | exact Or.inr rfl | assumption) ?_
      exact hK0 _ _ ⟨by rw [decide_eq_true (show s ≤ gMany p n by omega), decide_eq_true h20]; rfl, rfl⟩
end CELLS2
