/-! THE CLASS: Cells: covers and what they share -/
theorem mk_low {p : Nat → Bool} {i0 : Nat} (h0 : p i0 = true) (hlo : ∀ j, j < i0 → p j = false) : ∀ m, mkN p (i0 + 1 + m) = mkN (fun j => if j < i0 then true else if j = i0 then false else p j) (i0 + 1 + m) + 1
  | 0 => by
    have h1 : 0 < 2 ^ i0 := Nat.two_pow_pos i0
    show mkN p (i0 + 1) = mkN _ (i0 + 1) + 1
    rw [mkN, mkN, h0, mk_none hlo, mk_congr (q := fun _ => true) (fun j hj => by rw [if_pos hj]), mk_all]
    simp
    omega
  | m + 1 => by
    show mkN p (i0 + 1 + m + 1) = mkN _ (i0 + 1 + m + 1) + 1
    rw [mkN, mkN, mk_low h0 hlo m, if_neg (show ¬ i0 + 1 + m < i0 by omega), if_neg (show ¬ i0 + 1 + m = i0 by omega)]
    omega
theorem neg_lN {m : Nat} (h0 : 0 < m) (h : m < 2 ^ 63) : -(lN m) = lN (m - 1) ^^^ (-1) := by
  apply Int64.toBitVec_inj.mp
  rw [Int64.toBitVec_neg, Int64.toBitVec_xor, show (-1 : Int64).toBitVec = BitVec.allOnes 64 by decide, BitVec.xor_allOnes]
  apply BitVec.eq_of_toNat_eq
  rw [BitVec.toNat_neg, BitVec.toNat_not, lN_tn (by omega), lN_tn (by omega)]
  rw [Nat.mod_eq_of_lt (by omega)]
  omega
theorem low_bit {p : Nat → Bool} {n i0 : Nat} (hn : n ≤ 40) (hi : i0 < n) (h0 : p i0 = true) (hlo : ∀ j, j < i0 → p j = false) : bcL ((lN (mkN p n) &&& -(lN (mkN p n))) - 1) = nI i0 := by
  have hlt := mkN_lt p n
  have h40 : 2 ^ n ≤ 2 ^ 40 := Nat.pow_le_pow_right (by decide) hn
  have e := mk_low h0 hlo (n - i0 - 1)
  rw [show i0 + 1 + (n - i0 - 1) = n by omega] at e
  have e1 : lN (mkN p n) &&& -(lN (mkN p n)) = lN (mkN (fun i => decide (i = i0)) n) := by
    rw [neg_lN (by omega) (by omega), show mkN p n - 1 = mkN (fun j => if j < i0 then true else if j = i0 then false else p j) n by omega, mk_not]
    congr 1
    refine mk_congr (fun i hi2 => ?_)
    by_cases q1 : i < i0
    · rw [hlo i q1, decide_eq_false (by omega)]
      rfl
    · rw [if_neg q1]
      by_cases q2 : i = i0
      · rw [if_pos q2, decide_eq_true q2, q2, h0]
        rfl
      · rw [if_neg q2, decide_eq_false q2]
        cases p i <;> rfl
  rw [e1, mk_one hi, show (1 : Int64) = lN 1 from rfl, lN_sub Nat.one_le_two_pow, ← mk_all, bc_mk (by omega)]
  congr 1
  have : ∀ k, gMany (fun _ => true) k = k := fun k => by
    induction k with
    | zero => rfl
    | succ k ih => rw [gMany, ih]; simp
  exact this i0
def wC (td : Int32) (tv : Nat → Int32) (tn : Int32) (tc tm : Nat → Int32) (te : Int32) (qd qv : Int32) (en : Nat → Int32) (hv : Nat → Int64) (cz : Int32) (r1 r2 r3 r4 : Nat) (a8 : Nat → Int32) (a9 : Nat → Int64) (a10 : Nat → Int32) (a11 : Nat → Int64) (ic al cs on : Nat → Int32) : List va_E :=
  [.inr (0, [.ref 1, .ref 5, .ref 7, .int cz, .ref r1, .ref r2, .ref r3, .ref r4, .ref 12, .ref 13, .ref 14, .ref 15]), .inr (5, [.int td, .ref 2, .int tn, .ref 3, .ref 4, .int te]), .inl (0, 4, .inl tv), .inl (0, 40, .inl tc), .inl (0, 40, .inl tm), .inr (3, [.int qd, .int qv, .ref 6]), .inl (0, 16, .inl en), .inl (3, 24, .inr (.inl hv)), .inl (0, 640, .inl a8), .inl (3, 640, .inr (.inl a9)), .inl (0, 640, .inl a10), .inl (3, 640, .inr (.inl a11)), .inl (1, 640, .inl ic), .inl (0, 41, .inl al), .inl (0, 41, .inl cs), .inl (0, 16, .inl on)]
/-- which entries have a value -/
def hvOK (hv : Nat → Int64) (d n : Nat) (c : Nat → Nat) : Prop := ∀ k, k < d → ∀ f, 1 ≤ f → f ≤ 6 → hv (k * 6 + f - 1) = lN (mkN (fun i => decide (dg (d - 1 - k) (c i) = f)) n)
/-- the dimensions in which a code has values, the last t of them -/
def dmB (d a : Nat) : Nat → Nat
  | 0 => 0
  | t + 1 => if 0 < dg t a then dmB d a t ||| 2 ^ (d - 1 - t) else dmB d a t
theorem dmB_lt {d : Nat} (hd : d ≤ 4) (a : Nat) : ∀ t, dmB d a t < 16
  | 0 => by rw [dmB]; decide
  | t + 1 => by
    have ih := dmB_lt hd a t
    rw [dmB]
    split
    · exact or_lt16 ih (by omega)
    · exact ih
def wiF (d e s t : Nat) : Nat := if btN s (d - 1 - t) = true then dg t e else 0
theorem wiF_lt {d e s : Nat} (t : Nat) : wiF d e s t < 7 := by
  unfold wiF
  split
  · exact dg_lt _ _
  · decide
section CELLS1
variable {l : tg_Ln} {K : Option Value → List va_E → Prop} {tv tc tm en a8 a10 ic al cs on : Nat → Int32} {hv a9 a11 : Nat → Int64} {td tn te qd qv cz : Int32} {r1 r2 r3 r4 : Nat} {d n s : Nat} {v c : Nat → Nat}
theorem kX0_havingFigure {k f : Nat} (hh : hvOK hv d n c) (hd : d ≤ 4) (hk : k < d) (h1 : 1 ≤ f) (h6 : f ≤ 6) : tg_Ct l mX0_havingFigure 1000 [.ref 0, .int (nI k), .int (nI f)] (wC td tv tn tc tm te qd qv en hv cz r1 r2 r3 r4 a8 a9 a10 a11 ic al cs on) (fun r w => r = some (.long (lN (mkN (fun i => decide (dg (d - 1 - k) (c i) = f)) n))) ∧ w = (wC td tv tn tc tm te qd qv en hv cz r1 r2 r3 r4 a8 a9 a10 a11 ic al cs on)) := by
  have e := hh k hk f h1 h6
  show tg_G _ _ _ _ _ _ _ [.ref 0, .int (nI k), .int (nI f), .null] [] _
  unfold wC
  refine tg_go bX0_havingFigure_0 ?_
  simp only [ti_iadd, ti_iload, ti_imul, ti_istore, ti_isub, ti_push, tg_s1, tg_cl, List.getElem?_cons_zero, List.getElem?_cons_succ, List.set_cons_zero, List.set_cons_succ, true_and]
  rw [show nI k * 6 = nI (k * 6) from pk_mul k 6, nI_add, show nI (k * 6 + f) - 1 = nI (k * 6 + f - 1) from pk_sub (a := k * 6 + f) (b := 1) (by omega)]
  refine g_if_lt (tgt := 31) dX0_havingFigure_10 rfl (fun h10 => ?_) (fun h10 => ?_)
  · exact absurd h10 (nI_pos (by omega))
  · refine tg_go bX0_havingFigure_13 ?_
    simp only [ti_alen, ti_aload, ti_getf, ti_iload, List.getElem?_cons_zero, List.getElem?_cons_succ, true_and]
    refine ⟨by decide, ?_⟩
    refine g_icmp_ge (tgt := 31) dX0_havingFigure_19 rfl (fun h19 => ?_) (fun h19 => ?_)
    · have h19 : nI 24 ≤ nI (k * 6 + f - 1) := h19
      rw [lI_le (by omega) (by omega)] at h19
      omega
    · refine tg_go bX0_havingFigure_22 ?_
      simp only [ti_aload, ti_getf, ti_iload, ti_lald, List.getElem?_cons_zero, List.getElem?_cons_succ, true_and]
      rw [nI_clamp (by omega), e]
      refine ⟨vp_in_nI (by omega) (by omega), ?_⟩
      refine g_goto (tgt := 32) dX0_havingFigure_28 rfl ?_
      refine g_lret dX0_havingFigure_32 rfl ?_
      exact ⟨rfl, rfl⟩
theorem kX0_coverOf_l {a : Nat} {x1 : Int32} (hh : hvOK hv d n c) (hd : d ≤ 4) (ha : a < 2 ^ 31) : ∀ (r t : Nat) (x6 : Value), r + t = d → K (some (.long (lN (mkN (cvP d c a) n)))) (wC (nI d) tv tn tc tm te qd qv en hv cz r1 r2 r3 r4 a8 a9 a10 a11 ic al cs on) → tg_G l mX0_coverOf 1000 K 0 0 26 [.ref 0, .int x1, .long (lN (mkN (fun i => covR t a (c i)) n)), .null, .int (nI (a / 7 ^ t)), .int (nI r - 1), x6] [] (wC (nI d) tv tn tc tm te qd qv en hv cz r1 r2 r3 r4 a8 a9 a10 a11 ic al cs on) := by
  intro r
  induction r with
  | zero =>
    intro t x6 hrt hK
    obtain rfl : t = d := by omega
    unfold wC at hK ⊢
    refine tg_go bX0_coverOf_26 ?_
    simp only [ti_iload, List.getElem?_cons_zero, List.getElem?_cons_succ, true_and]
    refine g_if_lt (tgt := 67) dX0_coverOf_28 rfl (fun h28 => ?_) (fun h28 => ?_)
    · refine tg_go bX0_coverOf_67 ?_
      simp only [ti_lload, List.getElem?_cons_zero, List.getElem?_cons_succ, true_and]
      refine g_lret dX0_coverOf_68 rfl ?_
      exact hK
    · exact absurd (by decide) h28
  | succ r ih =>
    intro t x6 hrt hK
    have hat : a / 7 ^ t < 2 ^ 31 := Nat.lt_of_le_of_lt (Nat.div_le_self _ _) ha
    have hdg := dg_lt t a
    have edg : a / 7 ^ t % 7 = dg t a := rfl
    have ediv : a / 7 ^ t / 7 = a / 7 ^ (t + 1) := by rw [Nat.div_div_eq_div_mul, ← Nat.pow_succ]
    unfold wC at ih hK ⊢
    rw [show nI (r + 1) - 1 = nI r from nI_pred r]
    refine tg_go bX0_coverOf_26 ?_
    simp only [ti_iload, List.getElem?_cons_zero, List.getElem?_cons_succ, true_and]
    refine g_if_lt (tgt := 67) dX0_coverOf_28 rfl (fun h28 => ?_) (fun h28 => ?_)
    · exact absurd h28 (nI_pos (by omega))
    · refine tg_go bX0_coverOf_31 ?_
      simp only [ti_iload, ti_irem, ti_istore, ti_push, tg_s1, tg_cl, List.getElem?_cons_zero, List.getElem?_cons_succ, List.set_cons_zero, List.set_cons_succ, true_and]
      rw [rem7 hat, edg]
      refine ⟨ne7, ?_⟩
      refine g_if_le (tgt := 54) dX0_coverOf_40 rfl (fun h40 => ?_) (fun h40 => ?_)
      · rw [fa_lit, lI_le (by omega) (by omega)] at h40
        refine tg_go bX0_coverOf_54 ?_
        simp only [ti_idiv, ti_iinc, ti_iload, ti_istore, ti_push, tg_s1, tg_cl, List.getElem?_cons_zero, List.getElem?_cons_succ, List.set_cons_zero, List.set_cons_succ, true_and]
        rw [div7 hat, ediv]
        refine ⟨ne7, ?_⟩
        refine g_goto (tgt := 26) dX0_coverOf_64 rfl ?_
        have h2 := ih (t + 1) (.int (nI (dg t a))) (by omega) hK
        rw [show nI r - 1 = nI r + -1 from by rw [Int32.sub_eq_add_neg]] at h2
        rw [mk_congr (p := fun i => covR (t + 1) a (c i)) (q := fun i => covR t a (c i)) (fun i _ => by rw [covR_snoc, decide_eq_true (show dg t a = 0 by omega)]; simp)] at h2
        exact h2
      · rw [fa_lit, lI_le (by omega) (by omega)] at h40
        refine tg_go bX0_coverOf_43 ?_
        simp only [ti_aload, ti_iload, ti_lload, List.getElem?_cons_zero, List.getElem?_cons_succ, true_and]
        refine tg_cW vX0_coverOf_49 (kX0_havingFigure (k := r) (f := dg t a) hh hd (by omega) (by omega) (by omega)) rfl rfl rfl rfl (Nat.le_of_ble_eq_true rfl) (Nat.le_of_ble_eq_true rfl) (Nat.le_of_ble_eq_true rfl) rfl ?_
        unfold wC
        refine tg_go bX0_coverOf_52 ?_
        simp only [ti_land, ti_lstore, tg_s2, tg_cl, List.getElem?_cons_zero, List.getElem?_cons_succ, List.set_cons_zero, List.set_cons_succ, true_and]
        rw [mk_and]
        refine tg_go bX0_coverOf_54 ?_
        simp only [ti_idiv, ti_iinc, ti_iload, ti_istore, ti_push, tg_s1, tg_cl, List.getElem?_cons_zero, List.getElem?_cons_succ, List.set_cons_zero, List.set_cons_succ, true_and]
        rw [div7 hat, ediv]
        refine ⟨ne7, ?_⟩
        refine g_goto (tgt := 26) dX0_coverOf_64 rfl ?_
        have h2 := ih (t + 1) (.int (nI (dg t a))) (by omega) hK
        rw [show nI r - 1 = nI r + -1 from by rw [Int32.sub_eq_add_neg]] at h2
        rw [mk_congr (p := fun i => covR (t + 1) a (c i)) (q := fun i => covR t a (c i) && decide (dg (d - 1 - r) (c i) = dg t a)) (fun i _ => by
          rw [covR_snoc, decide_eq_false (show ¬ dg t a = 0 by omega), Bool.false_or, show d - 1 - r = t by omega]
          congr 1
          exact decide_eq_decide.mpr eq_comm)] at h2
        exact h2
theorem kX0_coverOf {a : Nat} (hh : hvOK hv d n c) (hd : d ≤ 4) (hn : n ≤ 40) (ha : a < 2 ^ 31) : tg_Ct l mX0_coverOf 1000 [.ref 0, .int (nI a)] (wC (nI d) tv (nI n) tc tm te qd qv en hv cz r1 r2 r3 r4 a8 a9 a10 a11 ic al cs on) (fun r w => r = some (.long (lN (mkN (cvP d c a) n))) ∧ w = (wC (nI d) tv (nI n) tc tm te qd qv en hv cz r1 r2 r3 r4 a8 a9 a10 a11 ic al cs on)) := by
  show tg_G _ _ _ _ _ _ _ [.ref 0, .int (nI a), .null, .null, .null, .null, .null] [] _
  unfold wC
  refine tg_go bX0_coverOf_0 ?_
  simp only [ti_aload, ti_getf, ti_iload, ti_istore, ti_isub, ti_lshl, ti_lstore, ti_lsub, ti_push, tg_s1, tg_cl, tg_s2, List.getElem?_cons_zero, List.getElem?_cons_succ, List.set_cons_zero, List.set_cons_succ, true_and]
  rw [full_mk (by omega)]
  have h := kX0_coverOf_l (l := l) (tv := tv) (tc := tc) (tm := tm) (te := te) (qd := qd) (qv := qv) (en := en) (cz := cz) (r1 := r1) (r2 := r2) (r3 := r3) (r4 := r4) (a8 := a8) (a9 := a9) (a10 := a10) (a11 := a11) (ic := ic) (al := al) (cs := cs) (on := on) (tn := nI n) (x1 := nI a) (K := fun r w => r = some (.long (lN (mkN (cvP d c a) n))) ∧ w = (wC (nI d) tv (nI n) tc tm te qd qv en hv cz r1 r2 r3 r4 a8 a9 a10 a11 ic al cs on)) hh hd ha d 0 .null (by omega) ⟨rfl, rfl⟩
  rw [Nat.pow_zero, Nat.div_one] at h
  exact h
theorem kX0_sharedWith_l {e : Nat} {p : Nat → Bool} {x1 : Int32} (hh : hvOK hv d n c) (hd : d ≤ 4) (hn : n ≤ 40) (he : e < 2 ^ 31) : ∀ (r t : Nat) (x8 : Value), r + t = d → K (some (.int (nI (smD (shF c n p e) d)))) (wC (nI d) tv tn tc tm te qd qv en hv cz r1 r2 r3 r4 a8 a9 a10 a11 ic al cs on) → tg_G l mX0_sharedWith 1000 K 0 0 20 [.ref 0, .int x1, .long (lN (mkN p n)), .null, .int (nI (smD (shF c n p e) t)), .int (nI (7 ^ t)), .int (nI (e / 7 ^ t)), .int (nI r - 1), x8] [] (wC (nI d) tv tn tc tm te qd qv en hv cz r1 r2 r3 r4 a8 a9 a10 a11 ic al cs on) := by
  intro r
  induction r with
  | zero =>
    intro t x8 hrt hK
    obtain rfl : t = d := by omega
    unfold wC at hK ⊢
    refine tg_go bX0_sharedWith_20 ?_
    simp only [ti_iload, List.getElem?_cons_zero, List.getElem?_cons_succ, true_and]
    refine g_if_lt (tgt := 86) dX0_sharedWith_22 rfl (fun h22 => ?_) (fun h22 => ?_)
    · refine tg_go bX0_sharedWith_86 ?_
      simp only [ti_iload, List.getElem?_cons_zero, List.getElem?_cons_succ, true_and]
      refine g_iret dX0_sharedWith_88 rfl ?_
      exact hK
    · exact absurd (by decide) h22
  | succ r ih =>
    intro t x8 hrt hK
    have hat : e / 7 ^ t < 2 ^ 31 := Nat.lt_of_le_of_lt (Nat.div_le_self _ _) he
    have hdg := dg_lt t e
    have edg : e / 7 ^ t % 7 = dg t e := rfl
    have ediv : e / 7 ^ t / 7 = e / 7 ^ (t + 1) := by rw [Nat.div_div_eq_div_mul, ← Nat.pow_succ]
    have ep : nI (7 ^ t) * 7 = nI (7 ^ (t + 1)) := pk_mul (7 ^ t) 7
    unfold wC at ih hK ⊢
    rw [show nI (r + 1) - 1 = nI r from nI_pred r]
    refine tg_go bX0_sharedWith_20 ?_
    simp only [ti_iload, List.getElem?_cons_zero, List.getElem?_cons_succ, true_and]
    refine g_if_lt (tgt := 86) dX0_sharedWith_22 rfl (fun h22 => ?_) (fun h22 => ?_)
    · exact absurd h22 (nI_pos (by omega))
    · refine tg_go bX0_sharedWith_25 ?_
      simp only [ti_iload, ti_irem, ti_istore, ti_push, tg_s1, tg_cl, List.getElem?_cons_zero, List.getElem?_cons_succ, List.set_cons_zero, List.set_cons_succ, true_and]
      rw [rem7 hat, edg]
      refine ⟨ne7, ?_⟩
      refine g_if_le (tgt := 66) dX0_sharedWith_34 rfl (fun h34 => ?_) (fun h34 => ?_)
      · rw [fa_lit, lI_le (by omega) (by omega)] at h34
        refine tg_go bX0_sharedWith_66 ?_
        simp only [ti_idiv, ti_iinc, ti_iload, ti_imul, ti_istore, ti_push, tg_s1, tg_cl, List.getElem?_cons_zero, List.getElem?_cons_succ, List.set_cons_zero, List.set_cons_succ, true_and]
        rw [div7 hat, ediv, ep]
        refine ⟨ne7, ?_⟩
        refine g_goto (tgt := 20) dX0_sharedWith_83 rfl ?_
        have h2 := ih (t + 1) (.int (nI (dg t e))) (by omega) hK
        rw [show nI r - 1 = nI r + -1 from by rw [Int32.sub_eq_add_neg]] at h2
        rw [smD, show shF c n p e t = 0 from by unfold shF; rw [if_neg (by omega)], Nat.zero_mul, Nat.add_zero] at h2
        exact h2
      · rw [fa_lit, lI_le (by omega) (by omega)] at h34
        refine tg_go bX0_sharedWith_37 ?_
        simp only [ti_aload, ti_iload, ti_lload, List.getElem?_cons_zero, List.getElem?_cons_succ, true_and]
        refine tg_cW vX0_sharedWith_43 (kX0_havingFigure (k := r) (f := dg t e) hh hd (by omega) (by omega) (by omega)) rfl rfl rfl rfl (Nat.le_of_ble_eq_true rfl) (Nat.le_of_ble_eq_true rfl) (Nat.le_of_ble_eq_true rfl) rfl ?_
        unfold wC
        refine tg_go bX0_sharedWith_46 ?_
        simp only [ti_land, ti_lcmp, ti_lxor, ti_push, List.getElem?_cons_zero, List.getElem?_cons_succ, true_and]
        rw [mk_not]
        refine g_if_ne (tgt := 66) dX0_sharedWith_53 rfl (fun h53 => ?_) (fun h53 => ?_)
        · rw [cmp_eq0, mk_zero hn] at h53
          have hal : ¬ alB c n p t (dg t e) = true := fun q => h53 (fun i hi => by
            cases hp : p i with
            | false => rfl
            | true =>
              have := alB_iff.mp q i hi hp
              simp [show d - 1 - r = t by omega, this])
          refine tg_go bX0_sharedWith_66 ?_
          simp only [ti_idiv, ti_iinc, ti_iload, ti_imul, ti_istore, ti_push, tg_s1, tg_cl, List.getElem?_cons_zero, List.getElem?_cons_succ, List.set_cons_zero, List.set_cons_succ, true_and]
          rw [div7 hat, ediv, ep]
          refine ⟨ne7, ?_⟩
          refine g_goto (tgt := 20) dX0_sharedWith_83 rfl ?_
          have h2 := ih (t + 1) (.int (nI (dg t e))) (by omega) hK
          rw [show nI r - 1 = nI r + -1 from by rw [Int32.sub_eq_add_neg]] at h2
          rw [smD, show shF c n p e t = 0 from by unfold shF; rw [if_neg (fun q => hal q.2)], Nat.zero_mul, Nat.add_zero] at h2
          exact h2
        · rw [cmp_eq0, mk_zero hn] at h53
          have hal : alB c n p t (dg t e) = true := alB_iff.mpr (fun i hi hp => by
            have := h53 i hi
            rw [hp, show d - 1 - r = t by omega] at this
            simpa using this)
          refine tg_go bX0_sharedWith_56 ?_
          simp only [ti_iadd, ti_iload, ti_imul, ti_istore, tg_s1, tg_cl, List.getElem?_cons_zero, List.getElem?_cons_succ, List.set_cons_zero, List.set_cons_succ, true_and]
          rw [pk_mul, nI_add]
          refine tg_go bX0_sharedWith_66 ?_
          simp only [ti_idiv, ti_iinc, ti_iload, ti_imul, ti_istore, ti_push, tg_s1, tg_cl, List.getElem?_cons_zero, List.getElem?_cons_succ, List.set_cons_zero, List.set_cons_succ, true_and]
          rw [div7 hat, ediv, ep]
          refine ⟨ne7, ?_⟩
          refine g_goto (tgt := 20) dX0_sharedWith_83 rfl ?_
          have h2 := ih (t + 1) (.int (nI (dg t e))) (by omega) hK
          rw [show nI r - 1 = nI r + -1 from by rw [Int32.sub_eq_add_neg]] at h2
          rw [smD, show shF c n p e t = dg t e from by unfold shF; rw [if_pos ⟨by omega, hal⟩]] at h2
          exact h2
theorem kX0_sharedWith {e : Nat} {p : Nat → Bool} (hh : hvOK hv d n c) (hd : d ≤ 4) (hn : n ≤ 40) (he : e < 2 ^ 31) : tg_Ct l mX0_sharedWith 1000 [.ref 0, .int (nI e), .long (lN (mkN p n))] (wC (nI d) tv tn tc tm te qd qv en hv cz r1 r2 r3 r4 a8 a9 a10 a11 ic al cs on) (fun r w => r = some (.int (nI (smD (shF c n p e) d))) ∧ w = (wC (nI d) tv tn tc tm te qd qv en hv cz r1 r2 r3 r4 a8 a9 a10 a11 ic al cs on)) := by
  show tg_G _ _ _ _ _ _ _ [.ref 0, .int (nI e), .long (lN (mkN p n)), .null, .null, .null, .null, .null, .null] [] _
  unfold wC
  refine tg_go bX0_sharedWith_0 ?_
  simp only [ti_aload, ti_getf, ti_iload, ti_istore, ti_isub, ti_push, tg_s1, tg_cl, List.getElem?_cons_zero, List.getElem?_cons_succ, List.set_cons_zero, List.set_cons_succ, true_and]
  have h := kX0_sharedWith_l (l := l) (tv := tv) (tc := tc) (tm := tm) (te := te) (qd := qd) (qv := qv) (en := en) (cz := cz) (r1 := r1) (r2 := r2) (r3 := r3) (r4 := r4) (a8 := a8) (a9 := a9) (a10 := a10) (a11 := a11) (ic := ic) (al := al) (cs := cs) (on := on) (tn := tn) (x1 := nI e) (p := p) (K := fun r w => r = some (.int (nI (smD (shF c n p e) d))) ∧ w = (wC (nI d) tv tn tc tm te qd qv en hv cz r1 r2 r3 r4 a8 a9 a10 a11 ic al cs on)) hh hd hn he d 0 .null (by omega) ⟨rfl, rfl⟩
  rw [Nat.pow_zero, Nat.div_one] at h
  exact h
end CELLS1
