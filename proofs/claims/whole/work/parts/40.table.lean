/-! THE CLASS: Table -/
def cTab (p : Nat) (td tn te : Int32) : va_E := .inr (5, [.int td, .ref (p + 1), .int tn, .ref (p + 2), .ref (p + 3), .int te])
def wT (td : Int32) (tv : Nat → Int32) (tn : Int32) (tc tm : Nat → Int32) (te : Int32) : List va_E := [.inr (5, [.int td, .ref 1, .int tn, .ref 2, .ref 3, .int te]), .inl (0, 4, .inl tv), .inl (0, 40, .inl tc), .inl (0, 40, .inl tm)]
/-- figures within bounds, the last one first, and nothing left -/
def hfR (lo : Nat) (v : Nat → Nat) : Nat → Nat → Bool
  | 0, c => decide (c = 0)
  | r + 1, c => decide (lo ≤ c % 7 ∧ c % 7 ≤ v r) && hfR lo v r (c / 7)
theorem figN_last (d c : Nat) : figN (d + 1) c d = c % 7 := by
  unfold figN
  rw [show d + 1 - 1 - d = 0 by omega, Nat.pow_zero, Nat.div_one]
theorem figN_div (d c k : Nat) (h : k < d) : figN (d + 1) c k = figN d (c / 7) k := by
  unfold figN
  rw [show d + 1 - 1 - k = (d - 1 - k) + 1 by omega, Nat.pow_succ', ← Nat.div_div_eq_div_mul]
theorem allB_congr {p q : Nat → Bool} : ∀ n, (∀ k, k < n → p k = q k) → allB p n = allB q n
  | 0, _ => rfl
  | n + 1, h => by rw [allB, allB, allB_congr n (fun k hk => h k (by omega)), h n (by omega)]
theorem hfR_eq (lo : Nat) (v : Nat → Nat) : ∀ d c, hfR lo v d c = (decide (c < 7 ^ d) && allB (fun k => decide (lo ≤ figN d c k ∧ figN d c k ≤ v k)) d)
  | 0, c => by
    rw [hfR, allB, Bool.and_true]
    congr 1
    simp
  | d + 1, c => by
    rw [hfR, hfR_eq lo v d (c / 7), allB, figN_last]
    rw [allB_congr (p := fun k => decide (lo ≤ figN (d + 1) c k ∧ figN (d + 1) c k ≤ v k)) (q := fun k => decide (lo ≤ figN d (c / 7) k ∧ figN d (c / 7) k ≤ v k)) d (fun k hk => by rw [figN_div d c k hk])]
    have e : decide (c < 7 ^ (d + 1)) = decide (c / 7 < 7 ^ d) := by
      congr 1
      rw [Nat.pow_succ, Nat.div_lt_iff_lt_mul (by decide)]
    rw [e]
    cases decide (c / 7 < 7 ^ d) <;> cases decide (lo ≤ c % 7 ∧ c % 7 ≤ v d) <;> simp
def hfB (lo : Nat) (d : Nat) (v : Nat → Nat) (x : Int32) : Bool := decide (0 ≤ x.toInt) && hfR lo v d x.toInt.toNat
theorem allB_true {p : Nat → Bool} : ∀ n, allB p n = true ↔ ∀ k, k < n → p k = true
  | 0 => ⟨fun _ k h => by omega, fun _ => rfl⟩
  | n + 1 => by
    rw [allB, Bool.and_eq_true, allB_true n]
    constructor
    · rintro ⟨h1, h2⟩ k hk
      rcases Nat.lt_succ_iff_lt_or_eq.mp hk with q | q
      · exact h1 k q
      · rw [q]; exact h2
    · exact fun h => ⟨fun k hk => h k (by omega), h n (by omega)⟩
theorem hfB_cell (d : Nat) (v : Nat → Nat) (x : Int32) : hfB 0 d v x = cellOK d v x := by
  unfold hfB cellOK
  rw [hfR_eq, Bool.eq_iff_iff]
  simp only [Bool.and_eq_true, decide_eq_true_eq, allB_true, Nat.zero_le, true_and]
  constructor
  · rintro ⟨h1, h2, h3⟩
    exact ⟨⟨h1, by omega⟩, h3⟩
  · rintro ⟨⟨h1, h2⟩, h3⟩
    exact ⟨h1, by omega, h3⟩
theorem hfB_whole (d : Nat) (v : Nat → Nat) (x : Int32) : hfB 1 d v x = wholeOK d v x := by
  unfold hfB wholeOK cellOK
  rw [hfR_eq, Bool.eq_iff_iff]
  simp only [Bool.and_eq_true, decide_eq_true_eq, allB_true]
  constructor
  · rintro ⟨h1, h2, h3⟩
    exact ⟨⟨⟨h1, by omega⟩, fun k hk => (h3 k hk).2⟩, fun k hk => (h3 k hk).1⟩
  · rintro ⟨⟨⟨h1, h2⟩, h3⟩, h4⟩
    exact ⟨h1, by omega, fun k hk => ⟨h4 k hk, h3 k hk⟩⟩
theorem tdiv7_p {x : Int} (h : 0 ≤ x) : x.tdiv 7 = x / 7 := Int.tdiv_eq_ediv_of_nonneg h
theorem tdiv7_n {x : Int} (h : x < 0) : x.tdiv 7 = -((-x) / 7) := by
  have e : x = -(-x) := by omega
  rw [e, Int.neg_tdiv, tdiv7_p (x := -x) (by omega)]
  simp
theorem i32_div7 (x : Int32) : (x / 7).toInt = x.toInt.tdiv 7 := by
  have h1 := Int32.toInt_lt x
  have h2 := Int32.le_toInt x
  have h7 : (7 : Int32).toInt = 7 := by decide
  rw [Int32.toInt_div, h7]
  by_cases h : 0 ≤ x.toInt
  · rw [tdiv7_p h]
    exact Int.bmod_eq_of_le (by omega) (by omega)
  · rw [tdiv7_n (by omega)]
    exact Int.bmod_eq_of_le (by omega) (by omega)
theorem rem_neg {x : Int32} (h : x < 0) (h0 : ¬ tg_rem x 7 < 0) : x / 7 < 0 := by
  have h1 := Int32.toInt_lt x
  have h2 := Int32.le_toInt x
  have hd := i32_div7 x
  have hx : x.toInt < 0 := by
    rw [Int32.lt_iff_toInt_lt] at h
    exact h
  rw [Int32.lt_iff_toInt_lt]
  show (x / 7).toInt < 0
  have h7 : (7 : Int32).toInt = 7 := by decide
  rw [tdiv7_n hx] at hd
  have e : (tg_rem x 7).toInt = x.toInt + (-x.toInt) / 7 * 7 := by
    unfold tg_rem
    have e1 : (x / 7 * 7).toInt = -((-x.toInt) / 7) * 7 := by
      rw [Int32.toInt_mul, hd, h7]
      exact Int.bmod_eq_of_le (by omega) (by omega)
    rw [Int32.toInt_sub, e1]
    rw [show x.toInt - -(-x.toInt / 7) * 7 = x.toInt + (-x.toInt) / 7 * 7 by omega]
    exact Int.bmod_eq_of_le (by omega) (by omega)
  rw [Int32.lt_iff_toInt_lt, e] at h0
  have h00 : ¬ x.toInt + (-x.toInt) / 7 * 7 < 0 := h0
  rw [hd]
  omega
def lMin (p : Nat → Bool) (u : Nat → Int32) : Nat → Int32
  | 0 => 99
  | n + 1 => if p n = true then (if u n < lMin p u n then u n else lMin p u n) else lMin p u n
def lMax (p : Nat → Bool) (u : Nat → Int32) : Nat → Int32
  | 0 => -99
  | n + 1 => if p n = true then (if lMax p u n < u n then u n else lMax p u n) else lMax p u n
section TAB
variable {l : tg_Ln} {K : Option Value → List va_E → Prop} {tv tc tm : Nat → Int32} {td tn te : Int32} {d n : Nat} {v : Nat → Nat}
theorem kX6_hasEntry {x : Int32} (hn : n ≤ 40) : tg_Ct l mX6_hasEntry 1000 [.ref 0, .int x] (wT td tv (nI n) tc tm te) (fun r w => r = some (.int (bZ (entOK n x))) ∧ w = (wT td tv (nI n) tc tm te)) := by
  refine tg_gen (fun K0 hK0 => ?_)
  show tg_G _ _ _ _ _ _ _ [.ref 0, .int x] [] _
  unfold wT
  refine tg_go bX6_hasEntry_0 ?_
  simp only [ti_iload, List.getElem?_cons_zero, List.getElem?_cons_succ, true_and]
  refine g_if_lt (tgt := 16) dX6_hasEntry_1 rfl (fun h1 => ?_) (fun h1 => ?_)
  · rw [Int32.lt_iff_toInt_lt] at h1
    have h1 : x.toInt < 0 := h1
    refine tg_go bX6_hasEntry_16 ?_
    simp only [ti_push, List.getElem?_cons_zero, List.getElem?_cons_succ, true_and]
    refine g_zret dX6_hasEntry_17 rfl (by first | exact Or.inl rfl | exact Or.inr rfl | assumption) ?_
    exact hK0 _ _ ⟨by rw [show entOK n x = false from decide_eq_false (by omega)]; rfl, rfl⟩
  · rw [Int32.lt_iff_toInt_lt] at h1
    have h1 : ¬ x.toInt < 0 := h1
    refine tg_go bX6_hasEntry_4 ?_
    simp only [ti_aload, ti_getf, ti_iload, List.getElem?_cons_zero, List.getElem?_cons_succ, true_and]
    refine g_icmp_ge (tgt := 16) dX6_hasEntry_9 rfl (fun h9 => ?_) (fun h9 => ?_)
    · rw [Int32.le_iff_toInt_le, nI_toInt (by omega)] at h9
      refine tg_go bX6_hasEntry_16 ?_
      simp only [ti_push, List.getElem?_cons_zero, List.getElem?_cons_succ, true_and]
      refine g_zret dX6_hasEntry_17 rfl (by first | exact Or.inl rfl | exact Or.inr rfl | assumption) ?_
      exact hK0 _ _ ⟨by rw [show entOK n x = false from decide_eq_false (by omega)]; rfl, rfl⟩
    · rw [Int32.le_iff_toInt_le, nI_toInt (by omega)] at h9
      refine tg_go bX6_hasEntry_12 ?_
      simp only [ti_push, List.getElem?_cons_zero, List.getElem?_cons_succ, true_and]
      refine g_goto (tgt := 17) dX6_hasEntry_13 rfl ?_
      refine g_zret dX6_hasEntry_17 rfl (by first | exact Or.inl rfl | exact Or.inr rfl | assumption) ?_
      exact hK0 _ _ ⟨by rw [show entOK n x = true from decide_eq_true (by omega)]; rfl, rfl⟩
theorem kX6_hf_n {lo : Nat} {x1 : Int32} (hlo : lo ≤ 1) (hd : d ≤ 4) (hK : K (some (.int 0)) (wT (nI d) tv tn tc tm te)) : ∀ (r : Nat) (x : Int32) (x5 : Value), r ≤ 4 → x < 0 → tg_G l mX6_hasFigures 1000 K 0 0 10 [.ref 0, .int x1, .int (nI lo), .int x, .int (nI r - 1), x5] [] (wT (nI d) tv tn tc tm te) := by
  intro r
  induction r with
  | zero =>
    intro x x5 hr hx
    unfold wT at hK ⊢
    refine tg_go bX6_hasFigures_10 ?_
    simp only [ti_iload, List.getElem?_cons_zero, List.getElem?_cons_succ, true_and]
    refine g_if_lt (tgt := 52) dX6_hasFigures_12 rfl (fun h12 => ?_) (fun h12 => ?_)
    · refine tg_go bX6_hasFigures_52 ?_
      simp only [ti_iload, List.getElem?_cons_zero, List.getElem?_cons_succ, true_and]
      refine g_if_ne (tgt := 60) dX6_hasFigures_53 rfl (fun h53 => ?_) (fun h53 => ?_)
      · refine tg_go bX6_hasFigures_60 ?_
        simp only [ti_push, List.getElem?_cons_zero, List.getElem?_cons_succ, true_and]
        refine g_zret dX6_hasFigures_61 rfl (by first | exact Or.inl rfl | exact Or.inr rfl | assumption) ?_
        exact hK
      · subst h53; exact absurd hx (by decide)
    · exact absurd (by decide) h12
  | succ r ih =>
    intro x x5 hr hx
    unfold wT at ih hK ⊢
    rw [show nI (r + 1) - 1 = nI r from nI_pred r]
    refine tg_go bX6_hasFigures_10 ?_
    simp only [ti_iload, List.getElem?_cons_zero, List.getElem?_cons_succ, true_and]
    refine g_if_lt (tgt := 52) dX6_hasFigures_12 rfl (fun h12 => ?_) (fun h12 => ?_)
    · exact absurd h12 (nI_pos (by omega))
    · refine tg_go bX6_hasFigures_15 ?_
      simp only [ti_iload, ti_irem, ti_istore, ti_push, tg_s1, tg_cl, List.getElem?_cons_zero, List.getElem?_cons_succ, List.set_cons_zero, List.set_cons_succ, true_and]
      refine ⟨ne7, ?_⟩
      refine g_icmp_lt (tgt := 39) dX6_hasFigures_24 rfl (fun h24 => ?_) (fun h24 => ?_)
      · refine tg_go bX6_hasFigures_39 ?_
        simp only [ti_push, List.getElem?_cons_zero, List.getElem?_cons_succ, true_and]
        refine g_zret dX6_hasFigures_40 rfl (by first | exact Or.inl rfl | exact Or.inr rfl | assumption) ?_
        exact hK
      · have hnn : ¬ tg_rem x 7 < 0 := fun q => h24 (by
          rw [Int32.lt_iff_toInt_lt] at q ⊢
          have q : (tg_rem x 7).toInt < 0 := q
          have : 0 ≤ (nI lo).toInt := by
            rw [nI_toInt (by omega)]
            omega
          omega)
        refine tg_go bX6_hasFigures_27 ?_
        simp only [ti_aload, ti_getf, ti_iald, ti_iload, List.getElem?_cons_zero, List.getElem?_cons_succ, true_and]
        rw [nI_clamp (by omega)]
        refine ⟨vp_in_nI (by omega) (by omega), ?_⟩
        refine g_icmp_le (tgt := 41) dX6_hasFigures_36 rfl (fun h36 => ?_) (fun h36 => ?_)
        · refine tg_go bX6_hasFigures_41 ?_
          simp only [ti_idiv, ti_iinc, ti_iload, ti_istore, ti_push, tg_s1, tg_cl, List.getElem?_cons_zero, List.getElem?_cons_succ, List.set_cons_zero, List.set_cons_succ, true_and]
          refine ⟨ne7, ?_⟩
          refine g_goto (tgt := 10) dX6_hasFigures_49 rfl ?_
          have h2 := ih (x / 7) (.int (tg_rem x 7)) (by omega) (rem_neg hx hnn)
          rw [show nI r - 1 = nI r + -1 from by rw [Int32.sub_eq_add_neg]] at h2
          exact h2
        · refine tg_go bX6_hasFigures_39 ?_
          simp only [ti_push, List.getElem?_cons_zero, List.getElem?_cons_succ, true_and]
          refine g_zret dX6_hasFigures_40 rfl (by first | exact Or.inl rfl | exact Or.inr rfl | assumption) ?_
          exact hK
theorem kX6_hf_p {lo : Nat} {x1 : Int32} (hlo : lo ≤ 1) (hd : d ≤ 4) (hv : ∀ k, k < d → tv k = nI (v k) ∧ v k ≤ 6) : ∀ (r c : Nat) (x5 : Value), r ≤ d → c < 2 ^ 31 → K (some (.int (bZ (hfR lo v r c)))) (wT (nI d) tv tn tc tm te) → tg_G l mX6_hasFigures 1000 K 0 0 10 [.ref 0, .int x1, .int (nI lo), .int (nI c), .int (nI r - 1), x5] [] (wT (nI d) tv tn tc tm te) := by
  intro r
  induction r with
  | zero =>
    intro c x5 hr hc hK
    rw [hfR] at hK
    unfold wT at hK ⊢
    refine tg_go bX6_hasFigures_10 ?_
    simp only [ti_iload, List.getElem?_cons_zero, List.getElem?_cons_succ, true_and]
    refine g_if_lt (tgt := 52) dX6_hasFigures_12 rfl (fun h12 => ?_) (fun h12 => ?_)
    · refine tg_go bX6_hasFigures_52 ?_
      simp only [ti_iload, List.getElem?_cons_zero, List.getElem?_cons_succ, true_and]
      refine g_if_ne (tgt := 60) dX6_hasFigures_53 rfl (fun h53 => ?_) (fun h53 => ?_)
      · rw [fa_lit, lI_eq (by omega) (by omega)] at h53
        rw [decide_eq_false h53] at hK
        refine tg_go bX6_hasFigures_60 ?_
        simp only [ti_push, List.getElem?_cons_zero, List.getElem?_cons_succ, true_and]
        refine g_zret dX6_hasFigures_61 rfl (by first | exact Or.inl rfl | exact Or.inr rfl | assumption) ?_
        exact hK
      · rw [fa_lit, lI_eq (by omega) (by omega)] at h53
        rw [decide_eq_true h53] at hK
        refine tg_go bX6_hasFigures_56 ?_
        simp only [ti_push, List.getElem?_cons_zero, List.getElem?_cons_succ, true_and]
        refine g_goto (tgt := 61) dX6_hasFigures_57 rfl ?_
        refine g_zret dX6_hasFigures_61 rfl (by first | exact Or.inl rfl | exact Or.inr rfl | assumption) ?_
        exact hK
    · exact absurd (by decide) h12
  | succ r ih =>
    intro c x5 hr hc hK
    rw [hfR] at hK
    obtain ⟨hv1, hv2⟩ := hv r (by omega)
    unfold wT at ih hK ⊢
    rw [show nI (r + 1) - 1 = nI r from nI_pred r]
    refine tg_go bX6_hasFigures_10 ?_
    simp only [ti_iload, List.getElem?_cons_zero, List.getElem?_cons_succ, true_and]
    refine g_if_lt (tgt := 52) dX6_hasFigures_12 rfl (fun h12 => ?_) (fun h12 => ?_)
    · exact absurd h12 (nI_pos (by omega))
    · refine tg_go bX6_hasFigures_15 ?_
      simp only [ti_iload, ti_irem, ti_istore, ti_push, tg_s1, tg_cl, List.getElem?_cons_zero, List.getElem?_cons_succ, List.set_cons_zero, List.set_cons_succ, true_and]
      rw [rem7 hc]
      refine ⟨ne7, ?_⟩
      refine g_icmp_lt (tgt := 39) dX6_hasFigures_24 rfl (fun h24 => ?_) (fun h24 => ?_)
      · rw [lI_lt (by omega) (by omega)] at h24
        refine tg_go bX6_hasFigures_39 ?_
        simp only [ti_push, List.getElem?_cons_zero, List.getElem?_cons_succ, true_and]
        refine g_zret dX6_hasFigures_40 rfl (by first | exact Or.inl rfl | exact Or.inr rfl | assumption) ?_
        rw [decide_eq_false (by omega), Bool.false_and] at hK
        exact hK
      · rw [lI_lt (by omega) (by omega)] at h24
        refine tg_go bX6_hasFigures_27 ?_
        simp only [ti_aload, ti_getf, ti_iald, ti_iload, List.getElem?_cons_zero, List.getElem?_cons_succ, true_and]
        rw [nI_clamp (by omega), hv1]
        refine ⟨vp_in_nI (by omega) (by omega), ?_⟩
        refine g_icmp_le (tgt := 41) dX6_hasFigures_36 rfl (fun h36 => ?_) (fun h36 => ?_)
        · rw [lI_le (by omega) (by omega)] at h36
          refine tg_go bX6_hasFigures_41 ?_
          simp only [ti_idiv, ti_iinc, ti_iload, ti_istore, ti_push, tg_s1, tg_cl, List.getElem?_cons_zero, List.getElem?_cons_succ, List.set_cons_zero, List.set_cons_succ, true_and]
          rw [div7 hc]
          refine ⟨ne7, ?_⟩
          refine g_goto (tgt := 10) dX6_hasFigures_49 rfl ?_
          rw [decide_eq_true (by omega), Bool.true_and] at hK
          have h2 := ih (c / 7) (.int (nI (c % 7))) (by omega) (by omega) hK
          rw [show nI r - 1 = nI r + -1 from by rw [Int32.sub_eq_add_neg]] at h2
          exact h2
        · rw [lI_le (by omega) (by omega)] at h36
          refine tg_go bX6_hasFigures_39 ?_
          simp only [ti_push, List.getElem?_cons_zero, List.getElem?_cons_succ, true_and]
          refine g_zret dX6_hasFigures_40 rfl (by first | exact Or.inl rfl | exact Or.inr rfl | assumption) ?_
          rw [decide_eq_false (by omega), Bool.false_and] at hK
          exact hK
theorem kX6_hasFigures {lo : Nat} {x : Int32} (hlo : lo ≤ 1) (hd : d ≤ 4) (hv : ∀ k, k < d → tv k = nI (v k) ∧ v k ≤ 6) : tg_Ct l mX6_hasFigures 1000 [.ref 0, .int x, .int (nI lo)] (wT (nI d) tv tn tc tm te) (fun r w => r = some (.int (bZ (hfB lo d v x))) ∧ w = (wT (nI d) tv tn tc tm te)) := by
  refine tg_gen (fun K0 hK0 => ?_)
  show tg_G _ _ _ _ _ _ _ [.ref 0, .int x, .int (nI lo), .null, .null, .null] [] _
  unfold wT
  refine tg_go bX6_hasFigures_0 ?_
  simp only [ti_aload, ti_getf, ti_iload, ti_istore, ti_isub, ti_push, tg_s1, tg_cl, List.getElem?_cons_zero, List.getElem?_cons_succ, List.set_cons_zero, List.set_cons_succ, true_and]
  by_cases hx : 0 ≤ x.toInt
  · have hlt := Int32.toInt_lt x
    obtain ⟨e1, e2⟩ := x_of (n := 2 ^ 31) hx (by omega)
    unfold hfB at hK0
    rw [decide_eq_true hx, Bool.true_and] at hK0
    generalize hcc : x.toInt.toNat = c at e1 e2 hK0
    subst e1
    exact kX6_hf_p hlo hd hv d c .null (Nat.le_refl _) e2 (hK0 _ _ ⟨rfl, rfl⟩)
  · unfold hfB at hK0
    rw [decide_eq_false hx, Bool.false_and] at hK0
    refine kX6_hf_n hlo hd (hK0 _ _ ⟨rfl, rfl⟩) d x .null hd ?_
    rw [Int32.lt_iff_toInt_lt]
    show x.toInt < 0
    omega
theorem kX6_isCellCode {x : Int32} (hd : d ≤ 4) (hv : ∀ k, k < d → tv k = nI (v k) ∧ v k ≤ 6) : tg_Ct l mX6_isCellCode 1000 [.ref 0, .int x] (wT (nI d) tv tn tc tm te) (fun r w => r = some (.int (bZ (cellOK d v x))) ∧ w = (wT (nI d) tv tn tc tm te)) := by
  rw [← hfB_cell]
  show tg_G _ _ _ _ _ _ _ [.ref 0, .int x] [] _
  unfold wT
  refine tg_go bX6_isCellCode_0 ?_
  simp only [ti_aload, ti_iload, ti_push, List.getElem?_cons_zero, List.getElem?_cons_succ, true_and]
  refine tg_cW vX6_isCellCode_3 (kX6_hasFigures (lo := 0) (by omega) hd hv) rfl rfl rfl rfl (Nat.le_of_ble_eq_true rfl) (Nat.le_of_ble_eq_true rfl) (Nat.le_of_ble_eq_true rfl) rfl ?_
  unfold wT
  refine g_zret dX6_isCellCode_6 rfl (bZ_01 _) ?_
  exact ⟨rfl, rfl⟩
theorem kX6_isEntryCode {x : Int32} (hd : d ≤ 4) (hv : ∀ k, k < d → tv k = nI (v k) ∧ v k ≤ 6) : tg_Ct l mX6_isEntryCode 1000 [.ref 0, .int x] (wT (nI d) tv tn tc tm te) (fun r w => r = some (.int (bZ (wholeOK d v x))) ∧ w = (wT (nI d) tv tn tc tm te)) := by
  rw [← hfB_whole]
  show tg_G _ _ _ _ _ _ _ [.ref 0, .int x] [] _
  unfold wT
  refine tg_go bX6_isEntryCode_0 ?_
  simp only [ti_aload, ti_iload, ti_push, List.getElem?_cons_zero, List.getElem?_cons_succ, true_and]
  refine tg_cW vX6_isEntryCode_3 (kX6_hasFigures (lo := 1) (by omega) hd hv) rfl rfl rfl rfl (Nat.le_of_ble_eq_true rfl) (Nat.le_of_ble_eq_true rfl) (Nat.le_of_ble_eq_true rfl) rfl ?_
  unfold wT
  refine g_zret dX6_isEntryCode_6 rfl (bZ_01 _) ?_
  exact ⟨rfl, rfl⟩
theorem kX6_valueFigures_l (hd : d ≤ 4) (hK : K (some (.int (valT tv d))) (wT (nI d) tv tn tc tm te)) : ∀ (m k : Nat), d - k < m → k ≤ d → tg_G l mX6_valueFigures 1000 K 0 0 4 [.ref 0, .int (valT tv k), .int (nI k)] [] (wT (nI d) tv tn tc tm te) := by
  intro m
  induction m with
  | zero => intro k h; omega
  | succ m ih =>
    intro k hm hk
    unfold wT at ih hK ⊢
    refine tg_go bX6_valueFigures_4 ?_
    simp only [ti_aload, ti_getf, ti_iload, List.getElem?_cons_zero, List.getElem?_cons_succ, true_and]
    refine g_icmp_ge (tgt := 30) dX6_valueFigures_9 rfl (fun h9 => ?_) (fun h9 => ?_)
    · rw [lI_le (by omega) (by omega)] at h9
      obtain rfl : k = d := by omega
      refine tg_go bX6_valueFigures_30 ?_
      simp only [ti_iload, List.getElem?_cons_zero, List.getElem?_cons_succ, true_and]
      refine g_iret dX6_valueFigures_31 rfl ?_
      exact hK
    · rw [lI_le (by omega) (by omega)] at h9
      refine tg_go bX6_valueFigures_12 ?_
      simp only [ti_aload, ti_getf, ti_iadd, ti_iald, ti_iinc, ti_iload, ti_imul, ti_istore, ti_push, tg_s1, tg_cl, List.getElem?_cons_zero, List.getElem?_cons_succ, List.set_cons_zero, List.set_cons_succ, true_and]
      rw [nI_1, nI_clamp (by omega), Int32.mul_comm]
      refine ⟨vp_in_nI (by omega) (by omega), ?_⟩
      refine g_goto (tgt := 4) dX6_valueFigures_27 rfl ?_
      exact ih (k + 1) (by omega) (by omega)
theorem kX6_valueFigures (hd : d ≤ 4) : tg_Ct l mX6_valueFigures 1000 [.ref 0] (wT (nI d) tv tn tc tm te) (fun r w => r = some (.int (valT tv d)) ∧ w = (wT (nI d) tv tn tc tm te)) := by
  show tg_G _ _ _ _ _ _ _ [.ref 0, .null, .null] [] _
  unfold wT
  refine tg_go bX6_valueFigures_0 ?_
  simp only [ti_istore, ti_push, tg_s1, tg_cl, List.getElem?_cons_zero, List.getElem?_cons_succ, List.set_cons_zero, List.set_cons_succ, true_and]
  exact kX6_valueFigures_l hd ⟨rfl, rfl⟩ (d + 1) 0 (by omega) (by omega)
theorem kX6_sumOf_l {cv : Int64} (hn : n ≤ 40) (hK : K (some (.int (gSum (fun i => cbit cv (nI i)) tm n))) (wT td tv (nI n) tc tm te)) : ∀ (m k : Nat), n - k < m → k ≤ n → tg_G l mX6_sumOf 1000 K 0 0 5 [.ref 0, .long cv, .null, .int (gSum (fun i => cbit cv (nI i)) tm k), .int (nI k)] [] (wT td tv (nI n) tc tm te) := by
  intro m
  induction m with
  | zero => intro k h; omega
  | succ m ih =>
    intro k hm hk
    unfold wT at ih hK ⊢
    refine tg_go bX6_sumOf_5 ?_
    simp only [ti_aload, ti_getf, ti_iload, List.getElem?_cons_zero, List.getElem?_cons_succ, true_and]
    refine g_icmp_ge (tgt := 39) dX6_sumOf_11 rfl (fun h11 => ?_) (fun h11 => ?_)
    · rw [lI_le (by omega) (by omega)] at h11
      obtain rfl : k = n := by omega
      refine tg_go bX6_sumOf_39 ?_
      simp only [ti_iload, List.getElem?_cons_zero, List.getElem?_cons_succ, true_and]
      refine g_iret dX6_sumOf_40 rfl ?_
      exact hK
    · rw [lI_le (by omega) (by omega)] at h11
      refine tg_go bX6_sumOf_14 ?_
      simp only [ti_iload, ti_lload, List.getElem?_cons_zero, List.getElem?_cons_succ, true_and]
      refine tg_cP vX6_sumOf_17 (kX6_isIn) rfl rfl (Nat.le_of_ble_eq_true rfl) (Nat.le_of_ble_eq_true rfl) ?_
      refine g_if_eq (tgt := 33) dX6_sumOf_20 rfl (fun h20 => ?_) (fun h20 => ?_)
      · refine tg_go bX6_sumOf_33 ?_
        simp only [ti_iinc, tg_s1, tg_cl, List.getElem?_cons_zero, List.getElem?_cons_succ, List.set_cons_zero, List.set_cons_succ, true_and]
        rw [nI_1]
        refine g_goto (tgt := 5) dX6_sumOf_36 rfl ?_
        have h2 := ih (k + 1) (by omega) (by omega)
        rw [gSum] at h2
        rw [if_neg (by rw [bZ_0 h20]; decide)] at h2
        exact h2
      · refine tg_go bX6_sumOf_23 ?_
        simp only [ti_aload, ti_getf, ti_iadd, ti_iald, ti_iload, ti_istore, tg_s1, tg_cl, List.getElem?_cons_zero, List.getElem?_cons_succ, List.set_cons_zero, List.set_cons_succ, true_and]
        rw [nI_clamp (by omega)]
        refine ⟨vp_in_nI (by omega) (by omega), ?_⟩
        refine tg_go bX6_sumOf_33 ?_
        simp only [ti_iinc, tg_s1, tg_cl, List.getElem?_cons_zero, List.getElem?_cons_succ, List.set_cons_zero, List.set_cons_succ, true_and]
        rw [nI_1]
        refine g_goto (tgt := 5) dX6_sumOf_36 rfl ?_
        have h2 := ih (k + 1) (by omega) (by omega)
        rw [gSum, if_pos (bZ_n h20)] at h2
        exact h2
theorem kX6_sumOf {cv : Int64} (hn : n ≤ 40) : tg_Ct l mX6_sumOf 1000 [.ref 0, .long cv] (wT td tv (nI n) tc tm te) (fun r w => r = some (.int (gSum (fun i => cbit cv (nI i)) tm n)) ∧ w = (wT td tv (nI n) tc tm te)) := by
  show tg_G _ _ _ _ _ _ _ [.ref 0, .long cv, .null, .null, .null] [] _
  unfold wT
  refine tg_go bX6_sumOf_0 ?_
  simp only [ti_istore, ti_push, tg_s1, tg_cl, List.getElem?_cons_zero, List.getElem?_cons_succ, List.set_cons_zero, List.set_cons_succ, true_and]
  exact kX6_sumOf_l hn ⟨rfl, rfl⟩ (n + 1) 0 (by omega) (by omega)
theorem kX6_leastOf_l {cv : Int64} (hn : n ≤ 40) (hK : K (some (.int (lMin (fun i => cbit cv (nI i)) tm n))) (wT td tv (nI n) tc tm te)) : ∀ (m k : Nat), n - k < m → k ≤ n → tg_G l mX6_leastOf 1000 K 0 0 6 [.ref 0, .long cv, .null, .int (lMin (fun i => cbit cv (nI i)) tm k), .int (nI k)] [] (wT td tv (nI n) tc tm te) := by
  intro m
  induction m with
  | zero => intro k h; omega
  | succ m ih =>
    intro k hm hk
    unfold wT at ih hK ⊢
    refine tg_go bX6_leastOf_6 ?_
    simp only [ti_aload, ti_getf, ti_iload, List.getElem?_cons_zero, List.getElem?_cons_succ, true_and]
    refine g_icmp_ge (tgt := 42) dX6_leastOf_12 rfl (fun h12 => ?_) (fun h12 => ?_)
    · rw [lI_le (by omega) (by omega)] at h12
      obtain rfl : k = n := by omega
      refine tg_go bX6_leastOf_42 ?_
      simp only [ti_iload, List.getElem?_cons_zero, List.getElem?_cons_succ, true_and]
      refine g_iret dX6_leastOf_43 rfl ?_
      exact hK
    · rw [lI_le (by omega) (by omega)] at h12
      refine tg_go bX6_leastOf_15 ?_
      simp only [ti_iload, ti_lload, List.getElem?_cons_zero, List.getElem?_cons_succ, true_and]
      refine tg_cP vX6_leastOf_18 (kX6_isIn) rfl rfl (Nat.le_of_ble_eq_true rfl) (Nat.le_of_ble_eq_true rfl) ?_
      refine g_if_eq (tgt := 36) dX6_leastOf_21 rfl (fun h21 => ?_) (fun h21 => ?_)
      · refine tg_go bX6_leastOf_36 ?_
        simp only [ti_iinc, tg_s1, tg_cl, List.getElem?_cons_zero, List.getElem?_cons_succ, List.set_cons_zero, List.set_cons_succ, true_and]
        rw [nI_1]
        refine g_goto (tgt := 6) dX6_leastOf_39 rfl ?_
        have h2 := ih (k + 1) (by omega) (by omega)
        rw [lMin] at h2
        rw [if_neg (by rw [bZ_0 h21]; decide)] at h2
        exact h2
      · refine tg_go bX6_leastOf_24 ?_
        simp only [ti_aload, ti_getf, ti_iald, ti_iload, ti_istore, ti_mmin, tg_s1, tg_cl, List.getElem?_cons_zero, List.getElem?_cons_succ, List.set_cons_zero, List.set_cons_succ, true_and, List.map_nil, List.map_cons, List.sum_nil, List.sum_cons, Value.category, Nat.reduceAdd, Nat.reduceLeDiff, and_self, and_true]
        rw [nI_clamp (by omega)]
        refine ⟨vp_in_nI (by omega) (by omega), ?_⟩
        refine tg_go bX6_leastOf_36 ?_
        simp only [ti_iinc, tg_s1, tg_cl, List.getElem?_cons_zero, List.getElem?_cons_succ, List.set_cons_zero, List.set_cons_succ, true_and]
        rw [nI_1]
        refine g_goto (tgt := 6) dX6_leastOf_39 rfl ?_
        have h2 := ih (k + 1) (by omega) (by omega)
        rw [lMin, if_pos (bZ_n h21)] at h2
        exact h2
end TAB
