/-! THE CLASS: Table -/
def cTab (p : Nat) (td tn te : Int32) : va_E := .inr (5, [.int td, .ref (p + 1), .int tn, .ref (p + 2), .ref (p + 3), .int te])
def wT (td : Int32) (tv : Nat → Int32) (tn : Int32) (tc tm : Nat → Int32) (te : Int32) : List va_E := [.inr (5, [.int td, .ref 1, .int tn, .ref 2, .ref 3, .int te]), .inl (0, 4, .inl tv), .inl (0, 40, .inl tc), .inl (0, 40, .inl tm)]
/-- figures within bounds, the last one first, and nothing left -/
def hfR (lo : Nat) (v : Nat → Nat) : Nat → Nat → Bool
  | 0, c => decide (c = 0)
  | r + 1, c => decide (lo ≤ c % 7 ∧ c % 7 ≤ v r) && hfR lo v r (c / 7)
theorem figN_last (d c : Nat) : figN (d + 1) c d = c % 7 := by
  unfold figN
  rw [show d + 1 - 1 - d = 0 by omega, Nat.pow_zero, Nat.div_one]
theorem figN_div (d c k : Nat) (h : k < d) : figN (d + 1) c k = figN d (c / 7) k := by
  unfold figN
  rw [show d + 1 - 1 - k = (d - 1 - k) + 1 by omega, Nat.pow_succ', ← Nat.div_div_eq_div_mul]
theorem allB_congr {p q : Nat → Bool} : ∀ n, (∀ k, k < n → p k = q k) → allB p n = allB q n
  | 0, _ => rfl
  | n + 1, h => by rw [allB, allB, allB_congr n (fun k hk => h k (by omega)), h n (by omega)]
theorem hfR_eq (lo : Nat) (v : Nat → Nat) : ∀ d c, hfR lo v d c = (decide (c < 7 ^ d) && allB (fun k => decide (lo ≤ figN d c k ∧ figN d c k ≤ v k)) d)
  | 0, c => by
    rw [hfR, allB, Bool.and_true]
    congr 1
    simp
  | d + 1, c => by
    rw [hfR, hfR_eq lo v d (c / 7), allB, figN_last]
    rw [allB_congr (p := fun k => decide (lo ≤ figN (d + 1) c k ∧ figN (d + 1) c k ≤ v k)) (q := fun k => decide (lo ≤ figN d (c / 7) k ∧ figN d (c / 7) k ≤ v k)) d (fun k hk => by rw [figN_div d c k hk])]
    have e : decide (c < 7 ^ (d + 1)) = decide (c / 7 < 7 ^ d) := by
      congr 1
      rw [Nat.pow_succ, Nat.div_lt_iff_lt_mul (by decide)]
    rw [e]
    cases decide (c / 7 < 7 ^ d) <;> cases decide (lo ≤ c % 7 ∧ c % 7 ≤ v d) <;> simp
def hfB (lo : Nat) (d : Nat) (v : Nat → Nat) (x : Int32) : Bool := decide (0 ≤ x.toInt) && hfR lo v d x.toInt.toNat
theorem allB_true {p : Nat → Bool} : ∀ n, allB p n = true ↔ ∀ k, k < n → p k = true
  | 0 => ⟨fun _ k h => by omega, fun _ => rfl⟩
  | n + 1 => by
    rw [allB, Bool.and_eq_true, allB_true n]
    constructor
    · rintro ⟨h1, h2⟩ k hk
      rcases Nat.lt_succ_iff_lt_or_eq.mp hk with q | q
      · exact h1 k q
      · rw [q]; exact h2
    · exact fun h => ⟨fun k hk => h k (by omega), h n (by omega)⟩
theorem hfB_cell (d : Nat) (v : Nat → Nat) (x : Int32) : hfB 0 d v x = cellOK d v x := by
  unfold hfB cellOK
  rw [hfR_eq, Bool.eq_iff_iff]
  simp only [Bool.and_eq_true, decide_eq_true_eq, allB_true, Nat.zero_le, true_and]
  constructor
  · rintro ⟨h1, h2, h3⟩
    exact ⟨⟨h1, by omega⟩, h3⟩
  · rintro ⟨⟨h1, h2⟩, h3⟩
    exact ⟨h1, by omega, h3⟩
theorem hfB_whole (d : Nat) (v : Nat → Nat) (x : Int32) : hfB 1 d v x = wholeOK d v x := by
  unfold hfB wholeOK cellOK
  rw [hfR_eq, Bool.eq_iff_iff]
  simp only [Bool.and_eq_true, decide_eq_true_eq, allB_true]
  constructor
  · rintro ⟨h1, h2, h3⟩
    exact ⟨⟨⟨h1, by omega⟩, fun k hk => (h3 k hk).2⟩, fun k hk => (h3 k hk).1⟩
  · rintro ⟨⟨⟨h1, h2⟩, h3⟩, h4⟩
    exact ⟨h1, by omega, fun k hk => ⟨h4 k hk, h3 k hk⟩⟩
theorem i32_div7 (x : Int32) : (x / 7).toInt = x.toInt.tdiv 7 := by
  have h1 := Int32.toInt_lt x
  have h2 := Int32.le_toInt x
  have h7 : (7 : Int32).toInt = 7 := by decide
  rw [Int32.toInt_div, h7]
  exact Int.bmod_eq_of_le (by omega) (by omega)
theorem rem_neg {x : Int32} (h : x < 0) (h0 : ¬ tg_rem x 7 < 0) : x / 7 < 0 := by
  have h1 := Int32.toInt_lt x
  have h2 := Int32.le_toInt x
  have hd := i32_div7 x
  have hx : x.toInt < 0 := by
    rw [Int32.lt_iff_toInt_lt] at h
    exact h
  rw [Int32.lt_iff_toInt_lt]
  show (x / 7).toInt < 0
  have h7 : (7 : Int32).toInt = 7 := by decide
  have e : (tg_rem x 7).toInt = x.toInt - x.toInt.tdiv 7 * 7 := by
    unfold tg_rem
    have e1 : (x / 7 * 7).toInt = x.toInt.tdiv 7 * 7 := by
      rw [Int32.toInt_mul, hd, h7]
      exact Int.bmod_eq_of_le (by omega) (by omega)
    rw [Int32.toInt_sub, e1]
    exact Int.bmod_eq_of_le (by omega) (by omega)
  rw [Int32.lt_iff_toInt_lt, e] at h0
  have h00 : ¬ x.toInt - x.toInt.tdiv 7 * 7 < 0 := h0
  rw [hd]
  omega
def lMin (p : Nat → Bool) (u : Nat → Int32) : Nat → Int32
  | 0 => 99
  | n + 1 => if p n = true then (if u n < lMin p u n then u n else lMin p u n) else lMin p u n
def lMax (p : Nat → Bool) (u : Nat → Int32) : Nat → Int32
  | 0 => -99
  | n + 1 => if p n = true then (if lMax p u n < u n then u n else lMax p u n) else lMax p u n
section TAB
variable {l : tg_Ln} {K : Option Value → List va_E → Prop} {tv tc tm : Nat → Int32} {td tn te : Int32} {d n : Nat} {v : Nat → Nat}
theorem kX6_hasEntry {x : Int32} (hn : n ≤ 40) : tg_Ct l mX6_hasEntry 1000 [.ref 0, .int x] (wT td tv (nI n) tc tm te) (fun r w => r = some (.int (bZ (entOK n x))) ∧ w = (wT td tv (nI n) tc tm te)) := by
  refine tg_gen (fun K0 hK0 => ?_)
  show tg_G _ _ _ _ _ _ _ [.ref 0, .int x] [] _
  unfold wT
  refine tg_go bX6_hasEntry_0 ?_
  simp only [ti_iload, List.getElem?_cons_zero, List.getElem?_cons_succ, true_and]
  refine g_if_lt (tgt := 16) dX6_hasEntry_1 rfl (fun h1 => ?_) (fun h1 => ?_)
  · rw [Int32.lt_iff_toInt_lt] at h1
    have h1 : x.toInt < 0 := h1
    refine tg_go bX6_hasEntry_16 ?_
    simp only [ti_push, List.getElem?_cons_zero, List.getElem?_cons_succ, true_and]
    refine g_zret dX6_hasEntry_17 rfl (by first | exact Or.inl rfl | exact Or.inr rfl | assumption) ?_
    exact hK0 _ _ ⟨by rw [show entOK n x = false from decide_eq_false (by omega)]; rfl, rfl⟩
  · rw [Int32.lt_iff_toInt_lt] at h1
    have h1 : ¬ x.toInt < 0 := h1
    refine tg_go bX6_hasEntry_4 ?_
    simp only [ti_aload, ti_getf, ti_iload, List.getElem?_cons_zero, List.getElem?_cons_succ, true_and]
    refine g_icmp_ge (tgt := 16) dX6_hasEntry_9 rfl (fun h9 => ?_) (fun h9 => ?_)
    · rw [Int32.le_iff_toInt_le, nI_toInt (by omega)] at h9
      refine tg_go bX6_hasEntry_16 ?_
      simp only [ti_push, List.getElem?_cons_zero, List.getElem?_cons_succ, true_and]
      refine g_zret dX6_hasEntry_17 rfl (by first | exact Or.inl rfl | exact Or.inr rfl | assumption) ?_
      exact hK0 _ _ ⟨by rw [show entOK n x = false from decide_eq_false (by omega)]; rfl, rfl⟩
    · rw [Int32.le_iff_toInt_le, nI_toInt (by omega)] at h9
      refine tg_go bX6_hasEntry_12 ?_
      simp only [ti_push, List.getElem?_cons_zero, List.getElem?_cons_succ, true_and]
      refine g_goto (tgt := 17) dX6_hasEntry_13 rfl ?_
      refine g_zret dX6_hasEntry_17 rfl (by first | exact Or.inl rfl | exact Or.inr rfl | assumption) ?_
      exact hK0 _ _ ⟨by rw [show entOK n x = true from decide_eq_true (by omega)]; rfl, rfl⟩
theorem kX6_hf_n {lo : Nat} {x1 : Int32} {x5 : Value} (hd : d ≤ 4) (hK : K (some (.int 0)) (wT (nI d) tv tn tc tm te)) : ∀ (r : Nat) (x : Int32) (x5 : Value), r ≤ 4 → (∀ k, k < 4 → tv k = tv k) → x < 0 → tg_G l mX6_hasFigures 1000 K 0 0 10 [.ref 0, .int x1, .int (nI lo), .int x, .int (nI r - 1), x5] [] (wT (nI d) tv tn tc tm te) := by
  intro r
  induction r with
  | zero =>
    intro x x5 hr _ hx
    unfold wT at hK ⊢
    refine tg_go bX6_hasFigures_10 ?_
    simp only [ti_iload, List.getElem?_cons_zero, List.getElem?_cons_succ, true_and]
    refine g_if_lt (tgt := 52) dX6_hasFigures_12 rfl (fun h12 => ?_) (fun h12 => ?_)
    · refine tg_go bX6_hasFigures_52 ?_
      simp only [ti_iload, List.getElem?_cons_zero, List.getElem?_cons_succ, true_and]
      refine g_if_ne (tgt := 60) dX6_hasFigures_53 rfl (fun h53 => ?_) (fun h53 => ?_)
      · refine tg_go bX6_hasFigures_60 ?_
        simp only [ti_push, List.getElem?_cons_zero, List.getElem?_cons_succ, true_and]
        refine g_zret dX6_hasFigures_61 rfl (by first | exact Or.inl rfl | exact Or.inr rfl | assumption) ?_
        exact hK
      · subst h53; exact absurd hx (by decide)
    · exact absurd (by decide) h12
  | succ r ih =>
    intro x x5 hr _ hx
    unfold wT at ih hK ⊢
    rw [show nI (r + 1) - 1 = nI r from nI_pred r]
    refine tg_go bX6_hasFigures_10 ?_
    simp only [ti_iload, List.getElem?_cons_zero, List.getElem?_cons_succ, true_and]
    refine g_if_lt (tgt := 52) dX6_hasFigures_12 rfl (fun h12 => ?_) (fun h12 => ?_)
    · exact absurd h12 (nI_pos (by omega))
    · refine tg_go bX6_hasFigures_15 ?_
      simp only [ti_iload, ti_irem, ti_istore, ti_push, tg_s1, tg_cl, List.getElem?_cons_zero, List.getElem?_cons_succ, List.set_cons_zero, List.set_cons_succ, true_and]
      refine ⟨ne7, ?_⟩
      refine g_icmp_lt (tgt := 39) dX6_hasFigures_24 rfl (fun h24 => ?_) (fun h24 => ?_)
      · refine tg_go bX6_hasFigures_39 ?_
        simp only [ti_push, List.getElem?_cons_zero, List.getElem?_cons_succ, true_and]
        refine g_zret dX6_hasFigures_40 rfl (by first | exact Or.inl rfl | exact Or.inr rfl | assumption) ?_
        exact hK
      · have hnn : ¬ tg_rem x 7 < 0 := fun q => h24 (by
          rw [Int32.lt_iff_toInt_lt] at q ⊢
          have q : (tg_rem x 7).toInt < 0 := q
          have : 0 ≤ (nI lo).toInt := by
            sorry
          omega)
        refine tg_go bX6_hasFigures_27 ?_
        simp only [ti_aload, ti_getf, ti_iald, ti_iload, List.getElem?_cons_zero, List.getElem?_cons_succ, true_and]
        rw [nI_clamp (by omega)]
        refine ⟨vp_in_nI (by omega) (by omega), ?_⟩
        refine g_icmp_le (tgt := 41) dX6_hasFigures_36 rfl (fun h36 => ?_) (fun h36 => ?_)
        · refine tg_go bX6_hasFigures_41 ?_
          simp only [ti_idiv, ti_iinc, ti_iload, ti_istore, ti_push, tg_s1, tg_cl, List.getElem?_cons_zero, List.getElem?_cons_succ, List.set_cons_zero, List.set_cons_succ, true_and]
          refine ⟨ne7, ?_⟩
          refine g_goto (tgt := 10) dX6_hasFigures_49 rfl ?_
          have h2 := ih (x / 7) (.int (tg_rem x 7)) (by omega) (fun _ _ => rfl) (rem_neg hx hnn)
          rw [show nI r - 1 = nI r + -1 from by rw [Int32.sub_eq_add_neg]] at h2
          exact h2
        · refine tg_go bX6_hasFigures_39 ?_
          simp only [ti_push, List.getElem?_cons_zero, List.getElem?_cons_succ, true_and]
          refine g_zret dX6_hasFigures_40 rfl (by first | exact Or.inl rfl | exact Or.inr rfl | assumption) ?_
          exact hK
end TAB
