/-! figures of codes, the last first; closures -/
def dg (t x : Nat) : Nat := x / 7 ^ t % 7
theorem dg_lt (t x : Nat) : dg t x < 7 := Nat.mod_lt _ (by decide)
theorem dg_0 (x : Nat) : dg 0 x = x % 7 := by unfold dg; rw [Nat.pow_zero, Nat.div_one]
theorem dg_s (t x : Nat) : dg (t + 1) x = dg t (x / 7) := by unfold dg; rw [Nat.pow_succ', Nat.div_div_eq_div_mul]
theorem figN_dg (d c k : Nat) : figN d c k = dg (d - 1 - k) c := rfl
theorem covR_iff : ∀ (T a b : Nat), covR T a b = true ↔ ∀ t, t < T → dg t a = 0 ∨ dg t a = dg t b
  | 0, a, b => ⟨fun _ t h => by omega, fun _ => rfl⟩
  | T + 1, a, b => by
    rw [covR, Bool.and_eq_true, Bool.or_eq_true, decide_eq_true_eq, decide_eq_true_eq, covR_iff T]
    constructor
    · rintro ⟨h1, h2⟩ t ht
      cases t with
      | zero => rw [dg_0, dg_0]; exact h1
      | succ t => rw [dg_s, dg_s]; exact h2 t (by omega)
    · intro h
      refine ⟨?_, fun t ht => ?_⟩
      · have := h 0 (by omega)
        rwa [dg_0, dg_0] at this
      · have := h (t + 1) (by omega)
        rwa [dg_s, dg_s] at this
theorem covR_snoc (T a b : Nat) : covR (T + 1) a b = (covR T a b && (decide (dg T a = 0) || decide (dg T a = dg T b))) := by
  rw [Bool.eq_iff_iff, covR_iff, Bool.and_eq_true, covR_iff, Bool.or_eq_true, decide_eq_true_eq, decide_eq_true_eq]
  constructor
  · exact fun h => ⟨fun t ht => h t (by omega), h T (by omega)⟩
  · rintro ⟨h1, h2⟩ t ht
    rcases Nat.lt_succ_iff_lt_or_eq.mp ht with q | q
    · exact h1 t q
    · rw [q]; exact h2
theorem comR_dg : ∀ (T x y t : Nat), t < T → dg t (comR T x y) = if dg t x = dg t y then dg t x else 0
  | 0, x, y, t, h => by omega
  | T + 1, x, y, t, h => by
    have hx : (if x % 7 = y % 7 then x % 7 else 0) < 7 := by
      split
      · exact Nat.mod_lt _ (by decide)
      · decide
    cases t with
    | zero =>
      rw [comR, dg_0, dg_0, dg_0]
      omega
    | succ t =>
      rw [comR, dg_s, dg_s, dg_s, show ((if x % 7 = y % 7 then x % 7 else 0) + 7 * comR T (x / 7) (y / 7)) / 7 = comR T (x / 7) (y / 7) by omega]
      exact comR_dg T (x / 7) (y / 7) t (by omega)
theorem dg_ext : ∀ (T x y : Nat), x < 7 ^ T → y < 7 ^ T → (∀ t, t < T → dg t x = dg t y) → x = y
  | 0, x, y, h1, h2, _ => by
    rw [Nat.pow_zero] at h1 h2
    omega
  | T + 1, x, y, h1, h2, h => by
    rw [Nat.pow_succ] at h1 h2
    have e := dg_ext T (x / 7) (y / 7) (by omega) (by omega) (fun t ht => by
      have := h (t + 1) (by omega)
      rwa [dg_s, dg_s] at this)
    have e0 := h 0 (by omega)
    rw [dg_0, dg_0] at e0
    omega
/-- the number with these figures -/
def smD (f : Nat → Nat) : Nat → Nat
  | 0 => 0
  | T + 1 => smD f T + f T * 7 ^ T
theorem smD_lt {f : Nat → Nat} (hf : ∀ t, f t < 7) : ∀ T, smD f T < 7 ^ T
  | 0 => by simp [smD]
  | T + 1 => by
    have h := smD_lt hf T
    have h2 : f T * 7 ^ T ≤ 6 * 7 ^ T := Nat.mul_le_mul_right _ (by have := hf T; omega)
    rw [smD, Nat.pow_succ]
    omega
theorem smD_dg {f : Nat → Nat} (hf : ∀ t, f t < 7) : ∀ T t, t < T → dg t (smD f T) = f t
  | 0, t, h => by omega
  | T + 1, t, h => by
    rw [smD]
    by_cases e : t = T
    · subst e
      unfold dg
      rw [Nat.add_mul_div_right _ _ (Nat.pow_pos (by decide)), Nat.div_eq_of_lt (smD_lt hf t), Nat.zero_add]
      exact Nat.mod_eq_of_lt (hf t)
    · have ih := smD_dg hf T t (by omega)
      unfold dg at ih ⊢
      obtain ⟨m, hm⟩ : ∃ m, T = t + 1 + m := ⟨T - t - 1, by omega⟩
      have e2 : f T * 7 ^ T = 7 * (f T * 7 ^ m) * 7 ^ t := by
        rw [hm, Nat.pow_add, Nat.pow_succ]
        simp only [Nat.mul_comm, Nat.mul_left_comm, Nat.mul_assoc]
      rw [e2, Nat.add_mul_div_right _ _ (Nat.pow_pos (by decide)), Nat.add_mul_mod_self_left]
      exact ih
/-- entries: codes with a value in each dimension -/
def cOK (d n : Nat) (c : Nat → Nat) : Prop := ∀ i, i < n → c i < 7 ^ d ∧ ∀ t, t < d → 1 ≤ dg t (c i)
def isClo (d : Nat) (p : Nat → Bool) (c : Nat → Nat) (n x : Nat) : Prop := x < 7 ^ d ∧ (∃ i, i < n ∧ p i = true) ∧ ∀ t, t < d → ∀ f, 1 ≤ f → (dg t x = f ↔ ∀ i, i < n → p i = true → dg t (c i) = f)
theorem isClo_un {d n x y : Nat} {p : Nat → Bool} {c : Nat → Nat} (h1 : isClo d p c n x) (h2 : isClo d p c n y) : x = y := by
  refine dg_ext d x y h1.1 h2.1 (fun t ht => ?_)
  by_cases q : dg t x = 0
  · by_cases q2 : dg t y = 0
    · omega
    · exact (h1.2.2 t ht (dg t y) (by omega)).mpr ((h2.2.2 t ht (dg t y) (by omega)).mp rfl)
  · exact ((h2.2.2 t ht (dg t x) (by omega)).mpr ((h1.2.2 t ht (dg t x) (by omega)).mp rfl)).symm
theorem gClo_none {d : Nat} {p : Nat → Bool} {c : Nat → Nat} : ∀ n, gClo d p c n = none ↔ ∀ i, i < n → p i = false
  | 0 => ⟨fun _ i h => by omega, fun _ => rfl⟩
  | n + 1 => by
    have ih := gClo_none (d := d) (p := p) (c := c) n
    rw [gClo]
    cases hp : p n with
    | false =>
      rw [if_neg (by decide), ih]
      constructor
      · intro h i hi
        rcases Nat.lt_succ_iff_lt_or_eq.mp hi with q | q
        · exact h i q
        · rw [q]; exact hp
      · exact fun h i hi => h i (by omega)
    | true =>
      rw [if_pos rfl]
      constructor
      · intro h
        split at h <;> cases h
      · intro h
        have := h n (by omega)
        rw [hp] at this
        cases this
theorem gClo_is {d : Nat} {p : Nat → Bool} {c : Nat → Nat} : ∀ n x, cOK d n c → gClo d p c n = some x → isClo d p c n x
  | 0, x, _, h => by simp [gClo] at h
  | n + 1, x, hc, h => by
    have ih := gClo_is (d := d) (p := p) (c := c) n
    have hcn := hc n (by omega)
    rw [gClo] at h
    cases hp : p n with
    | false =>
      rw [hp, if_neg (by decide)] at h
      obtain ⟨h1, ⟨i, hi, hpi⟩, h3⟩ := ih x (fun i hi => hc i (by omega)) h
      refine ⟨h1, ⟨i, by omega, hpi⟩, fun t ht f hf => ?_⟩
      rw [h3 t ht f hf]
      constructor
      · intro q i hi hpi
        rcases Nat.lt_succ_iff_lt_or_eq.mp hi with z | z
        · exact q i z hpi
        · rw [z, hp] at hpi; cases hpi
      · exact fun q i hi hpi => q i (by omega) hpi
    | true =>
      rw [hp, if_pos rfl] at h
      cases hq : gClo d p c n with
      | none =>
        rw [hq] at h
        cases h
        have hno := (gClo_none n).mp hq
        refine ⟨hcn.1, ⟨n, by omega, hp⟩, fun t ht f hf => ?_⟩
        constructor
        · intro q i hi hpi
          rcases Nat.lt_succ_iff_lt_or_eq.mp hi with z | z
          · rw [hno i z] at hpi; cases hpi
          · rw [z]; exact q
        · exact fun q => q n (by omega) hp
      | some x0 =>
        rw [hq] at h
        cases h
        obtain ⟨h1, ⟨i, hi, hpi⟩, h3⟩ := ih x0 (fun i hi => hc i (by omega)) hq
        refine ⟨comR_lt d x0 (c n), ⟨i, by omega, hpi⟩, fun t ht f hf => ?_⟩
        rw [comR_dg d x0 (c n) t ht]
        have h4 := h3 t ht f hf
        constructor
        · intro q i hi hpi
          split at q
          · rename_i z1
            rcases Nat.lt_succ_iff_lt_or_eq.mp hi with z | z
            · exact h4.mp q i z hpi
            · rw [z, ← z1]; exact q
          · omega
        · intro q
          have q1 := h4.mpr (fun i hi hpi => q i (by omega) hpi)
          have q2 := q n (by omega) hp
          rw [if_pos (by rw [q1, q2])]
          exact q1
theorem gClo_iff {d n x : Nat} {p : Nat → Bool} {c : Nat → Nat} (hc : cOK d n c) : gClo d p c n = some x ↔ isClo d p c n x := by
  constructor
  · exact gClo_is n x hc
  · intro h
    cases hq : gClo d p c n with
    | none =>
      obtain ⟨i, hi, hpi⟩ := h.2.1
      rw [(gClo_none n).mp hq i hi] at hpi
      cases hpi
    | some y => rw [isClo_un (gClo_is n y hc hq) h]
/-- what all that are covered share with a code -/
def alB (c : Nat → Nat) (n : Nat) (p : Nat → Bool) (t f : Nat) : Bool := allB (fun i => !p i || decide (dg t (c i) = f)) n
theorem alB_iff {c : Nat → Nat} {n t f : Nat} {p : Nat → Bool} : alB c n p t f = true ↔ ∀ i, i < n → p i = true → dg t (c i) = f := by
  unfold alB
  rw [allB_true]
  constructor
  · intro h i hi hp
    have := h i hi
    rw [hp] at this
    simpa using this
  · intro h i hi
    cases hp : p i with
    | false => rfl
    | true => simp [h i hi hp]
def shF (c : Nat → Nat) (n : Nat) (p : Nat → Bool) (e t : Nat) : Nat := if 0 < dg t e ∧ alB c n p t (dg t e) = true then dg t e else 0
theorem shF_lt {c : Nat → Nat} {n e : Nat} {p : Nat → Bool} (t : Nat) : shF c n p e t < 7 := by
  unfold shF
  split
  · exact dg_lt _ _
  · decide
theorem shF_clo {d n i : Nat} {p : Nat → Bool} {c : Nat → Nat} (hi : i < n) (hp : p i = true) : isClo d p c n (smD (shF c n p (c i)) d) := by
  refine ⟨smD_lt shF_lt d, ⟨i, hi, hp⟩, fun t ht f hf => ?_⟩
  rw [smD_dg shF_lt d t ht]
  unfold shF
  constructor
  · intro h j hj hpj
    split at h
    · rename_i z
      rw [← h]
      exact alB_iff.mp z.2 j hj hpj
    · omega
  · intro h
    have h1 := h i hi hp
    rw [if_pos ⟨by omega, alB_iff.mpr (by rw [h1]; exact h)⟩]
    exact h1
theorem sh_gClo {d n i : Nat} {p : Nat → Bool} {c : Nat → Nat} (hc : cOK d n c) (hi : i < n) (hp : p i = true) : gClo d p c n = some (smD (shF c n p (c i)) d) := (gClo_iff hc).mpr (shF_clo hi hp)
