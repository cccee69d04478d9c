/-! THE MATHEMATICS: cells on a set of dimensions; keys and rules -/
theorem btN_tb (s f : Nat) : btN s f = s.testBit f := by
  unfold btN
  rw [Nat.testBit_eq_decide_div_mod_eq]
theorem tb_pow (j k : Nat) : (2 ^ j).testBit k = decide (j = k) := Nat.testBit_two_pow
theorem dmB_tb (d a : Nat) : ∀ t, t ≤ d → ∀ k, (dmB d a t).testBit k = decide ((d - t ≤ k ∧ k < d) ∧ 0 < dg (d - 1 - k) a)
  | 0, _, k => by
    rw [dmB, decide_eq_false (by omega)]
    simp
  | t + 1, h, k => by
    have ih := dmB_tb d a t (by omega) k
    rw [dmB]
    by_cases hp : 0 < dg t a
    · rw [if_pos hp, Nat.testBit_or, ih, tb_pow]
      by_cases e : d - 1 - t = k
      · rw [decide_eq_true e, Bool.or_true]
        refine (decide_eq_true ⟨by omega, ?_⟩).symm
        rw [show d - 1 - k = t by omega]
        exact hp
      · rw [decide_eq_false e, Bool.or_false]
        congr 1
        apply propext
        constructor
        · rintro ⟨h1, h2⟩
          exact ⟨by omega, h2⟩
        · rintro ⟨h1, h2⟩
          exact ⟨by omega, h2⟩
    · rw [if_neg hp, ih]
      congr 1
      apply propext
      constructor
      · rintro ⟨h1, h2⟩
        exact ⟨by omega, h2⟩
      · rintro ⟨h1, h2⟩
        refine ⟨?_, h2⟩
        by_cases e : d - 1 - t = k
        · rw [show d - 1 - k = t by omega] at h2
          exact absurd h2 hp
        · omega
/-- a code's figures in a set -/
def prQ (d q e : Nat) : Nat := smD (wiF d e q) d
theorem prQ_dg {d q e t : Nat} (ht : t < d) : dg t (prQ d q e) = if q.testBit (d - 1 - t) = true then dg t e else 0 := by
  unfold prQ
  rw [smD_dg wiF_lt d t ht]
  unfold wiF
  rw [btN_tb]
theorem prQ_lt {d q e : Nat} : prQ d q e < 7 ^ d := smD_lt wiF_lt d
theorem prQ_dm {d q e : Nat} (hq : q < 2 ^ d) (he : ∀ t, t < d → 1 ≤ dg t e) : dmB d (prQ d q e) d = q := by
  apply Nat.eq_of_testBit_eq
  intro k
  rw [dmB_tb d _ d (Nat.le_refl _)]
  by_cases hk : k < d
  · rw [prQ_dg (by omega), show d - 1 - (d - 1 - k) = k by omega]
    have := he (d - 1 - k) (by omega)
    cases hb : q.testBit k with
    | true => exact decide_eq_true ⟨by omega, by rw [if_pos rfl]; omega⟩
    | false => exact decide_eq_false (fun z => by rw [if_neg (by decide)] at z; omega)
  · rw [decide_eq_false (by omega)]
    symm
    exact Nat.testBit_lt_two_pow (Nat.lt_of_lt_of_le hq (Nat.pow_le_pow_right (by omega) (by omega)))
theorem prQ_cov {d q e : Nat} : covR d (prQ d q e) e = true := by
  rw [covR_iff]
  intro t ht
  rw [prQ_dg ht]
  by_cases h : q.testBit (d - 1 - t) = true
  · rw [if_pos h]; exact Or.inr rfl
  · rw [if_neg h]; exact Or.inl rfl
theorem prQ_of {d b e : Nat} (hb : b < 7 ^ d) (h : covR d b e = true) : b = prQ d (dmB d b d) e := by
  rw [covR_iff] at h
  refine dg_ext d b _ hb prQ_lt (fun t ht => ?_)
  rw [prQ_dg ht, dmB_tb d _ d (Nat.le_refl _), show d - 1 - (d - 1 - t) = t by omega]
  by_cases h0 : 0 < dg t b
  · rw [if_pos (decide_eq_true ⟨by omega, h0⟩)]
    rcases h t ht with q | q
    · omega
    · exact q
  · rw [if_neg (by rw [decide_eq_false (fun z => h0 z.2)]; decide)]
    omega
theorem dmB_2 {d a : Nat} : dmB d a d < 2 ^ d := Nat.lt_pow_two_of_testBit _ (fun i hi => by
  rw [dmB_tb d a d (Nat.le_refl _)]
  exact decide_eq_false (by omega))
/-! images and what is new -/
def imB (g : Nat → Nat) (b : Nat) : Nat → Bool
  | 0 => false
  | n + 1 => imB g b n || decide (g n = b)
theorem imB_iff {g : Nat → Nat} {b : Nat} : ∀ n, imB g b n = true ↔ ∃ i, i < n ∧ g i = b
  | 0 => ⟨fun h => (by cases h), fun ⟨i, h, _⟩ => by omega⟩
  | n + 1 => by
    rw [imB, Bool.or_eq_true, imB_iff n, decide_eq_true_eq]
    constructor
    · rintro (⟨i, h1, h2⟩ | h)
      · exact ⟨i, by omega, h2⟩
      · exact ⟨n, by omega, h⟩
    · rintro ⟨i, h1, h2⟩
      by_cases e : i = n
      · subst e; exact Or.inr h2
      · exact Or.inl ⟨i, by omega, h2⟩
def nwB (g : Nat → Nat) (i : Nat) : Bool := allB (fun j => decide (¬ g j = g i)) i
theorem nwB_iff {g : Nat → Nat} {i : Nat} : nwB g i = true ↔ ∀ j, j < i → ¬ g j = g i := by
  unfold nwB
  rw [allB_true]
  simp only [decide_eq_true_eq]
theorem gMany_one {x : Nat} : ∀ A, gMany (fun b => decide (x = b)) A = if x < A then 1 else 0
  | 0 => by rw [gMany, if_neg (by omega)]
  | A + 1 => by
    rw [gMany, gMany_one A]
    by_cases h1 : x = A
    · rw [if_neg (by omega), if_pos (decide_eq_true h1), if_pos (by omega)]
    · rw [if_neg (show ¬ decide (x = A) = true by rw [decide_eq_false h1]; decide)]
      by_cases h2 : x < A
      · rw [if_pos h2, if_pos (by omega)]
      · rw [if_neg h2, if_neg (by omega)]
theorem img_cnt {g : Nat → Nat} {A : Nat} : ∀ n, (∀ i, i < n → g i < A) → gMany (fun b => imB g b n) A = gMany (nwB g) n
  | 0, _ => by
    rw [gMany]
    exact (gMany_0 A).mpr (fun b hb => rfl)
  | n + 1, h => by
    rw [gMany, ← img_cnt n (fun i hi => h i (by omega))]
    by_cases hn : nwB g n = true
    · rw [if_pos hn]
      have hno : ∀ b, g n = b → imB g b n = false := fun b e => by
        cases hi : imB g b n with
        | false => rfl
        | true =>
          obtain ⟨i, h1, h2⟩ := (imB_iff n).mp hi
          exact absurd (h2.trans e.symm) (nwB_iff.mp hn i h1)
      have h1 := gMany_one (x := g n) A
      rw [if_pos (h n (by omega))] at h1
      refine (gMany_split A (p := fun b => imB g b n) (q := fun b => decide (g n = b)) (fun b hb => ?_)).trans (by rw [h1])
      show (if (imB g b n || decide (g n = b)) = true then 1 else 0) = (if imB g b n = true then 1 else 0) + (if decide (g n = b) = true then 1 else 0)
      by_cases e : g n = b
      · rw [hno b e, decide_eq_true e]; rfl
      · rw [decide_eq_false e]
        cases imB g b n <;> rfl
    · rw [if_neg hn, Nat.add_zero]
      refine gMany_congr (fun b hb => ?_)
      rw [imB]
      by_cases e : g n = b
      · have hi : imB g b n = true := by
          rw [imB_iff]
          cases hh : imB g (g n) n with
          | true =>
            obtain ⟨i, h1, h2⟩ := (imB_iff n).mp hh
            exact ⟨i, h1, h2.trans e⟩
          | false =>
            exfalso
            apply hn
            rw [nwB_iff]
            intro j hj hg
            rw [(imB_iff n).mpr ⟨j, hj, hg⟩] at hh
            cases hh
        rw [hi, Bool.true_or]
      · rw [decide_eq_false e, Bool.or_false]
theorem gMany_full {p : Nat → Bool} : ∀ n, gMany p n = n ↔ allB p n = true
  | 0 => ⟨fun _ => rfl, fun _ => rfl⟩
  | n + 1 => by
    have hle := gMany_le p n
    rw [gMany, allB, Bool.and_eq_true, ← gMany_full n]
    by_cases h : p n = true
    · rw [if_pos h]
      constructor
      · intro q; exact ⟨by omega, h⟩
      · intro q; omega
    · rw [if_neg h]
      constructor
      · intro q; omega
      · intro q; exact absurd q.2 h
theorem gMany_imp {p q : Nat → Bool} : ∀ n, (∀ i, i < n → p i = true → q i = true) → gMany p n ≤ gMany q n ∧ (gMany p n = gMany q n → ∀ i, i < n → q i = true → p i = true)
  | 0, _ => ⟨Nat.le_refl _, fun _ i h => by omega⟩
  | n + 1, h => by
    obtain ⟨h1, h2⟩ := gMany_imp n (fun i hi => h i (by omega))
    rw [gMany, gMany]
    by_cases hp : p n = true
    · have hq := h n (by omega) hp
      rw [if_pos hp, if_pos hq]
      refine ⟨by omega, fun e i hi hqi => ?_⟩
      by_cases ei : i = n
      · subst ei; exact hp
      · exact h2 (by omega) i (by omega) hqi
    · rw [if_neg hp]
      by_cases hq : q n = true
      · rw [if_pos hq]
        exact ⟨by omega, fun e => by omega⟩
      · rw [if_neg hq]
        refine ⟨by omega, fun e i hi hqi => ?_⟩
        by_cases ei : i = n
        · subst ei; exact absurd hqi hq
        · exact h2 (by omega) i (by omega) hqi
/-- one map finer than another has as many values just where it tells no more apart -/
theorem ref_cnt {g g' : Nat → Nat} {n : Nat} (hr : ∀ i j, i < n → j < n → g' i = g' j → g i = g j) : gMany (nwB g) n = gMany (nwB g') n ↔ ∀ i, i < n → ∀ j, j < i → g i = g j → g' i = g' j := by
  have himp : ∀ i, i < n → nwB g i = true → nwB g' i = true := fun i hi h => by
    rw [nwB_iff] at h ⊢
    exact fun j hj e => h j hj (hr j i (by omega) hi e)
  constructor
  · intro e
    have h2 := (gMany_imp n himp).2 e
    intro i
    induction i using Nat.strongRecOn with
    | ind i ih =>
      intro hi j hj hg
      have hf : ¬ nwB g' i = true := fun q => by
        have := h2 i hi q
        rw [nwB_iff] at this
        exact this j hj hg.symm
      obtain ⟨j0, h0, e0⟩ : ∃ j0, j0 < i ∧ g' j0 = g' i := by
        rw [nwB_iff] at hf
        exact Classical.byContradiction fun q => hf (fun j hj e => q ⟨j, hj, e⟩)
      have hgj : g j0 = g j := (hr j0 i (by omega) hi e0).trans hg
      rcases Nat.lt_trichotomy j0 j with q | q | q
      · rw [← e0]
        exact (ih j hj (by omega) j0 q hgj.symm).symm
      · subst q; exact e0.symm
      · rw [← e0]
        exact ih j0 h0 (by omega) j q hgj
  · intro h
    refine gMany_congr (fun i hi => ?_)
    rw [Bool.eq_iff_iff]
    refine ⟨himp i hi, fun q => ?_⟩
    rw [nwB_iff] at q ⊢
    intro j hj e
    exact q j hj (h i hi j hj e.symm).symm
section KEYS
variable {d n s : Nat} {v c : Nat → Nat} {u : Nat → Int32}
theorem on_img (hc : cOK d n c) {q : Nat} (hq : q < 2 ^ d) : onN d n c (7 ^ d) q = gMany (nwB (fun i => prQ d q (c i))) n := by
  rw [← img_cnt (A := 7 ^ d) n (fun i _ => prQ_lt)]
  unfold onN
  refine gMany_congr (fun b hb => ?_)
  rw [Bool.eq_iff_iff, Bool.and_eq_true, imB_iff, decide_eq_true_eq]
  unfold neD
  rw [decide_eq_true_eq]
  constructor
  · rintro ⟨h1, h2⟩
    obtain ⟨i, hi, hp⟩ : ∃ i, i < n ∧ cvP d c b i = true := by
      refine Classical.byContradiction fun z => ?_
      have := (gMany_0 (p := cvP d c b) n).mpr (fun i hi => by
        cases hh : cvP d c b i with
        | false => rfl
        | true => exact absurd ⟨i, hi, hh⟩ z)
      omega
    refine ⟨i, hi, ?_⟩
    have := prQ_of hb hp
    rw [h2] at this
    exact this.symm
  · rintro ⟨i, hi, rfl⟩
    refine ⟨?_, prQ_dm hq (hc i hi).2⟩
    have h1 : cvP d c (prQ d q (c i)) i = true := prQ_cov
    have := gMany_lt (p := cvP d c (prQ d q (c i))) h1 hi
    omega
theorem hasB_tb {q k : Nat} (hq : q < 2 ^ 31) (hk : k < 32) : hasB (nI q) k = q.testBit k := by
  unfold hasB
  rw [nI_shr hq hk, show ((1 : Int32)) = nI 1 from rfl, nI_and, Nat.and_one_is_mod, Nat.testBit_eq_decide_div_mod_eq]
  congr 1
  exact lI_eq (by omega) (by omega)
theorem alk_pr (hd : d ≤ 4) {q i j : Nat} (hq : q < 2 ^ 31) : alk d c (nI q) i j = decide (prQ d q (c i) = prQ d q (c j)) := by
  unfold alk
  rw [Bool.eq_iff_iff, allB_true, decide_eq_true_eq]
  constructor
  · intro h
    refine dg_ext d _ _ prQ_lt prQ_lt (fun t ht => ?_)
    have h1 := h (d - 1 - t) (by omega)
    rw [hasB_tb hq (by omega), Bool.or_eq_true, decide_eq_true_eq, figN_dg, figN_dg, show d - 1 - (d - 1 - t) = t by omega] at h1
    rw [prQ_dg ht, prQ_dg ht]
    cases hb : q.testBit (d - 1 - t) with
    | false => rfl
    | true =>
      rw [hb] at h1
      rcases h1 with h1 | h1
      · cases h1
      · rw [if_pos rfl, if_pos rfl]; exact h1
  · intro h k hk
    rw [hasB_tb hq (by omega), Bool.or_eq_true, decide_eq_true_eq, figN_dg, figN_dg]
    cases hb : q.testBit k with
    | false => exact Or.inl rfl
    | true =>
      refine Or.inr ?_
      have h1 : dg (d - 1 - k) (prQ d q (c i)) = dg (d - 1 - k) (prQ d q (c j)) := by rw [h]
      rw [prQ_dg (by omega), prQ_dg (by omega), show d - 1 - (d - 1 - k) = k by omega, hb, if_pos rfl, if_pos rfl] at h1
      exact h1
theorem key_on (hd : d ≤ 4) (hc : cOK d n c) {q : Nat} (hq : q < 2 ^ d) : keyB d n c (nI q) = decide (onN d n c (7 ^ d) q = n) := by
  have h16 := pow2 hd
  rw [on_img hc hq]
  unfold keyB
  rw [Bool.eq_iff_iff, decide_eq_true_eq, gMany_full, allB_true, allB_true]
  have e : ∀ i, allB (fun j => !alk d c (nI q) i j) i = nwB (fun i => prQ d q (c i)) i := fun i => by
    unfold nwB
    refine allB_congr i (fun j hj => ?_)
    rw [alk_pr hd (by omega)]
    by_cases h : prQ d q (c i) = prQ d q (c j)
    · simp [h]
    · have h' : ¬ prQ d q (c j) = prQ d q (c i) := fun z => h z.symm
      simp [h, h']
  constructor
  · intro h i hi; rw [← e]; exact h i hi
  · intro h i hi; rw [e]; exact h i hi
theorem bc_b4 {q : Nat} (h : q < 16) : bcI (nI q) = b4 (nI q) := by
  have : ∀ q : Fin 16, bcI (nI q.val) = b4 (nI q.val) := by decide +kernel
  exact this ⟨q, h⟩
theorem key_eq (hd : d ≤ 4) (hn : n ≤ 40) (hc : cOK d n c) {on : Nat → Int32} (hon : ∀ q, q < 16 → on q = nI (onN d n c (7 ^ d) q)) : ∀ q, q ≤ 2 ^ d → kyC on n q = keyF d n c q
  | 0, _ => rfl
  | q + 1, hq => by
    have h16 := pow2 hd
    have h7 := pow7 hd
    have ih := key_eq hd hn hc hon q (by omega)
    have hk := key_on hd hc (q := q) (by omega)
    have hb : onN d n c (7 ^ d) q ≤ 7 ^ d := gMany_le _ _
    rw [kyC, keyF, ih, hon q (by omega)]
    have e3 : (nI (onN d n c (7 ^ d) q) = nI n) = (onN d n c (7 ^ d) q = n) := lI_eq (by omega) (by omega)
    have e1 : (keyB d n c (nI q) = true) = (onN d n c (7 ^ d) q = n) := by rw [hk, decide_eq_true_eq]
    have e2 : (keyF d n c q = -1 ∨ bcI (nI q) < bcI (keyF d n c q)) = (keyF d n c q = -1 ∨ b4 (nI q) < b4 (keyF d n c q)) := by
      rw [← ih]
      rcases kyC_in on n q with h | ⟨j, hj, h⟩
      · rw [h]
        simp
      · rw [h, bc_b4 (by omega), bc_b4 (by omega)]
    have hiff : ((keyF d n c q = -1 ∨ bcI (nI q) < bcI (keyF d n c q)) ∧ nI (onN d n c (7 ^ d) q) = nI n) ↔ (keyB d n c (nI q) = true ∧ (keyF d n c q = -1 ∨ b4 (nI q) < b4 (keyF d n c q))) := by
      rw [e2, e1, e3]
      exact And.comm
    by_cases h : (keyF d n c q = -1 ∨ bcI (nI q) < bcI (keyF d n c q)) ∧ nI (onN d n c (7 ^ d) q) = nI n
    · rw [if_pos h, if_pos (hiff.mp h)]
    · rw [if_neg h, if_neg (fun z => h (hiff.mpr z))]
theorem rule_eq (hd : d ≤ 4) (hc : cOK d n c) {q k : Nat} (hq : q < 2 ^ d) (hk : k < d) : rulB d n c (nI q) k = decide (onN d n c (7 ^ d) q = onN d n c (7 ^ d) (q ||| 2 ^ k)) := by
  have h16 := pow2 hd
  have hq2 : q ||| 2 ^ k < 2 ^ d := Nat.or_lt_two_pow hq (Nat.pow_lt_pow_right (by omega) hk)
  have hk2 : 2 ^ k < 2 ^ d := Nat.pow_lt_pow_right (by omega) hk
  rw [on_img hc hq, on_img hc hq2]
  have hdig : ∀ i j, (prQ d (q ||| 2 ^ k) (c i) = prQ d (q ||| 2 ^ k) (c j)) ↔ (prQ d q (c i) = prQ d q (c j) ∧ prQ d (2 ^ k) (c i) = prQ d (2 ^ k) (c j)) := by
    intro i j
    constructor
    · intro h
      have h1 : ∀ t, t < d → (q ||| 2 ^ k).testBit (d - 1 - t) = true → dg t (c i) = dg t (c j) := fun t ht hb => by
        have h2 : dg t (prQ d (q ||| 2 ^ k) (c i)) = dg t (prQ d (q ||| 2 ^ k) (c j)) := by rw [h]
        rw [prQ_dg ht, prQ_dg ht, if_pos hb, if_pos hb] at h2
        exact h2
      refine ⟨dg_ext d _ _ prQ_lt prQ_lt (fun t ht => ?_), dg_ext d _ _ prQ_lt prQ_lt (fun t ht => ?_)⟩
      · rw [prQ_dg ht, prQ_dg ht]
        cases hb : q.testBit (d - 1 - t) with
        | false => rfl
        | true => rw [if_pos rfl, if_pos rfl]; exact h1 t ht (by rw [Nat.testBit_or, hb, Bool.true_or])
      · rw [prQ_dg ht, prQ_dg ht]
        cases hb : (2 ^ k).testBit (d - 1 - t) with
        | false => rfl
        | true => rw [if_pos rfl, if_pos rfl]; exact h1 t ht (by rw [Nat.testBit_or, hb, Bool.or_true])
    · rintro ⟨h1, h2⟩
      refine dg_ext d _ _ prQ_lt prQ_lt (fun t ht => ?_)
      have e1 : dg t (prQ d q (c i)) = dg t (prQ d q (c j)) := by rw [h1]
      have e2 : dg t (prQ d (2 ^ k) (c i)) = dg t (prQ d (2 ^ k) (c j)) := by rw [h2]
      rw [prQ_dg ht, prQ_dg ht] at e1 e2 ⊢
      rw [Nat.testBit_or]
      cases hb : q.testBit (d - 1 - t) with
      | true => rw [hb] at e1; rw [Bool.true_or]; exact e1
      | false =>
        rw [Bool.false_or]
        exact e2
  have hcnt := ref_cnt (g := fun i => prQ d q (c i)) (g' := fun i => prQ d (q ||| 2 ^ k) (c i)) (n := n) (fun i j _ _ h => ((hdig i j).mp h).1)
  unfold rulB
  rw [show (1 : Int32) <<< (nI k &&& 31) = nI (2 ^ k) from shl1 (by omega), Bool.eq_iff_iff, decide_eq_true_eq, hcnt, allB_true]
  constructor
  · intro h i hi j hj hg
    have h1 := h i hi
    rw [allB_true] at h1
    have h2 := h1 j hj
    rw [alk_pr hd (by omega), alk_pr hd (by omega), decide_eq_true hg] at h2
    have h3 : prQ d (2 ^ k) (c i) = prQ d (2 ^ k) (c j) := by simpa using h2
    exact (hdig i j).mpr ⟨hg, h3⟩
  · intro h i hi
    rw [allB_true]
    intro j hj
    rw [alk_pr hd (by omega), alk_pr hd (by omega)]
    by_cases hg : prQ d q (c i) = prQ d q (c j)
    · have h3 := ((hdig i j).mp (h i hi j hj hg)).2
      rw [decide_eq_true h3, Bool.or_true]
    · rw [decide_eq_false hg]; rfl
end KEYS
