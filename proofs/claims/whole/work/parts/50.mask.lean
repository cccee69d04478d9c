/-! covers as numbers: bit i is entry i -/
def mkN (p : Nat → Bool) : Nat → Nat
  | 0 => 0
  | n + 1 => 2 ^ n * (if p n = true then 1 else 0) + mkN p n
theorem mkN_lt (p : Nat → Bool) : ∀ n, mkN p n < 2 ^ n
  | 0 => by simp [mkN]
  | n + 1 => by
    have := mkN_lt p n
    rw [mkN, Nat.pow_succ]
    split <;> omega
theorem mkN_tb (p : Nat → Bool) (i : Nat) : ∀ n, (mkN p n).testBit i = (decide (i < n) && p i)
  | 0 => by simp [mkN]
  | n + 1 => by
    rw [mkN, Nat.testBit_two_pow_mul_add _ (mkN_lt p n)]
    by_cases h : i < n
    · rw [if_pos h, mkN_tb p i n, decide_eq_true h, decide_eq_true (by omega)]
    · rw [if_neg h]
      by_cases e : i = n
      · subst e
        rw [Nat.sub_self, decide_eq_true (by omega), Bool.true_and]
        cases p i <;> rfl
      · rw [decide_eq_false (show ¬ i < n + 1 by omega), Bool.false_and]
        obtain ⟨m, hm⟩ : ∃ m, i - n = m + 1 := ⟨i - n - 1, by omega⟩
        rw [hm]
        cases p n
        · simp
        · simp [Nat.testBit_succ]
theorem lN_bit {m i : Nat} (hi : i < 64) : (lN m).toBitVec.getLsbD i = m.testBit i := by
  show (BitVec.ofNat 64 m).getLsbD i = _
  rw [BitVec.getLsbD_ofNat, decide_eq_true hi, Bool.true_and]
/-- a long with just these bits -/
theorem mk_ext {x : Int64} {p : Nat → Bool} {n : Nat} (h : ∀ i, i < 64 → x.toBitVec.getLsbD i = (decide (i < n) && p i)) : x = lN (mkN p n) := by
  apply Int64.toBitVec_inj.mp
  apply BitVec.eq_of_getLsbD_eq
  intro i hi
  rw [h i hi, lN_bit hi, mkN_tb]
theorem mk_bit {p : Nat → Bool} {n i : Nat} (hi : i < 64) : (lN (mkN p n)).toBitVec.getLsbD i = (decide (i < n) && p i) := by
  rw [lN_bit hi, mkN_tb]
theorem mk_congr {p q : Nat → Bool} : ∀ {n : Nat}, (∀ i, i < n → p i = q i) → mkN p n = mkN q n
  | 0, _ => rfl
  | n + 1, h => by rw [mkN, mkN, mk_congr (fun i hi => h i (by omega)), h n (by omega)]
theorem mk_and {p q : Nat → Bool} {n : Nat} : lN (mkN p n) &&& lN (mkN q n) = lN (mkN (fun i => p i && q i) n) := by
  apply mk_ext
  intro i hi
  rw [Int64.toBitVec_and, BitVec.getLsbD_and, mk_bit hi, mk_bit hi]
  cases decide (i < n) <;> cases p i <;> cases q i <;> rfl
theorem mk_or {p q : Nat → Bool} {n : Nat} : lN (mkN p n) ||| lN (mkN q n) = lN (mkN (fun i => p i || q i) n) := by
  apply mk_ext
  intro i hi
  rw [Int64.toBitVec_or, BitVec.getLsbD_or, mk_bit hi, mk_bit hi]
  cases decide (i < n) <;> cases p i <;> cases q i <;> rfl
theorem mk_not {p q : Nat → Bool} {n : Nat} : lN (mkN p n) &&& (lN (mkN q n) ^^^ (-1)) = lN (mkN (fun i => p i && !q i) n) := by
  apply mk_ext
  intro i hi
  rw [Int64.toBitVec_and, Int64.toBitVec_xor, BitVec.getLsbD_and, BitVec.getLsbD_xor, mk_bit hi, mk_bit hi]
  rw [show (-1 : Int64).toBitVec = BitVec.allOnes 64 by decide, BitVec.getLsbD_allOnes, decide_eq_true hi]
  cases decide (i < n) <;> cases p i <;> cases q i <;> rfl
theorem mk_none {p : Nat → Bool} : ∀ {n : Nat}, (∀ i, i < n → p i = false) → mkN p n = 0
  | 0, _ => rfl
  | n + 1, h => by rw [mkN, mk_none (fun i hi => h i (by omega)), h n (by omega)]; simp
theorem mk_zero {p : Nat → Bool} {n : Nat} (hn : n ≤ 40) : (lN (mkN p n) = 0) = (∀ i, i < n → p i = false) := by
  have hlt := mkN_lt p n
  have h40 : 2 ^ n ≤ 2 ^ 40 := Nat.pow_le_pow_right (by decide) hn
  apply propext
  constructor
  · intro h i hi
    have h2 : mkN p n = 0 := (pk_lEQ (by omega) (by omega)).mp h
    have h3 := mkN_tb p i n
    rw [h2, Nat.zero_testBit, decide_eq_true hi, Bool.true_and] at h3
    exact h3.symm
  · intro h
    rw [mk_none h]
    rfl
theorem mk_ext2 {p q : Nat → Bool} {n m : Nat} (hm : m ≤ n) (h : ∀ i, i < n → q i = (decide (i < m) && p i)) : mkN q n = mkN p m := by
  apply Nat.eq_of_testBit_eq
  intro i
  rw [mkN_tb, mkN_tb]
  by_cases h1 : i < n
  · rw [h i h1, decide_eq_true h1, Bool.true_and]
  · rw [decide_eq_false h1, decide_eq_false (show ¬ i < m by omega)]
    rfl
theorem one_shl {i : Nat} (hi : i < 64) : (1 : Int64) <<< ((nI i).toInt64 &&& 63) = lN (2 ^ i) := by
  have : ∀ i : Fin 64, (1 : Int64) <<< ((nI i.val).toInt64 &&& 63) = lN (2 ^ i.val) := by decide +kernel
  exact this ⟨i, hi⟩
theorem mk_one {e : Nat} : ∀ {n : Nat}, e < n → mkN (fun i => decide (i = e)) n = 2 ^ e
  | 0, h => by omega
  | n + 1, h => by
    rw [mkN]
    by_cases q : n = e
    · subst q
      rw [mk_none (fun i hi => decide_eq_false (by omega))]
      simp
    · rw [decide_eq_false q, mk_one (show e < n by omega)]
      simp
theorem mk_all : ∀ n, mkN (fun _ => true) n = 2 ^ n - 1
  | 0 => rfl
  | n + 1 => by
    have : 0 < 2 ^ n := Nat.two_pow_pos n
    rw [mkN, mk_all n, Nat.pow_succ]
    simp
    omega
theorem full_mk {n : Nat} (hn : n < 64) : (1 : Int64) <<< ((nI n).toInt64 &&& 63) - 1 = lN (mkN (fun _ => true) n) := by
  rw [one_shl hn, show (1 : Int64) = lN 1 from rfl, lN_sub Nat.one_le_two_pow, mk_all]
theorem sh_amt {k : Nat} (hk : k < 64) : (((nI k).toInt64.toUInt64 &&& Int64.toUInt64 63).toBitVec % 64#64).toNat = k := by
  have : ∀ k : Fin 64, (((nI k.val).toInt64.toUInt64 &&& Int64.toUInt64 63).toBitVec % 64#64).toNat = k.val := by decide +kernel
  exact this ⟨k, hk⟩
theorem ush_bit {x : Int64} {k i : Nat} (hk : k < 64) : (ush x (nI k)).toBitVec.getLsbD i = x.toBitVec.getLsbD (k + i) := by
  unfold ush
  have e : (x.toUInt64 >>> ((nI k).toInt64.toUInt64 &&& Int64.toUInt64 63)).toInt64.toBitVec = x.toBitVec >>> (((nI k).toInt64.toUInt64 &&& Int64.toUInt64 63).toBitVec % 64#64) := rfl
  rw [e, BitVec.ushiftRight_eq', sh_amt hk, BitVec.getLsbD_ushiftRight]
theorem cbit_tb {x : Int64} {i : Nat} (hi : i < 64) : cbit x (nI i) = x.toBitVec.getLsbD i := by
  have e : cbit x (nI i) = !decide ((ush x (nI i) &&& 1) = 0) := rfl
  rw [e]
  have h1 : ush x (nI i) &&& 1 = lN (mkN (fun _ => x.toBitVec.getLsbD i) 1) := by
    apply mk_ext
    intro j hj
    rw [Int64.toBitVec_and, BitVec.getLsbD_and, ush_bit hi, show (1 : Int64).toBitVec = BitVec.ofNat 64 1 from rfl, BitVec.getLsbD_ofNat, decide_eq_true hj, Bool.true_and]
    by_cases q : j = 0
    · subst q
      simp
    · have : Nat.testBit 1 j = false := by
        obtain ⟨m, rfl⟩ : ∃ m, j = m + 1 := ⟨j - 1, by omega⟩
        simp [Nat.testBit_succ]
      rw [this, decide_eq_false (by omega)]
      simp
  rw [h1]
  cases x.toBitVec.getLsbD i <;> decide
theorem cbit_mk {p : Nat → Bool} {n i : Nat} (hn : n ≤ 64) (hi : i < n) : cbit (lN (mkN p n)) (nI i) = p i := by
  rw [cbit_tb (by omega), mk_bit (by omega), decide_eq_true hi, Bool.true_and]
