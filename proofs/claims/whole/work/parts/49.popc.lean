/-! how many bits: the library's count is the sum of the bits -/
theorem and_cat {k a b a' b' : Nat} (ha : a < 2 ^ k) (ha' : a' < 2 ^ k) : (2 ^ k * b + a) &&& (2 ^ k * b' + a') = 2 ^ k * (b &&& b') + (a &&& a') := by
  apply Nat.eq_of_testBit_eq
  intro j
  rw [Nat.testBit_and, Nat.testBit_two_pow_mul_add _ ha, Nat.testBit_two_pow_mul_add _ ha', Nat.testBit_two_pow_mul_add _ (Nat.and_lt_two_pow _ ha')]
  split
  · rw [Nat.testBit_and]
  · rw [Nat.testBit_and]
/-- every second figure of base 2^w -/
def evF (w : Nat) : Nat → Nat → Nat
  | 0, _ => 0
  | n + 1, x => 2 ^ (2 * w) * evF w n (x / 2 ^ (2 * w)) + x % 2 ^ w
def mkF (w : Nat) : Nat → Nat
  | 0 => 0
  | n + 1 => 2 ^ (2 * w) * mkF w n + (2 ^ w - 1)
def dsF (w : Nat) : Nat → Nat → Nat
  | 0, _ => 0
  | n + 1, x => x % 2 ^ w + dsF w n (x / 2 ^ w)
theorem evF_and (w : Nat) : ∀ n x, x &&& mkF w n = evF w n x
  | 0, x => by simp [mkF, evF]
  | n + 1, x => by
    have h1 : 0 < 2 ^ (2 * w) := Nat.two_pow_pos _
    have h2 : 2 ^ w - 1 < 2 ^ (2 * w) := by
      have : 2 ^ w ≤ 2 ^ (2 * w) := Nat.pow_le_pow_right (by decide) (by omega)
      have : 0 < 2 ^ w := Nat.two_pow_pos _
      omega
    rw [mkF, evF, ← evF_and w n]
    conv => lhs; rw [← Nat.div_add_mod x (2 ^ (2 * w))]
    rw [and_cat (Nat.mod_lt _ h1) h2, Nat.and_two_pow_sub_one_eq_mod, Nat.mod_mod_of_dvd _ (Nat.pow_dvd_pow 2 (by omega))]
theorem evF_le (w : Nat) : ∀ n x, evF w n x ≤ x
  | 0, x => Nat.zero_le _
  | n + 1, x => by
    rw [evF]
    have h := evF_le w n (x / 2 ^ (2 * w))
    have e := Nat.div_add_mod x (2 ^ (2 * w))
    have h2 : x % 2 ^ w ≤ x % 2 ^ (2 * w) := by
      rw [← Nat.mod_mod_of_dvd x (Nat.pow_dvd_pow 2 (show w ≤ 2 * w by omega))]
      exact Nat.mod_le _ _
    have h3 := Nat.mul_le_mul_left (2 ^ (2 * w)) h
    omega
/-- two figures make one -/
theorem dsF_ev {w : Nat} (hw : 0 < w) : ∀ n x, dsF (2 * w) n (evF w n x + evF w n (x / 2 ^ w)) = dsF w (2 * n) x
  | 0, x => rfl
  | n + 1, x => by
    have h1 : 0 < 2 ^ w := Nat.two_pow_pos _
    have e2 : 2 ^ (2 * w) = 2 ^ w * 2 ^ w := by rw [← Nat.pow_add]; congr 1; omega
    have hb2 : 2 ≤ 2 ^ w := by
      have : 2 ^ 1 ≤ 2 ^ w := Nat.pow_le_pow_right (by decide) hw
      omega
    have hm1 := Nat.mod_lt x h1
    have hm2 := Nat.mod_lt (x / 2 ^ w) h1
    have hlt : x % 2 ^ w + x / 2 ^ w % 2 ^ w < 2 ^ (2 * w) := by
      rw [e2]
      have := Nat.mul_le_mul_right (2 ^ w) hb2
      omega
    have hd : x / 2 ^ w / 2 ^ (2 * w) = x / 2 ^ (2 * w) / 2 ^ w := by
      rw [Nat.div_div_eq_div_mul, Nat.div_div_eq_div_mul, Nat.mul_comm]
    have e : evF w (n + 1) x + evF w (n + 1) (x / 2 ^ w) = 2 ^ (2 * w) * (evF w n (x / 2 ^ (2 * w)) + evF w n (x / 2 ^ (2 * w) / 2 ^ w)) + (x % 2 ^ w + x / 2 ^ w % 2 ^ w) := by
      rw [evF, evF, hd, Nat.mul_add]
      omega
    rw [e, dsF, Nat.mul_add_mod, Nat.mod_eq_of_lt hlt, Nat.mul_add_div (Nat.two_pow_pos _), Nat.div_eq_of_lt hlt, Nat.add_zero, dsF_ev hw n]
    rw [show 2 * (n + 1) = 2 * n + 1 + 1 by omega, dsF, dsF, Nat.div_div_eq_div_mul, ← e2, Nat.add_assoc]
theorem dsF_le (w : Nat) : ∀ n x, dsF w n x ≤ n * (2 ^ w - 1)
  | 0, x => by simp [dsF]
  | n + 1, x => by
    have h := dsF_le w n (x / 2 ^ w)
    have hm := Nat.mod_lt x (Nat.two_pow_pos w)
    rw [dsF, Nat.succ_mul]
    omega
/-- the sum of the bits, and how many they are -/
theorem dsF_bits (x : Nat) : ∀ n k, dsF 1 n (x / 2 ^ k) + gMany (fun i => x.testBit i) k = gMany (fun i => x.testBit i) (k + n)
  | 0, k => by simp [dsF]
  | n + 1, k => by
    have h := dsF_bits x n (k + 1)
    rw [gMany, Nat.testBit_eq_decide_div_mod_eq] at h
    rw [dsF, Nat.div_div_eq_div_mul, Nat.pow_one, ← Nat.pow_succ, show k + (n + 1) = k + 1 + n by omega, ← h]
    have := Nat.mod_lt (x / 2 ^ k) (by decide : 0 < 2)
    by_cases q : x / 2 ^ k % 2 = 1
    · simp [q]
      omega
    · have q0 : x / 2 ^ k % 2 = 0 := by omega
      simp [q0]
