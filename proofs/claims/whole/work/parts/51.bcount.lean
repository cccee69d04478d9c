/-! Long.bitCount -/
theorem lN_tn {m : Nat} (h : m < 2 ^ 64) : (lN m).toBitVec.toNat = m := Nat.mod_eq_of_lt h
theorem ush_N {m k : Nat} (hm : m < 2 ^ 64) (hk : k < 64) : ush (lN m) (nI k) = lN (m / 2 ^ k) := by
  apply Int64.toBitVec_inj.mp
  apply BitVec.eq_of_toNat_eq
  have e : (ush (lN m) (nI k)).toBitVec = (lN m).toBitVec >>> (((nI k).toInt64.toUInt64 &&& Int64.toUInt64 63).toBitVec % 64#64) := rfl
  rw [e, BitVec.ushiftRight_eq', sh_amt hk, BitVec.toNat_ushiftRight, Nat.shiftRight_eq_div_pow, lN_tn hm, lN_tn (Nat.lt_of_le_of_lt (Nat.div_le_self _ _) hm)]
theorem lN_and (a b : Nat) : lN a &&& lN b = lN (a &&& b) := by
  apply Int64.toBitVec_inj.mp
  show BitVec.ofNat 64 a &&& BitVec.ofNat 64 b = BitVec.ofNat 64 (a &&& b)
  rw [BitVec.ofNat_and]
theorem evF_split (w : Nat) : ∀ n x, x < 2 ^ (2 * w * n) → evF w n x + 2 ^ w * evF w n (x / 2 ^ w) = x
  | 0, x, h => by
    rw [Nat.mul_zero, Nat.pow_zero] at h
    simp [evF]
    omega
  | n + 1, x, h => by
    have e2 : 2 ^ (2 * w) = 2 ^ w * 2 ^ w := by rw [← Nat.pow_add]; congr 1; omega
    have hx : x / 2 ^ (2 * w) < 2 ^ (2 * w * n) := by
      rw [Nat.div_lt_iff_lt_mul (Nat.two_pow_pos _), ← Nat.pow_add]
      rw [Nat.mul_add, Nat.mul_one] at h
      exact h
    have ih := evF_split w n (x / 2 ^ (2 * w)) hx
    have hd : x / 2 ^ w / 2 ^ (2 * w) = x / 2 ^ (2 * w) / 2 ^ w := by
      rw [Nat.div_div_eq_div_mul, Nat.div_div_eq_div_mul, Nat.mul_comm]
    rw [evF, evF, hd]
    have a1 := Nat.div_add_mod x (2 ^ (2 * w))
    have a2 : x % 2 ^ (2 * w) = x % 2 ^ w + 2 ^ w * (x / 2 ^ w % 2 ^ w) := by
      rw [e2, Nat.mod_mul]
    generalize evF w n (x / 2 ^ (2 * w)) = E at ih ⊢
    generalize evF w n (x / 2 ^ (2 * w) / 2 ^ w) = F at ih ⊢
    rw [Nat.mul_add, ← Nat.mul_assoc, Nat.mul_comm (2 ^ w) (2 ^ (2 * w)), Nat.mul_assoc]
    have a3 : 2 ^ (2 * w) * (x / 2 ^ (2 * w)) = 2 ^ (2 * w) * E + 2 ^ (2 * w) * (2 ^ w * F) := by rw [← ih, Nat.mul_add]
    omega
/-- sums of two figures that stand side by side -/
def prF (w n x : Nat) : Nat := evF w n x + evF w n (x / 2 ^ w)
theorem evF_lt (w : Nat) (hw : 0 < w) : ∀ n x, 2 * evF w n x < 2 ^ (2 * w * n) + 2 ^ (2 * w * n) ∧ evF w n x < 2 ^ (2 * w * n)
  | 0, x => by simp [evF]
  | n + 1, x => by
    have ih := (evF_lt w hw n (x / 2 ^ (2 * w))).2
    have hm := Nat.mod_lt x (Nat.two_pow_pos w)
    have h2 : 2 ^ w ≤ 2 ^ (2 * w) := Nat.pow_le_pow_right (by decide) (by omega)
    have h3 : 2 ^ (2 * w) * (evF w n (x / 2 ^ (2 * w)) + 1) ≤ 2 ^ (2 * w) * 2 ^ (2 * w * n) := Nat.mul_le_mul_left _ ih
    rw [Nat.mul_add] at h3
    have e : 2 ^ (2 * w * (n + 1)) = 2 ^ (2 * w) * 2 ^ (2 * w * n) := by rw [← Nat.pow_add]; congr 1; rw [Nat.mul_add]; omega
    rw [evF, e]
    omega
theorem bc1_N {m : Nat} (hm : m < 2 ^ 64) : bc1 (lN m) = lN (prF 1 32 m) := by
  have hs := evF_split 1 32 m hm
  have hle := evF_le 1 32 (m / 2)
  unfold bc1
  rw [show (6148914691236517205 : Int64) = lN (mkF 1 32) from by decide, show (1 : Int32) = nI 1 from rfl, ush_N hm (by decide), lN_and, evF_and, lN_sub (by rw [Nat.pow_one]; omega)]
  congr 1
  unfold prF
  rw [Nat.pow_one] at hs ⊢
  omega
theorem bc2_N {m : Nat} (hm : m < 2 ^ 64) : bc2 (lN m) = lN (prF 2 16 m) := by
  unfold bc2
  rw [show (3689348814741910323 : Int64) = lN (mkF 2 16) from by decide, show (2 : Int32) = nI 2 from rfl, ush_N hm (by decide), lN_and, lN_and, evF_and, evF_and, lN_add]
  rfl
theorem prF_lt64 {w n x : Nat} (hw : 0 < w) (h : 2 * w * n = 64) (hx : x < 2 ^ 64) : prF w n x < 2 ^ 64 := by
  have hs := evF_split w n x (by rw [h]; exact hx)
  have : 1 ≤ 2 ^ w := Nat.one_le_two_pow
  have h2 : evF w n (x / 2 ^ w) ≤ 2 ^ w * evF w n (x / 2 ^ w) := Nat.le_mul_of_pos_left _ (by omega)
  unfold prF
  omega
/-- base 16: figures of at most 6, none carried -/
def lo6 : Nat → Nat → Prop
  | 0, x => x = 0
  | n + 1, x => x % 16 ≤ 6 ∧ lo6 n (x / 16)
theorem lo6_pr : ∀ n x, lo6 n (prF 2 n x)
  | 0, x => rfl
  | n + 1, x => by
    have hd : x / 2 ^ 2 / 2 ^ (2 * 2) = x / 2 ^ (2 * 2) / 2 ^ 2 := by
      rw [Nat.div_div_eq_div_mul, Nat.div_div_eq_div_mul, Nat.mul_comm]
    have e : prF 2 (n + 1) x = 16 * prF 2 n (x / 16) + (x % 4 + x / 4 % 4) := by
      unfold prF
      rw [evF, evF, hd]
      show 16 * evF 2 n (x / 16) + x % 4 + (16 * evF 2 n (x / 16 / 4) + x / 4 % 4) = 16 * (evF 2 n (x / 16) + evF 2 n (x / 16 / 4)) + (x % 4 + x / 4 % 4)
      omega
    have ih := lo6_pr n (x / 16)
    clear hd
    rw [e]
    clear e
    have h6 : x % 4 + x / 4 % 4 ≤ 6 := by omega
    generalize x % 4 + x / 4 % 4 = y at h6
    generalize prF 2 n (x / 16) = z at ih
    refine ⟨by omega, ?_⟩
    rw [show (16 * z + y) / 16 = z by omega]
    exact ih
theorem lo6_0 : ∀ n, lo6 n 0
  | 0 => rfl
  | n + 1 => ⟨by decide, lo6_0 n⟩
theorem evF_car : ∀ n x, lo6 (2 * n) x → evF 4 n (x + x / 16) = prF 4 n x
  | 0, x, _ => rfl
  | n + 1, x, h => by
    have h0 : lo6 (2 * n + 1 + 1) x := h
    obtain ⟨h1, h2, h3⟩ := h0
    have h4 : x / 16 / 16 % 16 ≤ 6 := by
      cases n with
      | zero =>
        have h3' : x / 16 / 16 = 0 := h3
        omega
      | succ n => exact h3.1
    have ih := evF_car n (x / 256) (by rw [show x / 256 = x / 16 / 16 by omega]; exact h3)
    unfold prF at ih ⊢
    have q1 : x / 16 / 16 = x / 256 := by omega
    rw [q1] at h4
    have e1 : (x + x / 16) / 256 = x / 256 + x / 256 / 16 := by omega
    have e2 : (x + x / 16) % 16 = x % 16 + x / 16 % 16 := by omega
    have e3 : x / 16 / 256 = x / 256 / 16 := by omega
    rw [evF, evF, evF]
    show 256 * evF 4 n ((x + x / 16) / 256) + (x + x / 16) % 16 = 256 * evF 4 n (x / 256) + x % 16 + (256 * evF 4 n (x / 16 / 256) + x / 16 % 16)
    rw [e1, e2, e3, ih]
    show 256 * (evF 4 n (x / 256) + evF 4 n (x / 256 / 16)) + (x % 16 + x / 16 % 16) = _
    omega
theorem lo6_lt : ∀ n x, lo6 n x → 15 * x ≤ 6 * (16 ^ n - 1)
  | 0, x, h => by
    have h' : x = 0 := h
    omega
  | n + 1, x, h => by
    have ih := lo6_lt n (x / 16) h.2
    have h1 := h.1
    have : 1 ≤ 16 ^ n := Nat.one_le_pow _ _ (by decide)
    rw [Nat.pow_succ]
    omega
theorem bc3_N {m : Nat} (h : lo6 16 m) : bc3 (lN m) = lN (prF 4 8 m) := by
  have hl := lo6_lt 16 m h
  unfold bc3
  rw [show (1085102592571150095 : Int64) = lN (mkF 4 8) from by decide, show (4 : Int32) = nI 4 from rfl, ush_N (by omega) (by decide), lN_add, lN_and, evF_and]
  congr 1
  exact evF_car 8 m h
theorem ds_fin {y : Nat} (hy : y < 2 ^ 64) (hd : dsF 8 8 y ≤ 64) : (y + y / 2 ^ 8 + (y + y / 2 ^ 8) / 2 ^ 16 + (y + y / 2 ^ 8 + (y + y / 2 ^ 8) / 2 ^ 16) / 2 ^ 32) % 128 = dsF 8 8 y ∧ y + y / 2 ^ 8 + (y + y / 2 ^ 8) / 2 ^ 16 + (y + y / 2 ^ 8 + (y + y / 2 ^ 8) / 2 ^ 16) / 2 ^ 32 < 2 ^ 64 := by
  simp only [dsF] at hd ⊢
  have e0 := Nat.div_add_mod y 256
  have e1 := Nat.div_add_mod (y / 256) 256
  have e2 := Nat.div_add_mod (y / 256 / 256) 256
  have e3 := Nat.div_add_mod (y / 256 / 256 / 256) 256
  have e4 := Nat.div_add_mod (y / 256 / 256 / 256 / 256) 256
  have e5 := Nat.div_add_mod (y / 256 / 256 / 256 / 256 / 256) 256
  have e6 := Nat.div_add_mod (y / 256 / 256 / 256 / 256 / 256 / 256) 256
  have e7 : y / 256 / 256 / 256 / 256 / 256 / 256 / 256 < 256 := by omega
  simp only [Nat.reducePow, Nat.add_zero] at hd ⊢
  rw [Nat.mod_eq_of_lt e7] at hd ⊢
  generalize y % 256 = b0 at *
  generalize y / 256 % 256 = b1 at *
  generalize y / 256 / 256 % 256 = b2 at *
  generalize y / 256 / 256 / 256 % 256 = b3 at *
  generalize y / 256 / 256 / 256 / 256 % 256 = b4 at *
  generalize y / 256 / 256 / 256 / 256 / 256 % 256 = b5 at *
  generalize y / 256 / 256 / 256 / 256 / 256 / 256 % 256 = b6 at *
  generalize y / 256 / 256 / 256 / 256 / 256 / 256 / 256 = b7 at *
  have ey : y = b0 + 256 * (b1 + 256 * (b2 + 256 * (b3 + 256 * (b4 + 256 * (b5 + 256 * (b6 + 256 * b7)))))) := by omega
  clear e0 e1 e2 e3 e4 e5 e6 e7
  have k1 : ∀ r q : Nat, r < 256 → (r + 256 * q) / 256 = q := fun r q h => by omega
  have k2 : ∀ r q : Nat, r < 65536 → (r + 65536 * q) / 65536 = q := fun r q h => by omega
  have k3 : ∀ r q : Nat, r < 4294967296 → (r + 4294967296 * q) / 4294967296 = q := fun r q h => by omega
  have f1 : y / 256 = b1 + 256 * (b2 + 256 * (b3 + 256 * (b4 + 256 * (b5 + 256 * (b6 + 256 * b7))))) := by
    rw [ey]
    exact k1 _ _ (by omega)
  have g2 : y + y / 256 = ((b0 + b1) + 256 * (b1 + b2)) + 65536 * ((b2 + b3) + 256 * ((b3 + b4) + 256 * ((b4 + b5) + 256 * ((b5 + b6) + 256 * ((b6 + b7) + 256 * b7))))) := by
    rw [f1]
    omega
  have f2 : (y + y / 256) / 65536 = (b2 + b3) + 256 * ((b3 + b4) + 256 * ((b4 + b5) + 256 * ((b5 + b6) + 256 * ((b6 + b7) + 256 * b7)))) := by
    rw [g2]
    exact k2 _ _ (by omega)
  have g3 : y + y / 256 + (y + y / 256) / 65536 = ((b0 + b1 + b2 + b3) + 256 * (b1 + b2 + b3 + b4) + 65536 * (b2 + b3 + b4 + b5) + 16777216 * (b3 + b4 + b5 + b6)) + 4294967296 * ((b4 + b5 + b6 + b7) + 256 * ((b5 + b6 + b7) + 256 * ((b6 + b7) + 256 * b7))) := by
    rw [f2, g2]
    omega
  have f3 : (y + y / 256 + (y + y / 256) / 65536) / 4294967296 = (b4 + b5 + b6 + b7) + 256 * ((b5 + b6 + b7) + 256 * ((b6 + b7) + 256 * b7)) := by
    rw [g3]
    exact k3 _ _ (by omega)
  rw [f3, g3]
  clear f1 g2 f2 g3 f3 ey hy k1 k2 k3
  have hd' : b0 + b1 + b2 + b3 + b4 + b5 + b6 + b7 ≤ 64 := by omega
  refine ⟨?_, by omega⟩
  have e : ∀ X : Nat, (b0 + b1 + b2 + b3 + b4 + b5 + b6 + b7 + 128 * X) % 128 = b0 + b1 + b2 + b3 + b4 + b5 + b6 + b7 := fun X => by omega
  have g : (b0 + b1 + b2 + b3 + 256 * (b1 + b2 + b3 + b4) + 65536 * (b2 + b3 + b4 + b5) + 16777216 * (b3 + b4 + b5 + b6) + 4294967296 * (b4 + b5 + b6 + b7 + 256 * (b5 + b6 + b7 + 256 * (b6 + b7 + 256 * b7))) + (b4 + b5 + b6 + b7 + 256 * (b5 + b6 + b7 + 256 * (b6 + b7 + 256 * b7)))) = b0 + b1 + b2 + b3 + b4 + b5 + b6 + b7 + 128 * (2 * (b1 + b2 + b3 + b4) + 512 * (b2 + b3 + b4 + b5) + 131072 * (b3 + b4 + b5 + b6) + 33554432 * (b4 + b5 + b6 + b7 + 256 * (b5 + b6 + b7 + 256 * (b6 + b7 + 256 * b7))) + 2 * (b5 + b6 + b7 + 256 * (b6 + b7 + 256 * b7))) := by omega
  rw [g, e]
  omega
