/-! Long.bitCount, the end -/
theorem nI_tn (n : Nat) : (nI n).toBitVec.toNat = n % 2 ^ 32 := rfl
theorem bc4_N {m k : Nat} (hk : k < 64) (h : m < 2 ^ 64) : bc4 (nI k) (lN m) = lN (m + m / 2 ^ k) := by
  unfold bc4
  rw [ush_N h hk, lN_add]
theorem dsF_pr {w W n N x : Nat} (hw : 0 < w) (hW : W = 2 * w) (hN : N = 2 * n) : dsF W n (prF w n x) = dsF w N x := by
  subst hW hN
  exact dsF_ev hw n x
theorem dsF_b0 (x n : Nat) : dsF 1 n x = gMany (fun i => x.testBit i) n := by
  have h := dsF_bits x n 0
  rw [Nat.pow_zero, Nat.div_one, Nat.zero_add, gMany, Nat.add_zero] at h
  exact h
theorem bcL_N {m : Nat} (hm : m < 2 ^ 64) : bcL (lN m) = nI (gMany (fun i => m.testBit i) 64) := by
  have hle := gMany_le (fun i => m.testBit i) 64
  have p1 := prF_lt64 (w := 1) (n := 32) (by decide) (by decide) hm
  have p2 := prF_lt64 (w := 2) (n := 16) (by decide) (by decide) p1
  have p3 := prF_lt64 (w := 4) (n := 8) (by decide) (by decide) p2
  have hs : dsF 8 8 (prF 4 8 (prF 2 16 (prF 1 32 m))) = gMany (fun i => m.testBit i) 64 := by
    rw [dsF_pr (w := 4) (N := 16) (by decide) (by decide) (by decide), dsF_pr (w := 2) (N := 32) (by decide) (by decide) (by decide), dsF_pr (w := 1) (N := 64) (by decide) (by decide) (by decide), dsF_b0]
  have hl := lo6_pr 16 (prF 1 32 m)
  generalize hy : prF 4 8 (prF 2 16 (prF 1 32 m)) = y at hs p3
  obtain ⟨f1, f2⟩ := ds_fin p3 (by omega)
  unfold bcL
  rw [bc1_N hm, bc2_N p1, bc3_N hl, hy, show (8 : Int32) = nI 8 from rfl, bc4_N (by decide) p3, show (16 : Int32) = nI 16 from rfl, bc4_N (by decide) (by omega), show (32 : Int32) = nI 32 from rfl, bc4_N (by decide) (by omega), lN_i]
  rw [pk_and (m := 127) _ 7 (by decide), nI_tn]
  congr 1
  rw [← hs, ← f1]
  rw [Nat.mod_mod_of_dvd _ (by decide : 2 ^ 7 ∣ 2 ^ 32)]
theorem gMany_congr {p q : Nat → Bool} : ∀ {n : Nat}, (∀ i, i < n → p i = q i) → gMany p n = gMany q n
  | 0, _ => rfl
  | n + 1, h => by rw [gMany, gMany, gMany_congr (fun i hi => h i (by omega)), h n (by omega)]
theorem gMany_cut {p : Nat → Bool} {n : Nat} : ∀ m, (∀ i, n ≤ i → p i = false) → gMany p (n + m) = gMany p n
  | 0, _ => rfl
  | m + 1, h => by
    show gMany p (n + m + 1) = _
    rw [gMany, gMany_cut m h, h (n + m) (by omega)]
    simp
theorem bc_mk {p : Nat → Bool} {n : Nat} (hn : n ≤ 64) : bcL (lN (mkN p n)) = nI (gMany p n) := by
  have hlt := mkN_lt p n
  have h64 : 2 ^ n ≤ 2 ^ 64 := Nat.pow_le_pow_right (by decide) hn
  rw [bcL_N (by omega)]
  congr 1
  have e := gMany_cut (p := fun i => (mkN p n).testBit i) (n := n) (64 - n) (fun i hi => by rw [mkN_tb, decide_eq_false (by omega)]; rfl)
  rw [show n + (64 - n) = 64 by omega] at e
  rw [e]
  exact gMany_congr (fun i hi => by rw [mkN_tb, decide_eq_true hi, Bool.true_and])
