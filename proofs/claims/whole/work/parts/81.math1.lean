/-! THE MATHEMATICS between class and reference: bits, cubes, counts -/
theorem shr_amt {k : Nat} (hk : k < 64) : ((((nI k).toInt64 &&& 63).toBitVec).smod 64#64).toNat = k := by
  have : ∀ k : Fin 64, ((((nI k.val).toInt64 &&& 63).toBitVec).smod 64#64).toNat = k.val := by decide +kernel
  exact this ⟨k, hk⟩
theorem shr_bit {x : Int64} {k : Nat} (hk : k < 64) : (x >>> ((nI k).toInt64 &&& 63)) &&& 1 = lN (mkN (fun _ => x.toBitVec.getLsbD k) 1) := by
  apply mk_ext
  intro j hj
  have e : (x >>> ((nI k).toInt64 &&& 63)).toBitVec = x.toBitVec.sshiftRight ((((nI k).toInt64 &&& 63).toBitVec).smod 64#64).toNat := rfl
  rw [Int64.toBitVec_and, BitVec.getLsbD_and, e, shr_amt hk, show (1 : Int64).toBitVec = BitVec.ofNat 64 1 from rfl, BitVec.getLsbD_ofNat, decide_eq_true hj, Bool.true_and]
  by_cases q : j = 0
  · subst q
    rw [BitVec.getLsbD_sshiftRight]
    simp [hk]
  · have : Nat.testBit 1 j = false := by
      obtain ⟨m, rfl⟩ : ∃ m, j = m + 1 := ⟨j - 1, by omega⟩
      simp [Nat.testBit_succ]
    rw [this, decide_eq_false (by omega)]
    simp
theorem bitS_N (x : Int64) : ∀ k, k ≤ 64 → bitS x k = lN (gMany (fun i => x.toBitVec.getLsbD i) k)
  | 0, _ => rfl
  | k + 1, h => by
    rw [bitS, bitS_N x k (by omega), shr_bit (by omega), gMany, lN_add]
    congr 1
    rw [mkN, mkN]
    simp
theorem nI_lN {g : Nat} (h : g ≤ 64) : (nI g).toInt64 = lN g := by
  have : ∀ g : Fin 65, (nI g.val).toInt64 = lN g.val := by decide +kernel
  exact this ⟨g, by omega⟩
theorem bc_bits (x : Int64) : (bcL x).toInt64 = bitS x 64 := by
  have ex : x = lN x.toBitVec.toNat := by
    apply Int64.toBitVec_inj.mp
    apply BitVec.eq_of_toNat_eq
    rw [lN_tn x.toBitVec.isLt]
  have h1 := bcL_N x.toBitVec.isLt
  rw [← ex] at h1
  rw [h1, nI_lN (gMany_le _ _), bitS_N x 64 (by omega)]
  congr 1
theorem gMany_split {r p q : Nat → Bool} : ∀ A, (∀ b, b < A → (if r b = true then 1 else 0) = (if p b = true then 1 else 0) + (if q b = true then 1 else 0)) → gMany r A = gMany p A + gMany q A
  | 0, _ => rfl
  | A + 1, h => by
    rw [gMany, gMany, gMany, gMany_split A (fun b hb => h b (by omega)), h A (by omega)]
    omega
theorem su_part {p : Nat → Bool} {f : Nat → Nat} {A lo : Nat} : ∀ k, suN (fun q => gMany (fun b => p b && decide (f b = q)) A) lo k = gMany (fun b => p b && decide (lo ≤ f b ∧ f b < lo + k)) A
  | 0 => by
    rw [suN]
    exact ((gMany_0 A).mpr (fun b hb => by rw [decide_eq_false (by omega), Bool.and_false])).symm
  | k + 1 => by
    rw [suN, su_part k]
    refine (gMany_split A (fun b hb => ?_)).symm
    cases p b with
    | false => simp
    | true =>
      simp only [Bool.true_and, decide_eq_true_eq]
      by_cases h1 : f b = lo + k
      · rw [if_pos (by omega), if_neg (by omega), if_pos h1]
      · by_cases h2 : lo ≤ f b ∧ f b < lo + k
        · rw [if_pos (by omega), if_pos h2, if_neg h1]
        · rw [if_neg (by omega), if_neg h2, if_neg h1]
theorem nth_congr {p q : Nat → Bool} {k : Nat} : ∀ n, (∀ i, i < n → p i = q i) → nth p n k = nth q n k
  | 0, _ => rfl
  | n + 1, h => by rw [nth, nth, nth_congr n (fun i hi => h i (by omega)), h n (by omega), gMany_congr (fun i hi => h i (by omega))]
section MATH1
variable {d n s : Nat} {v c : Nat → Nat} {u : Nat → Int32}
/-- a closure's figures are within the values -/
theorem clo_fig (hE : eOK d v n c u s) {a : Nat} {p : Nat → Bool} (h : gClo d p c n = some a) : allB (fun k => decide (figN d a k ≤ v k)) d = true := by
  obtain ⟨h1, ⟨i, hi, hp⟩, h2⟩ := gClo_is n a (cOK_of hE) h
  rw [allB_true]
  intro k hk
  refine decide_eq_true ?_
  rw [figN_dg]
  by_cases h0 : dg (d - 1 - k) a = 0
  · omega
  · have h3 := (h2 (d - 1 - k) (by omega) (dg (d - 1 - k) a) (by omega)).mp rfl i hi hp
    rw [← h3]
    exact dgv_of hE k hk i hi
theorem clo1_eq (hE : eOK d v n c u s) (a : Nat) : clo1 d v n c a = clD d n c a := by
  unfold clo1 clD
  by_cases h : gClo d (cvP d c a) c n = some a
  · rw [clo_fig hE h, Bool.true_and]
  · rw [decide_eq_false h, Bool.and_false]
theorem inCu_eq (hE : eOK d v n c u s) (s' a : Nat) : inCu d v n c s' a = cuB d n s' c a := by
  unfold inCu cuB
  rw [← Bool.and_assoc]
  congr 1
  exact clo1_eq hE a
theorem clD_ne {a : Nat} (h : clD d n c a = true) : neD d n c a = true := by
  have h1 : cuB d n 0 c a = true := by
    unfold cuB
    rw [h, decide_eq_true (Nat.zero_le _)]
    rfl
  exact cuB_ne h1
theorem cs_by (hE : eOK d v n c u s) (A : Nat) : csN d n c A = byM d v n c A := by
  funext q
  unfold csN byM
  refine gMany_congr (fun b hb => ?_)
  rw [clo1_eq hE]
  cases h : clD d n c b with
  | false => simp
  | true => rw [clD_ne h, Bool.true_and]
theorem cube_size (hE : eOK d v n c u s) {s' : Nat} (hs : s' ≤ 41) : suN (csN d n c (7 ^ d)) s' (41 - s') = gMany (inCu d v n c s') (7 ^ d) := by
  have e : csN d n c (7 ^ d) = fun q => gMany (fun b => clD d n c b && decide (gMany (cvP d c b) n = q)) (7 ^ d) := by
    funext q
    unfold csN
    refine gMany_congr (fun b hb => ?_)
    cases h : clD d n c b with
    | false => simp
    | true => rw [clD_ne h, Bool.true_and]
  rw [e, su_part (p := clD d n c) (f := fun b => gMany (cvP d c b) n)]
  refine gMany_congr (fun b hb => ?_)
  rw [inCu_eq hE]
  unfold cuB
  congr 1
  have := gMany_le (cvP d c b) n
  have hn := hE.1
  by_cases h : s' ≤ gMany (cvP d c b) n
  · rw [decide_eq_true h, decide_eq_true (by omega)]
  · rw [decide_eq_false h, decide_eq_false (by omega)]
theorem all_size (hE : eOK d v n c u s) {s' : Nat} (hs : s' ≤ 41) : suN (alN d n c (7 ^ d)) s' (41 - s') = gMany (enou d n s' c) (7 ^ d) := by
  have e : alN d n c (7 ^ d) = fun q => gMany (fun b => neD d n c b && decide (gMany (cvP d c b) n = q)) (7 ^ d) := rfl
  rw [e, su_part (p := neD d n c) (f := fun b => gMany (cvP d c b) n)]
  refine gMany_congr (fun b hb => ?_)
  unfold neD enou
  have := gMany_le (cvP d c b) n
  have hn := hE.1
  by_cases h0 : 0 < gMany (cvP d c b) n
  · rw [decide_eq_true h0, Bool.true_and]
    by_cases h : s' ≤ gMany (cvP d c b) n
    · rw [decide_eq_true (show 0 < gMany (cvP d c b) n ∧ s' ≤ gMany (cvP d c b) n from ⟨h0, h⟩), decide_eq_true (by omega)]
    · rw [decide_eq_false (show ¬ (0 < gMany (cvP d c b) n ∧ s' ≤ gMany (cvP d c b) n) from fun q => h q.2), decide_eq_false (by omega)]
  · rw [decide_eq_false h0, Bool.false_and, decide_eq_false (fun q => h0 q.1)]
theorem cnt_eq (hE : eOK d v n c u s) {vals ln : Nat → Int32} {z L : Nat} (hvals : ∀ k, k < d → vals k = nI (v k)) (x : Int32) : aCntC d n s z L v c ln x = aCount d n s z L v c vals ln x := by
  unfold aCntC aCount
  have hs := hE.2.1
  rw [cube_size hE (by omega), all_size hE (by omega), valT_congr (f := vals) (g := fun k => nI (v k)) d hvals]
end MATH1
/-! the least support for so many cells -/
theorem suN_front {F : Nat → Nat} : ∀ (k lo : Nat), suN F lo (k + 1) = F lo + suN F (lo + 1) k
  | 0, lo => by simp [suN]
  | k + 1, lo => by
    rw [suN, suN_front k lo, suN, show lo + 1 + k = lo + (k + 1) by omega]
    omega
def suS (F : Nat → Nat) (s : Nat) : Nat := suN F s (41 - s)
theorem suS_step {F : Nat → Nat} {s : Nat} (h : s ≤ 40) : suS F s = F s + suS F (s + 1) := by
  unfold suS
  rw [show 41 - s = (40 - s) + 1 by omega, suN_front, show 41 - (s + 1) = 40 - s by omega]
theorem suS_anti {F : Nat → Nat} {s : Nat} : ∀ m, s + m ≤ 41 → suS F (s + m) ≤ suS F s
  | 0, _ => Nat.le_refl _
  | m + 1, h => by
    have h1 := suS_anti (F := F) (s := s) m (by omega)
    have h2 := suS_step (F := F) (s := s + m) (by omega)
    rw [show s + (m + 1) = s + m + 1 by omega]
    omega
theorem suS_41 {F : Nat → Nat} : suS F 41 = 0 := rfl
theorem lsR_spec {F : Nat → Nat} {q : Nat} : ∀ (m s : Nat), m + s = 41 → 1 ≤ s → (∀ s', 1 ≤ s' → s' < s → q < suS F s') → (1 ≤ lsR F q m s ∧ lsR F q m s ≤ 41) ∧ suS F (lsR F q m s) ≤ q ∧ ∀ s', 1 ≤ s' → s' < lsR F q m s → q < suS F s'
  | 0, s, h, h1, h2 => by
    obtain rfl : s = 41 := by omega
    exact ⟨⟨h1, Nat.le_refl _⟩, by rw [lsR, suS_41]; exact Nat.zero_le _, h2⟩
  | m + 1, s, h, h1, h2 => by
    rw [lsR]
    by_cases hc : suN F s (41 - s) ≤ q
    · rw [if_pos hc]
      exact ⟨⟨h1, by omega⟩, hc, h2⟩
    · rw [if_neg hc]
      refine lsR_spec m (s + 1) (by omega) (by omega) (fun s' a1 a2 => ?_)
      by_cases e : s' = s
      · subst e; exact Nat.not_le.mp hc
      · exact h2 s' a1 (by omega)
theorem capR_spec {F : Nat → Nat} {k : Nat} : ∀ (s : Nat), s + 1 ≤ 41 → suS F (s + 1) ≤ k → (1 ≤ capR F k (s + 1) (suS F (s + 1)) ∧ capR F k (s + 1) (suS F (s + 1)) ≤ 41) ∧ suS F (capR F k (s + 1) (suS F (s + 1))) ≤ k ∧ (capR F k (s + 1) (suS F (s + 1)) = 1 ∨ k < suS F (capR F k (s + 1) (suS F (s + 1)) - 1))
  | 0, h, h1 => by
    rw [capR]
    exact ⟨⟨by omega, by omega⟩, h1, Or.inl rfl⟩
  | s + 1, h, h1 => by
    have e := suS_step (F := F) (s := s + 1) (by omega)
    rw [capR]
    by_cases hc : suS F (s + 1 + 1) + F (s + 1) ≤ k
    · rw [if_pos hc, show suS F (s + 1 + 1) + F (s + 1) = suS F (s + 1) by omega]
      exact capR_spec s (by omega) (by omega)
    · rw [if_neg hc]
      refine ⟨⟨by omega, by omega⟩, h1, Or.inr ?_⟩
      rw [show s + 2 - 1 = s + 1 by omega]
      omega
theorem cap_eq (F : Nat → Nat) (q : Nat) : lsR F q 40 1 = capR F q 41 0 := by
  obtain ⟨⟨a1, a2⟩, a3, a4⟩ := lsR_spec (F := F) (q := q) 40 1 rfl (by omega) (fun s' h1 h2 => by omega)
  obtain ⟨⟨b1, b2⟩, b3, b4⟩ := capR_spec (F := F) (k := q) 40 (by omega) (by rw [suS_41]; exact Nat.zero_le _)
  rw [show (40 + 1) = 41 from rfl, suS_41] at b1 b2 b3 b4
  rcases Nat.lt_trichotomy (lsR F q 40 1) (capR F q 41 0) with h | h | h
  · rcases b4 with e | e
    · omega
    · have h5 := suS_anti (F := F) (s := lsR F q 40 1) (capR F q 41 0 - 1 - lsR F q 40 1) (by omega)
      rw [show lsR F q 40 1 + (capR F q 41 0 - 1 - lsR F q 40 1) = capR F q 41 0 - 1 by omega] at h5
      omega
  · exact h
  · have := a4 (capR F q 41 0) b1 h
    omega
