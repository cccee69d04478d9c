/-! contracts of the static methods that need no world -/
def bZ (b : Bool) : Int32 := match b with
  | true => 1
  | false => 0
theorem bZ_01 (b : Bool) : bZ b = 0 ∨ bZ b = 1 := by cases b <;> simp [bZ]
theorem bZ_0 {b : Bool} (h : bZ b = 0) : b = false := by cases b <;> simp_all [bZ]
theorem bZ_n {b : Bool} (h : ¬ bZ b = 0) : b = true := by cases b <;> simp_all [bZ]
theorem bZ_some {b c : Bool} (h : b = c) : (some (Value.int (bZ b)) : Option Value) = some (.int (bZ c)) := by rw [h]
theorem kX9_in {l : tg_Ln} {v a b : Int64} : tg_Ct l mX9_in 1000 [.long v, .long a, .long b] [] (fun r w => r = some (.int (bZ (decide (a ≤ v) && decide (v ≤ b)))) ∧ w = []) := by
  show tg_G _ _ _ _ _ _ _ [.long v, .null, .long a, .null, .long b, .null] [] _
  refine tg_go bX9_in_0 ?_
  simp only [ti_lcmp, ti_lload, List.getElem?_cons_zero, List.getElem?_cons_succ, true_and]
  refine g_if_lt (tgt := 17) dX9_in_3 rfl (fun h3 => ?_) (fun h3 => ?_)
  · refine tg_go bX9_in_17 ?_
    simp only [ti_push, List.getElem?_cons_zero, List.getElem?_cons_succ, true_and]
    refine g_zret dX9_in_18 rfl (by first | exact Or.inl rfl | exact Or.inr rfl | assumption) ?_
    have e := Int64.not_le.mpr ((lg_cmp_lt _ _).mp h3)
    exact ⟨by simp [e, bZ], rfl⟩
  · refine tg_go bX9_in_6 ?_
    simp only [ti_lcmp, ti_lload, List.getElem?_cons_zero, List.getElem?_cons_succ, true_and]
    refine g_if_gt (tgt := 17) dX9_in_10 rfl (fun h10 => ?_) (fun h10 => ?_)
    · refine tg_go bX9_in_17 ?_
      simp only [ti_push, List.getElem?_cons_zero, List.getElem?_cons_succ, true_and]
      refine g_zret dX9_in_18 rfl (by first | exact Or.inl rfl | exact Or.inr rfl | assumption) ?_
      have e := Int64.not_le.mpr ((lg_cmp_gt _ _).mp h10)
      exact ⟨by simp [e, bZ], rfl⟩
    · refine tg_go bX9_in_13 ?_
      simp only [ti_push, List.getElem?_cons_zero, List.getElem?_cons_succ, true_and]
      refine g_goto (tgt := 18) dX9_in_14 rfl ?_
      refine g_zret dX9_in_18 rfl (by first | exact Or.inl rfl | exact Or.inr rfl | assumption) ?_
      have e := Int64.not_lt.mp (fun q => h3 ((lg_cmp_lt _ _).mpr q))
      have e2 := Int64.not_lt.mp (fun q => h10 ((lg_cmp_gt _ _).mpr q))
      exact ⟨by simp [e, e2, bZ], rfl⟩
theorem kX9_has {l : tg_Ln} {s k : Int32} : tg_Ct l mX9_has 1000 [.int s, .int k] [] (fun r w => r = some (.int (bZ (decide ((s >>> (k &&& 31)) &&& 1 = 1)))) ∧ w = []) := by
  show tg_G _ _ _ _ _ _ _ [.int s, .int k] [] _
  refine tg_go bX9_has_0 ?_
  simp only [ti_iand, ti_iload, ti_ishr, ti_push, List.getElem?_cons_zero, List.getElem?_cons_succ, true_and]
  refine g_icmp_ne (tgt := 13) dX9_has_6 rfl (fun h6 => ?_) (fun h6 => ?_)
  · refine tg_go bX9_has_13 ?_
    simp only [ti_push, List.getElem?_cons_zero, List.getElem?_cons_succ, true_and]
    refine g_zret dX9_has_14 rfl (by first | exact Or.inl rfl | exact Or.inr rfl | assumption) ?_
    exact ⟨by simp [h6, bZ], rfl⟩
  · refine tg_go bX9_has_9 ?_
    simp only [ti_push, List.getElem?_cons_zero, List.getElem?_cons_succ, true_and]
    refine g_goto (tgt := 14) dX9_has_10 rfl ?_
    refine g_zret dX9_has_14 rfl (by first | exact Or.inl rfl | exact Or.inr rfl | assumption) ?_
    exact ⟨by simp [h6, bZ], rfl⟩
theorem w_in (x a b : Int32) : (decide (a.toInt64 ≤ x.toInt64) && decide (x.toInt64 ≤ b.toInt64)) = (decide (a ≤ x) && decide (x ≤ b)) := by
  have e : ∀ u v : Int32, (u.toInt64 ≤ v.toInt64) = (u ≤ v) := fun u v => propext ⟨fun h => by
    rw [Int64.le_iff_toInt_le] at h
    rw [Int32.le_iff_toInt_le]
    simpa using h, fun h => by
    rw [Int32.le_iff_toInt_le] at h
    rw [Int64.le_iff_toInt_le]
    simpa using h⟩
  simp only [e]
theorem kX9_isLetter {l : tg_Ln} {x : Int32} : tg_Ct l mX9_isLetter 1000 [.int x] [] (fun r w => r = some (.int (bZ (decide (97 ≤ x) && decide (x ≤ 122)))) ∧ w = []) := by
  show tg_G _ _ _ _ _ _ _ [.int x] [] _
  refine tg_go bX9_isLetter_0 ?_
  simp only [ti_i2l, ti_iload, ti_push, List.getElem?_cons_zero, List.getElem?_cons_succ, true_and]
  refine tg_cP vX9_isLetter_8 (kX9_in) rfl rfl (Nat.le_of_ble_eq_true rfl) (Nat.le_of_ble_eq_true rfl) ?_
  refine g_zret dX9_isLetter_11 rfl (bZ_01 _) ?_
  exact ⟨bZ_some (w_in x 97 122), rfl⟩
theorem kX9_isDigit {l : tg_Ln} {x : Int32} : tg_Ct l mX9_isDigit 1000 [.int x] [] (fun r w => r = some (.int (bZ (decide (48 ≤ x) && decide (x ≤ 57)))) ∧ w = []) := by
  show tg_G _ _ _ _ _ _ _ [.int x] [] _
  refine tg_go bX9_isDigit_0 ?_
  simp only [ti_i2l, ti_iload, ti_push, List.getElem?_cons_zero, List.getElem?_cons_succ, true_and]
  refine tg_cP vX9_isDigit_8 (kX9_in) rfl rfl (Nat.le_of_ble_eq_true rfl) (Nat.le_of_ble_eq_true rfl) ?_
  refine g_zret dX9_isDigit_11 rfl (bZ_01 _) ?_
  exact ⟨bZ_some (w_in x 48 57), rfl⟩
theorem kX9_isRow {l : tg_Ln} {x : Int32} : tg_Ct l mX9_isRow 1000 [.int x] [] (fun r w => r = some (.int (bZ (decide (0 ≤ x) && decide (x ≤ 2)))) ∧ w = []) := by
  show tg_G _ _ _ _ _ _ _ [.int x] [] _
  refine tg_go bX9_isRow_0 ?_
  simp only [ti_i2l, ti_iload, ti_push, List.getElem?_cons_zero, List.getElem?_cons_succ, true_and]
  refine tg_cP vX9_isRow_6 (kX9_in) rfl rfl (Nat.le_of_ble_eq_true rfl) (Nat.le_of_ble_eq_true rfl) ?_
  refine g_zret dX9_isRow_9 rfl (bZ_01 _) ?_
  exact ⟨bZ_some (w_in x 0 2), rfl⟩
theorem kX9_bits4 {l : tg_Ln} {s : Int32} : tg_Ct l mX9_bits4 1000 [.int s] [] (fun r w => r = some (.int ((s &&& 1) + ((s >>> ((1 : Int32) &&& 31)) &&& 1) + ((s >>> ((2 : Int32) &&& 31)) &&& 1) + ((s >>> ((3 : Int32) &&& 31)) &&& 1))) ∧ w = []) := by
  show tg_G _ _ _ _ _ _ _ [.int s] [] _
  refine tg_go bX9_bits4_0 ?_
  simp only [ti_iadd, ti_iand, ti_iload, ti_ishr, ti_push, List.getElem?_cons_zero, List.getElem?_cons_succ, true_and]
  refine g_iret dX9_bits4_21 rfl ?_
  exact ⟨rfl, rfl⟩
theorem kX3_isRow {l : tg_Ln} {x : Int32} : tg_Ct l mX3_isRow 1000 [.int x] [] (fun r w => r = some (.int (bZ (decide (0 ≤ x) && decide (x ≤ 2)))) ∧ w = []) := by
  show tg_G _ _ _ _ _ _ _ [.int x] [] _
  refine tg_go bX3_isRow_0 ?_
  simp only [ti_iload, List.getElem?_cons_zero, List.getElem?_cons_succ, true_and]
  refine g_if_lt (tgt := 13) dX3_isRow_1 rfl (fun h1 => ?_) (fun h1 => ?_)
  · refine tg_go bX3_isRow_13 ?_
    simp only [ti_push, List.getElem?_cons_zero, List.getElem?_cons_succ, true_and]
    refine g_zret dX3_isRow_14 rfl (by first | exact Or.inl rfl | exact Or.inr rfl | assumption) ?_
    have e := Int32.not_le.mpr h1
    exact ⟨by simp [e, bZ], rfl⟩
  · refine tg_go bX3_isRow_4 ?_
    simp only [ti_iload, ti_push, List.getElem?_cons_zero, List.getElem?_cons_succ, true_and]
    refine g_icmp_ge (tgt := 13) dX3_isRow_6 rfl (fun h6 => ?_) (fun h6 => ?_)
    · refine tg_go bX3_isRow_13 ?_
      simp only [ti_push, List.getElem?_cons_zero, List.getElem?_cons_succ, true_and]
      refine g_zret dX3_isRow_14 rfl (by first | exact Or.inl rfl | exact Or.inr rfl | assumption) ?_
      have e : ¬ x ≤ 2 := fun q => by
        rw [Int32.le_iff_toInt_le] at q h6
        have : (3 : Int32).toInt = 3 := by decide
        have : (2 : Int32).toInt = 2 := by decide
        omega
      exact ⟨by simp [e, bZ], rfl⟩
    · refine tg_go bX3_isRow_9 ?_
      simp only [ti_push, List.getElem?_cons_zero, List.getElem?_cons_succ, true_and]
      refine g_goto (tgt := 14) dX3_isRow_10 rfl ?_
      refine g_zret dX3_isRow_14 rfl (by first | exact Or.inl rfl | exact Or.inr rfl | assumption) ?_
      have e := Int32.not_lt.mp h1
      have e2 : x ≤ 2 := by
        rw [Int32.le_iff_toInt_le] at h6 ⊢
        have : (3 : Int32).toInt = 3 := by decide
        have : (2 : Int32).toInt = 2 := by decide
        omega
      exact ⟨by simp [e, e2, bZ], rfl⟩
theorem kX7_isSmall {l : tg_Ln} {x : Int32} : tg_Ct l mX7_isSmall 1000 [.int x] [] (fun r w => r = some (.int (bZ (decide (97 ≤ x) && decide (x ≤ 122)))) ∧ w = []) := by
  show tg_G _ _ _ _ _ _ _ [.int x] [] _
  refine tg_go bX7_isSmall_0 ?_
  simp only [ti_iload, ti_push, List.getElem?_cons_zero, List.getElem?_cons_succ, true_and]
  refine g_icmp_lt (tgt := 16) dX7_isSmall_3 rfl (fun h3 => ?_) (fun h3 => ?_)
  · refine tg_go bX7_isSmall_16 ?_
    simp only [ti_push, List.getElem?_cons_zero, List.getElem?_cons_succ, true_and]
    refine g_zret dX7_isSmall_17 rfl (by first | exact Or.inl rfl | exact Or.inr rfl | assumption) ?_
    have e := Int32.not_le.mpr h3
    exact ⟨by simp [e, bZ], rfl⟩
  · refine tg_go bX7_isSmall_6 ?_
    simp only [ti_iload, ti_push, List.getElem?_cons_zero, List.getElem?_cons_succ, true_and]
    refine g_icmp_gt (tgt := 16) dX7_isSmall_9 rfl (fun h9 => ?_) (fun h9 => ?_)
    · refine tg_go bX7_isSmall_16 ?_
      simp only [ti_push, List.getElem?_cons_zero, List.getElem?_cons_succ, true_and]
      refine g_zret dX7_isSmall_17 rfl (by first | exact Or.inl rfl | exact Or.inr rfl | assumption) ?_
      have e := Int32.not_le.mpr h9
      exact ⟨by simp [e, bZ], rfl⟩
    · refine tg_go bX7_isSmall_12 ?_
      simp only [ti_push, List.getElem?_cons_zero, List.getElem?_cons_succ, true_and]
      refine g_goto (tgt := 17) dX7_isSmall_13 rfl ?_
      refine g_zret dX7_isSmall_17 rfl (by first | exact Or.inl rfl | exact Or.inr rfl | assumption) ?_
      have e := Int32.not_lt.mp h3
      have e2 := Int32.not_lt.mp h9
      exact ⟨by simp [e, e2, bZ], rfl⟩
theorem kX7_isDigit {l : tg_Ln} {x : Int32} : tg_Ct l mX7_isDigit 1000 [.int x] [] (fun r w => r = some (.int (bZ (decide (48 ≤ x) && decide (x ≤ 57)))) ∧ w = []) := by
  show tg_G _ _ _ _ _ _ _ [.int x] [] _
  refine tg_go bX7_isDigit_0 ?_
  simp only [ti_iload, ti_push, List.getElem?_cons_zero, List.getElem?_cons_succ, true_and]
  refine g_icmp_lt (tgt := 16) dX7_isDigit_3 rfl (fun h3 => ?_) (fun h3 => ?_)
  · refine tg_go bX7_isDigit_16 ?_
    simp only [ti_push, List.getElem?_cons_zero, List.getElem?_cons_succ, true_and]
    refine g_zret dX7_isDigit_17 rfl (by first | exact Or.inl rfl | exact Or.inr rfl | assumption) ?_
    have e := Int32.not_le.mpr h3
    exact ⟨by simp [e, bZ], rfl⟩
  · refine tg_go bX7_isDigit_6 ?_
    simp only [ti_iload, ti_push, List.getElem?_cons_zero, List.getElem?_cons_succ, true_and]
    refine g_icmp_gt (tgt := 16) dX7_isDigit_9 rfl (fun h9 => ?_) (fun h9 => ?_)
    · refine tg_go bX7_isDigit_16 ?_
      simp only [ti_push, List.getElem?_cons_zero, List.getElem?_cons_succ, true_and]
      refine g_zret dX7_isDigit_17 rfl (by first | exact Or.inl rfl | exact Or.inr rfl | assumption) ?_
      have e := Int32.not_le.mpr h9
      exact ⟨by simp [e, bZ], rfl⟩
    · refine tg_go bX7_isDigit_12 ?_
      simp only [ti_push, List.getElem?_cons_zero, List.getElem?_cons_succ, true_and]
      refine g_goto (tgt := 17) dX7_isDigit_13 rfl ?_
      refine g_zret dX7_isDigit_17 rfl (by first | exact Or.inl rfl | exact Or.inr rfl | assumption) ?_
      have e := Int32.not_lt.mp h3
      have e2 := Int32.not_lt.mp h9
      exact ⟨by simp [e, e2, bZ], rfl⟩
/-- bit i of a cover -/
def cbit (c : Int64) (i : Int32) : Bool := !decide (((c.toUInt64 >>> (i.toInt64.toUInt64 &&& Int64.toUInt64 63)).toInt64 &&& 1) = 0)
theorem kX6_isIn {l : tg_Ln} {i : Int32} {c : Int64} : tg_Ct l mX6_isIn 1000 [.int i, .long c] [] (fun r w => r = some (.int (bZ (cbit c i))) ∧ w = []) := by
  show tg_G _ _ _ _ _ _ _ [.int i, .long c, .null] [] _
  refine tg_go bX6_isIn_0 ?_
  simp only [ti_iload, ti_land, ti_lcmp, ti_lload, ti_lushr, ti_push, List.getElem?_cons_zero, List.getElem?_cons_succ, true_and]
  refine g_if_eq (tgt := 14) dX6_isIn_7 rfl (fun h7 => ?_) (fun h7 => ?_)
  · refine tg_go bX6_isIn_14 ?_
    simp only [ti_push, List.getElem?_cons_zero, List.getElem?_cons_succ, true_and]
    refine g_zret dX6_isIn_15 rfl (by first | exact Or.inl rfl | exact Or.inr rfl | assumption) ?_
    have e := (lg_cmp_eq _ _).mp h7
    exact ⟨by simp [e, bZ, cbit], rfl⟩
  · refine tg_go bX6_isIn_10 ?_
    simp only [ti_push, List.getElem?_cons_zero, List.getElem?_cons_succ, true_and]
    refine g_goto (tgt := 15) dX6_isIn_11 rfl ?_
    refine g_zret dX6_isIn_15 rfl (by first | exact Or.inl rfl | exact Or.inr rfl | assumption) ?_
    have e : ¬ ((c.toUInt64 >>> (i.toInt64.toUInt64 &&& Int64.toUInt64 63)).toInt64 &&& 1) = 0 := fun q => h7 ((lg_cmp_eq _ _).mpr q)
    exact ⟨by simp [e, bZ, cbit], rfl⟩
def xres (a : Int64) (way : Int32) (b : Int64) : Int64 := if way = 0 then a + b else if way = 1 then a - b else a * b
theorem kX2_result {l : tg_Ln} {a b : Int64} {y : Int32} : tg_Ct l mX2_result 1000 [.long a, .int y, .long b] [] (fun r w => r = some (.long (xres a y b)) ∧ w = []) := by
  show tg_G _ _ _ _ _ _ _ [.long a, .null, .int y, .long b, .null] [] _
  refine tg_go bX2_result_0 ?_
  simp only [ti_iload, List.getElem?_cons_zero, List.getElem?_cons_succ, true_and]
  rcases (show y = 0 ∨ y = 1 ∨ (¬ y = 0 ∧ ¬ y = 1) by by_cases h0 : y = 0; exact Or.inl h0; by_cases h1 : y = 1; exact Or.inr (Or.inl h1); exact Or.inr (Or.inr ⟨h0, h1⟩)) with rfl | rfl | ⟨n0, n1⟩
  · refine g_lookup (off := 27) (tgt := 28) dX2_result_1 rfl rfl rfl ?_
    refine tg_go bX2_result_28 ?_
    simp only [ti_ladd, ti_lload, List.getElem?_cons_zero, List.getElem?_cons_succ, true_and]
    refine g_lret dX2_result_31 rfl ?_
    exact ⟨rfl, rfl⟩
  · refine g_lookup (off := 31) (tgt := 32) dX2_result_1 rfl rfl rfl ?_
    refine tg_go bX2_result_32 ?_
    simp only [ti_lload, ti_lsub, List.getElem?_cons_zero, List.getElem?_cons_succ, true_and]
    refine g_lret dX2_result_35 rfl ?_
    exact ⟨rfl, rfl⟩
  · refine g_lookup (off := 35) (tgt := 36) dX2_result_1 rfl (by have a0 : ¬ y.toInt = 0 := fun q => n0 (Int32.toInt_inj.mp q); have a1 : ¬ y.toInt = 1 := fun q => n1 (Int32.toInt_inj.mp q); simp [Op.lookupswitch.offset, a0, a1, Ne.symm, eq_comm]) rfl ?_
    refine tg_go bX2_result_36 ?_
    simp only [ti_lload, ti_lmul, List.getElem?_cons_zero, List.getElem?_cons_succ, true_and]
    refine g_lret dX2_result_39 rfl ?_
    exact ⟨by simp [xres, n0, n1], rfl⟩
/-- Long.bitCount, as the library has it -/
def ush (x : Int64) (k : Int32) : Int64 := (x.toUInt64 >>> (k.toInt64.toUInt64 &&& Int64.toUInt64 63)).toInt64
def bc1 (c : Int64) : Int64 := c - (ush c 1 &&& 6148914691236517205)
def bc2 (c : Int64) : Int64 := (c &&& 3689348814741910323) + (ush c 2 &&& 3689348814741910323)
def bc3 (c : Int64) : Int64 := (c + ush c 4) &&& 1085102592571150095
def bc4 (k : Int32) (c : Int64) : Int64 := c + ush c k
def bcL (c : Int64) : Int32 := (bc4 32 (bc4 16 (bc4 8 (bc3 (bc2 (bc1 c)))))).toInt32 &&& 127
theorem kJ13_bitCount {l : tg_Ln} {c : Int64} : tg_Ct l mJ13_bitCount_95d88 1000 [.long c] [] (fun r w => r = some (.int (bcL c)) ∧ w = []) := by
  show tg_G _ _ _ _ _ _ _ [.long c, .null] [] _
  refine tg_go bJ13_bitCount_95d88_0 ?_
  simp only [ti_iand, ti_l2i, ti_ladd, ti_land, ti_lload, ti_lstore, ti_lsub, ti_lushr, ti_push, tg_s2, tg_cl, List.getElem?_cons_zero, List.getElem?_cons_succ, List.set_cons_zero, List.set_cons_succ, true_and]
  refine g_iret dJ13_bitCount_95d88_60 rfl ?_
  exact ⟨rfl, rfl⟩
def ushI (x k : Int32) : Int32 := (x.toUInt32 >>> (k.toUInt32 &&& Int32.toUInt32 31)).toInt32
def bi1 (c : Int32) : Int32 := c - (ushI c 1 &&& 1431655765)
def bi2 (c : Int32) : Int32 := (c &&& 858993459) + (ushI c 2 &&& 858993459)
def bi3 (c : Int32) : Int32 := (c + ushI c 4) &&& 252645135
def bi4 (k c : Int32) : Int32 := c + ushI c k
def bcI (c : Int32) : Int32 := bi4 16 (bi4 8 (bi3 (bi2 (bi1 c)))) &&& 63
theorem kJ6_bitCount {l : tg_Ln} {c : Int32} : tg_Ct l mJ6_bitCount_0f7a4 1000 [.int c] [] (fun r w => r = some (.int (bcI c)) ∧ w = []) := by
  show tg_G _ _ _ _ _ _ _ [.int c] [] _
  refine tg_go bJ6_bitCount_0f7a4_0 ?_
  simp only [ti_iadd, ti_iand, ti_iload, ti_istore, ti_isub, ti_iushr, ti_push, tg_s1, tg_cl, List.getElem?_cons_zero, List.getElem?_cons_succ, List.set_cons_zero, List.set_cons_succ, true_and]
  refine g_iret dJ6_bitCount_0f7a4_52 rfl ?_
  exact ⟨rfl, rfl⟩
