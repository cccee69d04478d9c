/-! THE CLASS: LongRows, Exact: the rest -/
def zeP (f : Nat → Int64) (k : Nat) : Nat → Int64 := fun j => if j < k then 0 else f j
theorem zeP_step {f : Nat → Int64} {k : Nat} : vp_updL (zeP f k) k 0 = zeP f (k + 1) := by
  funext j
  unfold vp_updL zeP
  by_cases h : j = k
  · rw [if_pos h, if_pos (by omega)]
  · rw [if_neg h]
    by_cases h2 : j < k
    · rw [if_pos h2, if_pos (by omega)]
    · rw [if_neg h2, if_neg (by omega)]
theorem zeP_0 {f : Nat → Int64} : zeP f 0 = f := by
  funext j
  unfold zeP
  rw [if_neg (by omega)]
theorem updP_same {P : Nat → Nat → Int64} {a : Nat} : updP P a (P a) = P := by
  funext r
  unfold updP
  split
  · rename_i h; rw [h]
  · rfl
theorem updP_2 {P : Nat → Nat → Int64} {a : Nat} {f g : Nat → Int64} : updP (updP P a f) a g = updP P a g := by
  funext r
  unfold updP
  split <;> rfl
theorem updP_at {P : Nat → Nat → Int64} {a : Nat} {f : Nat → Int64} : updP P a f a = f := if_pos rfl
/-! signs -/
def sgB (x : Int64) : Bool := decide (x < 0)
theorem sg_msb (x : Int64) : sgB x = x.toBitVec.msb := by
  unfold sgB
  rw [BitVec.msb_eq_toInt]
  congr 1
  rw [Int64.lt_iff_toInt_lt]
  rfl
theorem sg_xor (x y : Int64) : sgB (x ^^^ y) = (sgB x != sgB y) := by
  rw [sg_msb, sg_msb, sg_msb, Int64.toBitVec_xor, BitVec.msb_xor]
theorem sg_and (x y : Int64) : sgB (x &&& y) = (sgB x && sgB y) := by
  rw [sg_msb, sg_msb, sg_msb, Int64.toBitVec_and, BitVec.msb_and]
/-- what Exact.isOver answers -/
def ovX (a : Int64) (y : Int32) (b : Int64) : Bool := if y = 0 then sgB ((a ^^^ (a + b)) &&& (b ^^^ (a + b))) else if y = 1 then sgB ((a ^^^ b) &&& (a ^^^ (a - b))) else if b = -1 then decide (a = -9223372036854775808) else decide (¬ b = 0) && decide (¬ a * b / b = a)
theorem ov_plus (a b : Int64) : ovX a 0 b = plusOv a b := by
  unfold ovX plusOv
  rw [if_pos rfl, sg_and, sg_xor, sg_xor]
  show _ = ((sgB a == sgB b) && (sgB (a + b) != sgB a))
  cases sgB a <;> cases sgB b <;> cases sgB (a + b) <;> rfl
theorem ov_minus (a : Int64) (z : Int32) : ovX a 1 z.toInt64 = plusOv a (-z.toInt64) := by
  have hz1 := Int32.toInt_lt z
  have hz2 := Int32.le_toInt z
  have hi : z.toInt64.toInt = z.toInt := Int32.toInt_toInt64 z
  unfold ovX plusOv
  rw [if_neg (by decide), if_pos rfl, sg_and, sg_xor, sg_xor]
  show _ = ((sgB a == sgB (-z.toInt64)) && (sgB (a + -z.toInt64) != sgB a))
  rw [show a + -z.toInt64 = a - z.toInt64 from (Int64.sub_eq_add_neg a _).symm]
  by_cases h0 : z.toInt = 0
  · have e : z = 0 := Int32.toInt_inj.mp h0
    subst e
    rw [show (0 : Int32).toInt64 = 0 from rfl, Int64.sub_zero, show -(0 : Int64) = 0 from rfl, show sgB 0 = false from rfl]
    cases sgB a <;> rfl
  · have e1 : sgB (-z.toInt64) = !(sgB z.toInt64) := by
      have n1 : (-z.toInt64).toInt = -z.toInt := by
        rw [Int64.toInt_neg, hi]
        exact Int.bmod_eq_of_le (by omega) (by omega)
      unfold sgB
      rw [← decide_not]
      congr 1
      rw [Int64.lt_iff_toInt_lt, Int64.lt_iff_toInt_lt, n1, hi]
      show (-z.toInt < 0) = ¬ (z.toInt < 0)
      exact propext (by omega)
    rw [e1]
    cases sgB a <;> cases sgB z.toInt64 <;> cases sgB (a - z.toInt64) <;> rfl
theorem ov_times (a b : Int64) (y : Int32) (h0 : ¬ y = 0) (h1 : ¬ y = 1) : ovX a y b = timesOv a b := by
  unfold ovX timesOv
  rw [if_neg h0, if_neg h1]
  have ha1 := Int64.toInt_lt a
  have ha2 := Int64.le_toInt a
  have hb1 := Int64.toInt_lt b
  have hb2 := Int64.le_toInt b
  have lt0 : ∀ x : Int64, (x < 0) = (x.toInt < 0) := fun x => propext (by rw [Int64.lt_iff_toInt_lt]; rfl)
  by_cases hb : b = -1
  · subst hb
    rw [if_pos rfl]
    have m1 : a * (-1) = -a := by
      rw [Int64.mul_neg, Int64.mul_one]
    have d1 : -a / (-1) = a := by
      apply Int64.toInt_inj.mp
      rw [Int64.toInt_div, show (-1 : Int64).toInt = -1 by decide, Int.tdiv_neg, Int.tdiv_one, ← Int64.toInt_neg, Int64.neg_neg]
    rw [m1, d1]
    by_cases hm : a = -9223372036854775808
    · subst hm; decide
    · have hai : ¬ a.toInt = -9223372036854775808 := fun q => hm (Int64.toInt_inj.mp q)
      have n1 : (-a).toInt = -a.toInt := by
        rw [Int64.toInt_neg]
        exact Int.bmod_eq_of_le (by omega) (by omega)
      rw [decide_eq_false hm]
      by_cases hs : a.toInt < 0
      · have h9 : ¬ -a < 0 := by rw [lt0, n1]; omega
        simp [h9]
      · have h9 : ¬ a < 0 := by rw [lt0]; exact hs
        simp [h9]
  · rw [if_neg hb]
    have key : (a < 0 ∧ b < 0 ∧ a * b < 0) → ¬ a * b / b = a := by
      rintro ⟨q1, q2, q3⟩ q4
      rw [lt0] at q1 q2 q3
      have hm1 : ¬ b.toInt = -1 := fun q => hb (Int64.toInt_inj.mp q)
      have hc2 := Int64.le_toInt (a * b)
      have e : (a * b / b).toInt = (a * b).toInt.tdiv b.toInt := by
        rw [Int64.toInt_div]
        have hp : 0 ≤ (a * b).toInt.tdiv b.toInt := Int.tdiv_nonneg_of_nonpos_of_nonpos (by omega) (by omega)
        have hl : (a * b).toInt.tdiv b.toInt < 9223372036854775808 := by
          rw [← Int.neg_tdiv_neg, Int.tdiv_eq_ediv_of_nonneg (by omega)]
          exact Int.ediv_lt_of_lt_mul (by omega) (by omega)
        exact Int.bmod_eq_of_le (by omega) (by omega)
      have hp : 0 ≤ (a * b).toInt.tdiv b.toInt := Int.tdiv_nonneg_of_nonpos_of_nonpos (by omega) (by omega)
      rw [q4] at e
      omega
    have nb : ∀ (P : Prop) [Decidable P], (a < 0 ∧ b < 0 ∧ a * b < 0) → b ≠ 0 := fun _ _ q z => by
      rw [z] at q
      exact absurd q.2.1 (by decide)
    by_cases q : a < 0 ∧ b < 0 ∧ a * b < 0
    · simp [key q, nb True q]
    · have : (decide (a < 0) && (decide (b < 0) && decide (a * b < 0))) = false := by
        rw [Bool.eq_false_iff]
        intro z
        simp only [Bool.and_eq_true, decide_eq_true_eq] at z
        exact q z
      rw [this, Bool.or_false]
section ROWS2
variable {l : tg_Ln} {K : Option Value → List va_E → Prop} {ln : Nat → Int32} {P : Nat → Nat → Int64} {a : Nat}
theorem kX2_isOver {x z : Int64} {y : Int32} : tg_Ct l mX2_isOver 1000 [.long x, .int y, .long z] [] (fun r w => r = some (.int (bZ (ovX x y z))) ∧ w = []) := by
  refine tg_gen (fun K0 hK0 => ?_)
  unfold ovX at hK0
  show tg_G _ _ _ _ _ _ _ [.long x, .null, .int y, .long z, .null, .null, .null] [] _
  refine tg_go bX2_isOver_0 ?_
  simp only [ti_iload, ti_lload, List.getElem?_cons_zero, List.getElem?_cons_succ, true_and]
  refine tg_cP vX2_isOver_3 (kX2_result) rfl rfl (Nat.le_of_ble_eq_true rfl) (Nat.le_of_ble_eq_true rfl) ?_
  refine tg_go bX2_isOver_6 ?_
  simp only [ti_iload, ti_lstore, tg_s2, tg_cl, List.getElem?_cons_zero, List.getElem?_cons_succ, List.set_cons_zero, List.set_cons_succ, true_and]
  rcases (show y = 0 ∨ y = 1 ∨ (¬ y = 0 ∧ ¬ y = 1) by by_cases h0 : y = 0; exact Or.inl h0; by_cases h1 : y = 1; exact Or.inr (Or.inl h1); exact Or.inr (Or.inr ⟨h0, h1⟩)) with rfl | rfl | ⟨n0, n1⟩
  · refine g_lookup (off := 27) (tgt := 36) dX2_isOver_9 rfl rfl rfl ?_
    refine tg_go bX2_isOver_36 ?_
    simp only [ti_land, ti_lcmp, ti_lload, ti_lxor, ti_push, List.getElem?_cons_zero, List.getElem?_cons_succ, true_and]
    refine g_if_ge (tgt := 54) dX2_isOver_47 rfl (fun h47 => ?_) (fun h47 => ?_)
    · refine tg_go bX2_isOver_54 ?_
      simp only [ti_push, List.getElem?_cons_zero, List.getElem?_cons_succ, true_and]
      refine g_zret dX2_isOver_55 rfl (by first | exact Or.inl rfl | exact Or.inr rfl | assumption) ?_
      rw [cmp_ge0] at h47
      exact hK0 _ _ ⟨by rw [if_pos rfl, show sgB ((x ^^^ (x + z)) &&& (z ^^^ (x + z))) = false from decide_eq_false h47]; rfl, rfl⟩
    · refine tg_go bX2_isOver_50 ?_
      simp only [ti_push, List.getElem?_cons_zero, List.getElem?_cons_succ, true_and]
      refine g_goto (tgt := 55) dX2_isOver_51 rfl ?_
      refine g_zret dX2_isOver_55 rfl (by first | exact Or.inl rfl | exact Or.inr rfl | assumption) ?_
      rw [cmp_ge0] at h47
      exact hK0 _ _ ⟨by rw [if_pos rfl, show sgB ((x ^^^ (x + z)) &&& (z ^^^ (x + z))) = true from decide_eq_true (Decidable.not_not.mp h47)]; rfl, rfl⟩
  · refine g_lookup (off := 47) (tgt := 56) dX2_isOver_9 rfl rfl rfl ?_
    refine tg_go bX2_isOver_56 ?_
    simp only [ti_land, ti_lcmp, ti_lload, ti_lxor, ti_push, List.getElem?_cons_zero, List.getElem?_cons_succ, true_and]
    refine g_if_ge (tgt := 73) dX2_isOver_66 rfl (fun h66 => ?_) (fun h66 => ?_)
    · refine tg_go bX2_isOver_73 ?_
      simp only [ti_push, List.getElem?_cons_zero, List.getElem?_cons_succ, true_and]
      refine g_zret dX2_isOver_74 rfl (by first | exact Or.inl rfl | exact Or.inr rfl | assumption) ?_
      rw [cmp_ge0] at h66
      exact hK0 _ _ ⟨by rw [if_neg (by decide), if_pos rfl, show sgB ((x ^^^ z) &&& (x ^^^ (x - z))) = false from decide_eq_false h66]; rfl, rfl⟩
    · refine tg_go bX2_isOver_69 ?_
      simp only [ti_push, List.getElem?_cons_zero, List.getElem?_cons_succ, true_and]
      refine g_goto (tgt := 74) dX2_isOver_70 rfl ?_
      refine g_zret dX2_isOver_74 rfl (by first | exact Or.inl rfl | exact Or.inr rfl | assumption) ?_
      rw [cmp_ge0] at h66
      exact hK0 _ _ ⟨by rw [if_neg (by decide), if_pos rfl, show sgB ((x ^^^ z) &&& (x ^^^ (x - z))) = true from decide_eq_true (Decidable.not_not.mp h66)]; rfl, rfl⟩
  · refine g_lookup (off := 66) (tgt := 75) dX2_isOver_9 rfl (by have a0 : ¬ y.toInt = 0 := fun q => n0 (Int32.toInt_inj.mp q); have a1 : ¬ y.toInt = 1 := fun q => n1 (Int32.toInt_inj.mp q); simp [Op.lookupswitch.offset, a0, a1, Ne.symm, eq_comm]) rfl ?_
    refine tg_go bX2_isOver_75 ?_
    simp only [ti_lcmp, ti_lload, ti_push, List.getElem?_cons_zero, List.getElem?_cons_succ, true_and]
    have hres : xres x y z = x * z := by unfold xres; rw [if_neg n0, if_neg n1]
    rw [if_neg n0, if_neg n1] at hK0
    rw [hres]
    refine g_if_ne (tgt := 99) dX2_isOver_80 rfl (fun h80 => ?_) (fun h80 => ?_)
    · rw [cmp_eq0] at h80
      rw [if_neg h80] at hK0
      refine tg_go bX2_isOver_99 ?_
      simp only [ti_lcmp, ti_lload, ti_push, List.getElem?_cons_zero, List.getElem?_cons_succ, true_and]
      refine g_if_eq (tgt := 118) dX2_isOver_102 rfl (fun h102 => ?_) (fun h102 => ?_)
      · rw [cmp_eq0] at h102
        refine tg_go bX2_isOver_118 ?_
        simp only [ti_push, List.getElem?_cons_zero, List.getElem?_cons_succ, true_and]
        refine g_zret dX2_isOver_119 rfl (by first | exact Or.inl rfl | exact Or.inr rfl | assumption) ?_
        rw [decide_eq_false (fun q => q h102), Bool.false_and] at hK0
        exact hK0 _ _ ⟨rfl, rfl⟩
      · rw [cmp_eq0] at h102
        rw [decide_eq_true h102, Bool.true_and] at hK0
        refine tg_go bX2_isOver_105 ?_
        simp only [ti_lcmp, ti_ldiv, ti_lload, List.getElem?_cons_zero, List.getElem?_cons_succ, true_and]
        refine ⟨h102, ?_⟩
        refine g_if_eq (tgt := 118) dX2_isOver_111 rfl (fun h111 => ?_) (fun h111 => ?_)
        · refine tg_go bX2_isOver_118 ?_
          simp only [ti_push, List.getElem?_cons_zero, List.getElem?_cons_succ, true_and]
          refine g_zret dX2_isOver_119 rfl (by first | exact Or.inl rfl | exact Or.inr rfl | assumption) ?_
          rw [cmp_eq0] at h111
          rw [decide_eq_false (fun q => q h111)] at hK0
          exact hK0 _ _ ⟨rfl, rfl⟩
        · refine tg_go bX2_isOver_114 ?_
          simp only [ti_push, List.getElem?_cons_zero, List.getElem?_cons_succ, true_and]
          refine g_goto (tgt := 119) dX2_isOver_115 rfl ?_
          refine g_zret dX2_isOver_119 rfl (by first | exact Or.inl rfl | exact Or.inr rfl | assumption) ?_
          rw [cmp_eq0] at h111
          rw [decide_eq_true h111] at hK0
          exact hK0 _ _ ⟨rfl, rfl⟩
    · rw [cmp_eq0] at h80
      rw [if_pos h80] at hK0
      refine tg_go bX2_isOver_83 ?_
      simp only [ti_lcmp, ti_lload, ti_push, List.getElem?_cons_zero, List.getElem?_cons_succ, true_and]
      refine g_if_ne (tgt := 95) dX2_isOver_88 rfl (fun h88 => ?_) (fun h88 => ?_)
      · refine tg_go bX2_isOver_95 ?_
        simp only [ti_push, List.getElem?_cons_zero, List.getElem?_cons_succ, true_and]
        refine g_goto (tgt := 119) dX2_isOver_96 rfl ?_
        refine g_zret dX2_isOver_119 rfl (by first | exact Or.inl rfl | exact Or.inr rfl | assumption) ?_
        rw [cmp_eq0] at h88
        rw [decide_eq_false h88] at hK0
        exact hK0 _ _ ⟨rfl, rfl⟩
      · refine tg_go bX2_isOver_91 ?_
        simp only [ti_push, List.getElem?_cons_zero, List.getElem?_cons_succ, true_and]
        refine g_goto (tgt := 119) dX2_isOver_92 rfl ?_
        refine g_zret dX2_isOver_119 rfl (by first | exact Or.inl rfl | exact Or.inr rfl | assumption) ?_
        rw [cmp_eq0] at h88
        rw [decide_eq_true h88] at hK0
        exact hK0 _ _ ⟨rfl, rfl⟩
theorem kX3_renew_l {q : Nat} (ha : a < 3) (hq : q ≤ 12) (hK : K none (wL ln (updP P a (zeP (P a) q)))) : ∀ (m k : Nat), q - k < m → k ≤ q → tg_G l mX3_renew 1000 K 0 0 27 [.ref 0, .int (nI a), .int (nI q), .int (nI k)] [] (wL ln (updP P a (zeP (P a) k))) := by
  intro m
  induction m with
  | zero => intro k h; omega
  | succ m ih =>
    intro k hm hk
    have e1 := wL_get (ln := ln) (P := updP P a (zeP (P a) k)) a ha
    have e2 := wL_set (ln := ln) (P := updP P a (zeP (P a) k)) (f := zeP (P a) (k + 1)) a ha
    rw [updP_at] at e1
    rw [updP_2] at e2
    unfold wL at ih hK e1 e2 ⊢
    refine tg_go bX3_renew_27 ?_
    simp only [ti_iload, List.getElem?_cons_zero, List.getElem?_cons_succ, true_and]
    refine g_icmp_ge (tgt := 47) dX3_renew_29 rfl (fun h29 => ?_) (fun h29 => ?_)
    · rw [lI_le (by omega) (by omega)] at h29
      obtain rfl : k = q := by omega
      refine g_vret dX3_renew_47 rfl ?_
      exact hK
    · rw [lI_le (by omega) (by omega)] at h29
      refine tg_go bX3_renew_32 ?_
      simp only [ti_aald, ti_aload, ti_getf, ti_iinc, ti_iload, ti_last, ti_push, tg_s1, tg_cl, List.getElem?_cons_zero, List.getElem?_cons_succ, List.set_cons_zero, List.set_cons_succ, true_and]
      rw [nI_clamp (show a < 2 ^ 31 by omega), rowF_at ha, nI_1]
      simp only [e1, nI_clamp (show k < 2 ^ 31 by omega), zeP_step, e2]
      refine ⟨Or.inr trivial, vp_in_nI (by omega) (by omega), trivial, vp_in_nI (by omega) (by omega), ?_⟩
      refine g_goto (tgt := 27) dX3_renew_44 rfl ?_
      exact ih (k + 1) (by omega) (by omega)
theorem kX3_renew {q : Nat} (ha : a < 3) (hq : q ≤ 12) : tg_Ct l mX3_renew 1000 [.ref 0, .int (nI a), .int (nI q)] (wL ln P) (fun r w => r = none ∧ w = (wL (upd ln a (nI q)) (updP P a (zeP (P a) q)))) := by
  show tg_G _ _ _ _ _ _ _ [.ref 0, .int (nI a), .int (nI q), .null] [] _
  unfold wL
  refine tg_go bX3_renew_0 ?_
  simp only [ti_iload, List.getElem?_cons_zero, List.getElem?_cons_succ, true_and]
  refine tg_cP vX3_renew_1 (kX3_isRow') rfl rfl (Nat.le_of_ble_eq_true rfl) (Nat.le_of_ble_eq_true rfl) ?_
  rw [row_t ha]
  refine g_if_eq (tgt := 17) dX3_renew_4 rfl (fun h4 => ?_) (fun h4 => ?_)
  · exact absurd h4 (by decide)
  · refine tg_go bX3_renew_7 ?_
    simp only [ti_iload, List.getElem?_cons_zero, List.getElem?_cons_succ, true_and]
    refine g_if_lt (tgt := 17) dX3_renew_8 rfl (fun h8 => ?_) (fun h8 => ?_)
    · exact absurd h8 (nI_pos (by omega))
    · refine tg_go bX3_renew_11 ?_
      simp only [ti_iload, ti_push, List.getElem?_cons_zero, List.getElem?_cons_succ, true_and]
      refine g_icmp_le (tgt := 18) dX3_renew_14 rfl (fun h14 => ?_) (fun h14 => ?_)
      · refine tg_go bX3_renew_18 ?_
        simp only [ti_aload, ti_getf, ti_iast, ti_iload, ti_istore, ti_push, tg_s1, tg_cl, List.getElem?_cons_zero, List.getElem?_cons_succ, List.set_cons_zero, List.set_cons_succ, true_and]
        rw [nI_clamp (by omega)]
        refine ⟨vp_in_nI (by omega) (by omega), ?_⟩
        have h := kX3_renew_l (l := l) (ln := upd ln a (nI q)) (P := P) (K := fun r w => r = none ∧ w = (wL (upd ln a (nI q)) (updP P a (zeP (P a) q)))) ha hq ⟨rfl, rfl⟩ (q + 1) 0 (by omega) (by omega)
        rw [zeP_0, updP_same] at h
        exact h
      · rw [fa_lit, lI_le (by omega) (by omega)] at h14; omega
def plM (ln : Nat → Int32) (r : Nat) : Int32 := if ln r < 0 then 0 else ln r
theorem plM_eq {ln : Nat → Int32} {r : Nat} : plM ln r = plc ln r := by
  unfold plM plc
  by_cases h : ln r < 0
  · rw [if_pos h, if_neg (Int32.not_le.mpr h)]
  · rw [if_neg h, if_pos (Int32.not_lt.mp h)]
theorem kX3_placesInAll : tg_Ct l mX3_placesInAll 1000 [.ref 0] (wL ln P) (fun r w => r = some (.int (0 + plc ln 0 + plc ln 1 + plc ln 2)) ∧ w = (wL ln P)) := by
  have st : ∀ (k : Nat) (x : Int32) (K : Option Value → List va_E → Prop), k < 3 → tg_G l mX3_placesInAll 1000 K 0 0 4 [.ref 0, .int (x + plc ln k), .int (nI (k + 1))] [] (wL ln P) → tg_G l mX3_placesInAll 1000 K 0 0 4 [.ref 0, .int x, .int (nI k)] [] (wL ln P) := by
    intro k x K hk h
    rw [← plM_eq] at h
    unfold plM at h
    unfold wL at h ⊢
    refine tg_go bX3_placesInAll_4 ?_
    simp only [ti_iload, ti_push, List.getElem?_cons_zero, List.getElem?_cons_succ, true_and]
    refine g_icmp_ge (tgt := 28) dX3_placesInAll_6 rfl (fun h6 => ?_) (fun h6 => ?_)
    · rw [fa_lit, lI_le (by omega) (by omega)] at h6; omega
    · refine tg_go bX3_placesInAll_9 ?_
      simp only [ti_aload, ti_getf, ti_iadd, ti_iald, ti_iinc, ti_iload, ti_istore, ti_mmax, ti_push, tg_s1, tg_cl, List.getElem?_cons_zero, List.getElem?_cons_succ, List.set_cons_zero, List.set_cons_succ, true_and, List.map_nil, List.map_cons, List.sum_nil, List.sum_cons, Value.category, Nat.reduceAdd, Nat.reduceLeDiff, and_self, and_true]
      rw [nI_1, nI_clamp (by omega)]
      refine ⟨vp_in_nI (by omega) (by omega), ?_⟩
      refine g_goto (tgt := 4) dX3_placesInAll_25 rfl ?_
      exact h
  show tg_G _ _ _ _ _ _ _ [.ref 0, .null, .null] [] _
  unfold wL
  refine tg_go bX3_placesInAll_0 ?_
  simp only [ti_istore, ti_push, tg_s1, tg_cl, List.getElem?_cons_zero, List.getElem?_cons_succ, List.set_cons_zero, List.set_cons_succ, true_and]
  refine st 0 _ _ (by decide) (st 1 _ _ (by decide) (st 2 _ _ (by decide) ?_))
  unfold wL
  refine tg_go bX3_placesInAll_4 ?_
  simp only [ti_iload, ti_push, List.getElem?_cons_zero, List.getElem?_cons_succ]
  refine g_icmp_ge (tgt := 28) dX3_placesInAll_6 rfl (fun h6 => ?_) (fun h6 => absurd (by decide) h6)
  refine tg_go bX3_placesInAll_28 ?_
  simp only [ti_iload, List.getElem?_cons_zero, List.getElem?_cons_succ]
  exact g_iret dX3_placesInAll_29 rfl ⟨rfl, rfl⟩
end ROWS2
