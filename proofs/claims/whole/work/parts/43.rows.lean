/-! THE CLASS: LongRows, Exact -/
def rowF : Nat → Option Nat := fun j => if j < 3 then some (3 + j) else none
def wL (ln : Nat → Int32) (P : Nat → Nat → Int64) : List va_E := [.inr (2, [.ref 1, .ref 2]), .inl (0, 3, .inl ln), .inl (5, 3, .inr (.inr (.inr (.inr rowF)))), .inl (3, 12, .inr (.inl (P 0))), .inl (3, 12, .inr (.inl (P 1))), .inl (3, 12, .inr (.inl (P 2)))]
def updP (P : Nat → Nat → Int64) (a : Nat) (f : Nat → Int64) : Nat → Nat → Int64 := fun r => if r = a then f else P r
theorem wL_get {ln : Nat → Int32} {P : Nat → Nat → Int64} : ∀ a, a < 3 → (wL ln P)[3 + a]? = some (.inl (3, 12, .inr (.inl (P a))))
  | 0, _ => rfl
  | 1, _ => rfl
  | 2, _ => rfl
  | a + 3, h => by omega
theorem wL_set {ln : Nat → Int32} {P : Nat → Nat → Int64} {f : Nat → Int64} : ∀ a, a < 3 → (wL ln P).set (3 + a) (.inl (3, 12, .inr (.inl f))) = wL ln (updP P a f)
  | 0, _ => rfl
  | 1, _ => rfl
  | 2, _ => rfl
  | a + 3, h => by omega
theorem rowF_at {a : Nat} (h : a < 3) : rowF a = some (3 + a) := if_pos h
/-- what a place of a row is found to be -/
def fndI (ln : Nat → Int32) (a : Nat) (y : Int32) : Int32 := if ln a = -1 then -11 else if 0 ≤ y.toInt ∧ y.toInt < (ln a).toInt then 1 else -12
section ROWS
variable {l : tg_Ln} {K : Option Value → List va_E → Prop} {ln : Nat → Int32} {P : Nat → Nat → Int64} {a : Nat}
theorem kX3_isRow' {x : Int32} : tg_Ct l mX3_isRow 1000 [.int x] [] (fun r w => r = some (.int (bZ (decide (0 ≤ x.toInt ∧ x.toInt ≤ 2)))) ∧ w = []) := by
  rw [← isRow_eq]
  exact kX3_isRow
theorem row_t {a : Nat} (h : a < 3) : decide (0 ≤ (nI a).toInt ∧ (nI a).toInt ≤ 2) = true := decide_eq_true (by rw [nI_toInt (by omega)]; omega)
theorem kX3_isMissing (ha : a < 3) : tg_Ct l mX3_isMissing 1000 [.ref 0, .int (nI a)] (wL ln P) (fun r w => r = some (.int (bZ (decide (ln a = -1)))) ∧ w = (wL ln P)) := by
  show tg_G _ _ _ _ _ _ _ [.ref 0, .int (nI a)] [] _
  unfold wL
  refine tg_go bX3_isMissing_0 ?_
  simp only [ti_iload, List.getElem?_cons_zero, List.getElem?_cons_succ, true_and]
  refine tg_cP vX3_isMissing_1 (kX3_isRow') rfl rfl (Nat.le_of_ble_eq_true rfl) (Nat.le_of_ble_eq_true rfl) ?_
  rw [row_t ha]
  refine g_if_eq (tgt := 17) dX3_isMissing_4 rfl (fun h4 => ?_) (fun h4 => ?_)
  · exact absurd h4 (by decide)
  · refine tg_go bX3_isMissing_7 ?_
    simp only [ti_aload, ti_getf, ti_iald, ti_iload, ti_push, List.getElem?_cons_zero, List.getElem?_cons_succ, true_and]
    rw [nI_clamp (by omega)]
    refine ⟨vp_in_nI (by omega) (by omega), ?_⟩
    refine g_icmp_ne (tgt := 21) dX3_isMissing_14 rfl (fun h14 => ?_) (fun h14 => ?_)
    · refine tg_go bX3_isMissing_21 ?_
      simp only [ti_push, List.getElem?_cons_zero, List.getElem?_cons_succ, true_and]
      refine g_zret dX3_isMissing_22 rfl (by first | exact Or.inl rfl | exact Or.inr rfl | assumption) ?_
      exact ⟨by rw [decide_eq_false h14]; rfl, rfl⟩
    · refine tg_go bX3_isMissing_17 ?_
      simp only [ti_push, List.getElem?_cons_zero, List.getElem?_cons_succ, true_and]
      refine g_goto (tgt := 22) dX3_isMissing_18 rfl ?_
      refine g_zret dX3_isMissing_22 rfl (by first | exact Or.inl rfl | exact Or.inr rfl | assumption) ?_
      exact ⟨by rw [decide_eq_true h14]; rfl, rfl⟩
theorem kX3_finds {y : Int32} (ha : a < 3) : tg_Ct l mX3_finds 1000 [.ref 0, .int (nI a), .int y] (wL ln P) (fun r w => r = some (.int (fndI ln a y)) ∧ w = (wL ln P)) := by
  show tg_G _ _ _ _ _ _ _ [.ref 0, .int (nI a), .int y] [] _
  unfold wL
  refine tg_go bX3_finds_0 ?_
  simp only [ti_aload, ti_iload, List.getElem?_cons_zero, List.getElem?_cons_succ, true_and]
  refine tg_cW vX3_finds_2 (kX3_isMissing ha) rfl rfl rfl rfl (Nat.le_of_ble_eq_true rfl) (Nat.le_of_ble_eq_true rfl) (Nat.le_of_ble_eq_true rfl) rfl ?_
  unfold wL
  refine g_if_eq (tgt := 11) dX3_finds_5 rfl (fun h5 => ?_) (fun h5 => ?_)
  · have h5 := of_decide_eq_false (bZ_0 h5)
    refine tg_go bX3_finds_11 ?_
    simp only [ti_iload, List.getElem?_cons_zero, List.getElem?_cons_succ, true_and]
    refine g_if_lt (tgt := 25) dX3_finds_12 rfl (fun h12 => ?_) (fun h12 => ?_)
    · rw [Int32.lt_iff_toInt_lt] at h12
      have h12 : y.toInt < 0 := h12
      refine tg_go bX3_finds_25 ?_
      simp only [ti_push, List.getElem?_cons_zero, List.getElem?_cons_succ, true_and]
      refine g_goto (tgt := 31) dX3_finds_27 rfl ?_
      refine g_iret dX3_finds_31 rfl ?_
      exact ⟨by unfold fndI; rw [if_neg h5, if_neg (by omega)], rfl⟩
    · rw [Int32.lt_iff_toInt_lt] at h12
      have h12 : ¬ y.toInt < 0 := h12
      refine tg_go bX3_finds_15 ?_
      simp only [ti_aload, ti_getf, ti_iald, ti_iload, List.getElem?_cons_zero, List.getElem?_cons_succ, true_and]
      rw [nI_clamp (by omega)]
      refine ⟨vp_in_nI (by omega) (by omega), ?_⟩
      refine g_icmp_lt (tgt := 30) dX3_finds_22 rfl (fun h22 => ?_) (fun h22 => ?_)
      · rw [Int32.lt_iff_toInt_lt] at h22
        refine tg_go bX3_finds_30 ?_
        simp only [ti_push, List.getElem?_cons_zero, List.getElem?_cons_succ, true_and]
        refine g_iret dX3_finds_31 rfl ?_
        exact ⟨by unfold fndI; rw [if_neg h5, if_pos (by omega)], rfl⟩
      · rw [Int32.lt_iff_toInt_lt] at h22
        refine tg_go bX3_finds_25 ?_
        simp only [ti_push, List.getElem?_cons_zero, List.getElem?_cons_succ, true_and]
        refine g_goto (tgt := 31) dX3_finds_27 rfl ?_
        refine g_iret dX3_finds_31 rfl ?_
        exact ⟨by unfold fndI; rw [if_neg h5, if_neg (by omega)], rfl⟩
  · refine tg_go bX3_finds_8 ?_
    simp only [ti_push, List.getElem?_cons_zero, List.getElem?_cons_succ, true_and]
    refine g_iret dX3_finds_10 rfl ?_
    exact ⟨by unfold fndI; rw [if_pos (of_decide_eq_true (bZ_n h5))], rfl⟩
theorem fnd_le {ln : Nat → Int32} {a : Nat} {y : Int32} : fndI ln a y = -11 ∨ fndI ln a y = -12 ∨ fndI ln a y = 1 := by
  unfold fndI
  split
  · exact Or.inl rfl
  · split
    · exact Or.inr (Or.inr rfl)
    · exact Or.inr (Or.inl rfl)
theorem fnd_1 {ln : Nat → Int32} {a : Nat} {y : Int32} (hz : szOK ln) (ha : a < 3) (h : fndI ln a y = 1) : ∃ i n, y = nI i ∧ i < n ∧ n ≤ 12 ∧ ln a = nI n := by
  unfold fndI at h
  split at h
  · exact absurd h (by decide)
  · split at h
    · rename_i h1 h2
      rcases hz a ha with q | ⟨n, hn, q⟩
      · exact absurd q h1
      · rw [q, nI_toInt (by omega)] at h2
        obtain ⟨e1, e2⟩ := x_of h2.1 h2.2
        exact ⟨_, n, e1, e2, hn, q⟩
    · exact absurd h (by decide)
theorem kX3_put {y : Int32} {z : Int64} (hz : szOK ln) (ha : a < 3) : tg_Ct l mX3_put 1000 [.ref 0, .int (nI a), .int y, .long z] (wL ln P) (fun r w => r = some (.int (fndI ln a y)) ∧ w = (wL ln (if fndI ln a y = 1 then updP P a (vp_updL (P a) y.toInt.toNat z) else P))) := by
  refine tg_gen (fun K0 hK0 => ?_)
  show tg_G _ _ _ _ _ _ _ [.ref 0, .int (nI a), .int y, .long z, .null, .null] [] _
  unfold wL
  refine tg_go bX3_put_0 ?_
  simp only [ti_aload, ti_iload, List.getElem?_cons_zero, List.getElem?_cons_succ, true_and]
  refine tg_cW vX3_put_3 (kX3_finds ha) rfl rfl rfl rfl (Nat.le_of_ble_eq_true rfl) (Nat.le_of_ble_eq_true rfl) (Nat.le_of_ble_eq_true rfl) rfl ?_
  unfold wL
  refine tg_go bX3_put_6 ?_
  simp only [ti_iload, ti_istore, tg_s1, tg_cl, List.getElem?_cons_zero, List.getElem?_cons_succ, List.set_cons_zero, List.set_cons_succ, true_and]
  refine g_if_le (tgt := 22) dX3_put_10 rfl (fun h10 => ?_) (fun h10 => ?_)
  · have hne : ¬ fndI ln a y = 1 := fun q => by rw [q] at h10; exact absurd h10 (by decide)
    rw [if_neg hne] at hK0
    refine tg_go bX3_put_22 ?_
    simp only [ti_iload, List.getElem?_cons_zero, List.getElem?_cons_succ, true_and]
    refine g_iret dX3_put_24 rfl ?_
    exact hK0 _ _ ⟨rfl, rfl⟩
  · have h1 : fndI ln a y = 1 := by
      rcases fnd_le (ln := ln) (a := a) (y := y) with q | q | q
      · rw [q] at h10; exact absurd (by decide) h10
      · rw [q] at h10; exact absurd (by decide) h10
      · exact q
    rw [if_pos h1] at hK0
    obtain ⟨i, n, rfl, hi, hn, -⟩ := fnd_1 hz ha h1
    rw [show (nI i).toInt.toNat = i by rw [nI_toInt (by omega)]; omega] at hK0
    refine tg_go bX3_put_13 ?_
    simp only [ti_aald, ti_aload, ti_getf, ti_iload, ti_last, ti_lload, List.getElem?_cons_zero, List.getElem?_cons_succ, List.set_cons_zero, List.set_cons_succ, true_and]
    rw [nI_clamp (show a < 2 ^ 31 by omega), rowF_at ha]
    have e1 := wL_get (ln := ln) (P := P) a ha
    have e2 := wL_set (ln := ln) (P := P) (f := vp_updL (P a) i z) a ha
    unfold wL at e1 e2
    simp only [e1, nI_clamp (show i < 2 ^ 31 by omega), e2]
    refine ⟨Or.inr trivial, vp_in_nI (by omega) (by omega), trivial, vp_in_nI (by omega) (by omega), ?_⟩
    refine tg_go bX3_put_22 ?_
    simp only [ti_iload, List.getElem?_cons_zero, List.getElem?_cons_succ, true_and]
    refine g_iret dX3_put_24 rfl ?_
    exact hK0 _ _ ⟨rfl, rfl⟩
end ROWS
