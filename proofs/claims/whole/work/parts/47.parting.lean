/-! THE CLASS: Parting: orders -/
theorem tdiv10_n {x : Int} (h : x < 0) : x.tdiv 10 = -((-x) / 10) := by
  have e : x = -(-x) := by omega
  rw [e, Int.neg_tdiv, Int.tdiv_eq_ediv_of_nonneg (a := -x) (by omega)]
  simp
theorem rem10_neg {x : Int32} (h : x < 0) (h0 : ¬ tg_rem x 10 < 0) : x / 10 < 0 := by
  have h1 := Int32.toInt_lt x
  have h2 := Int32.le_toInt x
  have hx : x.toInt < 0 := by
    rw [Int32.lt_iff_toInt_lt] at h
    exact h
  have h7 : (10 : Int32).toInt = 10 := by decide
  have hd : (x / 10).toInt = -((-x.toInt) / 10) := by
    rw [Int32.toInt_div, h7, tdiv10_n hx]
    exact Int.bmod_eq_of_le (by omega) (by omega)
  rw [Int32.lt_iff_toInt_lt]
  show (x / 10).toInt < 0
  have e : (tg_rem x 10).toInt = x.toInt + (-x.toInt) / 10 * 10 := by
    unfold tg_rem
    have e1 : (x / 10 * 10).toInt = -((-x.toInt) / 10) * 10 := by
      rw [Int32.toInt_mul, hd, h7]
      exact Int.bmod_eq_of_le (by omega) (by omega)
    rw [Int32.toInt_sub, e1]
    rw [show x.toInt - -(-x.toInt / 10) * 10 = x.toInt + (-x.toInt) / 10 * 10 by omega]
    exact Int.bmod_eq_of_le (by omega) (by omega)
  rw [Int32.lt_iff_toInt_lt, e] at h0
  have h00 : ¬ x.toInt + (-x.toInt) / 10 * 10 < 0 := h0
  rw [hd]
  omega
theorem or_lt16 {s f : Nat} (hs : s < 16) (hf : f < 4) : s ||| 2 ^ f < 16 := by
  have : ∀ (s : Fin 16) (f : Fin 4), s.val ||| 2 ^ f.val < 16 := by decide
  exact this ⟨s, hs⟩ ⟨f, hf⟩
theorem sh4 {f : Nat} (h : f < 4) : 1 * 2 ^ f < 2 ^ 32 := by
  have : ∀ f : Fin 4, 1 * 2 ^ f.val < 2 ^ 32 := by decide
  exact this ⟨f, h⟩
/-- the reference's test and the class's -/
def ordE (d o : Nat) : Bool := ordC d d o 0 == allB (fun k => decide (¬ plR k d o (-1) = -1)) d
theorem ordE_4 : ∀ a b c e : Fin 10, ordE 4 (a.val + 10 * (b.val + 10 * (c.val + 10 * e.val))) = true := by decide +kernel
theorem ordE_3 : ∀ a b c : Fin 10, ordE 3 (a.val + 10 * (b.val + 10 * c.val)) = true := by decide +kernel
theorem ordE_2 : ∀ a b : Fin 10, ordE 2 (a.val + 10 * b.val) = true := by decide +kernel
theorem ordE_1 : ∀ a : Fin 10, ordE 1 a.val = true := by decide +kernel
theorem ordC_small {d o : Nat} (hd : d ≤ 4) (ho : o < 10 ^ d) : ordC d d o 0 = allB (fun k => decide (¬ plR k d o (-1) = -1)) d := by
  have key : ordE d o = true := by
    rcases (by omega : d = 0 ∨ d = 1 ∨ d = 2 ∨ d = 3 ∨ d = 4) with rfl | rfl | rfl | rfl | rfl
    · obtain rfl : o = 0 := by omega
      decide
    · exact ordE_1 ⟨o, by omega⟩
    · have h := ordE_2 ⟨o % 10, by omega⟩ ⟨o / 10, by omega⟩
      rwa [show o % 10 + 10 * (o / 10) = o by omega] at h
    · have h := ordE_3 ⟨o % 10, by omega⟩ ⟨o / 10 % 10, by omega⟩ ⟨o / 100, by omega⟩
      rwa [show o % 10 + 10 * (o / 10 % 10 + 10 * (o / 100)) = o by omega] at h
    · have h := ordE_4 ⟨o % 10, by omega⟩ ⟨o / 10 % 10, by omega⟩ ⟨o / 100 % 10, by omega⟩ ⟨o / 1000, by omega⟩
      rwa [show o % 10 + 10 * (o / 10 % 10 + 10 * (o / 100 % 10 + 10 * (o / 1000))) = o by omega] at h
  exact eq_of_beq key
theorem ordC_big (d : Nat) : ∀ r o s, 10 ^ r ≤ o → ordC d r o s = false
  | 0, o, s, h => by
    rw [ordC]
    exact decide_eq_false (by rw [Nat.pow_zero] at h; omega)
  | r + 1, o, s, h => by
    rw [ordC, ordC_big d r (o / 10) _ (by rw [Nat.pow_succ] at h; exact (Nat.le_div_iff_mul_le (by decide)).mpr h)]
    simp
def ordX (d : Nat) (x : Int32) : Bool := decide (0 ≤ x.toInt) && ordC d d x.toInt.toNat 0
theorem ordX_eq {d : Nat} (hd : d ≤ 4) (x : Int32) : ordX d x = orderOK d x := by
  unfold ordX orderOK
  by_cases h0 : 0 ≤ x.toInt
  · rw [decide_eq_true h0, Bool.true_and]
    by_cases h1 : x.toInt.toNat < 10 ^ d
    · rw [decide_eq_true (by omega), Bool.true_and]
      exact ordC_small hd h1
    · rw [ordC_big d d _ 0 (by omega), decide_eq_false (by omega), Bool.false_and]
  · rw [decide_eq_false h0, decide_eq_false (by omega), Bool.false_and, Bool.false_and]
section PART2
variable {l : tg_Ln} {K : Option Value → List va_E → Prop} {en : Nat → Int32} {qd qv : Int32} {d : Nat}
theorem kX4_isOrder_n {x0 : Int32} (hd : d ≤ 4) (hK : K (some (.int 0)) []) : ∀ (m k : Nat) (x : Int32) (s : Nat) (x5 : Value), d - k < m → k ≤ d → x < 0 → s < 16 → tg_G l mX4_isOrder 1000 K 0 0 7 [.int x0, .int (nI d), .int (nI s), .int x, .int (nI k), x5] [] [] := by
  intro m
  induction m with
  | zero => intro k x s x5 h; omega
  | succ m ih =>
    intro k x s x5 hm hk hx hs
    refine tg_go bX4_isOrder_7 ?_
    simp only [ti_iload, List.getElem?_cons_zero, List.getElem?_cons_succ, true_and]
    refine g_icmp_ge (tgt := 59) dX4_isOrder_10 rfl (fun h10 => ?_) (fun h10 => ?_)
    · rw [lI_le (by omega) (by omega)] at h10
      refine tg_go bX4_isOrder_59 ?_
      simp only [ti_iload, List.getElem?_cons_zero, List.getElem?_cons_succ, true_and]
      refine g_if_ne (tgt := 67) dX4_isOrder_60 rfl (fun h60 => ?_) (fun h60 => ?_)
      · refine tg_go bX4_isOrder_67 ?_
        simp only [ti_push, List.getElem?_cons_zero, List.getElem?_cons_succ, true_and]
        refine g_zret dX4_isOrder_68 rfl (by first | exact Or.inl rfl | exact Or.inr rfl | assumption) ?_
        exact hK
      · subst h60; exact absurd hx (by decide)
    · rw [lI_le (by omega) (by omega)] at h10
      refine tg_go bX4_isOrder_13 ?_
      simp only [ti_iload, ti_irem, ti_istore, ti_push, tg_s1, tg_cl, List.getElem?_cons_zero, List.getElem?_cons_succ, List.set_cons_zero, List.set_cons_succ, true_and]
      refine ⟨ne10, ?_⟩
      refine g_if_lt (tgt := 39) dX4_isOrder_21 rfl (fun h21 => ?_) (fun h21 => ?_)
      · refine tg_go bX4_isOrder_39 ?_
        simp only [ti_push, List.getElem?_cons_zero, List.getElem?_cons_succ, true_and]
        refine g_zret dX4_isOrder_40 rfl (by first | exact Or.inl rfl | exact Or.inr rfl | assumption) ?_
        exact hK
      · refine tg_go bX4_isOrder_24 ?_
        simp only [ti_iload, List.getElem?_cons_zero, List.getElem?_cons_succ, true_and]
        refine g_icmp_ge (tgt := 39) dX4_isOrder_27 rfl (fun h27 => ?_) (fun h27 => ?_)
        · refine tg_go bX4_isOrder_39 ?_
          simp only [ti_push, List.getElem?_cons_zero, List.getElem?_cons_succ, true_and]
          refine g_zret dX4_isOrder_40 rfl (by first | exact Or.inl rfl | exact Or.inr rfl | assumption) ?_
          exact hK
        · obtain ⟨f, hf, ef⟩ := nI_of h21
          rw [ef] at h27
          rw [lI_le (by omega) (by omega)] at h27
          rw [ef]
          refine tg_go bX4_isOrder_30 ?_
          simp only [ti_iand, ti_iload, ti_ishr, ti_push, List.getElem?_cons_zero, List.getElem?_cons_succ, true_and]
          refine g_if_eq (tgt := 41) dX4_isOrder_36 rfl (fun h36 => ?_) (fun h36 => ?_)
          · refine tg_go bX4_isOrder_41 ?_
            simp only [ti_idiv, ti_iinc, ti_iload, ti_ior, ti_ishl, ti_istore, ti_push, tg_s1, tg_cl, List.getElem?_cons_zero, List.getElem?_cons_succ, List.set_cons_zero, List.set_cons_succ, true_and]
            rw [show (1 : Int32) = nI 1 from rfl, nI_shl (by omega) (sh4 (by omega)), nI_or, Nat.one_mul]
            refine ⟨ne10, ?_⟩
            refine g_goto (tgt := 7) dX4_isOrder_56 rfl ?_
            rw [show nI k + nI 1 = nI (k + 1) from nI_add k 1]
            exact ih (k + 1) (x / 10) _ _ (by omega) (by omega) (rem10_neg hx (by rw [ef]; exact nI_pos (by omega))) (or_lt16 hs (by omega))
          · refine tg_go bX4_isOrder_39 ?_
            simp only [ti_push, List.getElem?_cons_zero, List.getElem?_cons_succ, true_and]
            refine g_zret dX4_isOrder_40 rfl (by first | exact Or.inl rfl | exact Or.inr rfl | assumption) ?_
            exact hK
theorem kX4_isOrder_p {x0 : Int32} (hd : d ≤ 4) : ∀ (r k o s : Nat) (x5 : Value), r + k = d → o < 2 ^ 31 → s < 16 → K (some (.int (bZ (ordC d r o s)))) [] → tg_G l mX4_isOrder 1000 K 0 0 7 [.int x0, .int (nI d), .int (nI s), .int (nI o), .int (nI k), x5] [] [] := by
  intro r
  induction r with
  | zero =>
    intro k o s x5 hrk ho hs hK
    rw [ordC] at hK
    refine tg_go bX4_isOrder_7 ?_
    simp only [ti_iload, List.getElem?_cons_zero, List.getElem?_cons_succ, true_and]
    refine g_icmp_ge (tgt := 59) dX4_isOrder_10 rfl (fun h10 => ?_) (fun h10 => ?_)
    · refine tg_go bX4_isOrder_59 ?_
      simp only [ti_iload, List.getElem?_cons_zero, List.getElem?_cons_succ, true_and]
      refine g_if_ne (tgt := 67) dX4_isOrder_60 rfl (fun h60 => ?_) (fun h60 => ?_)
      · rw [fa_lit, lI_eq (by omega) (by omega)] at h60
        rw [decide_eq_false h60] at hK
        refine tg_go bX4_isOrder_67 ?_
        simp only [ti_push, List.getElem?_cons_zero, List.getElem?_cons_succ, true_and]
        refine g_zret dX4_isOrder_68 rfl (by first | exact Or.inl rfl | exact Or.inr rfl | assumption) ?_
        exact hK
      · rw [fa_lit, lI_eq (by omega) (by omega)] at h60
        rw [decide_eq_true h60] at hK
        refine tg_go bX4_isOrder_63 ?_
        simp only [ti_push, List.getElem?_cons_zero, List.getElem?_cons_succ, true_and]
        refine g_goto (tgt := 68) dX4_isOrder_64 rfl ?_
        refine g_zret dX4_isOrder_68 rfl (by first | exact Or.inl rfl | exact Or.inr rfl | assumption) ?_
        exact hK
    · rw [lI_le (by omega) (by omega)] at h10; omega
  | succ r ih =>
    intro k o s x5 hrk ho hs hK
    rw [ordC] at hK
    refine tg_go bX4_isOrder_7 ?_
    simp only [ti_iload, List.getElem?_cons_zero, List.getElem?_cons_succ, true_and]
    refine g_icmp_ge (tgt := 59) dX4_isOrder_10 rfl (fun h10 => ?_) (fun h10 => ?_)
    · rw [lI_le (by omega) (by omega)] at h10; omega
    · refine tg_go bX4_isOrder_13 ?_
      simp only [ti_iload, ti_irem, ti_istore, ti_push, tg_s1, tg_cl, List.getElem?_cons_zero, List.getElem?_cons_succ, List.set_cons_zero, List.set_cons_succ, true_and]
      rw [rem10 ho]
      refine ⟨ne10, ?_⟩
      refine g_if_lt (tgt := 39) dX4_isOrder_21 rfl (fun h21 => ?_) (fun h21 => ?_)
      · exact absurd h21 (nI_pos (by omega))
      · refine tg_go bX4_isOrder_24 ?_
        simp only [ti_iload, List.getElem?_cons_zero, List.getElem?_cons_succ, true_and]
        refine g_icmp_ge (tgt := 39) dX4_isOrder_27 rfl (fun h27 => ?_) (fun h27 => ?_)
        · rw [lI_le (by omega) (by omega)] at h27
          refine tg_go bX4_isOrder_39 ?_
          simp only [ti_push, List.getElem?_cons_zero, List.getElem?_cons_succ, true_and]
          refine g_zret dX4_isOrder_40 rfl (by first | exact Or.inl rfl | exact Or.inr rfl | assumption) ?_
          rw [decide_eq_false (by omega), Bool.false_and] at hK
          exact hK
        · rw [lI_le (by omega) (by omega)] at h27
          rw [decide_eq_true (by omega), Bool.true_and] at hK
          refine tg_go bX4_isOrder_30 ?_
          simp only [ti_iand, ti_iload, ti_ishr, ti_push, List.getElem?_cons_zero, List.getElem?_cons_succ, true_and]
          refine g_if_eq (tgt := 41) dX4_isOrder_36 rfl (fun h36 => ?_) (fun h36 => ?_)
          · rw [nI_bit (by omega) (by omega)] at h36
            rw [h36, Bool.not_false, Bool.true_and] at hK
            refine tg_go bX4_isOrder_41 ?_
            simp only [ti_idiv, ti_iinc, ti_iload, ti_ior, ti_ishl, ti_istore, ti_push, tg_s1, tg_cl, List.getElem?_cons_zero, List.getElem?_cons_succ, List.set_cons_zero, List.set_cons_succ, true_and]
            rw [div10 ho, show (1 : Int32) = nI 1 from rfl, nI_shl (by omega) (sh4 (by omega)), nI_or, Nat.one_mul]
            refine ⟨ne10, ?_⟩
            refine g_goto (tgt := 7) dX4_isOrder_56 rfl ?_
            rw [show nI k + nI 1 = nI (k + 1) from nI_add k 1]
            exact ih (k + 1) (o / 10) _ _ (by omega) (by omega) (or_lt16 hs (by omega)) hK
          · rw [nI_bit (by omega) (by omega)] at h36
            rw [eq_true_of_ne_false h36, Bool.not_true, Bool.false_and] at hK
            refine tg_go bX4_isOrder_39 ?_
            simp only [ti_push, List.getElem?_cons_zero, List.getElem?_cons_succ, true_and]
            refine g_zret dX4_isOrder_40 rfl (by first | exact Or.inl rfl | exact Or.inr rfl | assumption) ?_
            exact hK
theorem kX4_isOrder {x : Int32} (hd : d ≤ 4) : tg_Ct l mX4_isOrder 1000 [.int x, .int (nI d)] [] (fun r w => r = some (.int (bZ (orderOK d x))) ∧ w = []) := by
  rw [← ordX_eq hd]
  refine tg_gen (fun K0 hK0 => ?_)
  show tg_G _ _ _ _ _ _ _ [.int x, .int (nI d), .null, .null, .null, .null] [] _
  refine tg_go bX4_isOrder_0 ?_
  simp only [ti_iload, ti_istore, ti_push, tg_s1, tg_cl, List.getElem?_cons_zero, List.getElem?_cons_succ, List.set_cons_zero, List.set_cons_succ, true_and]
  by_cases hx : 0 ≤ x.toInt
  · have hlt := Int32.toInt_lt x
    obtain ⟨e1, e2⟩ := x_of (n := 2 ^ 31) hx (by omega)
    unfold ordX at hK0
    rw [decide_eq_true hx, Bool.true_and] at hK0
    generalize hcc : x.toInt.toNat = o at e1 e2 hK0
    subst e1
    exact kX4_isOrder_p hd d 0 o 0 .null (by omega) e2 (by omega) (hK0 _ _ ⟨rfl, rfl⟩)
  · unfold ordX at hK0
    rw [decide_eq_false hx, Bool.false_and] at hK0
    refine kX4_isOrder_n hd (hK0 _ _ ⟨rfl, rfl⟩) (d + 1) 0 x 0 .null (by omega) (by omega) ?_ (by omega)
    rw [Int32.lt_iff_toInt_lt]
    show x.toInt < 0
    omega
end PART2
