/-! THE REFERENCE: rows of longs, counts -/
def szOK (sz : Nat → Int32) : Prop := ∀ r, r < 3 → sz r = -1 ∨ ∃ n, n ≤ 12 ∧ sz r = nI n
/-- what a place of a row is refused for; nothing: 0 -/
def npI (sz : Nat → Int32) (r i : Int32) : Int32 := if ¬ (0 ≤ r.toInt ∧ r.toInt ≤ 2) then -2 else if (sz r.toInt.toNat).toInt < 0 then -11 else if 0 ≤ i.toInt ∧ i.toInt < (sz r.toInt.toNat).toInt then 0 else -12
theorem isRow_eq (x : Int32) : (decide (0 ≤ x) && decide (x ≤ 2)) = decide (0 ≤ x.toInt ∧ x.toInt ≤ 2) := in_lit (a := 0) (b := 2) (by omega) (by omega)
/-- a sum of two that a long cannot hold, as the reference finds it -/
def plusOv (a b : Int64) : Bool := (decide (a < 0) == decide (b < 0)) && (decide (a + b < 0) != decide (a < 0))
def timesOv (a b : Int64) : Bool := (decide (¬ b = 0) && decide (¬ a * b / b = a)) || (decide (a < 0) && (decide (b < 0) && decide (a * b < 0)))
def bitS (x : Int64) : Nat → Int64
  | 0 => 0
  | k + 1 => bitS x k + ((x >>> ((nI k).toInt64 &&& 63)) &&& 1)
def sumK (f : Nat → Int64) : Nat → Option Int64
  | 0 => some 0
  | k + 1 => match sumK f k with
    | none => none
    | some a => if plusOv a (f k) = true then none else some (a + f k)
theorem sumK_none {f : Nat → Int64} {n : Nat} (h : sumK f n = none) : ∀ m, sumK f (n + m) = none
  | 0 => h
  | m + 1 => by
    show sumK f (n + m + 1) = none
    rw [sumK, sumK_none h m]
def zer (it : Nat → Int64) (r k : Nat) : Nat → Int64 := fun j => if 12 * r ≤ j ∧ j < 12 * r + k then 0 else it j
theorem zer_step {it : Nat → Int64} {r k : Nat} : vp_updL (zer it r k) (12 * r + k) 0 = zer it r (k + 1) := by
  funext j
  unfold vp_updL zer
  by_cases h : j = 12 * r + k
  · rw [if_pos h, if_pos (by omega)]
  · rw [if_neg h]
    by_cases h2 : 12 * r ≤ j ∧ j < 12 * r + k
    · rw [if_pos h2, if_pos (by omega)]
    · rw [if_neg h2, if_neg (by omega)]
theorem zer_0 {it : Nat → Int64} {r : Nat} : zer it r 0 = it := by
  funext j
  unfold zer
  rw [if_neg (by omega)]
def valT (vals : Nat → Int32) : Nat → Int32
  | 0 => 0
  | k + 1 => 10 * valT vals k + vals k
def plc (sz : Nat → Int32) (r : Nat) : Int32 := if 0 ≤ sz r then sz r else 0
theorem np_0 {sz : Nat → Int32} {x y : Int32} (hz : szOK sz) (h : npI sz x y = 0) : ∃ a i : Nat, x = nI a ∧ y = nI i ∧ a < 3 ∧ i < 12 ∧ ∃ n, n ≤ 12 ∧ i < n ∧ sz a = nI n := by
  unfold npI at h
  split at h
  · exact absurd h (by decide)
  · rename_i hx
    have hx : 0 ≤ x.toInt ∧ x.toInt ≤ 2 := Decidable.not_not.mp hx
    split at h
    · exact absurd h (by decide)
    · split at h
      · rename_i h1 h2
        obtain ⟨e1, e2⟩ := x_of (n := 3) hx.1 (by omega)
        obtain ⟨n, hn, en⟩ : ∃ n, n ≤ 12 ∧ sz x.toInt.toNat = nI n := by
          rcases hz _ e2 with q | q
          · rw [q] at h1; exact absurd (by decide) h1
          · exact q
        rw [en, nI_toInt (by omega)] at h2
        obtain ⟨f1, f2⟩ := x_of (n := n) h2.1 h2.2
        exact ⟨_, _, e1, f1, e2, by omega, n, hn, f2, en⟩
      · exact absurd h (by decide)
section REF7
variable {l : tg_Ln} {K : Option Value → List va_E → Prop} {row vals kp tx sz rv ct bm : Nat → Int32} {dm un len fi be rD rM cl dg nu my su le gr cz vi ov : Int32} {it : Nat → Int64} {ask : Int64} {d B n s : Nat} {c v : Nat → Nat} {u : Nat → Int32}
theorem kX9_isRow' {x : Int32} : tg_Ct l mX9_isRow 1000 [.int x] [] (fun r w => r = some (.int (bZ (decide (0 ≤ x.toInt ∧ x.toInt ≤ 2)))) ∧ w = []) := by
  rw [← isRow_eq]
  exact kX9_isRow
theorem kX9_noPlace {x y : Int32} (hz : szOK sz) : tg_Ct l mX9_noPlace 1000 [.ref 0, .int x, .int y] (wM row dm vals un kp tx len sz it ask fi be rD rM cl dg nu my su le gr cz vi ov rv ct bm) (fun r w => r = some (.int (npI sz x y)) ∧ w = (wM row dm vals un kp tx len sz it ask fi be rD rM cl dg nu my su le gr cz vi ov rv ct bm)) := by
  show tg_G _ _ _ _ _ _ _ [.ref 0, .int x, .int y] [] _
  unfold wM
  refine tg_go bX9_noPlace_0 ?_
  simp only [ti_iload, List.getElem?_cons_zero, List.getElem?_cons_succ, true_and]
  refine tg_cP vX9_noPlace_1 (kX9_isRow') rfl rfl (Nat.le_of_ble_eq_true rfl) (Nat.le_of_ble_eq_true rfl) ?_
  refine g_if_ne (tgt := 12) dX9_noPlace_4 rfl (fun h4 => ?_) (fun h4 => ?_)
  · have hx := of_decide_eq_true (bZ_n h4)
    obtain ⟨e1, e2⟩ := x_of (n := 3) hx.1 (by omega)
    have hnp : npI sz x y = if (sz x.toInt.toNat).toInt < 0 then -11 else if 0 ≤ y.toInt ∧ y.toInt < (sz x.toInt.toNat).toInt then 0 else -12 := by unfold npI; rw [if_neg (fun q => q hx)]
    rw [hnp]
    clear hnp
    generalize hcc : x.toInt.toNat = e at e1 e2 ⊢
    subst e1
    refine tg_go bX9_noPlace_12 ?_
    simp only [ti_aload, ti_getf, ti_iald, ti_iload, List.getElem?_cons_zero, List.getElem?_cons_succ, true_and]
    rw [nI_clamp (by omega)]
    refine ⟨vp_in_nI (by omega) (by omega), ?_⟩
    refine g_if_ge (tgt := 26) dX9_noPlace_18 rfl (fun h18 => ?_) (fun h18 => ?_)
    · rw [Int32.le_iff_toInt_le] at h18
      have h18 : 0 ≤ (sz e).toInt := h18
      obtain ⟨q, hq, eq⟩ : ∃ q, q ≤ 12 ∧ sz e = nI q := by
        rcases hz e e2 with h | h
        · rw [h] at h18; exact absurd h18 (by decide)
        · exact h
      have eqi : (sz e).toInt = q := by rw [eq, nI_toInt (by omega)]
      refine tg_go bX9_noPlace_26 ?_
      simp only [ti_aload, ti_getf, ti_i2l, ti_iald, ti_iload, ti_isub, ti_push, List.getElem?_cons_zero, List.getElem?_cons_succ, true_and]
      rw [nI_clamp (by omega), eq]
      refine ⟨vp_in_nI (by omega) (by omega), ?_⟩
      refine tg_cP vX9_noPlace_38 (kX9_in) rfl rfl (Nat.le_of_ble_eq_true rfl) (Nat.le_of_ble_eq_true rfl) ?_
      rw [show (decide ((0 : Int64) ≤ y.toInt64) && decide (y.toInt64 ≤ (nI q - 1).toInt64)) = (decide (0 ≤ y) && decide (y ≤ nI q - 1)) from w_in y 0 (nI q - 1), in_lt (by omega)]
      refine g_if_eq (tgt := 48) dX9_noPlace_41 rfl (fun h41 => ?_) (fun h41 => ?_)
      · have hy := of_decide_eq_false (bZ_0 h41)
        refine tg_go bX9_noPlace_48 ?_
        simp only [ti_push, List.getElem?_cons_zero, List.getElem?_cons_succ, true_and]
        refine g_iret dX9_noPlace_50 rfl ?_
        exact ⟨by rw [nI_toInt (show q < 2 ^ 31 by omega), if_neg (by omega), if_neg hy], rfl⟩
      · have hy := of_decide_eq_true (bZ_n h41)
        refine tg_go bX9_noPlace_44 ?_
        simp only [ti_push, List.getElem?_cons_zero, List.getElem?_cons_succ, true_and]
        refine g_goto (tgt := 50) dX9_noPlace_45 rfl ?_
        refine g_iret dX9_noPlace_50 rfl ?_
        exact ⟨by rw [nI_toInt (show q < 2 ^ 31 by omega), if_neg (by omega), if_pos hy], rfl⟩
    · rw [Int32.le_iff_toInt_le] at h18
      refine tg_go bX9_noPlace_21 ?_
      simp only [ti_push, List.getElem?_cons_zero, List.getElem?_cons_succ, true_and]
      refine g_goto (tgt := 50) dX9_noPlace_23 rfl ?_
      refine g_iret dX9_noPlace_50 rfl ?_
      exact ⟨by rw [if_pos (by simpa using h18)], rfl⟩
  · have hx := of_decide_eq_false (bZ_0 h4)
    refine tg_go bX9_noPlace_7 ?_
    simp only [ti_push, List.getElem?_cons_zero, List.getElem?_cons_succ, true_and]
    refine g_goto (tgt := 50) dX9_noPlace_9 rfl ?_
    refine g_iret dX9_noPlace_50 rfl ?_
    exact ⟨by unfold npI; rw [if_pos hx], rfl⟩
theorem kX9_row_l {e q : Nat} (he : e < 3) (hK : K (some (.int (nI q))) (wM row dm vals un kp tx len sz (zer it e 12) ask fi be rD rM cl dg nu my su le gr cz vi ov rv ct bm)) : ∀ (m k : Nat), 12 - k < m → k ≤ 12 → tg_G l mX9_row 1000 K 0 0 35 [.ref 0, .int (nI e), .int (nI q), .int (nI k)] [] (wM row dm vals un kp tx len sz (zer it e k) ask fi be rD rM cl dg nu my su le gr cz vi ov rv ct bm) := by
  intro m
  induction m with
  | zero => intro k h; omega
  | succ m ih =>
    intro k hm hk
    unfold wM at ih hK ⊢
    refine tg_go bX9_row_35 ?_
    simp only [ti_iload, ti_push, List.getElem?_cons_zero, List.getElem?_cons_succ, true_and]
    refine g_icmp_ge (tgt := 59) dX9_row_38 rfl (fun h38 => ?_) (fun h38 => ?_)
    · rw [fa_lit, lI_le (by omega) (by omega)] at h38
      obtain rfl : k = 12 := by omega
      refine tg_go bX9_row_59 ?_
      simp only [ti_iload, List.getElem?_cons_zero, List.getElem?_cons_succ, true_and]
      refine g_iret dX9_row_60 rfl ?_
      exact hK
    · rw [fa_lit, lI_le (by omega) (by omega)] at h38
      refine tg_go bX9_row_41 ?_
      simp only [ti_aload, ti_getf, ti_iadd, ti_iinc, ti_iload, ti_imul, ti_last, ti_push, tg_s1, tg_cl, List.getElem?_cons_zero, List.getElem?_cons_succ, List.set_cons_zero, List.set_cons_succ, true_and]
      rw [show (12 : Int32) * nI e = nI (12 * e) from pk_mul 12 _, nI_add, nI_1, nI_clamp (by omega), zer_step]
      refine ⟨vp_in_nI (by omega) (by omega), ?_⟩
      refine g_goto (tgt := 35) dX9_row_56 rfl ?_
      exact ih (k + 1) (by omega) (by omega)
theorem kX9_row {x y : Int32} : tg_Ct l mX9_row 1000 [.ref 0, .int x, .int y] (wM row dm vals un kp tx len sz it ask fi be rD rM cl dg nu my su le gr cz vi ov rv ct bm) (fun r w => (¬ (0 ≤ x.toInt ∧ x.toInt ≤ 2) ∧ r = some (.int (-2)) ∧ (sM row dm vals un kp tx len sz it ask) w) ∨ ((0 ≤ x.toInt ∧ x.toInt ≤ 2) ∧ 12 < y.toInt ∧ r = some (.int (-3)) ∧ (sM row dm vals un kp tx len sz it ask) w) ∨ ((0 ≤ x.toInt ∧ x.toInt ≤ 2) ∧ y.toInt < 0 ∧ r = some (.int (-13)) ∧ (sM row dm vals un kp tx len sz it ask) w) ∨ ((0 ≤ x.toInt ∧ x.toInt ≤ 2) ∧ (0 ≤ y.toInt ∧ y.toInt ≤ 12) ∧ r = some (.int y) ∧ (sM row dm vals un kp tx len (upd sz x.toInt.toNat y) (zer it x.toInt.toNat 12) ask) w)) := by
  show tg_G _ _ _ _ _ _ _ [.ref 0, .int x, .int y, .null] [] _
  unfold wM
  refine tg_go bX9_row_0 ?_
  simp only [ti_iload, List.getElem?_cons_zero, List.getElem?_cons_succ, true_and]
  refine tg_cP vX9_row_1 (kX9_isRow') rfl rfl (Nat.le_of_ble_eq_true rfl) (Nat.le_of_ble_eq_true rfl) ?_
  refine g_if_ne (tgt := 10) dX9_row_4 rfl (fun h4 => ?_) (fun h4 => ?_)
  · have hx := of_decide_eq_true (bZ_n h4)
    obtain ⟨e1, e2⟩ := x_of (n := 3) hx.1 (by omega)
    generalize hcc : x.toInt.toNat = e at e1 e2 ⊢
    subst e1
    refine tg_go bX9_row_10 ?_
    simp only [ti_iload, ti_push, List.getElem?_cons_zero, List.getElem?_cons_succ, true_and]
    refine g_icmp_le (tgt := 19) dX9_row_13 rfl (fun h13 => ?_) (fun h13 => ?_)
    · rw [Int32.le_iff_toInt_le, show (12 : Int32).toInt = 12 by decide] at h13
      refine tg_go bX9_row_19 ?_
      simp only [ti_iload, List.getElem?_cons_zero, List.getElem?_cons_succ, true_and]
      refine g_if_ge (tgt := 26) dX9_row_20 rfl (fun h20 => ?_) (fun h20 => ?_)
      · rw [Int32.le_iff_toInt_le, show (0 : Int32).toInt = 0 by decide] at h20
        obtain ⟨f1, f2⟩ := x_of (n := 13) h20 (by omega)
        generalize hcy : y.toInt.toNat = q at f1 f2 ⊢
        subst f1
        refine tg_go bX9_row_26 ?_
        simp only [ti_aload, ti_getf, ti_iast, ti_iload, ti_istore, ti_push, tg_s1, tg_cl, List.getElem?_cons_zero, List.getElem?_cons_succ, List.set_cons_zero, List.set_cons_succ, true_and]
        rw [nI_clamp (by omega)]
        refine ⟨vp_in_nI (by omega) (by omega), ?_⟩
        have h := kX9_row_l (l := l) (K := fun r w => (¬ (0 ≤ (nI e).toInt ∧ (nI e).toInt ≤ 2) ∧ r = some (.int (-2)) ∧ (sM row dm vals un kp tx len sz it ask) w) ∨ ((0 ≤ (nI e).toInt ∧ (nI e).toInt ≤ 2) ∧ 12 < (nI q).toInt ∧ r = some (.int (-3)) ∧ (sM row dm vals un kp tx len sz it ask) w) ∨ ((0 ≤ (nI e).toInt ∧ (nI e).toInt ≤ 2) ∧ (nI q).toInt < 0 ∧ r = some (.int (-13)) ∧ (sM row dm vals un kp tx len sz it ask) w) ∨ ((0 ≤ (nI e).toInt ∧ (nI e).toInt ≤ 2) ∧ (0 ≤ (nI q).toInt ∧ (nI q).toInt ≤ 12) ∧ r = some (.int (nI q)) ∧ (sM row dm vals un kp tx len (upd sz e (nI q)) (zer it e 12) ask) w)) (it := it) (sz := upd sz e (nI q)) (row := row) (dm := dm) (vals := vals) (un := un) (kp := kp) (tx := tx) (len := len) (ask := ask) (fi := fi) (be := be) (rD := rD) (rM := rM) (cl := cl) (dg := dg) (nu := nu) (my := my) (su := su) (le := le) (gr := gr) (cz := cz) (vi := vi) (ov := ov) (rv := rv) (ct := ct) (bm := bm) (q := q) e2 (Or.inr (Or.inr (Or.inr ⟨hx, ⟨h20, h13⟩, rfl, sM_mk⟩))) 13 0 (by omega) (by omega)
        rw [zer_0] at h
        exact h
      · rw [Int32.le_iff_toInt_le, show (0 : Int32).toInt = 0 by decide] at h20
        refine tg_go bX9_row_23 ?_
        simp only [ti_push, List.getElem?_cons_zero, List.getElem?_cons_succ, true_and]
        refine g_iret dX9_row_25 rfl ?_
        exact Or.inr (Or.inr (Or.inl ⟨hx, by omega, rfl, sM_mk⟩))
    · rw [Int32.le_iff_toInt_le, show (12 : Int32).toInt = 12 by decide] at h13
      refine tg_go bX9_row_16 ?_
      simp only [ti_push, List.getElem?_cons_zero, List.getElem?_cons_succ, true_and]
      refine g_iret dX9_row_18 rfl ?_
      exact Or.inr (Or.inl ⟨hx, by omega, rfl, sM_mk⟩)
  · have hx := of_decide_eq_false (bZ_0 h4)
    refine tg_go bX9_row_7 ?_
    simp only [ti_push, List.getElem?_cons_zero, List.getElem?_cons_succ, true_and]
    refine g_iret dX9_row_9 rfl ?_
    exact Or.inl ⟨hx, rfl, sM_mk⟩
theorem kX9_set {x y z : Int32} (hz : szOK sz) : tg_Ct l mX9_set 1000 [.ref 0, .int x, .int y, .int z] (wM row dm vals un kp tx len sz it ask fi be rD rM cl dg nu my su le gr cz vi ov rv ct bm) (fun r w => (npI sz x y ≠ 0 ∧ r = some (.int (npI sz x y)) ∧ (sM row dm vals un kp tx len sz it ask) w) ∨ (npI sz x y = 0 ∧ r = some (.int 1) ∧ (sM row dm vals un kp tx len sz (vp_updL it (12 * x.toInt.toNat + y.toInt.toNat) z.toInt64) ask) w)) := by
  show tg_G _ _ _ _ _ _ _ [.ref 0, .int x, .int y, .int z, .null] [] _
  unfold wM
  refine tg_go bX9_set_0 ?_
  simp only [ti_aload, ti_iload, List.getElem?_cons_zero, List.getElem?_cons_succ, true_and]
  refine tg_cW vX9_set_3 (kX9_noPlace hz) rfl rfl rfl rfl (Nat.le_of_ble_eq_true rfl) (Nat.le_of_ble_eq_true rfl) (Nat.le_of_ble_eq_true rfl) rfl ?_
  unfold wM
  refine tg_go bX9_set_6 ?_
  simp only [ti_iload, ti_istore, tg_s1, tg_cl, List.getElem?_cons_zero, List.getElem?_cons_succ, List.set_cons_zero, List.set_cons_succ, true_and]
  refine g_if_ne (tgt := 26) dX9_set_10 rfl (fun h10 => ?_) (fun h10 => ?_)
  · refine tg_go bX9_set_26 ?_
    simp only [ti_iload, List.getElem?_cons_zero, List.getElem?_cons_succ, true_and]
    refine g_if_ne (tgt := 35) dX9_set_28 rfl (fun h28 => ?_) (fun h28 => ?_)
    · refine tg_go bX9_set_35 ?_
      simp only [ti_iload, List.getElem?_cons_zero, List.getElem?_cons_succ, true_and]
      refine g_iret dX9_set_37 rfl ?_
      exact Or.inl ⟨h10, rfl, sM_mk⟩
    · exact absurd h28 h10
  · obtain ⟨a, i, rfl, rfl, ha, hi, -⟩ := np_0 hz h10
    refine tg_go bX9_set_13 ?_
    simp only [ti_aload, ti_getf, ti_i2l, ti_iadd, ti_iload, ti_imul, ti_last, ti_push, List.getElem?_cons_zero, List.getElem?_cons_succ, List.set_cons_zero, List.set_cons_succ, true_and]
    rw [show (12 : Int32) * nI a = nI (12 * a) from pk_mul 12 _, nI_add, nI_clamp (by omega)]
    refine ⟨vp_in_nI (by omega) (by omega), ?_⟩
    refine tg_go bX9_set_26 ?_
    simp only [ti_iload, List.getElem?_cons_zero, List.getElem?_cons_succ, true_and]
    refine g_if_ne (tgt := 35) dX9_set_28 rfl (fun h28 => ?_) (fun h28 => ?_)
    · exact absurd h10 h28
    · refine tg_go bX9_set_31 ?_
      simp only [ti_push, List.getElem?_cons_zero, List.getElem?_cons_succ, true_and]
      refine g_goto (tgt := 37) dX9_set_32 rfl ?_
      refine g_iret dX9_set_37 rfl ?_
      exact Or.inr ⟨h10, rfl, by rw [show (nI a).toInt.toNat = a by rw [nI_toInt (by omega)]; omega, show (nI i).toInt.toNat = i by rw [nI_toInt (by omega)]; omega]; exact sM_mk⟩
end REF7
