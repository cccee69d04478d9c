/-! THE REFERENCE: foretold: more, less, cap -/
def exC {α : Type} (c : Nat → α) (n : Nat) (a : α) : Nat → α := fun i => if i = n then a else c i
def delC {α : Type} (c : Nat → α) (e : Nat) : Nat → α := fun i => if i < e then c i else c (i + 1)
theorem tbR_same {row row' : Nat → Int32} {d B n s : Nat} {c : Nat → Nat} {u : Nat → Int32} (h : tbR row d B n s c u) (e : ∀ j, B ≤ j → j < B + 82 → row' j = row j) : tbR row' d B n s c u := by
  obtain ⟨h1, h2, h3, h4, h5, h6, h7, h8⟩ := h
  refine ⟨by rw [e B (by omega) (by omega)]; exact h1, by rw [e (B + 1) (by omega) (by omega)]; exact h2, fun i hi => by rw [e _ (by omega) (by omega)]; exact h3 i hi, fun i hi => by rw [e _ (by omega) (by omega)]; exact h4 i hi, h5, h6, h7, h8⟩
theorem tbR_cpy {row : Nat → Int32} {d B T n s : Nat} {c : Nat → Nat} {u : Nat → Int32} (h : tbR row d B n s c u) (hT : T + 82 ≤ 984) : tbR (va_cpy row row B T 82) d T n s c u := by
  obtain ⟨h1, h2, h3, h4, h5, h6, h7, h8⟩ := h
  have e : ∀ j, j < 82 → va_cpy row row B T 82 (T + j) = row (B + j) := fun j hj => by
    rw [pk_cpy_in (by omega) (by omega)]
    congr 1
    omega
  refine ⟨by have := e 0 (by omega); rw [Nat.add_zero, Nat.add_zero] at this; rw [this]; exact h1, by rw [e 1 (by omega)]; exact h2, fun i hi => ?_, fun i hi => ?_, h5, h6, h7, hT⟩
  · rw [show T + 2 + i = T + (2 + i) by omega, e (2 + i) (by omega), show B + (2 + i) = B + 2 + i by omega]
    exact h3 i hi
  · rw [show T + 42 + i = T + (42 + i) by omega, e (42 + i) (by omega), show B + (42 + i) = B + 42 + i by omega]
    exact h4 i hi
theorem tbR_cpyo {row : Nat → Int32} {d B F T n s : Nat} {c : Nat → Nat} {u : Nat → Int32} (h : tbR row d B n s c u) (hT : T + 82 ≤ B ∨ B + 82 ≤ T) : tbR (va_cpy row row F T 82) d B n s c u := tbR_same h (fun j h1 h2 => pk_cpy_out (by omega))
theorem tbR_put {row : Nat → Int32} {d B n s a : Nat} {y : Int32} {c : Nat → Nat} {u : Nat → Int32} (h : tbR row d B n s c u) (hn : n < 40) (ha : a < 7 ^ d) : tbR (rPut row B n (nI a) y) d B (n + 1) s (exC c n a) (exC u n y) := by
  obtain ⟨h1, h2, h3, h4, h5, h6, h7, h8⟩ := h
  unfold rPut
  refine ⟨pk_us, ?_, fun i hi => ?_, fun i hi => ?_, fun i hi => ?_, by omega, h7, h8⟩
  · rw [pk_un (by omega), pk_un (by omega), pk_un (by omega)]
    exact h2
  · unfold exC
    by_cases e : i = n
    · subst e
      rw [if_pos rfl, pk_un (by omega), pk_un (by omega), pk_us]
    · rw [if_neg e, pk_un (by omega), pk_un (by omega), pk_un (by omega)]
      exact h3 i (by omega)
  · unfold exC
    by_cases e : i = n
    · subst e
      rw [if_pos rfl, pk_un (by omega), pk_us]
    · rw [if_neg e, pk_un (by omega), pk_un (by omega), pk_un (by omega)]
      exact h4 i (by omega)
  · unfold exC
    split
    · exact ha
    · exact h5 i (by omega)
theorem tbR_puto {row : Nat → Int32} {d B B' n n' s : Nat} {x y : Int32} {c : Nat → Nat} {u : Nat → Int32} (h : tbR row d B n s c u) (hB : B' + 82 ≤ B ∨ B + 82 ≤ B') (hn : n' < 40) : tbR (rPut row B' n' x y) d B n s c u := tbR_same h (fun j h1 h2 => by
  unfold rPut
  rw [pk_un (by omega), pk_un (by omega), pk_un (by omega)])
theorem rTake_at (row : Nat → Int32) (B n e j : Nat) : rTake row B n e j = if j = B then nI (n - 1) else if B + 2 + e ≤ j ∧ j < B + 2 + (n - 1) then row (j + 1) else if B + 42 + e ≤ j ∧ j < B + 42 + (n - 1) then row (j + 1) else row j := rfl
theorem delC_lt {α : Type} {c : Nat → α} {e i : Nat} (h : i < e) : delC c e i = c i := if_pos h
theorem delC_ge {α : Type} {c : Nat → α} {e i : Nat} (h : ¬ i < e) : delC c e i = c (i + 1) := if_neg h
theorem tbR_take {row : Nat → Int32} {d B n s e : Nat} {c : Nat → Nat} {u : Nat → Int32} (h : tbR row d B n s c u) (he : e < n) : tbR (rTake row B n e) d B (n - 1) s (delC c e) (delC u e) := by
  obtain ⟨h1, h2, h3, h4, h5, h6, h7, h8⟩ := h
  refine ⟨by rw [rTake_at, if_pos rfl], by rw [rTake_at, if_neg (by omega), if_neg (by omega), if_neg (by omega)]; exact h2, fun i hi => ?_, fun i hi => ?_, fun i hi => ?_, by omega, h7, h8⟩
  · rw [rTake_at, if_neg (by omega)]
    by_cases q : i < e
    · rw [delC_lt q, if_neg (by omega), if_neg (by omega)]
      exact h3 i (by omega)
    · rw [delC_ge q, if_pos (by omega), show B + 2 + i + 1 = B + 2 + (i + 1) by omega]
      exact h3 (i + 1) (by omega)
  · rw [rTake_at, if_neg (by omega), if_neg (by omega)]
    by_cases q : i < e
    · rw [delC_lt q, if_neg (by omega)]
      exact h4 i (by omega)
    · rw [delC_ge q, if_pos (by omega), show B + 42 + i + 1 = B + 42 + (i + 1) by omega]
      exact h4 (i + 1) (by omega)
  · by_cases q : i < e
    · rw [delC_lt q]
      exact h5 i (by omega)
    · rw [delC_ge q]
      exact h5 (i + 1) (by omega)
theorem tbR_takeo {row : Nat → Int32} {d B B' n n' e s : Nat} {c : Nat → Nat} {u : Nat → Int32} (h : tbR row d B n s c u) (hB : B' + 82 ≤ B ∨ B + 82 ≤ B') (hn : n' ≤ 40) : tbR (rTake row B' n' e) d B n s c u := tbR_same h (fun j h1 h2 => by
  unfold rTake rTk
  rw [if_neg (by omega), if_neg (by omega), if_neg (by omega)])
theorem wholeOK_in {d : Nat} {v : Nat → Nat} {x : Int32} (h : wholeOK d v x = true) : ∃ a, x = nI a ∧ a < 7 ^ d := by
  unfold wholeOK at h
  rw [Bool.and_eq_true] at h
  exact cellOK_in h.1
/-- by how many of a list of counts one comes down from s -/
def capR (f : Nat → Nat) (k : Nat) : Nat → Nat → Nat
  | 0, _ => 0
  | 1, _ => 1
  | s + 2, t => if t + f (s + 1) ≤ k then capR f k (s + 1) (t + f (s + 1)) else s + 2
def clo1 (d : Nat) (v : Nat → Nat) (n : Nat) (c : Nat → Nat) (a : Nat) : Bool := allB (fun k => decide (figN d a k ≤ v k)) d && decide (gClo d (cvP d c a) c n = some a)
def byM (d : Nat) (v : Nat → Nat) (n : Nat) (c : Nat → Nat) (A q : Nat) : Nat := gMany (fun a => clo1 d v n c a && decide (gMany (cvP d c a) n = q)) A
section REF9
variable {l : tg_Ln} {K : Option Value → List va_E → Prop} {row vals kp tx sz rv ct bm : Nat → Int32} {dm un len fi be rD rM cl dg nu my su le gr cz vi ov : Int32} {it : Nat → Int64} {ask : Int64} {d B n s : Nat} {c v : Nat → Nat} {u : Nat → Int32}
theorem kX9_more {x y : Int32} (hd : d ≤ 4) (hv : ∀ k, k < d → vals k = nI (v k) ∧ v k ≤ 6) (ht : tbR row d 0 n s c u) : tg_Ct l mX9_more 1000 [.ref 0, .int x, .int y] (wM row (nI d) vals un kp tx len sz it ask fi be rD rM cl dg nu my su le gr cz vi ov rv ct bm) (fun r w => (¬ (wholeOK d v x = true ∧ 0 ≤ y.toInt ∧ y.toInt ≤ 1) ∧ r = some (.int (-3)) ∧ (sM row (nI d) vals un kp tx len sz it ask) w) ∨ ((wholeOK d v x = true ∧ 0 ≤ y.toInt ∧ y.toInt ≤ 1) ∧ n = 40 ∧ r = some (.int (-5)) ∧ (sM row (nI d) vals un kp tx len sz it ask) w) ∨ ((wholeOK d v x = true ∧ 0 ≤ y.toInt ∧ y.toInt ≤ 1) ∧ n < 40 ∧ r = some (.int (nI (if y = 0 then gMany (inCu d v (n + 1) (exC c n x.toInt.toNat) s) (7 ^ d) else gMany (fun a => inCu d v (n + 1) (exC c n x.toInt.toNat) s a && !inCu d v n c s a) (7 ^ d)))) ∧ (sM (rPut (va_cpy row row 0 902 82) 902 n x 0) (nI d) vals un kp tx len sz it ask) w)) := by
  have hp7 := pow7 hd
  have hn := ht.2.2.2.2.2.1
  show tg_G _ _ _ _ _ _ _ [.ref 0, .int x, .int y] [] _
  unfold wM
  refine tg_go bX9_more_0 ?_
  simp only [ti_aload, ti_iload, List.getElem?_cons_zero, List.getElem?_cons_succ, true_and]
  refine tg_cW vX9_more_2 (kX9_isWhole hd hv) rfl rfl rfl rfl (Nat.le_of_ble_eq_true rfl) (Nat.le_of_ble_eq_true rfl) (Nat.le_of_ble_eq_true rfl) rfl ?_
  unfold wM
  refine g_if_eq (tgt := 18) dX9_more_5 rfl (fun h5 => ?_) (fun h5 => ?_)
  · have hx := bZ_0 h5
    refine tg_go bX9_more_18 ?_
    simp only [ti_push, List.getElem?_cons_zero, List.getElem?_cons_succ, true_and]
    refine g_iret dX9_more_20 rfl ?_
    exact Or.inl ⟨fun q => by rw [hx] at q; exact absurd q.1 (by decide), rfl, sM_mk⟩
  · have hx := bZ_n h5
    refine tg_go bX9_more_8 ?_
    simp only [ti_i2l, ti_iload, ti_push, List.getElem?_cons_zero, List.getElem?_cons_succ, true_and]
    refine tg_cP vX9_more_12 (kX9_in) rfl rfl (Nat.le_of_ble_eq_true rfl) (Nat.le_of_ble_eq_true rfl) ?_
    rw [show (decide ((0 : Int64) ≤ y.toInt64) && decide (y.toInt64 ≤ (1 : Int64))) = (decide (nI 0 ≤ y) && decide (y ≤ nI 1)) from w_in y 0 1, in_lit (by omega) (by omega)]
    refine g_if_ne (tgt := 21) dX9_more_15 rfl (fun h15 => ?_) (fun h15 => ?_)
    · have hy := of_decide_eq_true (bZ_n h15)
      obtain ⟨a, rfl, ha⟩ := wholeOK_in hx
      have ea : (nI a).toInt.toNat = a := by rw [nI_toInt (by omega)]; omega
      rw [ea]
      refine tg_go bX9_more_21 ?_
      simp only [ti_aload, ti_getf, ti_iald, ti_push, List.getElem?_cons_zero, List.getElem?_cons_succ, true_and]
      rw [sb_cl0, ht.1]
      refine ⟨vp_in_nI (n := 0) (by decide) (by decide), ?_⟩
      refine g_icmp_ne (tgt := 35) dX9_more_29 rfl (fun h29 => ?_) (fun h29 => ?_)
      · rw [fa_lit, lI_eq (by omega) (by omega)] at h29
        have t1 := tbR_cpy (T := 902) ht (by omega)
        have t2 := tbR_put (a := a) (y := 0) t1 (by omega) ha
        have t3 := tbR_puto (B' := 902) (n' := n) (x := nI a) (y := 0) (tbR_cpyo (F := 0) (T := 902) ht (by omega)) (by omega) (by omega)
        refine tg_go bX9_more_35 ?_
        simp only [ti_aload, ti_push, List.getElem?_cons_zero, List.getElem?_cons_succ, true_and]
        refine tg_cWv vX9_more_40 (kX9_copyRow (F := 0) (T := 902) (by omega) (by omega) (by omega)) rfl rfl rfl rfl (Nat.le_of_ble_eq_true rfl) (Nat.le_of_ble_eq_true rfl) (Nat.le_of_ble_eq_true rfl) rfl ?_
        unfold wM
        refine tg_go bX9_more_43 ?_
        simp only [ti_aload, ti_iload, ti_push, List.getElem?_cons_zero, List.getElem?_cons_succ, true_and]
        refine tg_cWv vX9_more_49 (kX9_put (B := 902) (n := n) (by omega) (by omega) t1.1) rfl rfl rfl rfl (Nat.le_of_ble_eq_true rfl) (Nat.le_of_ble_eq_true rfl) (Nat.le_of_ble_eq_true rfl) rfl ?_
        unfold wM
        refine tg_go bX9_more_52 ?_
        simp only [ti_iload, List.getElem?_cons_zero, List.getElem?_cons_succ, true_and]
        refine g_if_ne (tgt := 66) dX9_more_53 rfl (fun h53 => ?_) (fun h53 => ?_)
        · refine tg_go bX9_more_66 ?_
          simp only [ti_aload, ti_push, List.getElem?_cons_zero, List.getElem?_cons_succ, true_and]
          refine tg_cWe vX9_more_71 (kX9_only (B := 902) (B' := 0) hd hv t2 t3) rfl rfl rfl rfl (Nat.le_of_ble_eq_true rfl) (Nat.le_of_ble_eq_true rfl) (Nat.le_of_ble_eq_true rfl) (by rintro r w1 ⟨-, my1, su1, le1, gr1, cz1, rfl⟩; rfl) ?_
          rintro r w1 ⟨rfl, my1, su1, le1, gr1, cz1, rfl⟩
          simp only [Option.toList_some, Option.toList_none, List.cons_append, List.nil_append]
          unfold wM
          refine g_iret dX9_more_74 rfl ?_
          exact Or.inr (Or.inr ⟨⟨hx, hy⟩, by omega, by rw [if_neg h53], sM_mk⟩)
        · refine tg_go bX9_more_56 ?_
          simp only [ti_aload, ti_push, List.getElem?_cons_zero, List.getElem?_cons_succ, true_and]
          refine tg_cWe vX9_more_60 (kX9_cubeOf (B := 902) hd hv t2) rfl rfl rfl rfl (Nat.le_of_ble_eq_true rfl) (Nat.le_of_ble_eq_true rfl) (Nat.le_of_ble_eq_true rfl) (by rintro r w1 ⟨-, my1, su1, le1, gr1, cz1, rfl⟩; rfl) ?_
          rintro r w1 ⟨rfl, my1, su1, le1, gr1, cz1, rfl⟩
          simp only [Option.toList_some, Option.toList_none, List.cons_append, List.nil_append]
          unfold wM
          refine g_goto (tgt := 74) dX9_more_63 rfl ?_
          refine g_iret dX9_more_74 rfl ?_
          exact Or.inr (Or.inr ⟨⟨hx, hy⟩, by omega, by rw [if_pos h53], sM_mk⟩)
      · rw [fa_lit, lI_eq (by omega) (by omega)] at h29
        refine tg_go bX9_more_32 ?_
        simp only [ti_push, List.getElem?_cons_zero, List.getElem?_cons_succ, true_and]
        refine g_iret dX9_more_34 rfl ?_
        exact Or.inr (Or.inl ⟨⟨hx, hy⟩, h29, rfl, sM_mk⟩)
    · have hy := of_decide_eq_false (bZ_0 h15)
      refine tg_go bX9_more_18 ?_
      simp only [ti_push, List.getElem?_cons_zero, List.getElem?_cons_succ, true_and]
      refine g_iret dX9_more_20 rfl ?_
      exact Or.inl ⟨fun q => hy q.2, rfl, sM_mk⟩
theorem kX9_less {x y : Int32} (hd : d ≤ 4) (hv : ∀ k, k < d → vals k = nI (v k) ∧ v k ≤ 6) (ht : tbR row d 0 n s c u) : tg_Ct l mX9_less 1000 [.ref 0, .int x, .int y] (wM row (nI d) vals un kp tx len sz it ask fi be rD rM cl dg nu my su le gr cz vi ov rv ct bm) (fun r w => (¬ (0 ≤ x.toInt ∧ x.toInt < n) ∧ r = some (.int (-2)) ∧ (sM row (nI d) vals un kp tx len sz it ask) w) ∨ ((0 ≤ x.toInt ∧ x.toInt < n) ∧ ¬ (0 ≤ y.toInt ∧ y.toInt ≤ 1) ∧ r = some (.int (-3)) ∧ (sM row (nI d) vals un kp tx len sz it ask) w) ∨ ((0 ≤ x.toInt ∧ x.toInt < n) ∧ (0 ≤ y.toInt ∧ y.toInt ≤ 1) ∧ r = some (.int (nI (if y = 0 then gMany (inCu d v (n - 1) (delC c x.toInt.toNat) s) (7 ^ d) else gMany (fun a => inCu d v n c s a && !inCu d v (n - 1) (delC c x.toInt.toNat) s a) (7 ^ d)))) ∧ (sM (rTake (va_cpy row row 0 902 82) 902 n x.toInt.toNat) (nI d) vals un kp tx len sz it ask) w)) := by
  have hp7 := pow7 hd
  have hn := ht.2.2.2.2.2.1
  show tg_G _ _ _ _ _ _ _ [.ref 0, .int x, .int y] [] _
  unfold wM
  refine tg_go bX9_less_0 ?_
  simp only [ti_aload, ti_iload, List.getElem?_cons_zero, List.getElem?_cons_succ, true_and]
  refine tg_cW vX9_less_2 (kX9_isEntry hn ht.1) rfl rfl rfl rfl (Nat.le_of_ble_eq_true rfl) (Nat.le_of_ble_eq_true rfl) (Nat.le_of_ble_eq_true rfl) rfl ?_
  unfold wM
  refine g_if_ne (tgt := 11) dX9_less_5 rfl (fun h5 => ?_) (fun h5 => ?_)
  · have hx := of_decide_eq_true (bZ_n h5)
    refine tg_go bX9_less_11 ?_
    simp only [ti_i2l, ti_iload, ti_push, List.getElem?_cons_zero, List.getElem?_cons_succ, true_and]
    refine tg_cP vX9_less_15 (kX9_in) rfl rfl (Nat.le_of_ble_eq_true rfl) (Nat.le_of_ble_eq_true rfl) ?_
    rw [show (decide ((0 : Int64) ≤ y.toInt64) && decide (y.toInt64 ≤ (1 : Int64))) = (decide (nI 0 ≤ y) && decide (y ≤ nI 1)) from w_in y 0 1, in_lit (by omega) (by omega)]
    refine g_if_ne (tgt := 24) dX9_less_18 rfl (fun h18 => ?_) (fun h18 => ?_)
    · have hy := of_decide_eq_true (bZ_n h18)
      obtain ⟨e1, e2⟩ := x_of hx.1 hx.2
      generalize hcc : x.toInt.toNat = e at e1 e2 ⊢
      subst e1
      have t1 := tbR_cpy (T := 902) ht (by omega)
      have t2 := tbR_take (e := e) t1 e2
      have t3 := tbR_takeo (B' := 902) (n' := n) (e := e) (tbR_cpyo (F := 0) (T := 902) ht (by omega)) (by omega) (by omega)
      refine tg_go bX9_less_24 ?_
      simp only [ti_aload, ti_push, List.getElem?_cons_zero, List.getElem?_cons_succ, true_and]
      refine tg_cWv vX9_less_29 (kX9_copyRow (F := 0) (T := 902) (by omega) (by omega) (by omega)) rfl rfl rfl rfl (Nat.le_of_ble_eq_true rfl) (Nat.le_of_ble_eq_true rfl) (Nat.le_of_ble_eq_true rfl) rfl ?_
      unfold wM
      refine tg_go bX9_less_32 ?_
      simp only [ti_aload, ti_iload, ti_push, List.getElem?_cons_zero, List.getElem?_cons_succ, true_and]
      refine tg_cWv vX9_less_37 (kX9_takeOut (B := 902) (n := n) (e := e) (by omega) hn t1.1 e2) rfl rfl rfl rfl (Nat.le_of_ble_eq_true rfl) (Nat.le_of_ble_eq_true rfl) (Nat.le_of_ble_eq_true rfl) rfl ?_
      unfold wM
      refine tg_go bX9_less_40 ?_
      simp only [ti_iload, List.getElem?_cons_zero, List.getElem?_cons_succ, true_and]
      refine g_if_ne (tgt := 54) dX9_less_41 rfl (fun h41 => ?_) (fun h41 => ?_)
      · refine tg_go bX9_less_54 ?_
        simp only [ti_aload, ti_push, List.getElem?_cons_zero, List.getElem?_cons_succ, true_and]
        refine tg_cWe vX9_less_59 (kX9_only (B := 0) (B' := 902) hd hv t3 t2) rfl rfl rfl rfl (Nat.le_of_ble_eq_true rfl) (Nat.le_of_ble_eq_true rfl) (Nat.le_of_ble_eq_true rfl) (by rintro r w1 ⟨-, my1, su1, le1, gr1, cz1, rfl⟩; rfl) ?_
        rintro r w1 ⟨rfl, my1, su1, le1, gr1, cz1, rfl⟩
        simp only [Option.toList_some, Option.toList_none, List.cons_append, List.nil_append]
        unfold wM
        refine g_iret dX9_less_62 rfl ?_
        exact Or.inr (Or.inr ⟨hx, hy, by rw [if_neg h41], sM_mk⟩)
      · refine tg_go bX9_less_44 ?_
        simp only [ti_aload, ti_push, List.getElem?_cons_zero, List.getElem?_cons_succ, true_and]
        refine tg_cWe vX9_less_48 (kX9_cubeOf (B := 902) hd hv t2) rfl rfl rfl rfl (Nat.le_of_ble_eq_true rfl) (Nat.le_of_ble_eq_true rfl) (Nat.le_of_ble_eq_true rfl) (by rintro r w1 ⟨-, my1, su1, le1, gr1, cz1, rfl⟩; rfl) ?_
        rintro r w1 ⟨rfl, my1, su1, le1, gr1, cz1, rfl⟩
        simp only [Option.toList_some, Option.toList_none, List.cons_append, List.nil_append]
        unfold wM
        refine g_goto (tgt := 62) dX9_less_51 rfl ?_
        refine g_iret dX9_less_62 rfl ?_
        exact Or.inr (Or.inr ⟨hx, hy, by rw [if_pos h41], sM_mk⟩)
    · have hy := of_decide_eq_false (bZ_0 h18)
      refine tg_go bX9_less_21 ?_
      simp only [ti_push, List.getElem?_cons_zero, List.getElem?_cons_succ, true_and]
      refine g_iret dX9_less_23 rfl ?_
      exact Or.inr (Or.inl ⟨hx, hy, rfl, sM_mk⟩)
  · have hx := of_decide_eq_false (bZ_0 h5)
    refine tg_go bX9_less_8 ?_
    simp only [ti_push, List.getElem?_cons_zero, List.getElem?_cons_succ, true_and]
    refine g_iret dX9_less_10 rfl ?_
    exact Or.inl ⟨hx, rfl, sM_mk⟩
theorem kX9_cap_3 {q : Nat} {x2 : Int32} (f : Nat → Nat) (hq : q < 2 ^ 30) (hf : ∀ j, j < 42 → bm j = nI (f j)) (hl : ∀ j, f j ≤ 2401) : ∀ (m s t : Nat), s ≤ m → 1 ≤ s → s ≤ 41 → t + 2401 * s ≤ 98441 → K (some (.int (nI (capR f q s t)))) (wM row dm vals un kp tx len sz it ask fi be rD rM cl dg nu my su le gr cz vi ov rv ct bm) → tg_G l mX9_cap 1000 K 0 0 99 [.ref 0, .int (nI q), .int x2, .int (nI s), .int (nI t)] [] (wM row dm vals un kp tx len sz it ask fi be rD rM cl dg nu my su le gr cz vi ov rv ct bm) := by
  intro m
  induction m with
  | zero => intro s t h1 h2; omega
  | succ m ih =>
    intro s t h1 h2 h3 h4 hK
    unfold wM at ih hK ⊢
    refine tg_go bX9_cap_99 ?_
    simp only [ti_iload, ti_push, List.getElem?_cons_zero, List.getElem?_cons_succ, true_and]
    refine g_icmp_le (tgt := 136) dX9_cap_101 rfl (fun h101 => ?_) (fun h101 => ?_)
    · rw [fa_lit, lI_le (by omega) (by omega)] at h101
      obtain rfl : s = 1 := by omega
      refine tg_go bX9_cap_136 ?_
      simp only [ti_iload, List.getElem?_cons_zero, List.getElem?_cons_succ, true_and]
      refine g_iret dX9_cap_137 rfl ?_
      exact hK
    · rw [fa_lit, lI_le (by omega) (by omega)] at h101
      obtain ⟨s', rfl⟩ : ∃ s', s = s' + 2 := ⟨s - 2, by omega⟩
      have hs1 := hl (s' + 1)
      rw [capR] at hK
      refine tg_go bX9_cap_104 ?_
      simp only [ti_aload, ti_getf, ti_iadd, ti_iald, ti_iload, ti_isub, ti_push, List.getElem?_cons_zero, List.getElem?_cons_succ, true_and]
      rw [show nI (s' + 2) - 1 = nI (s' + 1) from nI_pred (s' + 1), nI_clamp (by omega), hf (s' + 1) (by omega), nI_add]
      refine ⟨vp_in_nI (by omega) (by omega), ?_⟩
      refine g_icmp_gt (tgt := 136) dX9_cap_116 rfl (fun h116 => ?_) (fun h116 => ?_)
      · rw [lI_lt (by omega) (by omega)] at h116
        refine tg_go bX9_cap_136 ?_
        simp only [ti_iload, List.getElem?_cons_zero, List.getElem?_cons_succ, true_and]
        refine g_iret dX9_cap_137 rfl ?_
        rw [if_neg (by omega)] at hK
        exact hK
      · rw [lI_lt (by omega) (by omega)] at h116
        rw [if_pos (by omega)] at hK
        refine tg_go bX9_cap_119 ?_
        simp only [ti_aload, ti_getf, ti_iadd, ti_iald, ti_iinc, ti_iload, ti_istore, tg_s1, tg_cl, List.getElem?_cons_zero, List.getElem?_cons_succ, List.set_cons_zero, List.set_cons_succ, true_and]
        rw [show nI (s' + 2) + -1 = nI (s' + 1) from pk_m1 (s' + 1), nI_clamp (by omega), hf (s' + 1) (by omega), nI_add]
        refine ⟨vp_in_nI (by omega) (by omega), ?_⟩
        refine g_goto (tgt := 99) dX9_cap_133 rfl ?_
        have hb : t + f (s' + 1) + 2401 * (s' + 1) ≤ 98441 := by
          have e := Nat.mul_succ 2401 (s' + 1)
          have h4' : t + 2401 * (s' + 1).succ ≤ 98441 := h4
          rw [e] at h4'
          generalize 2401 * (s' + 1) = z at h4' ⊢
          generalize f (s' + 1) = y at hs1 ⊢
          clear h4 e ih hK
          omega
        have h2 := ih (s' + 1) (t + f (s' + 1)) (by omega) (by omega) (by omega) hb
        exact h2 hK
theorem kX9_cap_2 {q : Nat} (hq : q < 2 ^ 30) (hd : d ≤ 4) (hv : ∀ k, k < d → vals k = nI (v k) ∧ v k ≤ 6) (ht : tbR row d 0 n s c u) (hK : ∀ my su le gr cz bm, K (some (.int (nI (capR (byM d v n c (7 ^ d)) q 41 0)))) (wM row (nI d) vals un kp tx len sz it ask fi be rD rM cl dg nu my su le gr cz vi ov rv ct bm)) : ∀ (m a : Nat) (my su le gr cz : Int32) (bm : Nat → Int32), 7 ^ d - a < m → a ≤ 7 ^ d → (∀ j, j < 42 → bm j = nI (byM d v n c a j)) → tg_G l mX9_cap 1000 K 0 0 43 [.ref 0, .int (nI q), .int (nI (7 ^ d)), .int (nI a), .null] [] (wM row (nI d) vals un kp tx len sz it ask fi be rD rM cl dg nu my su le gr cz vi ov rv ct bm) := by
  have hp7 := pow7 hd
  have hn := ht.2.2.2.2.2.1
  intro m
  induction m with
  | zero => intro a my su le gr cz bm h; omega
  | succ m ih =>
    intro a my su le gr cz bm hm ha hb
    have hmn := gMany_le (cvP d c a) n
    have eo := oI_eq (o := gClo d (cvP d c a) c n) (a := a) (by omega) (fun x hx => by have := gClo_lt n ht.2.2.2.2.1 x hx; omega)
    unfold wM at ih hK ⊢
    refine tg_go bX9_cap_43 ?_
    simp only [ti_iload, List.getElem?_cons_zero, List.getElem?_cons_succ, true_and]
    refine g_icmp_ge (tgt := 93) dX9_cap_45 rfl (fun h45 => ?_) (fun h45 => ?_)
    · rw [lI_le (by omega) (by omega)] at h45
      obtain rfl : a = 7 ^ d := by omega
      refine tg_go bX9_cap_93 ?_
      simp only [ti_istore, ti_push, tg_s1, tg_cl, List.getElem?_cons_zero, List.getElem?_cons_succ, List.set_cons_zero, List.set_cons_succ, true_and]
      exact kX9_cap_3 (byM d v n c (7 ^ d)) hq hb (fun j => Nat.le_trans (gMany_le _ _) hp7) 41 41 0 (by omega) (by omega) (by omega) (by omega) (hK _ _ _ _ _ _)
    · rw [lI_le (by omega) (by omega)] at h45
      refine tg_go bX9_cap_48 ?_
      simp only [ti_aload, ti_iload, List.getElem?_cons_zero, List.getElem?_cons_succ, true_and]
      refine tg_cW vX9_cap_50 (kX9_isCell hd hv) rfl rfl rfl rfl (Nat.le_of_ble_eq_true rfl) (Nat.le_of_ble_eq_true rfl) (Nat.le_of_ble_eq_true rfl) rfl ?_
      unfold wM
      rw [cellOK_nI hd (show a < 7 ^ d by omega)]
      refine g_if_eq (tgt := 87) dX9_cap_53 rfl (fun h53 => ?_) (fun h53 => ?_)
      · have hx := bZ_0 h53
        refine tg_go bX9_cap_87 ?_
        simp only [ti_iinc, tg_s1, tg_cl, List.getElem?_cons_zero, List.getElem?_cons_succ, List.set_cons_zero, List.set_cons_succ, true_and]
        rw [nI_1]
        refine g_goto (tgt := 43) dX9_cap_90 rfl ?_
        refine ih (a + 1) _ _ _ _ _ _ (by omega) (by omega) (fun j hj => ?_)
        rw [hb j hj]
        unfold byM
        rw [gMany]
        simp [clo1, hx]
      · have hx := bZ_n h53
        refine tg_go bX9_cap_56 ?_
        simp only [ti_aload, ti_iload, ti_push, List.getElem?_cons_zero, List.getElem?_cons_succ, true_and]
        refine tg_cWv vX9_cap_59 (kX9_gather' hd ht (show a < 2 ^ 31 by omega)) rfl rfl rfl rfl (Nat.le_of_ble_eq_true rfl) (Nat.le_of_ble_eq_true rfl) (Nat.le_of_ble_eq_true rfl) rfl ?_
        unfold wM
        refine tg_go bX9_cap_62 ?_
        simp only [ti_aload, ti_dup2, ti_getf, ti_iald, ti_iload, Value.category, List.getElem?_cons_zero, List.getElem?_cons_succ, true_and]
        rw [nI_clamp (by omega), hb _ (by omega)]
        refine ⟨vp_in_nI (by omega) (by omega), ?_⟩
        refine g_cut2 85 (fun z => z = nI (if gClo d (cvP d c a) c n = some a then 1 else 0)) (fun J85 => ?_) (fun z hz => ?_)
        · refine g_icmp_ne (tgt := 84) dX9_cap_77 rfl (fun h77 => ?_) (fun h77 => ?_)
          · refine tg_go bX9_cap_84 ?_
            simp only [ti_push, List.getElem?_cons_zero, List.getElem?_cons_succ, true_and]
            exact J85 _ (by rw [eo] at h77; rw [if_neg h77]; rfl)
          · refine tg_go bX9_cap_80 ?_
            simp only [ti_push, List.getElem?_cons_zero, List.getElem?_cons_succ, true_and]
            refine g_goto (tgt := 85) dX9_cap_81 rfl ?_
            exact J85 _ (by rw [eo] at h77; rw [if_pos h77]; rfl)
        subst hz
        refine tg_go bX9_cap_85 ?_
        simp only [ti_iadd, ti_iast, List.getElem?_cons_zero, List.getElem?_cons_succ, List.set_cons_zero, List.set_cons_succ, true_and]
        rw [nI_add, nI_clamp (by omega)]
        refine ⟨vp_in_nI (by omega) (by omega), ?_⟩
        refine tg_go bX9_cap_87 ?_
        simp only [ti_iinc, tg_s1, tg_cl, List.getElem?_cons_zero, List.getElem?_cons_succ, List.set_cons_zero, List.set_cons_succ, true_and]
        rw [nI_1]
        refine g_goto (tgt := 43) dX9_cap_90 rfl ?_
        refine ih (a + 1) _ _ _ _ _ _ (by omega) (by omega) (fun j hj => ?_)
        by_cases e : j = gMany (cvP d c a) n
        · subst e
          rw [pk_us]
          unfold byM
          rw [gMany]
          simp [clo1, hx]
        · rw [pk_un e, hb j hj]
          unfold byM
          rw [gMany]
          simp [Ne.symm e, show ¬ gMany (cvP d c a) n = j from fun q => e q.symm]
theorem kX9_cap_1 {q : Nat} (hq : q < 2 ^ 30) (hd : d ≤ 4) (hv : ∀ k, k < d → vals k = nI (v k) ∧ v k ≤ 6) (ht : tbR row d 0 n s c u) (hK : ∀ my su le gr cz bm, K (some (.int (nI (capR (byM d v n c (7 ^ d)) q 41 0)))) (wM row (nI d) vals un kp tx len sz it ask fi be rD rM cl dg nu my su le gr cz vi ov rv ct bm)) : ∀ (m k : Nat) (bm : Nat → Int32), 42 - k < m → k ≤ 42 → (∀ j, j < k → bm j = 0) → tg_G l mX9_cap 1000 K 0 0 17 [.ref 0, .int (nI q), .int (nI k), .null, .null] [] (wM row (nI d) vals un kp tx len sz it ask fi be rD rM cl dg nu my su le gr cz vi ov rv ct bm) := by
  intro m
  induction m with
  | zero => intro k bm h; omega
  | succ m ih =>
    intro k bm hm hk hb
    unfold wM at ih hK ⊢
    refine tg_go bX9_cap_17 ?_
    simp only [ti_iload, ti_push, List.getElem?_cons_zero, List.getElem?_cons_succ, true_and]
    refine g_icmp_ge (tgt := 36) dX9_cap_20 rfl (fun h20 => ?_) (fun h20 => ?_)
    · rw [fa_lit, lI_le (by omega) (by omega)] at h20
      obtain rfl : k = 42 := by omega
      refine tg_go bX9_cap_36 ?_
      simp only [ti_aload, List.getElem?_cons_zero, List.getElem?_cons_succ, true_and]
      refine tg_cW vX9_cap_37 (kX9_codes hd) rfl rfl rfl rfl (Nat.le_of_ble_eq_true rfl) (Nat.le_of_ble_eq_true rfl) (Nat.le_of_ble_eq_true rfl) rfl ?_
      unfold wM
      refine tg_go bX9_cap_40 ?_
      simp only [ti_istore, ti_push, tg_s1, tg_cl, List.getElem?_cons_zero, List.getElem?_cons_succ, List.set_cons_zero, List.set_cons_succ, true_and]
      exact kX9_cap_2 hq hd hv ht hK (7 ^ d + 1) 0 _ _ _ _ _ _ (Nat.lt_succ_of_le (Nat.sub_le _ _)) (Nat.zero_le _) (fun j hj => by rw [hb j hj]; rfl)
    · rw [fa_lit, lI_le (by omega) (by omega)] at h20
      refine tg_go bX9_cap_23 ?_
      simp only [ti_aload, ti_getf, ti_iast, ti_iinc, ti_iload, ti_push, tg_s1, tg_cl, List.getElem?_cons_zero, List.getElem?_cons_succ, List.set_cons_zero, List.set_cons_succ, true_and]
      rw [nI_1, nI_clamp (by omega)]
      refine ⟨vp_in_nI (by omega) (by omega), ?_⟩
      refine g_goto (tgt := 17) dX9_cap_33 rfl ?_
      refine ih (k + 1) _ (by omega) (by omega) (fun j hj => ?_)
      by_cases e : j = k
      · rw [e, pk_us]
      · rw [pk_un e, hb j (by omega)]
theorem kX9_cap {x : Int32} (hd : d ≤ 4) (hv : ∀ k, k < d → vals k = nI (v k) ∧ v k ≤ 6) (ht : tbR row d 0 n s c u) : tg_Ct l mX9_cap 1000 [.ref 0, .int x] (wM row (nI d) vals un kp tx len sz it ask fi be rD rM cl dg nu my su le gr cz vi ov rv ct bm) (fun r w => ((¬ (0 ≤ x.toInt ∧ x.toInt ≤ 2400) ∧ r = some (.int (-3))) ∨ ((0 ≤ x.toInt ∧ x.toInt ≤ 2400) ∧ r = some (.int (nI (capR (byM d v n c (7 ^ d)) x.toInt.toNat 41 0))))) ∧ (sM row (nI d) vals un kp tx len sz it ask) w) := by
  show tg_G _ _ _ _ _ _ _ [.ref 0, .int x, .null, .null, .null] [] _
  unfold wM
  refine tg_go bX9_cap_0 ?_
  simp only [ti_i2l, ti_iload, ti_push, List.getElem?_cons_zero, List.getElem?_cons_succ, true_and]
  refine tg_cP vX9_cap_6 (kX9_in) rfl rfl (Nat.le_of_ble_eq_true rfl) (Nat.le_of_ble_eq_true rfl) ?_
  rw [show (decide ((0 : Int64) ≤ x.toInt64) && decide (x.toInt64 ≤ (2400 : Int64))) = (decide (nI 0 ≤ x) && decide (x ≤ nI 2400)) from w_in x 0 2400, in_lit (by omega) (by omega)]
  refine g_if_ne (tgt := 15) dX9_cap_9 rfl (fun h9 => ?_) (fun h9 => ?_)
  · have hx := of_decide_eq_true (bZ_n h9)
    obtain ⟨e1, e2⟩ := x_of (n := 2401) hx.1 (by omega)
    generalize hcc : x.toInt.toNat = q at e1 e2 ⊢
    subst e1
    refine tg_go bX9_cap_15 ?_
    simp only [ti_istore, ti_push, tg_s1, tg_cl, List.getElem?_cons_zero, List.getElem?_cons_succ, List.set_cons_zero, List.set_cons_succ, true_and]
    exact kX9_cap_1 (by omega) hd hv ht (fun my su le gr cz bm => ⟨Or.inr ⟨hx, rfl⟩, sM_mk⟩) 43 0 _ (by omega) (by omega) (fun j hj => by omega)
  · have hx := of_decide_eq_false (bZ_0 h9)
    refine tg_go bX9_cap_12 ?_
    simp only [ti_push, List.getElem?_cons_zero, List.getElem?_cons_succ, true_and]
    refine g_iret dX9_cap_14 rfl ?_
    exact ⟨Or.inl ⟨hx, rfl⟩, sM_mk⟩
end REF9
