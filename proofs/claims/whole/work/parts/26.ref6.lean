/-! THE REFERENCE: the cube -/
def cvP (d : Nat) (c : Nat → Nat) (a : Nat) : Nat → Bool := fun i => covR d a (c i)
/-- a cell is in the cube of a table -/
def inCu (d : Nat) (v : Nat → Nat) (n : Nat) (c : Nat → Nat) (s a : Nat) : Bool := allB (fun k => decide (figN d a k ≤ v k)) d && (decide (gClo d (cvP d c a) c n = some a) && decide (s ≤ gMany (cvP d c a) n))
theorem oI_eq {o : Option Nat} {a : Nat} (ha : a < 2 ^ 31) (ho : ∀ x, o = some x → x < 2 ^ 31) : (oI o = nI a) = (o = some a) := by
  apply propext
  cases o with
  | none =>
    refine ⟨fun h => ?_, fun h => by cases h⟩
    have h2 : (-1 : Int32) = nI a := h
    have := nI_pos (n := a) ha
    rw [← h2] at this
    exact absurd (by decide) this
  | some x =>
    have hx := ho x rfl
    show (nI x = nI a) ↔ _
    rw [lI_eq hx ha, Option.some.injEq]
theorem nI_add0 (n : Nat) : nI n + 0 = nI (n + 0) := nI_add n 0
/-- a table, as the reference's row has it from B on -/
def tbR (row : Nat → Int32) (d B n s : Nat) (c : Nat → Nat) (u : Nat → Int32) : Prop := row B = nI n ∧ row (B + 1) = nI s ∧ (∀ i, i < n → row (B + 2 + i) = nI (c i)) ∧ (∀ i, i < n → row (B + 42 + i) = u i) ∧ (∀ i, i < n → c i < 7 ^ d) ∧ n ≤ 40 ∧ s ≤ 9 ∧ B + 82 ≤ 984
theorem pow7 {d : Nat} (hd : d ≤ 4) : 7 ^ d ≤ 2401 := Nat.le_trans (Nat.pow_le_pow_right (by decide) hd) (by decide)
theorem cellOK_nI {d : Nat} {v : Nat → Nat} {a : Nat} (hd : d ≤ 4) (ha : a < 7 ^ d) : cellOK d v (nI a) = allB (fun k => decide (figN d a k ≤ v k)) d := by
  have := pow7 hd
  unfold cellOK
  rw [nI_toInt (by omega), decide_eq_true (by omega), Bool.true_and]
  rfl
theorem cellOK_in {d : Nat} {v : Nat → Nat} {x : Int32} (h : cellOK d v x = true) : ∃ a, x = nI a ∧ a < 7 ^ d := by
  unfold cellOK at h
  rw [Bool.and_eq_true, decide_eq_true_eq] at h
  obtain ⟨e1, e2⟩ := x_of h.1.1 h.1.2
  exact ⟨_, e1, e2⟩
section REF6
variable {l : tg_Ln} {K : Option Value → List va_E → Prop} {row vals kp tx sz rv ct bm : Nat → Int32} {dm un len fi be rD rM cl dg nu my su le gr cz vi ov : Int32} {it : Nat → Int64} {ask : Int64} {d B n s : Nat} {c v : Nat → Nat} {u : Nat → Int32}
theorem kX9_gather' {a : Nat} (hd : d ≤ 4) (ht : tbR row d B n s c u) (ha : a < 2 ^ 31) : tg_Ct l mX9_gather 1000 [.ref 0, .int (nI B), .int (nI a)] (wM row (nI d) vals un kp tx len sz it ask fi be rD rM cl dg nu my su le gr cz vi ov rv ct bm) (fun r w => r = none ∧ w = (wM row (nI d) vals un kp tx len sz it ask fi be rD rM cl dg nu (nI (gMany (cvP d c a) n)) (gSum (cvP d c a) u n) (gMin (cvP d c a) u n) (gMax (cvP d c a) u n) (oI (gClo d (cvP d c a) c n)) vi ov rv ct bm)) := kX9_gather hd ht.2.2.2.2.2.2.2 ht.2.2.2.2.2.1 ht.1 ht.2.2.1 ht.2.2.2.1 ht.2.2.2.2.1 ha
theorem kX9_isIn {a : Nat} (hd : d ≤ 4) (hv : ∀ k, k < d → vals k = nI (v k) ∧ v k ≤ 6) (ht : tbR row d B n s c u) (ha : a < 7 ^ d) : tg_Ct l mX9_isIn 1000 [.ref 0, .int (nI B), .int (nI a)] (wM row (nI d) vals un kp tx len sz it ask fi be rD rM cl dg nu my su le gr cz vi ov rv ct bm) (fun r w => r = some (.int (bZ (inCu d v n c s a))) ∧ ∃ my su le gr cz, w = (wM row (nI d) vals un kp tx len sz it ask fi be rD rM cl dg nu my su le gr cz vi ov rv ct bm)) := by
  have hp7 := pow7 hd
  have hB := ht.2.2.2.2.2.2.2
  have hn := ht.2.2.2.2.2.1
  have hs9 := ht.2.2.2.2.2.2.1
  have hmn := gMany_le (cvP d c a) n
  have eo := oI_eq (o := gClo d (cvP d c a) c n) (a := a) (by omega) (fun x hx => by have := gClo_lt n ht.2.2.2.2.1 x hx; omega)
  have eB : nI B + 1 = nI (B + 1) := nI_1 B
  show tg_G _ _ _ _ _ _ _ [.ref 0, .int (nI B), .int (nI a)] [] _
  unfold wM
  refine tg_go bX9_isIn_0 ?_
  simp only [ti_aload, ti_iload, List.getElem?_cons_zero, List.getElem?_cons_succ, true_and]
  refine tg_cW vX9_isIn_2 (kX9_isCell hd hv) rfl rfl rfl rfl (Nat.le_of_ble_eq_true rfl) (Nat.le_of_ble_eq_true rfl) (Nat.le_of_ble_eq_true rfl) rfl ?_
  unfold wM
  rw [cellOK_nI hd ha]
  refine g_if_ne (tgt := 10) dX9_isIn_5 rfl (fun h5 => ?_) (fun h5 => ?_)
  · have hx := bZ_n h5
    refine tg_go bX9_isIn_10 ?_
    simp only [ti_aload, ti_iload, List.getElem?_cons_zero, List.getElem?_cons_succ, true_and]
    refine tg_cWv vX9_isIn_13 (kX9_gather' hd ht (by omega)) rfl rfl rfl rfl (Nat.le_of_ble_eq_true rfl) (Nat.le_of_ble_eq_true rfl) (Nat.le_of_ble_eq_true rfl) rfl ?_
    unfold wM
    refine tg_go bX9_isIn_16 ?_
    simp only [ti_aload, ti_getf, ti_iload, List.getElem?_cons_zero, List.getElem?_cons_succ, true_and]
    refine g_icmp_ne (tgt := 43) dX9_isIn_21 rfl (fun h21 => ?_) (fun h21 => ?_)
    · rw [eo] at h21
      refine tg_go bX9_isIn_43 ?_
      simp only [ti_push, List.getElem?_cons_zero, List.getElem?_cons_succ, true_and]
      refine g_zret dX9_isIn_44 rfl (by first | exact Or.inl rfl | exact Or.inr rfl | assumption) ?_
      exact ⟨by unfold inCu; rw [hx, decide_eq_false h21]; rfl, _, _, _, _, _, rfl⟩
    · rw [eo] at h21
      refine tg_go bX9_isIn_24 ?_
      simp only [ti_aload, ti_getf, ti_iadd, ti_iald, ti_iload, ti_push, List.getElem?_cons_zero, List.getElem?_cons_succ, true_and]
      rw [eB, nI_clamp (by omega), ht.2.1]
      refine ⟨vp_in_nI (by omega) (by omega), ?_⟩
      refine g_icmp_lt (tgt := 43) dX9_isIn_36 rfl (fun h36 => ?_) (fun h36 => ?_)
      · rw [lI_lt (by omega) (by omega)] at h36
        refine tg_go bX9_isIn_43 ?_
        simp only [ti_push, List.getElem?_cons_zero, List.getElem?_cons_succ, true_and]
        refine g_zret dX9_isIn_44 rfl (by first | exact Or.inl rfl | exact Or.inr rfl | assumption) ?_
        exact ⟨by unfold inCu; rw [hx, decide_eq_true h21, decide_eq_false (by omega)]; rfl, _, _, _, _, _, rfl⟩
      · rw [lI_lt (by omega) (by omega)] at h36
        refine tg_go bX9_isIn_39 ?_
        simp only [ti_push, List.getElem?_cons_zero, List.getElem?_cons_succ, true_and]
        refine g_goto (tgt := 44) dX9_isIn_40 rfl ?_
        refine g_zret dX9_isIn_44 rfl (by first | exact Or.inl rfl | exact Or.inr rfl | assumption) ?_
        exact ⟨by unfold inCu; rw [hx, decide_eq_true h21, decide_eq_true (by omega)]; rfl, _, _, _, _, _, rfl⟩
  · have hx := bZ_0 h5
    refine tg_go bX9_isIn_8 ?_
    simp only [ti_push, List.getElem?_cons_zero, List.getElem?_cons_succ, true_and]
    refine g_zret dX9_isIn_9 rfl (by first | exact Or.inl rfl | exact Or.inr rfl | assumption) ?_
    exact ⟨by unfold inCu; rw [hx]; rfl, _, _, _, _, _, rfl⟩
theorem kX9_cubeOf_l (hd : d ≤ 4) (hv : ∀ k, k < d → vals k = nI (v k) ∧ v k ≤ 6) (ht : tbR row d B n s c u) (hK : ∀ my su le gr cz, K (some (.int (nI (gMany (inCu d v n c s) (7 ^ d))))) (wM row (nI d) vals un kp tx len sz it ask fi be rD rM cl dg nu my su le gr cz vi ov rv ct bm)) : ∀ (m a : Nat) (my su le gr cz : Int32), 7 ^ d - a < m → a ≤ 7 ^ d → tg_G l mX9_cubeOf 1000 K 0 0 10 [.ref 0, .int (nI B), .int (nI (gMany (inCu d v n c s) a)), .int (nI (7 ^ d)), .int (nI a)] [] (wM row (nI d) vals un kp tx len sz it ask fi be rD rM cl dg nu my su le gr cz vi ov rv ct bm) := by
  have hp7 := pow7 hd
  intro m
  induction m with
  | zero => intro a my su le gr cz h; omega
  | succ m ih =>
    intro a my su le gr cz hm ha
    unfold wM at ih hK ⊢
    refine tg_go bX9_cubeOf_10 ?_
    simp only [ti_iload, List.getElem?_cons_zero, List.getElem?_cons_succ, true_and]
    refine g_icmp_ge (tgt := 40) dX9_cubeOf_13 rfl (fun h13 => ?_) (fun h13 => ?_)
    · rw [lI_le (by omega) (by omega)] at h13
      obtain rfl : a = 7 ^ d := by omega
      refine tg_go bX9_cubeOf_40 ?_
      simp only [ti_iload, List.getElem?_cons_zero, List.getElem?_cons_succ, true_and]
      refine g_iret dX9_cubeOf_41 rfl ?_
      exact hK _ _ _ _ _
    · rw [lI_le (by omega) (by omega)] at h13
      refine tg_go bX9_cubeOf_16 ?_
      simp only [ti_aload, ti_iload, List.getElem?_cons_zero, List.getElem?_cons_succ, true_and]
      refine tg_cWe vX9_cubeOf_21 (kX9_isIn hd hv ht (show a < 7 ^ d by omega)) rfl rfl rfl rfl (Nat.le_of_ble_eq_true rfl) (Nat.le_of_ble_eq_true rfl) (Nat.le_of_ble_eq_true rfl) (by rintro r w1 ⟨-, my1, su1, le1, gr1, cz1, rfl⟩; rfl) ?_
      rintro r w1 ⟨rfl, my1, su1, le1, gr1, cz1, rfl⟩
      simp only [Option.toList_some, Option.toList_none, List.cons_append, List.nil_append]
      unfold wM
      refine g_cut1 32 (fun z => z = nI (if inCu d v n c s a = true then 1 else 0)) (fun J32 => ?_) (fun z hz => ?_)
      · refine g_if_eq (tgt := 31) dX9_cubeOf_24 rfl (fun h24 => ?_) (fun h24 => ?_)
        · refine tg_go bX9_cubeOf_31 ?_
          simp only [ti_push, List.getElem?_cons_zero, List.getElem?_cons_succ, true_and]
          exact J32 _ (by rw [bZ_0 h24]; rfl)
        · refine tg_go bX9_cubeOf_27 ?_
          simp only [ti_push, List.getElem?_cons_zero, List.getElem?_cons_succ, true_and]
          refine g_goto (tgt := 32) dX9_cubeOf_28 rfl ?_
          exact J32 _ (by rw [bZ_n h24]; rfl)
      subst hz
      refine tg_go bX9_cubeOf_32 ?_
      simp only [ti_iadd, ti_iinc, ti_istore, tg_s1, tg_cl, List.getElem?_cons_zero, List.getElem?_cons_succ, List.set_cons_zero, List.set_cons_succ, true_and]
      rw [nI_add, nI_1]
      refine g_goto (tgt := 10) dX9_cubeOf_37 rfl ?_
      exact ih (a + 1) _ _ _ _ _ (by omega) (by omega)
theorem kX9_cubeOf (hd : d ≤ 4) (hv : ∀ k, k < d → vals k = nI (v k) ∧ v k ≤ 6) (ht : tbR row d B n s c u) : tg_Ct l mX9_cubeOf 1000 [.ref 0, .int (nI B)] (wM row (nI d) vals un kp tx len sz it ask fi be rD rM cl dg nu my su le gr cz vi ov rv ct bm) (fun r w => r = some (.int (nI (gMany (inCu d v n c s) (7 ^ d)))) ∧ ∃ my su le gr cz, w = (wM row (nI d) vals un kp tx len sz it ask fi be rD rM cl dg nu my su le gr cz vi ov rv ct bm)) := by
  show tg_G _ _ _ _ _ _ _ [.ref 0, .int (nI B), .null, .null, .null] [] _
  unfold wM
  refine tg_go bX9_cubeOf_0 ?_
  simp only [ti_aload, ti_istore, ti_push, tg_s1, tg_cl, List.getElem?_cons_zero, List.getElem?_cons_succ, List.set_cons_zero, List.set_cons_succ, true_and]
  refine tg_cW vX9_cubeOf_3 (kX9_codes hd) rfl rfl rfl rfl (Nat.le_of_ble_eq_true rfl) (Nat.le_of_ble_eq_true rfl) (Nat.le_of_ble_eq_true rfl) rfl ?_
  unfold wM
  refine tg_go bX9_cubeOf_6 ?_
  simp only [ti_istore, ti_push, tg_s1, tg_cl, List.getElem?_cons_zero, List.getElem?_cons_succ, List.set_cons_zero, List.set_cons_succ, true_and]
  exact kX9_cubeOf_l hd hv ht (fun my su le gr cz => ⟨rfl, _, _, _, _, _, rfl⟩) (7 ^ d + 1) 0 _ _ _ _ _ (Nat.lt_succ_of_le (Nat.sub_le _ _)) (Nat.zero_le _)
/-- how many cells one cube has and another has not -/
theorem kX9_only_l {B' n' s' : Nat} {c' : Nat → Nat} {u' : Nat → Int32} (hd : d ≤ 4) (hv : ∀ k, k < d → vals k = nI (v k) ∧ v k ≤ 6) (ht : tbR row d B n s c u) (ht' : tbR row d B' n' s' c' u') (hK : ∀ my su le gr cz, K (some (.int (nI (gMany (fun a => inCu d v n c s a && !inCu d v n' c' s' a) (7 ^ d))))) (wM row (nI d) vals un kp tx len sz it ask fi be rD rM cl dg nu my su le gr cz vi ov rv ct bm)) : ∀ (m a : Nat) (my su le gr cz : Int32), 7 ^ d - a < m → a ≤ 7 ^ d → tg_G l mX9_only 1000 K 0 0 11 [.ref 0, .int (nI B), .int (nI B'), .int (nI (gMany (fun a => inCu d v n c s a && !inCu d v n' c' s' a) a)), .int (nI (7 ^ d)), .int (nI a)] [] (wM row (nI d) vals un kp tx len sz it ask fi be rD rM cl dg nu my su le gr cz vi ov rv ct bm) := by
  have hp7 := pow7 hd
  intro m
  induction m with
  | zero => intro a my su le gr cz h; omega
  | succ m ih =>
    intro a my su le gr cz hm ha
    unfold wM at ih hK ⊢
    refine tg_go bX9_only_11 ?_
    simp only [ti_iload, List.getElem?_cons_zero, List.getElem?_cons_succ, true_and]
    refine g_icmp_ge (tgt := 52) dX9_only_15 rfl (fun h15 => ?_) (fun h15 => ?_)
    · rw [lI_le (by omega) (by omega)] at h15
      obtain rfl : a = 7 ^ d := by omega
      refine tg_go bX9_only_52 ?_
      simp only [ti_iload, List.getElem?_cons_zero, List.getElem?_cons_succ, true_and]
      refine g_iret dX9_only_53 rfl ?_
      exact hK _ _ _ _ _
    · rw [lI_le (by omega) (by omega)] at h15
      refine tg_go bX9_only_18 ?_
      simp only [ti_aload, ti_iload, List.getElem?_cons_zero, List.getElem?_cons_succ, true_and]
      refine tg_cWe vX9_only_23 (kX9_isIn hd hv ht (show a < 7 ^ d by omega)) rfl rfl rfl rfl (Nat.le_of_ble_eq_true rfl) (Nat.le_of_ble_eq_true rfl) (Nat.le_of_ble_eq_true rfl) (by rintro r w1 ⟨-, my1, su1, le1, gr1, cz1, rfl⟩; rfl) ?_
      rintro r w1 ⟨rfl, my1, su1, le1, gr1, cz1, rfl⟩
      simp only [Option.toList_some, Option.toList_none, List.cons_append, List.nil_append]
      unfold wM
      refine g_if_eq (tgt := 43) dX9_only_26 rfl (fun h26 => ?_) (fun h26 => ?_)
      · refine tg_go bX9_only_43 ?_
        simp only [ti_push, List.getElem?_cons_zero, List.getElem?_cons_succ, true_and]
        refine tg_go bX9_only_44 ?_
        simp only [ti_iadd, ti_iinc, ti_istore, tg_s1, tg_cl, List.getElem?_cons_zero, List.getElem?_cons_succ, List.set_cons_zero, List.set_cons_succ, true_and]
        rw [nI_1, nI_add0]
        refine g_goto (tgt := 11) dX9_only_49 rfl ?_
        have h2 := ih (a + 1) my1 su1 le1 gr1 cz1 (by omega) (by omega)
        rw [gMany, bZ_0 h26] at h2
        exact h2
      · refine tg_go bX9_only_29 ?_
        simp only [ti_aload, ti_iload, List.getElem?_cons_zero, List.getElem?_cons_succ, true_and]
        refine tg_cWe vX9_only_33 (kX9_isIn hd hv ht' (show a < 7 ^ d by omega)) rfl rfl rfl rfl (Nat.le_of_ble_eq_true rfl) (Nat.le_of_ble_eq_true rfl) (Nat.le_of_ble_eq_true rfl) (by rintro r w1 ⟨-, my2, su2, le2, gr2, cz2, rfl⟩; rfl) ?_
        rintro r w1 ⟨rfl, my2, su2, le2, gr2, cz2, rfl⟩
        simp only [Option.toList_some, Option.toList_none, List.cons_append, List.nil_append]
        unfold wM
        refine g_if_ne (tgt := 43) dX9_only_36 rfl (fun h36 => ?_) (fun h36 => ?_)
        · refine tg_go bX9_only_43 ?_
          simp only [ti_push, List.getElem?_cons_zero, List.getElem?_cons_succ, true_and]
          refine tg_go bX9_only_44 ?_
          simp only [ti_iadd, ti_iinc, ti_istore, tg_s1, tg_cl, List.getElem?_cons_zero, List.getElem?_cons_succ, List.set_cons_zero, List.set_cons_succ, true_and]
          rw [nI_1, nI_add0]
          refine g_goto (tgt := 11) dX9_only_49 rfl ?_
          have h2 := ih (a + 1) my2 su2 le2 gr2 cz2 (by omega) (by omega)
          rw [gMany, bZ_n h26, bZ_n h36] at h2
          exact h2
        · refine tg_go bX9_only_39 ?_
          simp only [ti_push, List.getElem?_cons_zero, List.getElem?_cons_succ, true_and]
          refine g_goto (tgt := 44) dX9_only_40 rfl ?_
          refine tg_go bX9_only_44 ?_
          simp only [ti_iadd, ti_iinc, ti_istore, tg_s1, tg_cl, List.getElem?_cons_zero, List.getElem?_cons_succ, List.set_cons_zero, List.set_cons_succ, true_and]
          rw [nI_1, nI_1]
          refine g_goto (tgt := 11) dX9_only_49 rfl ?_
          have h2 := ih (a + 1) my2 su2 le2 gr2 cz2 (by omega) (by omega)
          rw [gMany, bZ_n h26, bZ_0 h36] at h2
          exact h2
theorem kX9_only {B' n' s' : Nat} {c' : Nat → Nat} {u' : Nat → Int32} (hd : d ≤ 4) (hv : ∀ k, k < d → vals k = nI (v k) ∧ v k ≤ 6) (ht : tbR row d B n s c u) (ht' : tbR row d B' n' s' c' u') : tg_Ct l mX9_only 1000 [.ref 0, .int (nI B), .int (nI B')] (wM row (nI d) vals un kp tx len sz it ask fi be rD rM cl dg nu my su le gr cz vi ov rv ct bm) (fun r w => r = some (.int (nI (gMany (fun a => inCu d v n c s a && !inCu d v n' c' s' a) (7 ^ d)))) ∧ ∃ my su le gr cz, w = (wM row (nI d) vals un kp tx len sz it ask fi be rD rM cl dg nu my su le gr cz vi ov rv ct bm)) := by
  show tg_G _ _ _ _ _ _ _ [.ref 0, .int (nI B), .int (nI B'), .null, .null, .null] [] _
  unfold wM
  refine tg_go bX9_only_0 ?_
  simp only [ti_aload, ti_istore, ti_push, tg_s1, tg_cl, List.getElem?_cons_zero, List.getElem?_cons_succ, List.set_cons_zero, List.set_cons_succ, true_and]
  refine tg_cW vX9_only_3 (kX9_codes hd) rfl rfl rfl rfl (Nat.le_of_ble_eq_true rfl) (Nat.le_of_ble_eq_true rfl) (Nat.le_of_ble_eq_true rfl) rfl ?_
  unfold wM
  refine tg_go bX9_only_6 ?_
  simp only [ti_istore, ti_push, tg_s1, tg_cl, List.getElem?_cons_zero, List.getElem?_cons_succ, List.set_cons_zero, List.set_cons_succ, true_and]
  exact kX9_only_l hd hv ht ht' (fun my su le gr cz => ⟨rfl, _, _, _, _, _, rfl⟩) (7 ^ d + 1) 0 _ _ _ _ _ (Nat.lt_succ_of_le (Nat.sub_le _ _)) (Nat.zero_le _)
/-! kept(k): the k-th cell -/
def nth (p : Nat → Bool) : Nat → Nat → Option Nat
  | 0, _ => none
  | n + 1, k => match nth p n k with
    | some a => some a
    | none => if p n = true ∧ gMany p n = k then some n else none
theorem nth_none {p : Nat → Bool} {k : Nat} : ∀ n, gMany p n ≤ k → nth p n k = none
  | 0, _ => rfl
  | n + 1, h => by
    rw [gMany] at h
    rw [nth, nth_none n (by split at h <;> omega)]
    show (if p n = true ∧ gMany p n = k then some n else none) = none
    rw [if_neg]
    rintro ⟨q1, q2⟩
    rw [if_pos q1] at h
    omega
theorem nth_some {p : Nat → Bool} {k n : Nat} (h1 : p n = true) (h2 : gMany p n = k) : ∀ m, nth p (n + 1 + m) k = some n
  | 0 => by
    show nth p (n + 1) k = some n
    rw [nth, nth_none n (by omega)]
    show (if p n = true ∧ gMany p n = k then some n else none) = some n
    rw [if_pos ⟨h1, h2⟩]
  | m + 1 => by
    show nth p (n + 1 + m + 1) k = some n
    rw [nth, nth_some h1 h2 m]
theorem kX9_kept_l {q : Nat} (hq : q < 2 ^ 31) (hd : d ≤ 4) (hv : ∀ k, k < d → vals k = nI (v k) ∧ v k ≤ 6) (ht : tbR row d 0 n s c u) (hK : ∀ my su le gr cz, K (some (.int (oI (nth (inCu d v n c s) (7 ^ d) q)))) (wM row (nI d) vals un kp tx len sz it ask fi be rD rM cl dg nu my su le gr cz vi ov rv ct bm)) : ∀ (m a : Nat) (my su le gr cz : Int32), 7 ^ d - a < m → a ≤ 7 ^ d → gMany (inCu d v n c s) a ≤ q → tg_G l mX9_kept 1000 K 0 0 17 [.ref 0, .int (nI q), .int (nI (gMany (inCu d v n c s) a)), .int (nI (7 ^ d)), .int (nI a)] [] (wM row (nI d) vals un kp tx len sz it ask fi be rD rM cl dg nu my su le gr cz vi ov rv ct bm) := by
  have hp7 := pow7 hd
  intro m
  induction m with
  | zero => intro a my su le gr cz h; omega
  | succ m ih =>
    intro a my su le gr cz hm ha hqa
    have hga := gMany_le (inCu d v n c s) a
    unfold wM at ih hK ⊢
    refine tg_go bX9_kept_17 ?_
    simp only [ti_iload, List.getElem?_cons_zero, List.getElem?_cons_succ, true_and]
    refine g_icmp_ge (tgt := 50) dX9_kept_20 rfl (fun h20 => ?_) (fun h20 => ?_)
    · rw [lI_le (by omega) (by omega)] at h20
      obtain rfl : a = 7 ^ d := by omega
      refine tg_go bX9_kept_50 ?_
      simp only [ti_push, List.getElem?_cons_zero, List.getElem?_cons_succ, true_and]
      refine g_iret dX9_kept_51 rfl ?_
      rw [nth_none _ hqa] at hK
      exact hK _ _ _ _ _
    · rw [lI_le (by omega) (by omega)] at h20
      refine tg_go bX9_kept_23 ?_
      simp only [ti_aload, ti_iload, ti_push, List.getElem?_cons_zero, List.getElem?_cons_succ, true_and]
      refine tg_cWe vX9_kept_27 (kX9_isIn hd hv ht (show a < 7 ^ d by omega)) rfl rfl rfl rfl (Nat.le_of_ble_eq_true rfl) (Nat.le_of_ble_eq_true rfl) (Nat.le_of_ble_eq_true rfl) (by rintro r w1 ⟨-, my1, su1, le1, gr1, cz1, rfl⟩; rfl) ?_
      rintro r w1 ⟨rfl, my1, su1, le1, gr1, cz1, rfl⟩
      simp only [Option.toList_some, Option.toList_none, List.cons_append, List.nil_append]
      unfold wM
      refine g_if_eq (tgt := 44) dX9_kept_30 rfl (fun h30 => ?_) (fun h30 => ?_)
      · refine tg_go bX9_kept_44 ?_
        simp only [ti_iinc, tg_s1, tg_cl, List.getElem?_cons_zero, List.getElem?_cons_succ, List.set_cons_zero, List.set_cons_succ, true_and]
        rw [nI_1]
        refine g_goto (tgt := 17) dX9_kept_47 rfl ?_
        have h2 := ih (a + 1) my1 su1 le1 gr1 cz1 (by omega) (by omega)
        rw [gMany, bZ_0 h30] at h2
        exact h2 (by simpa using hqa)
      · refine tg_go bX9_kept_33 ?_
        simp only [ti_iload, List.getElem?_cons_zero, List.getElem?_cons_succ, true_and]
        refine g_icmp_ne (tgt := 41) dX9_kept_35 rfl (fun h35 => ?_) (fun h35 => ?_)
        · rw [lI_eq (by omega) (by omega)] at h35
          refine tg_go bX9_kept_41 ?_
          simp only [ti_iinc, tg_s1, tg_cl, List.getElem?_cons_zero, List.getElem?_cons_succ, List.set_cons_zero, List.set_cons_succ, true_and]
          rw [nI_1]
          refine tg_go bX9_kept_44 ?_
          simp only [ti_iinc, tg_s1, tg_cl, List.getElem?_cons_zero, List.getElem?_cons_succ, List.set_cons_zero, List.set_cons_succ, true_and]
          rw [nI_1]
          refine g_goto (tgt := 17) dX9_kept_47 rfl ?_
          have h2 := ih (a + 1) my1 su1 le1 gr1 cz1 (by omega) (by omega)
          rw [gMany, bZ_n h30] at h2
          exact h2 (by simp; omega)
        · rw [lI_eq (by omega) (by omega)] at h35
          refine tg_go bX9_kept_38 ?_
          simp only [ti_iload, List.getElem?_cons_zero, List.getElem?_cons_succ, true_and]
          refine g_iret dX9_kept_40 rfl ?_
          have h2 := nth_some (bZ_n h30) h35 (7 ^ d - a - 1)
          rw [show a + 1 + (7 ^ d - a - 1) = 7 ^ d by omega] at h2
          rw [h2] at hK
          exact hK _ _ _ _ _
theorem kX9_kept {x : Int32} (hd : d ≤ 4) (hv : ∀ k, k < d → vals k = nI (v k) ∧ v k ≤ 6) (ht : tbR row d 0 n s c u) : tg_Ct l mX9_kept 1000 [.ref 0, .int x] (wM row (nI d) vals un kp tx len sz it ask fi be rD rM cl dg nu my su le gr cz vi ov rv ct bm) (fun r w => ((x.toInt < 0 ∧ r = some (.int (-3))) ∨ (0 ≤ x.toInt ∧ r = some (.int (oI (nth (inCu d v n c s) (7 ^ d) x.toInt.toNat))))) ∧ (sM row (nI d) vals un kp tx len sz it ask) w) := by
  show tg_G _ _ _ _ _ _ _ [.ref 0, .int x, .null, .null, .null] [] _
  unfold wM
  refine tg_go bX9_kept_0 ?_
  simp only [ti_iload, List.getElem?_cons_zero, List.getElem?_cons_succ, true_and]
  refine g_if_ge (tgt := 7) dX9_kept_1 rfl (fun h1 => ?_) (fun h1 => ?_)
  · rw [Int32.le_iff_toInt_le] at h1
    have h1 : 0 ≤ x.toInt := h1
    have hlt := Int32.toInt_lt x
    obtain ⟨e1, e2⟩ := x_of (n := 2 ^ 31) h1 (by omega)
    generalize hcc : x.toInt.toNat = q at e1 e2 ⊢
    subst e1
    refine tg_go bX9_kept_7 ?_
    simp only [ti_aload, ti_istore, ti_push, tg_s1, tg_cl, List.getElem?_cons_zero, List.getElem?_cons_succ, List.set_cons_zero, List.set_cons_succ, true_and]
    refine tg_cW vX9_kept_10 (kX9_codes hd) rfl rfl rfl rfl (Nat.le_of_ble_eq_true rfl) (Nat.le_of_ble_eq_true rfl) (Nat.le_of_ble_eq_true rfl) rfl ?_
    unfold wM
    refine tg_go bX9_kept_13 ?_
    simp only [ti_istore, ti_push, tg_s1, tg_cl, List.getElem?_cons_zero, List.getElem?_cons_succ, List.set_cons_zero, List.set_cons_succ, true_and]
    exact kX9_kept_l e2 hd hv ht (fun my su le gr cz => ⟨Or.inr ⟨h1, rfl⟩, sM_mk⟩) (7 ^ d + 1) 0 _ _ _ _ _ (Nat.lt_succ_of_le (Nat.sub_le _ _)) (Nat.zero_le _) (Nat.zero_le _)
  · rw [Int32.le_iff_toInt_le] at h1
    have h1 : ¬ 0 ≤ x.toInt := h1
    refine tg_go bX9_kept_4 ?_
    simp only [ti_push, List.getElem?_cons_zero, List.getElem?_cons_succ, true_and]
    refine g_iret dX9_kept_6 rfl ?_
    exact ⟨Or.inl ⟨by omega, rfl⟩, sM_mk⟩
/-! cell, closure, ask -/
/-- what cell() answers of a cell -/
def aCell (d n : Nat) (c : Nat → Nat) (u : Nat → Int32) (a : Nat) (y : Int32) : Int32 := if y = 0 then nI (gMany (cvP d c a) n) else if y = 1 then gSum (cvP d c a) u n + 10000 else if gMany (cvP d c a) n = 0 then -1 else if y = 2 then 10000 + gMin (cvP d c a) u n else 10000 + gMax (cvP d c a) u n
theorem kX9_cell {x y : Int32} (hd : d ≤ 4) (hv : ∀ k, k < d → vals k = nI (v k) ∧ v k ≤ 6) (ht : tbR row d 0 n s c u) : tg_Ct l mX9_cell 1000 [.ref 0, .int x, .int y] (wM row (nI d) vals un kp tx len sz it ask fi be rD rM cl dg nu my su le gr cz vi ov rv ct bm) (fun r w => ((¬ (cellOK d v x = true ∧ 0 ≤ y.toInt ∧ y.toInt ≤ 3) ∧ r = some (.int (-3))) ∨ ((cellOK d v x = true ∧ 0 ≤ y.toInt ∧ y.toInt ≤ 3) ∧ r = some (.int (aCell d n c u x.toInt.toNat y)))) ∧ (sM row (nI d) vals un kp tx len sz it ask) w) := by
  have hp7 := pow7 hd
  have hn := ht.2.2.2.2.2.1
  show tg_G _ _ _ _ _ _ _ [.ref 0, .int x, .int y] [] _
  unfold wM
  refine tg_go bX9_cell_0 ?_
  simp only [ti_aload, ti_iload, List.getElem?_cons_zero, List.getElem?_cons_succ, true_and]
  refine tg_cW vX9_cell_2 (kX9_isCell hd hv) rfl rfl rfl rfl (Nat.le_of_ble_eq_true rfl) (Nat.le_of_ble_eq_true rfl) (Nat.le_of_ble_eq_true rfl) rfl ?_
  unfold wM
  refine g_if_eq (tgt := 20) dX9_cell_5 rfl (fun h5 => ?_) (fun h5 => ?_)
  · have hx := bZ_0 h5
    refine tg_go bX9_cell_20 ?_
    simp only [ti_push, List.getElem?_cons_zero, List.getElem?_cons_succ, true_and]
    refine g_iret dX9_cell_22 rfl ?_
    exact ⟨Or.inl ⟨fun q => by rw [hx] at q; exact absurd q.1 (by decide), rfl⟩, sM_mk⟩
  · have hx := bZ_n h5
    refine tg_go bX9_cell_8 ?_
    simp only [ti_i2l, ti_iload, ti_push, List.getElem?_cons_zero, List.getElem?_cons_succ, true_and]
    refine tg_cP vX9_cell_14 (kX9_in) rfl rfl (Nat.le_of_ble_eq_true rfl) (Nat.le_of_ble_eq_true rfl) ?_
    rw [show (decide ((0 : Int64) ≤ y.toInt64) && decide (y.toInt64 ≤ (3 : Int64))) = (decide (nI 0 ≤ y) && decide (y ≤ nI 3)) from w_in y 0 3, in_lit (by omega) (by omega)]
    refine g_if_ne (tgt := 23) dX9_cell_17 rfl (fun h17 => ?_) (fun h17 => ?_)
    · have hy := of_decide_eq_true (bZ_n h17)
      obtain ⟨a, rfl, ha⟩ := cellOK_in hx
      have ea : (nI a).toInt.toNat = a := by rw [nI_toInt (by omega)]; omega
      have hmn := gMany_le (cvP d c a) n
      rw [ea]
      refine tg_go bX9_cell_23 ?_
      simp only [ti_aload, ti_iload, ti_push, List.getElem?_cons_zero, List.getElem?_cons_succ, true_and]
      refine tg_cWv vX9_cell_26 (kX9_gather' hd ht (by omega)) rfl rfl rfl rfl (Nat.le_of_ble_eq_true rfl) (Nat.le_of_ble_eq_true rfl) (Nat.le_of_ble_eq_true rfl) rfl ?_
      unfold wM
      refine tg_go bX9_cell_29 ?_
      simp only [ti_iload, List.getElem?_cons_zero, List.getElem?_cons_succ, true_and]
      refine g_if_ne (tgt := 40) dX9_cell_30 rfl (fun h30 => ?_) (fun h30 => ?_)
      · refine tg_go bX9_cell_40 ?_
        simp only [ti_iload, ti_push, List.getElem?_cons_zero, List.getElem?_cons_succ, true_and]
        refine g_icmp_ne (tgt := 56) dX9_cell_42 rfl (fun h42 => ?_) (fun h42 => ?_)
        · refine tg_go bX9_cell_56 ?_
          simp only [ti_aload, ti_getf, List.getElem?_cons_zero, List.getElem?_cons_succ, true_and]
          refine g_if_ne (tgt := 67) dX9_cell_60 rfl (fun h60 => ?_) (fun h60 => ?_)
          · rw [fa_lit, lI_eq (by omega) (by omega)] at h60
            refine tg_go bX9_cell_67 ?_
            simp only [ti_iload, ti_push, List.getElem?_cons_zero, List.getElem?_cons_succ, true_and]
            refine g_icmp_ne (tgt := 82) dX9_cell_72 rfl (fun h72 => ?_) (fun h72 => ?_)
            · refine tg_go bX9_cell_82 ?_
              simp only [ti_aload, ti_getf, List.getElem?_cons_zero, List.getElem?_cons_succ, true_and]
              refine tg_go bX9_cell_86 ?_
              simp only [ti_iadd, List.getElem?_cons_zero, List.getElem?_cons_succ, true_and]
              refine g_iret dX9_cell_87 rfl ?_
              exact ⟨Or.inr ⟨⟨hx, hy⟩, by unfold aCell; rw [if_neg h30, if_neg h42, if_neg h60, if_neg h72]⟩, sM_mk⟩
            · refine tg_go bX9_cell_75 ?_
              simp only [ti_aload, ti_getf, List.getElem?_cons_zero, List.getElem?_cons_succ, true_and]
              refine g_goto (tgt := 86) dX9_cell_79 rfl ?_
              refine tg_go bX9_cell_86 ?_
              simp only [ti_iadd, List.getElem?_cons_zero, List.getElem?_cons_succ, true_and]
              refine g_iret dX9_cell_87 rfl ?_
              exact ⟨Or.inr ⟨⟨hx, hy⟩, by unfold aCell; rw [if_neg h30, if_neg h42, if_neg h60, if_pos h72]⟩, sM_mk⟩
          · rw [fa_lit, lI_eq (by omega) (by omega)] at h60
            refine tg_go bX9_cell_63 ?_
            simp only [ti_push, List.getElem?_cons_zero, List.getElem?_cons_succ, true_and]
            refine g_goto (tgt := 87) dX9_cell_64 rfl ?_
            refine g_iret dX9_cell_87 rfl ?_
            exact ⟨Or.inr ⟨⟨hx, hy⟩, by unfold aCell; rw [if_neg h30, if_neg h42, if_pos h60]⟩, sM_mk⟩
        · refine tg_go bX9_cell_45 ?_
          simp only [ti_aload, ti_getf, ti_iadd, ti_push, List.getElem?_cons_zero, List.getElem?_cons_succ, true_and]
          refine g_goto (tgt := 87) dX9_cell_53 rfl ?_
          refine g_iret dX9_cell_87 rfl ?_
          exact ⟨Or.inr ⟨⟨hx, hy⟩, by unfold aCell; rw [if_neg h30, if_pos h42]⟩, sM_mk⟩
      · refine tg_go bX9_cell_33 ?_
        simp only [ti_aload, ti_getf, List.getElem?_cons_zero, List.getElem?_cons_succ, true_and]
        refine g_goto (tgt := 87) dX9_cell_37 rfl ?_
        refine g_iret dX9_cell_87 rfl ?_
        exact ⟨Or.inr ⟨⟨hx, hy⟩, by unfold aCell; rw [if_pos h30]⟩, sM_mk⟩
    · have hy := of_decide_eq_false (bZ_0 h17)
      refine tg_go bX9_cell_20 ?_
      simp only [ti_push, List.getElem?_cons_zero, List.getElem?_cons_succ, true_and]
      refine g_iret dX9_cell_22 rfl ?_
      exact ⟨Or.inl ⟨fun q => hy q.2, rfl⟩, sM_mk⟩
theorem kX9_closure {x : Int32} (hd : d ≤ 4) (hv : ∀ k, k < d → vals k = nI (v k) ∧ v k ≤ 6) (ht : tbR row d 0 n s c u) : tg_Ct l mX9_closure 1000 [.ref 0, .int x] (wM row (nI d) vals un kp tx len sz it ask fi be rD rM cl dg nu my su le gr cz vi ov rv ct bm) (fun r w => ((cellOK d v x = false ∧ r = some (.int (-3))) ∨ (cellOK d v x = true ∧ r = some (.int (oI (gClo d (cvP d c x.toInt.toNat) c n))))) ∧ (sM row (nI d) vals un kp tx len sz it ask) w) := by
  have hp7 := pow7 hd
  show tg_G _ _ _ _ _ _ _ [.ref 0, .int x] [] _
  unfold wM
  refine tg_go bX9_closure_0 ?_
  simp only [ti_aload, ti_iload, List.getElem?_cons_zero, List.getElem?_cons_succ, true_and]
  refine tg_cW vX9_closure_2 (kX9_isCell hd hv) rfl rfl rfl rfl (Nat.le_of_ble_eq_true rfl) (Nat.le_of_ble_eq_true rfl) (Nat.le_of_ble_eq_true rfl) rfl ?_
  unfold wM
  refine g_if_ne (tgt := 11) dX9_closure_5 rfl (fun h5 => ?_) (fun h5 => ?_)
  · have hx := bZ_n h5
    obtain ⟨a, rfl, ha⟩ := cellOK_in hx
    have ea : (nI a).toInt.toNat = a := by rw [nI_toInt (by omega)]; omega
    rw [ea]
    refine tg_go bX9_closure_11 ?_
    simp only [ti_aload, ti_iload, ti_push, List.getElem?_cons_zero, List.getElem?_cons_succ, true_and]
    refine tg_cWv vX9_closure_14 (kX9_gather' hd ht (by omega)) rfl rfl rfl rfl (Nat.le_of_ble_eq_true rfl) (Nat.le_of_ble_eq_true rfl) (Nat.le_of_ble_eq_true rfl) rfl ?_
    unfold wM
    refine tg_go bX9_closure_17 ?_
    simp only [ti_aload, ti_getf, List.getElem?_cons_zero, List.getElem?_cons_succ, true_and]
    refine g_iret dX9_closure_21 rfl ?_
    exact ⟨Or.inr ⟨hx, rfl⟩, sM_mk⟩
  · have hx := bZ_0 h5
    refine tg_go bX9_closure_8 ?_
    simp only [ti_push, List.getElem?_cons_zero, List.getElem?_cons_succ, true_and]
    refine g_iret dX9_closure_10 rfl ?_
    exact ⟨Or.inl ⟨hx, rfl⟩, sM_mk⟩
def aAsk (d n s : Nat) (c : Nat → Nat) (u : Nat → Int32) (a : Nat) (y : Int32) : Int32 := if gMany (cvP d c a) n = 0 ∨ gMany (cvP d c a) n < s then -1 else if y = 0 then nI (gMany (cvP d c a) n) else gSum (cvP d c a) u n + 10000
theorem kX9_ask {x y : Int32} (hd : d ≤ 4) (hv : ∀ k, k < d → vals k = nI (v k) ∧ v k ≤ 6) (ht : tbR row d 0 n s c u) : tg_Ct l mX9_ask 1000 [.ref 0, .int x, .int y] (wM row (nI d) vals un kp tx len sz it ask fi be rD rM cl dg nu my su le gr cz vi ov rv ct bm) (fun r w => ((¬ (cellOK d v x = true ∧ 0 ≤ y.toInt ∧ y.toInt ≤ 1) ∧ r = some (.int (-3))) ∨ ((cellOK d v x = true ∧ 0 ≤ y.toInt ∧ y.toInt ≤ 1) ∧ r = some (.int (aAsk d n s c u x.toInt.toNat y)))) ∧ (sM row (nI d) vals un kp tx len sz it ask) w) := by
  have hp7 := pow7 hd
  have hn := ht.2.2.2.2.2.1
  have hs9 := ht.2.2.2.2.2.2.1
  show tg_G _ _ _ _ _ _ _ [.ref 0, .int x, .int y] [] _
  unfold wM
  refine tg_go bX9_ask_0 ?_
  simp only [ti_aload, ti_iload, List.getElem?_cons_zero, List.getElem?_cons_succ, true_and]
  refine tg_cW vX9_ask_2 (kX9_isCell hd hv) rfl rfl rfl rfl (Nat.le_of_ble_eq_true rfl) (Nat.le_of_ble_eq_true rfl) (Nat.le_of_ble_eq_true rfl) rfl ?_
  unfold wM
  refine g_if_eq (tgt := 18) dX9_ask_5 rfl (fun h5 => ?_) (fun h5 => ?_)
  · have hx := bZ_0 h5
    refine tg_go bX9_ask_18 ?_
    simp only [ti_push, List.getElem?_cons_zero, List.getElem?_cons_succ, true_and]
    refine g_iret dX9_ask_20 rfl ?_
    exact ⟨Or.inl ⟨fun q => by rw [hx] at q; exact absurd q.1 (by decide), rfl⟩, sM_mk⟩
  · have hx := bZ_n h5
    refine tg_go bX9_ask_8 ?_
    simp only [ti_i2l, ti_iload, ti_push, List.getElem?_cons_zero, List.getElem?_cons_succ, true_and]
    refine tg_cP vX9_ask_12 (kX9_in) rfl rfl (Nat.le_of_ble_eq_true rfl) (Nat.le_of_ble_eq_true rfl) ?_
    rw [show (decide ((0 : Int64) ≤ y.toInt64) && decide (y.toInt64 ≤ (1 : Int64))) = (decide (nI 0 ≤ y) && decide (y ≤ nI 1)) from w_in y 0 1, in_lit (by omega) (by omega)]
    refine g_if_ne (tgt := 21) dX9_ask_15 rfl (fun h15 => ?_) (fun h15 => ?_)
    · have hy := of_decide_eq_true (bZ_n h15)
      obtain ⟨a, rfl, ha⟩ := cellOK_in hx
      have ea : (nI a).toInt.toNat = a := by rw [nI_toInt (by omega)]; omega
      have hmn := gMany_le (cvP d c a) n
      rw [ea]
      refine tg_go bX9_ask_21 ?_
      simp only [ti_aload, ti_iload, ti_push, List.getElem?_cons_zero, List.getElem?_cons_succ, true_and]
      refine tg_cWv vX9_ask_24 (kX9_gather' hd ht (by omega)) rfl rfl rfl rfl (Nat.le_of_ble_eq_true rfl) (Nat.le_of_ble_eq_true rfl) (Nat.le_of_ble_eq_true rfl) rfl ?_
      unfold wM
      refine tg_go bX9_ask_27 ?_
      simp only [ti_aload, ti_getf, List.getElem?_cons_zero, List.getElem?_cons_succ, true_and]
      refine g_if_eq (tgt := 47) dX9_ask_31 rfl (fun h31 => ?_) (fun h31 => ?_)
      · rw [fa_lit, lI_eq (by omega) (by omega)] at h31
        refine tg_go bX9_ask_47 ?_
        simp only [ti_push, List.getElem?_cons_zero, List.getElem?_cons_succ, true_and]
        refine g_goto (tgt := 70) dX9_ask_48 rfl ?_
        refine g_iret dX9_ask_70 rfl ?_
        exact ⟨Or.inr ⟨⟨hx, hy⟩, by unfold aAsk; rw [if_pos (Or.inl h31)]⟩, sM_mk⟩
      · rw [fa_lit, lI_eq (by omega) (by omega)] at h31
        refine tg_go bX9_ask_34 ?_
        simp only [ti_aload, ti_getf, ti_iald, ti_push, List.getElem?_cons_zero, List.getElem?_cons_succ, true_and]
        rw [show (1 : Int32).toNatClampNeg = 1 by decide, show row 1 = nI s from ht.2.1]
        refine ⟨vp_in_nI (n := 1) (by decide) (by decide), ?_⟩
        refine g_icmp_ge (tgt := 51) dX9_ask_44 rfl (fun h44 => ?_) (fun h44 => ?_)
        · rw [lI_le (by omega) (by omega)] at h44
          refine tg_go bX9_ask_51 ?_
          simp only [ti_iload, List.getElem?_cons_zero, List.getElem?_cons_succ, true_and]
          refine g_if_ne (tgt := 62) dX9_ask_52 rfl (fun h52 => ?_) (fun h52 => ?_)
          · refine tg_go bX9_ask_62 ?_
            simp only [ti_aload, ti_getf, ti_iadd, ti_push, List.getElem?_cons_zero, List.getElem?_cons_succ, true_and]
            refine g_iret dX9_ask_70 rfl ?_
            exact ⟨Or.inr ⟨⟨hx, hy⟩, by unfold aAsk; rw [if_neg (by omega), if_neg h52]⟩, sM_mk⟩
          · refine tg_go bX9_ask_55 ?_
            simp only [ti_aload, ti_getf, List.getElem?_cons_zero, List.getElem?_cons_succ, true_and]
            refine g_goto (tgt := 70) dX9_ask_59 rfl ?_
            refine g_iret dX9_ask_70 rfl ?_
            exact ⟨Or.inr ⟨⟨hx, hy⟩, by unfold aAsk; rw [if_neg (by omega), if_pos h52]⟩, sM_mk⟩
        · rw [lI_le (by omega) (by omega)] at h44
          refine tg_go bX9_ask_47 ?_
          simp only [ti_push, List.getElem?_cons_zero, List.getElem?_cons_succ, true_and]
          refine g_goto (tgt := 70) dX9_ask_48 rfl ?_
          refine g_iret dX9_ask_70 rfl ?_
          exact ⟨Or.inr ⟨⟨hx, hy⟩, by unfold aAsk; rw [if_pos (Or.inr (by omega))]⟩, sM_mk⟩
    · have hy := of_decide_eq_false (bZ_0 h15)
      refine tg_go bX9_ask_18 ?_
      simp only [ti_push, List.getElem?_cons_zero, List.getElem?_cons_succ, true_and]
      refine g_iret dX9_ask_20 rfl ?_
      exact ⟨Or.inl ⟨fun q => hy q.2, rfl⟩, sM_mk⟩
/-! supported(): cells with enough, closed or not -/
def enou (d n s : Nat) (c : Nat → Nat) (a : Nat) : Bool := decide (0 < gMany (cvP d c a) n ∧ s ≤ gMany (cvP d c a) n)
theorem kX9_supported_l (hd : d ≤ 4) (ht : tbR row d 0 n s c u) (hK : ∀ my su le gr cz, K (some (.int (nI (gMany (enou d n s c) (7 ^ d))))) (wM row (nI d) vals un kp tx len sz it ask fi be rD rM cl dg nu my su le gr cz vi ov rv ct bm)) : ∀ (m a : Nat) (my su le gr cz : Int32), 7 ^ d - a < m → a ≤ 7 ^ d → tg_G l mX9_supported 1000 K 0 0 9 [.ref 0, .int (nI (gMany (enou d n s c) a)), .int (nI (7 ^ d)), .int (nI a)] [] (wM row (nI d) vals un kp tx len sz it ask fi be rD rM cl dg nu my su le gr cz vi ov rv ct bm) := by
  have hp7 := pow7 hd
  have hn := ht.2.2.2.2.2.1
  have hs9 := ht.2.2.2.2.2.2.1
  intro m
  induction m with
  | zero => intro a my su le gr cz h; omega
  | succ m ih =>
    intro a my su le gr cz hm ha
    have hmn := gMany_le (cvP d c a) n
    unfold wM at ih hK ⊢
    refine tg_go bX9_supported_9 ?_
    simp only [ti_iload, List.getElem?_cons_zero, List.getElem?_cons_succ, true_and]
    refine g_icmp_ge (tgt := 54) dX9_supported_11 rfl (fun h11 => ?_) (fun h11 => ?_)
    · rw [lI_le (by omega) (by omega)] at h11
      obtain rfl : a = 7 ^ d := by omega
      refine tg_go bX9_supported_54 ?_
      simp only [ti_iload, List.getElem?_cons_zero, List.getElem?_cons_succ, true_and]
      refine g_iret dX9_supported_55 rfl ?_
      exact hK _ _ _ _ _
    · rw [lI_le (by omega) (by omega)] at h11
      refine tg_go bX9_supported_14 ?_
      simp only [ti_aload, ti_iload, ti_push, List.getElem?_cons_zero, List.getElem?_cons_succ, true_and]
      refine tg_cWv vX9_supported_17 (kX9_gather' hd ht (show a < 2 ^ 31 by omega)) rfl rfl rfl rfl (Nat.le_of_ble_eq_true rfl) (Nat.le_of_ble_eq_true rfl) (Nat.le_of_ble_eq_true rfl) rfl ?_
      unfold wM
      refine tg_go bX9_supported_20 ?_
      simp only [ti_aload, ti_getf, ti_iload, List.getElem?_cons_zero, List.getElem?_cons_succ, true_and]
      refine g_cut1 46 (fun z => z = nI (if enou d n s c a = true then 1 else 0)) (fun J46 => ?_) (fun z hz => ?_)
      · refine g_if_le (tgt := 45) dX9_supported_25 rfl (fun h25 => ?_) (fun h25 => ?_)
        · rw [fa_lit, lI_le (by omega) (by omega)] at h25
          refine tg_go bX9_supported_45 ?_
          simp only [ti_push, List.getElem?_cons_zero, List.getElem?_cons_succ, true_and]
          exact J46 _ (by rw [show enou d n s c a = false from decide_eq_false (by omega)]; rfl)
        · rw [fa_lit, lI_le (by omega) (by omega)] at h25
          refine tg_go bX9_supported_28 ?_
          simp only [ti_aload, ti_getf, ti_iald, ti_push, List.getElem?_cons_zero, List.getElem?_cons_succ, true_and]
          rw [show (1 : Int32).toNatClampNeg = 1 by decide, show row 1 = nI s from ht.2.1]
          refine ⟨vp_in_nI (n := 1) (by decide) (by decide), ?_⟩
          refine g_icmp_lt (tgt := 45) dX9_supported_38 rfl (fun h38 => ?_) (fun h38 => ?_)
          · rw [lI_lt (by omega) (by omega)] at h38
            refine tg_go bX9_supported_45 ?_
            simp only [ti_push, List.getElem?_cons_zero, List.getElem?_cons_succ, true_and]
            exact J46 _ (by rw [show enou d n s c a = false from decide_eq_false (by omega)]; rfl)
          · rw [lI_lt (by omega) (by omega)] at h38
            refine tg_go bX9_supported_41 ?_
            simp only [ti_push, List.getElem?_cons_zero, List.getElem?_cons_succ, true_and]
            refine g_goto (tgt := 46) dX9_supported_42 rfl ?_
            exact J46 _ (by rw [show enou d n s c a = true from decide_eq_true (by omega)]; rfl)
      subst hz
      refine tg_go bX9_supported_46 ?_
      simp only [ti_iadd, ti_iinc, ti_istore, tg_s1, tg_cl, List.getElem?_cons_zero, List.getElem?_cons_succ, List.set_cons_zero, List.set_cons_succ, true_and]
      rw [nI_add, nI_1]
      refine g_goto (tgt := 9) dX9_supported_51 rfl ?_
      exact ih (a + 1) _ _ _ _ _ (by omega) (by omega)
theorem kX9_supported (hd : d ≤ 4) (ht : tbR row d 0 n s c u) : tg_Ct l mX9_supported 1000 [.ref 0] (wM row (nI d) vals un kp tx len sz it ask fi be rD rM cl dg nu my su le gr cz vi ov rv ct bm) (fun r w => r = some (.int (nI (gMany (enou d n s c) (7 ^ d)))) ∧ ∃ my su le gr cz, w = (wM row (nI d) vals un kp tx len sz it ask fi be rD rM cl dg nu my su le gr cz vi ov rv ct bm)) := by
  show tg_G _ _ _ _ _ _ _ [.ref 0, .null, .null, .null] [] _
  unfold wM
  refine tg_go bX9_supported_0 ?_
  simp only [ti_aload, ti_istore, ti_push, tg_s1, tg_cl, List.getElem?_cons_zero, List.getElem?_cons_succ, List.set_cons_zero, List.set_cons_succ, true_and]
  refine tg_cW vX9_supported_3 (kX9_codes hd) rfl rfl rfl rfl (Nat.le_of_ble_eq_true rfl) (Nat.le_of_ble_eq_true rfl) (Nat.le_of_ble_eq_true rfl) rfl ?_
  unfold wM
  refine tg_go bX9_supported_6 ?_
  simp only [ti_istore, ti_push, tg_s1, tg_cl, List.getElem?_cons_zero, List.getElem?_cons_succ, List.set_cons_zero, List.set_cons_succ, true_and]
  exact kX9_supported_l hd ht (fun my su le gr cz => ⟨rfl, _, _, _, _, _, rfl⟩) (7 ^ d + 1) 0 _ _ _ _ _ (Nat.lt_succ_of_le (Nat.sub_le _ _)) (Nat.zero_le _)
end REF6
