/-! THE REFERENCE: support, row, clauses -/
def rvOK (D : Nat) (rv : Nat → Int32) : Prop := D ≤ 4 ∧ ∀ j, j < D → ∃ x, 1 ≤ x ∧ x ≤ 6 ∧ rv j = nI x
section REFF
variable {l : tg_Ln} {K : Option Value → List va_E → Prop} {row vals kp tx sz ct bm : Nat → Int32} {dm un len cl my su le gr cz vi ov : Int32} {it : Nat → Int64} {ask : Int64} {L : Nat}
theorem kX9_readsSupport {f b : Nat} {rv : Nat → Int32} {g : Bool} {rD rM nu : Int32} (hL : L ≤ 200) (hb : f ≤ b) (hbL : b ≤ L) : tg_Ct l mX9_readsSupport 1000 [.ref 0] (wM row dm vals un kp tx (nI L) sz it ask (nI f) (nI b) rD rM cl (bZ g) nu my su le gr cz vi ov rv ct bm) (fun r w => (numR tx L f b 1 9 = none ∧ r = some (.int 0) ∧ w = (wM row dm vals un kp tx (nI L) sz it ask (nI f) (nI b) rD rM cl (bZ g) nu my su le gr cz vi ov rv ct bm)) ∨ ∃ x, numR tx L f b 1 9 = some x ∧ r = some (.int 1) ∧ w = (wM (if g = true then upd row 1 (nI x) else row) dm vals un kp tx (nI L) sz it ask (nI (tkF tx L b)) (nI (tkB tx L (tkF tx L b))) rD rM cl (bZ g) (nI x) my su le gr cz vi ov rv ct bm)) := by
  refine tg_gen (fun K0 hK0 => ?_)
  show tg_G _ _ _ _ _ _ _ [.ref 0, .null] [] _
  unfold wM
  refine tg_go bX9_readsSupport_0 ?_
  simp only [ti_aload, ti_push, List.getElem?_cons_zero, List.getElem?_cons_succ, true_and]
  refine tg_cWe vX9_readsSupport_4 (kX9_readsNumber (lo := 1) (hi := 9) hL hb hbL (by omega) (by omega)) rfl rfl rfl rfl (Nat.le_of_ble_eq_true rfl) (Nat.le_of_ble_eq_true rfl) (Nat.le_of_ble_eq_true rfl) (by rintro r w1 (⟨-, -, rfl⟩ | ⟨x, -, -, rfl⟩) <;> rfl) ?_
  rintro r w1 (⟨hn, rfl, rfl⟩ | ⟨x, hx, rfl, rfl⟩) <;> simp only [Option.toList_some, List.cons_append, List.nil_append]
  · unfold wM
    refine tg_go bX9_readsSupport_7 ?_
    simp only [ti_iload, ti_istore, tg_s1, tg_cl, List.getElem?_cons_zero, List.getElem?_cons_succ, List.set_cons_zero, List.set_cons_succ, true_and]
    refine g_if_eq (tgt := 29) dX9_readsSupport_9 rfl (fun h9 => ?_) (fun h9 => ?_)
    · refine tg_go bX9_readsSupport_29 ?_
      simp only [ti_iload, List.getElem?_cons_zero, List.getElem?_cons_succ, true_and]
      refine g_zret dX9_readsSupport_30 rfl (by first | exact Or.inl rfl | exact Or.inr rfl | assumption) ?_
      exact hK0 _ _ (Or.inl ⟨hn, rfl, rfl⟩)
    · exact absurd rfl h9
  · unfold wM
    refine tg_go bX9_readsSupport_7 ?_
    simp only [ti_iload, ti_istore, tg_s1, tg_cl, List.getElem?_cons_zero, List.getElem?_cons_succ, List.set_cons_zero, List.set_cons_succ, true_and]
    refine g_if_eq (tgt := 29) dX9_readsSupport_9 rfl (fun h9 => ?_) (fun h9 => ?_)
    · exact absurd h9 (by decide)
    · refine tg_go bX9_readsSupport_12 ?_
      simp only [ti_aload, ti_getf, List.getElem?_cons_zero, List.getElem?_cons_succ, true_and]
      refine g_if_eq (tgt := 29) dX9_readsSupport_16 rfl (fun h16 => ?_) (fun h16 => ?_)
      · refine tg_go bX9_readsSupport_29 ?_
        simp only [ti_iload, List.getElem?_cons_zero, List.getElem?_cons_succ, true_and]
        refine g_zret dX9_readsSupport_30 rfl (by first | exact Or.inl rfl | exact Or.inr rfl | assumption) ?_
        exact hK0 _ _ (Or.inr ⟨x, hx, rfl, by rw [bZ_0 h16, if_neg (by decide)]; rfl⟩)
      · refine tg_go bX9_readsSupport_19 ?_
        simp only [ti_aload, ti_getf, ti_iast, ti_push, List.getElem?_cons_zero, List.getElem?_cons_succ, List.set_cons_zero, List.set_cons_succ, true_and]
        rw [show (1 : Int32).toNatClampNeg = 1 by decide]
        refine ⟨vp_in_nI (n := 1) (by decide) (by decide), ?_⟩
        refine tg_go bX9_readsSupport_29 ?_
        simp only [ti_iload, List.getElem?_cons_zero, List.getElem?_cons_succ, true_and]
        refine g_zret dX9_readsSupport_30 rfl (by first | exact Or.inl rfl | exact Or.inr rfl | assumption) ?_
        exact hK0 _ _ (Or.inr ⟨x, hx, rfl, by rw [bZ_n h16, if_pos rfl]; rfl⟩)
theorem kX9_rR_1 {D : Nat} {rv : Nat → Int32} {rM dg : Int32} (hL : L ≤ 200) (hv : rvOK D rv) : ∀ (m k f b c : Nat) (nu : Int32), m + k = D → f ≤ b → b ≤ L → ((rowR tx L rv m k f b c).1 = true → ∀ nu, tg_G l mX9_readsRow 1000 K 0 0 48 [.ref 0, .int (nI (rowR tx L rv m k f b c).2.2.2), .int (nI D)] [] (wM row dm vals un kp tx (nI L) sz it ask (nI (rowR tx L rv m k f b c).2.1) (nI (rowR tx L rv m k f b c).2.2.1) (nI D) rM cl dg nu my su le gr cz vi ov rv ct bm)) → ((rowR tx L rv m k f b c).1 = false → ∀ nu, K (some (.int 0)) (wM row dm vals un kp tx (nI L) sz it ask (nI (rowR tx L rv m k f b c).2.1) (nI (rowR tx L rv m k f b c).2.2.1) (nI D) rM cl dg nu my su le gr cz vi ov rv ct bm)) → tg_G l mX9_readsRow 1000 K 0 0 4 [.ref 0, .int (nI c), .int (nI k)] [] (wM row dm vals un kp tx (nI L) sz it ask (nI f) (nI b) (nI D) rM cl dg nu my su le gr cz vi ov rv ct bm) := by
  intro m
  induction m with
  | zero =>
    intro k f b c nu hmk hb hbL h1 h2
    have h3 := h1 rfl nu
    have hD := hv.1
    unfold wM at h3 ⊢
    obtain rfl : k = D := by omega
    refine tg_go bX9_readsRow_4 ?_
    simp only [ti_aload, ti_getf, ti_iload, List.getElem?_cons_zero, List.getElem?_cons_succ, true_and]
    refine g_icmp_ge (tgt := 48) dX9_readsRow_9 rfl (fun h9 => ?_) (fun h9 => ?_)
    · exact h3
    · rw [lI_le (by omega) (by omega)] at h9; omega
  | succ m ih =>
    intro k f b c nu hmk hb hbL h1 h2
    have hD := hv.1
    obtain ⟨x0, hx1, hx6, hxe⟩ := hv.2 k (by omega)
    have ex0 : (rv k).toInt.toNat = x0 := by rw [hxe, nI_toInt (by omega)]; omega
    rw [rowR, ex0] at h1 h2
    unfold wM at ih h1 h2 ⊢
    refine tg_go bX9_readsRow_4 ?_
    simp only [ti_aload, ti_getf, ti_iload, List.getElem?_cons_zero, List.getElem?_cons_succ, true_and]
    refine g_icmp_ge (tgt := 48) dX9_readsRow_9 rfl (fun h9 => ?_) (fun h9 => ?_)
    · rw [lI_le (by omega) (by omega)] at h9; omega
    · refine tg_go bX9_readsRow_12 ?_
      simp only [ti_aload, ti_getf, ti_iald, ti_iload, ti_isub, ti_push, List.getElem?_cons_zero, List.getElem?_cons_succ, true_and]
      rw [nI_clamp (by omega), hxe, show nI x0 - 1 = nI (x0 - 1) from pk_sub (a := x0) (b := 1) hx1]
      refine ⟨vp_in_nI (by omega) (by omega), ?_⟩
      refine tg_cWe vX9_readsRow_22 (kX9_readsNumber (lo := 0) (hi := x0 - 1) hL hb hbL (by omega) (by omega)) rfl rfl rfl rfl (Nat.le_of_ble_eq_true rfl) (Nat.le_of_ble_eq_true rfl) (Nat.le_of_ble_eq_true rfl) (by rintro r w1 (⟨-, -, rfl⟩ | ⟨x, -, -, rfl⟩) <;> rfl) ?_
      rintro r w1 (⟨hn, rfl, rfl⟩ | ⟨x, hx, rfl, rfl⟩) <;> simp only [Option.toList_some, List.cons_append, List.nil_append]
      · unfold wM
        rw [hn] at h2
        refine g_if_ne (tgt := 30) dX9_readsRow_25 rfl (fun h25 => ?_) (fun h25 => ?_)
        · exact absurd rfl h25
        · refine tg_go bX9_readsRow_28 ?_
          simp only [ti_push, List.getElem?_cons_zero, List.getElem?_cons_succ, true_and]
          refine g_zret dX9_readsRow_29 rfl (by first | exact Or.inl rfl | exact Or.inr rfl | assumption) ?_
          exact h2 rfl _
      · unfold wM
        rw [hx] at h1 h2
        have hf := tkF_le (tx := tx) hbL
        have hbb := tkB_in (tx := tx) hf
        refine g_if_ne (tgt := 30) dX9_readsRow_25 rfl (fun h25 => ?_) (fun h25 => ?_)
        · refine tg_go bX9_readsRow_30 ?_
          simp only [ti_aload, ti_getf, ti_iadd, ti_iinc, ti_iload, ti_imul, ti_istore, ti_push, tg_s1, tg_cl, List.getElem?_cons_zero, List.getElem?_cons_succ, List.set_cons_zero, List.set_cons_succ, true_and]
          rw [show (7 : Int32) * nI c = nI (7 * c) from pk_mul 7 _, nI_add, nI_1, nI_1]
          refine g_goto (tgt := 4) dX9_readsRow_45 rfl ?_
          exact ih (k + 1) _ _ _ _ (by omega) hbb.1 hbb.2.1 h1 h2
        · exact absurd h25 (by decide)
/-- readsRow(): whether all is there, the places behind, the code, the measure -/
def rowQ (tx : Nat → Int32) (L D f b : Nat) (rv : Nat → Int32) : Bool × Nat × Nat × Nat × Nat := match rowR tx L rv D 0 f b 0 with
  | (true, f1, b1, c) => (match numR tx L f1 b1 0 99 with
    | some x => (true, tkF tx L b1, tkB tx L (tkF tx L b1), c, x)
    | none => (false, f1, b1, c, 0))
  | (false, f1, b1, c) => (false, f1, b1, c, 0)
theorem kX9_readsRow {D N f b : Nat} {rv : Nat → Int32} {g : Bool} {nu : Int32} (hL : L ≤ 200) (hb : f ≤ b) (hbL : b ≤ L) (hv : rvOK D rv) (hN : N < 40) (hr : g = true → row 0 = nI N) : tg_Ct l mX9_readsRow 1000 [.ref 0] (wM row dm vals un kp tx (nI L) sz it ask (nI f) (nI b) (nI D) (nI N) cl (bZ g) nu my su le gr cz vi ov rv ct bm) (fun r w => ((rowQ tx L D f b rv).1 = false ∧ r = some (.int 0) ∧ ∃ nu, w = (wM row dm vals un kp tx (nI L) sz it ask (nI (rowQ tx L D f b rv).2.1) (nI (rowQ tx L D f b rv).2.2.1) (nI D) (nI N) cl (bZ g) nu my su le gr cz vi ov rv ct bm)) ∨ ((rowQ tx L D f b rv).1 = true ∧ r = some (.int 1) ∧ ∃ nu, w = (wM (if g = true then rPut row 0 N (nI (rowQ tx L D f b rv).2.2.2.1) (nI (rowQ tx L D f b rv).2.2.2.2) else row) dm vals un kp tx (nI L) sz it ask (nI (rowQ tx L D f b rv).2.1) (nI (rowQ tx L D f b rv).2.2.1) (nI D) (nI (N + 1)) cl (bZ g) nu my su le gr cz vi ov rv ct bm))) := by
  refine tg_gen (fun K0 hK0 => ?_)
  have hin := rowR_in (tx := tx) (L := L) (rv := rv) D 0 f b 0 hb hbL
  unfold rowQ at hK0
  show tg_G _ _ _ _ _ _ _ [.ref 0, .null, .null] [] _
  unfold wM
  refine tg_go bX9_readsRow_0 ?_
  simp only [ti_istore, ti_push, tg_s1, tg_cl, List.getElem?_cons_zero, List.getElem?_cons_succ, List.set_cons_zero, List.set_cons_succ, true_and]
  refine kX9_rR_1 hL hv D 0 f b 0 nu rfl hb hbL (fun hok nu1 => ?_) (fun hok nu1 => ?_)
  · generalize hR : rowR tx L rv D 0 f b 0 = R at hin hok hK0 ⊢
    obtain ⟨ok, f1, b1, c⟩ := R
    dsimp only at hin hok hK0 ⊢
    subst hok
    dsimp only at hK0
    unfold wM
    refine tg_go bX9_readsRow_48 ?_
    simp only [ti_aload, ti_push, List.getElem?_cons_zero, List.getElem?_cons_succ]
    refine tg_cWe vX9_readsRow_52 (kX9_readsNumber (lo := 0) (hi := 99) hL hin.1 hin.2 (by omega) (by omega)) rfl rfl rfl rfl (Nat.le_of_ble_eq_true rfl) (Nat.le_of_ble_eq_true rfl) (Nat.le_of_ble_eq_true rfl) (by rintro r w1 (⟨-, -, rfl⟩ | ⟨x, -, -, rfl⟩) <;> rfl) ?_
    rintro r w1 (⟨hn, rfl, rfl⟩ | ⟨x, hx, rfl, rfl⟩) <;> simp only [Option.toList_some, List.cons_append, List.nil_append]
    · rw [hn] at hK0
      unfold wM
      refine tg_go bX9_readsRow_55 ?_
      simp only [ti_istore, ti_iload, tg_s1, tg_cl, List.getElem?_cons_zero, List.getElem?_cons_succ, List.set_cons_zero, List.set_cons_succ]
      refine g_if_eq (tgt := 87) dX9_readsRow_57 rfl (fun _ => ?_) (fun q => absurd rfl q)
      refine tg_go bX9_readsRow_87 ?_
      simp only [ti_iload, List.getElem?_cons_zero, List.getElem?_cons_succ]
      exact g_zret dX9_readsRow_88 rfl (Or.inl rfl) (hK0 _ _ (Or.inl ⟨rfl, rfl, _, rfl⟩))
    · rw [hx] at hK0
      dsimp only at hK0
      unfold wM
      refine tg_go bX9_readsRow_55 ?_
      simp only [ti_istore, ti_iload, tg_s1, tg_cl, List.getElem?_cons_zero, List.getElem?_cons_succ, List.set_cons_zero, List.set_cons_succ]
      refine g_if_eq (tgt := 87) dX9_readsRow_57 rfl (fun q => absurd q (by decide)) (fun _ => ?_)
      refine tg_go bX9_readsRow_60 ?_
      simp only [ti_aload, ti_dup, ti_getf, ti_push, ti_iadd, ti_putfI, Value.category, List.getElem?_cons_zero, List.getElem?_cons_succ, List.set_cons_zero, List.set_cons_succ, true_and]
      rw [nI_1]
      cases g with
      | false =>
        refine g_if_eq (tgt := 87) dX9_readsRow_74 rfl (fun _ => ?_) (fun q => absurd rfl q)
        refine tg_go bX9_readsRow_87 ?_
        simp only [ti_iload, List.getElem?_cons_zero, List.getElem?_cons_succ]
        exact g_zret dX9_readsRow_88 rfl (Or.inr rfl) (hK0 _ _ (Or.inr ⟨rfl, rfl, _, by rw [if_neg (by decide)]; rfl⟩))
      | true =>
        refine g_if_eq (tgt := 87) dX9_readsRow_74 rfl (fun q => absurd q (by decide)) (fun _ => ?_)
        refine tg_go bX9_readsRow_77 ?_
        simp only [ti_aload, ti_push, ti_iload, ti_getf, List.getElem?_cons_zero, List.getElem?_cons_succ, true_and]
        refine tg_cWv vX9_readsRow_84 (kX9_put (B := 0) (n := N) (c := nI c) (u := nI x) (by omega) hN (hr rfl)) rfl rfl rfl rfl (Nat.le_of_ble_eq_true rfl) (Nat.le_of_ble_eq_true rfl) (Nat.le_of_ble_eq_true rfl) rfl ?_
        unfold wM
        refine tg_go bX9_readsRow_87 ?_
        simp only [ti_iload, List.getElem?_cons_zero, List.getElem?_cons_succ]
        exact g_zret dX9_readsRow_88 rfl (Or.inr rfl) (hK0 _ _ (Or.inr ⟨rfl, rfl, _, by rw [if_pos rfl]; rfl⟩))
  · generalize hR : rowR tx L rv D 0 f b 0 = R at hin hok hK0 ⊢
    obtain ⟨ok, f1, b1, c⟩ := R
    dsimp only at hin hok hK0 ⊢
    subst hok
    exact hK0 _ _ (Or.inl ⟨rfl, rfl, _, rfl⟩)
/-- readsClause(): whether it is one; places behind, dimensions, values, how many entries -/
def clR (tx : Nat → Int32) (L f b D N : Nat) (rv : Nat → Int32) : Bool × Nat × Nat × Nat × (Nat → Int32) × Nat :=
  if wdH tx f b = -1 ∨ (wdH tx f b = 2 ∧ N = 40) then (false, f, b, D, rv, N)
  else if wdH tx f b = 0 then (match tabR tx L 6 0 (tkF tx L b) (tkB tx L (tkF tx L b)) rv with
    | (true, k, f2, b2, rv2) => (true, f2, b2, k, rv2, 0)
    | (false, _, f2, b2, rv2) => (false, f2, b2, D, rv2, N))
  else if wdH tx f b = 1 then (match numR tx L (tkF tx L b) (tkB tx L (tkF tx L b)) 1 9 with
    | some _ => (true, tkF tx L (tkB tx L (tkF tx L b)), tkB tx L (tkF tx L (tkB tx L (tkF tx L b))), D, rv, N)
    | none => (false, tkF tx L b, tkB tx L (tkF tx L b), D, rv, N))
  else (match rowQ tx L D (tkF tx L b) (tkB tx L (tkF tx L b)) rv with
    | (true, f2, b2, _, _) => (true, f2, b2, D, rv, N + 1)
    | (false, f2, b2, _, _) => (false, f2, b2, D, rv, N))
/-- what a clause that is one does to dimensions, values, row -/
def clE (tx : Nat → Int32) (L f b D N : Nat) (rv : Nat → Int32) (dm : Int32) (vals row : Nat → Int32) : Int32 × (Nat → Int32) × (Nat → Int32) :=
  if wdH tx f b = 0 then (match tabR tx L 6 0 (tkF tx L b) (tkB tx L (tkF tx L b)) rv with
    | (_, k, _, _, rv2) => (nI k, vLo vals rv2 k 4, upd (upd row 0 0) 1 1))
  else if wdH tx f b = 1 then (dm, vals, upd row 1 (nI ((numR tx L (tkF tx L b) (tkB tx L (tkF tx L b)) 1 9).getD 0)))
  else (match rowQ tx L D (tkF tx L b) (tkB tx L (tkF tx L b)) rv with
    | (_, _, _, c, x) => (dm, vals, rPut row 0 N (nI c) (nI x)))
theorem wdH_in (tx : Nat → Int32) (f b : Nat) : wdH tx f b = -1 ∨ wdH tx f b = 0 ∨ wdH tx f b = 1 ∨ wdH tx f b = 2 := by
  unfold wdH
  split
  · exact Or.inr (Or.inl rfl)
  · split
    · exact Or.inr (Or.inr (Or.inl rfl))
    · split
      · exact Or.inr (Or.inr (Or.inr rfl))
      · exact Or.inl rfl
theorem kX9_readsClause {D N f b : Nat} {rv : Nat → Int32} {g : Bool} {nu : Int32} (hL : L ≤ 200) (hb : f ≤ b) (hbL : b ≤ L) (hv : rvOK D rv) (hN : N ≤ 40) (hr : g = true → row 0 = nI N) : tg_Ct l mX9_readsClause 1000 [.ref 0] (wM row dm vals un kp tx (nI L) sz it ask (nI f) (nI b) (nI D) (nI N) cl (bZ g) nu my su le gr cz vi ov rv ct bm) (fun r w => r = some (.int (bZ (clR tx L f b D N rv).1)) ∧ ∃ nu dm1 vals1 row1, w = (wM row1 dm1 vals1 un kp tx (nI L) sz it ask (nI (clR tx L f b D N rv).2.1) (nI (clR tx L f b D N rv).2.2.1) (nI (clR tx L f b D N rv).2.2.2.1) (nI (clR tx L f b D N rv).2.2.2.2.2) cl (bZ g) nu my su le gr cz vi ov ((clR tx L f b D N rv).2.2.2.2.1) ct bm) ∧ (g = false → dm1 = dm ∧ vals1 = vals ∧ row1 = row) ∧ (g = true → (clR tx L f b D N rv).1 = true → dm1 = (clE tx L f b D N rv dm vals row).1 ∧ vals1 = (clE tx L f b D N rv dm vals row).2.1 ∧ row1 = (clE tx L f b D N rv dm vals row).2.2)) := by
  refine tg_gen (fun K0 hK0 => ?_)
  have hf1 := tkF_le (tx := tx) hbL
  have hb1 := tkB_in (tx := tx) hf1
  have hw := wdH_in tx f b
  have refuse : (wdH tx f b = -1 ∨ (wdH tx f b = 2 ∧ N = 40)) → K0 (some (.int 0)) (wM row dm vals un kp tx (nI L) sz it ask (nI f) (nI b) (nI D) (nI N) cl (bZ g) nu my su le gr cz vi ov rv ct bm) := by
    intro hc
    have e : clR tx L f b D N rv = (false, f, b, D, rv, N) := by unfold clR; rw [if_pos hc]
    exact hK0 _ _ (by rw [e]; exact ⟨rfl, nu, dm, vals, row, rfl, fun _ => ⟨rfl, rfl, rfl⟩, fun _ q => absurd (show false = true from q) (by decide)⟩)
  unfold wM at refuse
  show tg_G _ _ _ _ _ _ _ [.ref 0, .null] [] _
  unfold wM
  refine tg_go bX9_readsClause_0 ?_
  simp only [ti_aload, List.getElem?_cons_zero, List.getElem?_cons_succ, true_and]
  refine tg_cW vX9_readsClause_1 (kX9_wordHere hL hb hbL) rfl rfl rfl rfl (Nat.le_of_ble_eq_true rfl) (Nat.le_of_ble_eq_true rfl) (Nat.le_of_ble_eq_true rfl) rfl ?_
  unfold wM
  refine tg_go bX9_readsClause_4 ?_
  simp only [ti_iload, ti_istore, ti_push, tg_s1, tg_cl, List.getElem?_cons_zero, List.getElem?_cons_succ, List.set_cons_zero, List.set_cons_succ, true_and]
  refine g_icmp_eq (tgt := 24) dX9_readsClause_7 rfl (fun h7 => ?_) (fun h7 => ?_)
  · refine tg_go bX9_readsClause_24 ?_
    simp only [ti_push, List.getElem?_cons_zero, List.getElem?_cons_succ, true_and]
    refine g_zret dX9_readsClause_25 rfl (by first | exact Or.inl rfl | exact Or.inr rfl | assumption) ?_
    exact refuse (Or.inl h7)
  · refine tg_go bX9_readsClause_10 ?_
    simp only [ti_iload, ti_push, List.getElem?_cons_zero, List.getElem?_cons_succ, true_and]
    refine g_icmp_ne (tgt := 26) dX9_readsClause_12 rfl (fun h12 => ?_) (fun h12 => ?_)
    · refine tg_go bX9_readsClause_26 ?_
      simp only [ti_aload, List.getElem?_cons_zero, List.getElem?_cons_succ, true_and]
      refine tg_cWv vX9_readsClause_27 (kX9_nextToken hL hbL) rfl rfl rfl rfl (Nat.le_of_ble_eq_true rfl) (Nat.le_of_ble_eq_true rfl) (Nat.le_of_ble_eq_true rfl) rfl ?_
      unfold wM
      have hno : ¬ (wdH tx f b = -1 ∨ (wdH tx f b = 2 ∧ N = 40)) := by
        first
        | exact fun q => q.elim h7 (fun q => h12 q.1)
        | exact fun q => q.elim h7 (fun q => h21 q.2)
      unfold clR clE at hK0
      rw [if_neg hno] at hK0
      refine tg_go bX9_readsClause_30 ?_
      simp only [ti_iload, List.getElem?_cons_zero, List.getElem?_cons_succ, true_and]
      refine g_if_ne (tgt := 41) dX9_readsClause_31 rfl (fun h31 => ?_) (fun h31 => ?_)
      · rw [if_neg h31, if_neg h31] at hK0
        refine tg_go bX9_readsClause_41 ?_
        simp only [ti_iload, ti_push, List.getElem?_cons_zero, List.getElem?_cons_succ, true_and]
        refine g_icmp_ne (tgt := 53) dX9_readsClause_43 rfl (fun h43 => ?_) (fun h43 => ?_)
        · rw [if_neg h43, if_neg h43] at hK0
          have hN40 : N < 40 := by
            rcases hw with q | q | q | q
            · exact absurd (Or.inl q) hno
            · exact absurd q h31
            · exact absurd q h43
            · have : ¬ N = 40 := fun z => hno (Or.inr ⟨q, z⟩)
              omega
          refine tg_go bX9_readsClause_53 ?_
          simp only [ti_aload, List.getElem?_cons_zero, List.getElem?_cons_succ, true_and]
          refine tg_cWe vX9_readsClause_54 (kX9_readsRow hL hb1.1 hb1.2.1 hv hN40 hr) rfl rfl rfl rfl (Nat.le_of_ble_eq_true rfl) (Nat.le_of_ble_eq_true rfl) (Nat.le_of_ble_eq_true rfl) (by rintro r w1 (⟨-, -, _, rfl⟩ | ⟨-, -, _, rfl⟩) <;> rfl) ?_
          rintro r w1 (⟨hn, rfl, nu1, rfl⟩ | ⟨hx, rfl, nu1, rfl⟩) <;> simp only [Option.toList_some, List.cons_append, List.nil_append]
          · generalize hR : rowQ tx L D (tkF tx L b) (tkB tx L (tkF tx L b)) rv = R at *
            obtain ⟨ok, f2, b2, c2, x2⟩ := R
            dsimp only at *
            refine g_zret dX9_readsClause_57 rfl (by first | exact Or.inl rfl | exact Or.inr rfl | assumption) ?_
            subst hn
            exact hK0 _ _ ⟨rfl, _, _, _, _, rfl, fun _ => ⟨rfl, rfl, rfl⟩, fun _ q => absurd (show false = true from q) (by decide)⟩
          · generalize hR : rowQ tx L D (tkF tx L b) (tkB tx L (tkF tx L b)) rv = R at *
            obtain ⟨ok, f2, b2, c2, x2⟩ := R
            dsimp only at *
            refine g_zret dX9_readsClause_57 rfl (by first | exact Or.inl rfl | exact Or.inr rfl | assumption) ?_
            subst hx
            exact hK0 _ _ ⟨rfl, _, _, _, _, rfl, fun q => ⟨rfl, rfl, by rw [q, if_neg (by decide)]⟩, fun q _ => ⟨rfl, rfl, by rw [q, if_pos rfl]⟩⟩
        · rw [if_pos h43, if_pos h43] at hK0
          refine tg_go bX9_readsClause_46 ?_
          simp only [ti_aload, List.getElem?_cons_zero, List.getElem?_cons_succ, true_and]
          refine tg_cWe vX9_readsClause_47 (kX9_readsSupport hL hb1.1 hb1.2.1) rfl rfl rfl rfl (Nat.le_of_ble_eq_true rfl) (Nat.le_of_ble_eq_true rfl) (Nat.le_of_ble_eq_true rfl) (by rintro r w1 (⟨-, -, rfl⟩ | ⟨x, -, -, rfl⟩) <;> rfl) ?_
          rintro r w1 (⟨hn, rfl, rfl⟩ | ⟨x, hx, rfl, rfl⟩) <;> simp only [Option.toList_some, List.cons_append, List.nil_append]
          · refine g_goto (tgt := 57) dX9_readsClause_50 rfl ?_
            refine g_zret dX9_readsClause_57 rfl (by first | exact Or.inl rfl | exact Or.inr rfl | assumption) ?_
            rw [hn] at hK0
            exact hK0 _ _ ⟨rfl, _, _, _, _, rfl, fun _ => ⟨rfl, rfl, rfl⟩, fun _ q => absurd (show false = true from q) (by decide)⟩
          · refine g_goto (tgt := 57) dX9_readsClause_50 rfl ?_
            refine g_zret dX9_readsClause_57 rfl (by first | exact Or.inl rfl | exact Or.inr rfl | assumption) ?_
            rw [hx] at hK0
            exact hK0 _ _ ⟨rfl, _, _, _, _, rfl, fun q => ⟨rfl, rfl, by rw [q, if_neg (by decide)]⟩, fun q _ => ⟨rfl, rfl, by rw [q, if_pos rfl]; rfl⟩⟩
      · rw [if_pos h31, if_pos h31] at hK0
        refine tg_go bX9_readsClause_34 ?_
        simp only [ti_aload, List.getElem?_cons_zero, List.getElem?_cons_succ, true_and]
        refine tg_cWe vX9_readsClause_35 (kX9_readsTable hL hb1.1 hb1.2.1) rfl rfl rfl rfl (Nat.le_of_ble_eq_true rfl) (Nat.le_of_ble_eq_true rfl) (Nat.le_of_ble_eq_true rfl) (by rintro r w1 ⟨-, _, _, _, _, rfl, -⟩; rfl) ?_
        rintro r w1 ⟨rfl, nu1, dm1, vals1, row1, rfl, he1, he2⟩
        simp only [Option.toList_some, List.cons_append, List.nil_append]
        generalize hR : tabR tx L 6 0 (tkF tx L b) (tkB tx L (tkF tx L b)) rv = R at hK0 he2 ⊢
        obtain ⟨ok, k1, f2, b2, rv2⟩ := R
        dsimp only at hK0 he2 ⊢
        refine g_goto (tgt := 57) dX9_readsClause_38 rfl ?_
        refine g_zret dX9_readsClause_57 rfl (bZ_01 _) ?_
        cases ok with
        | false => exact hK0 _ _ ⟨rfl, _, _, _, _, rfl, he1, fun _ q => absurd (show false = true from q) (by decide)⟩
        | true => exact hK0 _ _ ⟨rfl, _, _, _, _, rfl, he1, he2⟩
    · refine tg_go bX9_readsClause_15 ?_
      simp only [ti_aload, ti_getf, ti_push, List.getElem?_cons_zero, List.getElem?_cons_succ, true_and]
      refine g_icmp_ne (tgt := 26) dX9_readsClause_21 rfl (fun h21 => ?_) (fun h21 => ?_)
      · rw [fa_lit, lI_eq (by omega) (by omega)] at h21
        refine tg_go bX9_readsClause_26 ?_
        simp only [ti_aload, List.getElem?_cons_zero, List.getElem?_cons_succ, true_and]
        refine tg_cWv vX9_readsClause_27 (kX9_nextToken hL hbL) rfl rfl rfl rfl (Nat.le_of_ble_eq_true rfl) (Nat.le_of_ble_eq_true rfl) (Nat.le_of_ble_eq_true rfl) rfl ?_
        unfold wM
        have hno : ¬ (wdH tx f b = -1 ∨ (wdH tx f b = 2 ∧ N = 40)) := by
          first
          | exact fun q => q.elim h7 (fun q => h12 q.1)
          | exact fun q => q.elim h7 (fun q => h21 q.2)
        unfold clR clE at hK0
        rw [if_neg hno] at hK0
        refine tg_go bX9_readsClause_30 ?_
        simp only [ti_iload, List.getElem?_cons_zero, List.getElem?_cons_succ, true_and]
        refine g_if_ne (tgt := 41) dX9_readsClause_31 rfl (fun h31 => ?_) (fun h31 => ?_)
        · rw [if_neg h31, if_neg h31] at hK0
          refine tg_go bX9_readsClause_41 ?_
          simp only [ti_iload, ti_push, List.getElem?_cons_zero, List.getElem?_cons_succ, true_and]
          refine g_icmp_ne (tgt := 53) dX9_readsClause_43 rfl (fun h43 => ?_) (fun h43 => ?_)
          · rw [if_neg h43, if_neg h43] at hK0
            have hN40 : N < 40 := by
              rcases hw with q | q | q | q
              · exact absurd (Or.inl q) hno
              · exact absurd q h31
              · exact absurd q h43
              · have : ¬ N = 40 := fun z => hno (Or.inr ⟨q, z⟩)
                omega
            refine tg_go bX9_readsClause_53 ?_
            simp only [ti_aload, List.getElem?_cons_zero, List.getElem?_cons_succ, true_and]
            refine tg_cWe vX9_readsClause_54 (kX9_readsRow hL hb1.1 hb1.2.1 hv hN40 hr) rfl rfl rfl rfl (Nat.le_of_ble_eq_true rfl) (Nat.le_of_ble_eq_true rfl) (Nat.le_of_ble_eq_true rfl) (by rintro r w1 (⟨-, -, _, rfl⟩ | ⟨-, -, _, rfl⟩) <;> rfl) ?_
            rintro r w1 (⟨hn, rfl, nu1, rfl⟩ | ⟨hx, rfl, nu1, rfl⟩) <;> simp only [Option.toList_some, List.cons_append, List.nil_append]
            · generalize hR : rowQ tx L D (tkF tx L b) (tkB tx L (tkF tx L b)) rv = R at *
              obtain ⟨ok, f2, b2, c2, x2⟩ := R
              dsimp only at *
              refine g_zret dX9_readsClause_57 rfl (by first | exact Or.inl rfl | exact Or.inr rfl | assumption) ?_
              subst hn
              exact hK0 _ _ ⟨rfl, _, _, _, _, rfl, fun _ => ⟨rfl, rfl, rfl⟩, fun _ q => absurd (show false = true from q) (by decide)⟩
            · generalize hR : rowQ tx L D (tkF tx L b) (tkB tx L (tkF tx L b)) rv = R at *
              obtain ⟨ok, f2, b2, c2, x2⟩ := R
              dsimp only at *
              refine g_zret dX9_readsClause_57 rfl (by first | exact Or.inl rfl | exact Or.inr rfl | assumption) ?_
              subst hx
              exact hK0 _ _ ⟨rfl, _, _, _, _, rfl, fun q => ⟨rfl, rfl, by rw [q, if_neg (by decide)]⟩, fun q _ => ⟨rfl, rfl, by rw [q, if_pos rfl]⟩⟩
          · rw [if_pos h43, if_pos h43] at hK0
            refine tg_go bX9_readsClause_46 ?_
            simp only [ti_aload, List.getElem?_cons_zero, List.getElem?_cons_succ, true_and]
            refine tg_cWe vX9_readsClause_47 (kX9_readsSupport hL hb1.1 hb1.2.1) rfl rfl rfl rfl (Nat.le_of_ble_eq_true rfl) (Nat.le_of_ble_eq_true rfl) (Nat.le_of_ble_eq_true rfl) (by rintro r w1 (⟨-, -, rfl⟩ | ⟨x, -, -, rfl⟩) <;> rfl) ?_
            rintro r w1 (⟨hn, rfl, rfl⟩ | ⟨x, hx, rfl, rfl⟩) <;> simp only [Option.toList_some, List.cons_append, List.nil_append]
            · refine g_goto (tgt := 57) dX9_readsClause_50 rfl ?_
              refine g_zret dX9_readsClause_57 rfl (by first | exact Or.inl rfl | exact Or.inr rfl | assumption) ?_
              rw [hn] at hK0
              exact hK0 _ _ ⟨rfl, _, _, _, _, rfl, fun _ => ⟨rfl, rfl, rfl⟩, fun _ q => absurd (show false = true from q) (by decide)⟩
            · refine g_goto (tgt := 57) dX9_readsClause_50 rfl ?_
              refine g_zret dX9_readsClause_57 rfl (by first | exact Or.inl rfl | exact Or.inr rfl | assumption) ?_
              rw [hx] at hK0
              exact hK0 _ _ ⟨rfl, _, _, _, _, rfl, fun q => ⟨rfl, rfl, by rw [q, if_neg (by decide)]⟩, fun q _ => ⟨rfl, rfl, by rw [q, if_pos rfl]; rfl⟩⟩
        · rw [if_pos h31, if_pos h31] at hK0
          refine tg_go bX9_readsClause_34 ?_
          simp only [ti_aload, List.getElem?_cons_zero, List.getElem?_cons_succ, true_and]
          refine tg_cWe vX9_readsClause_35 (kX9_readsTable hL hb1.1 hb1.2.1) rfl rfl rfl rfl (Nat.le_of_ble_eq_true rfl) (Nat.le_of_ble_eq_true rfl) (Nat.le_of_ble_eq_true rfl) (by rintro r w1 ⟨-, _, _, _, _, rfl, -⟩; rfl) ?_
          rintro r w1 ⟨rfl, nu1, dm1, vals1, row1, rfl, he1, he2⟩
          simp only [Option.toList_some, List.cons_append, List.nil_append]
          generalize hR : tabR tx L 6 0 (tkF tx L b) (tkB tx L (tkF tx L b)) rv = R at hK0 he2 ⊢
          obtain ⟨ok, k1, f2, b2, rv2⟩ := R
          dsimp only at hK0 he2 ⊢
          refine g_goto (tgt := 57) dX9_readsClause_38 rfl ?_
          refine g_zret dX9_readsClause_57 rfl (bZ_01 _) ?_
          cases ok with
          | false => exact hK0 _ _ ⟨rfl, _, _, _, _, rfl, he1, fun _ q => absurd (show false = true from q) (by decide)⟩
          | true => exact hK0 _ _ ⟨rfl, _, _, _, _, rfl, he1, he2⟩
      · rw [fa_lit, lI_eq (by omega) (by omega)] at h21
        refine tg_go bX9_readsClause_24 ?_
        simp only [ti_push, List.getElem?_cons_zero, List.getElem?_cons_succ, true_and]
        refine g_zret dX9_readsClause_25 rfl (by first | exact Or.inl rfl | exact Or.inr rfl | assumption) ?_
        exact refuse (Or.inr ⟨h12, h21⟩)
end REFF
