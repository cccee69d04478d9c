/-! THE CLASS: Clauses -/
def wK (tx : Nat → Int32) (len ts tb dn : Int32) (td : Int32) (tv : Nat → Int32) (tn : Int32) (tc tm : Nat → Int32) (te : Int32) (nv : Nat → Int32) : List va_E := [.inr (1, [.ref 1, .ref 3, .int dn, .ref 7]), .inr (6, [.ref 2, .int len, .int ts, .int tb]), .inl (2, 200, .inl tx), .inr (5, [.int td, .ref 4, .int tn, .ref 5, .ref 6, .int te]), .inl (0, 4, .inl tv), .inl (0, 40, .inl tc), .inl (0, 40, .inl tm), .inl (0, 4, .inl nv)]
theorem nI_ne1 {x : Nat} (h : x < 2 ^ 31) : ¬ nI x = -1 := fun q => by
  have h1 := congrArg Int32.toInt q
  rw [nI_toInt h] at h1
  have : (-1 : Int32).toInt = -1 := by decide
  omega
/-- table: numbers, four at most -/
def tabC (tx : Nat → Int32) (L : Nat) : Nat → Nat → Nat → Nat → (Nat → Int32) → Nat × Nat × Nat × (Nat → Int32)
  | 0, k, f, b, nv => (k, f, b, nv)
  | m + 1, k, f, b, nv => match numR tx L f b 1 6 with
    | some x => tabC tx L m (k + 1) (tkF tx L b) (tkB tx L (tkF tx L b)) (upd nv k (nI x))
    | none => (k, f, b, nv)
theorem tabC_in {tx : Nat → Int32} {L : Nat} : ∀ (m k f b : Nat) (nv : Nat → Int32), f ≤ L → b = tkB tx L f → (tabC tx L m k f b nv).2.1 ≤ L ∧ (tabC tx L m k f b nv).2.2.1 = tkB tx L (tabC tx L m k f b nv).2.1 ∧ (tabC tx L m k f b nv).1 ≤ m + k
  | 0, k, f, b, nv, hf, hb => ⟨hf, hb, by simp [tabC]⟩
  | m + 1, k, f, b, nv, hf, hb => by
    rw [tabC]
    cases hx : numR tx L f b 1 6 with
    | none => exact ⟨hf, hb, by show k ≤ m + 1 + k; omega⟩
    | some x =>
      have h1 := tkB_in (tx := tx) hf
      rw [← hb] at h1
      have h2 := tkF_le (tx := tx) h1.2.1
      have h3 := tabC_in m (k + 1) (tkF tx L b) (tkB tx L (tkF tx L b)) (upd nv k (nI x)) h2 rfl
      exact ⟨h3.1, h3.2.1, by have := h3.2.2; simp only; omega⟩
theorem rowR_b {tx : Nat → Int32} {L : Nat} {rv : Nat → Int32} : ∀ (m k f b c : Nat), f ≤ L → b = tkB tx L f → (rowR tx L rv m k f b c).2.1 ≤ L ∧ (rowR tx L rv m k f b c).2.2.1 = tkB tx L (rowR tx L rv m k f b c).2.1
  | 0, k, f, b, c, hf, hb => ⟨hf, hb⟩
  | m + 1, k, f, b, c, hf, hb => by
    rw [rowR]
    cases hx : numR tx L f b 0 ((rv k).toInt.toNat - 1) with
    | none => exact ⟨hf, hb⟩
    | some x =>
      have h1 := tkB_in (tx := tx) hf
      rw [← hb] at h1
      exact rowR_b m (k + 1) (tkF tx L b) (tkB tx L (tkF tx L b)) _ (tkF_le (tx := tx) h1.2.1) rfl
section CLAUSES
variable {l : tg_Ln} {K : Option Value → List va_E → Prop} {tx tv tc tm nv : Nat → Int32} {len ts tb dn td tn te : Int32} {L f b n D : Nat}
theorem kX1_doSupport (hL : L ≤ 200) (hb : b ≤ L) : tg_Ct l mX1_doSupport 1000 [.ref 0] (wK tx (nI L) ts (nI b) dn td tv tn tc tm te nv) (fun r w => (numR tx L (tkF tx L b) (tkB tx L (tkF tx L b)) 1 9 = none ∧ r = some (.int 0) ∧ w = (wK tx (nI L) (nI (tkF tx L b)) (nI (tkB tx L (tkF tx L b))) dn td tv tn tc tm te nv)) ∨ ∃ x, numR tx L (tkF tx L b) (tkB tx L (tkF tx L b)) 1 9 = some x ∧ r = some (.int 1) ∧ w = (wK tx (nI L) (nI (tkF tx L (tkB tx L (tkF tx L b)))) (nI (tkB tx L (tkF tx L (tkB tx L (tkF tx L b))))) dn td tv tn tc tm (nI x) nv)) := by
  refine tg_gen (fun K0 hK0 => ?_)
  have hf := tkF_le (tx := tx) hb
  have hbb := tkB_in (tx := tx) hf
  show tg_G _ _ _ _ _ _ _ [.ref 0, .null] [] _
  unfold wK
  refine tg_go bX1_doSupport_0 ?_
  simp only [ti_aload, ti_getf, List.getElem?_cons_zero, List.getElem?_cons_succ, true_and]
  refine tg_cV [1, 2] vX1_doSupport_4 (kX7_toNextToken hL hb) rfl rfl rfl rfl rfl (Nat.le_of_ble_eq_true rfl) rfl (Nat.le_of_ble_eq_true rfl) (Nat.le_of_ble_eq_true rfl) (by rintro r w1 ⟨-, rfl⟩; rfl) ?_
  rintro r w1 ⟨rfl, rfl⟩
  simp only [Option.map_some, Option.map_none, Option.toList_some, Option.toList_none, List.cons_append, List.nil_append, tg_v]
  refine (show tg_G _ _ _ _ _ _ _ _ _ ((wK tx (nI L) (nI (tkF tx L b)) (nI (tkB tx L (tkF tx L b))) dn td tv tn tc tm te nv)) from ?_)
  unfold wK
  refine tg_go bX1_doSupport_7 ?_
  simp only [ti_aload, ti_getf, ti_push, List.getElem?_cons_zero, List.getElem?_cons_succ, true_and]
  refine tg_cV [1, 2] vX1_doSupport_14 (kX7_numberWithin (lo := 1) (hi := 9) hL rfl hf (by omega) (by omega)) rfl rfl rfl rfl rfl (Nat.le_of_ble_eq_true rfl) rfl (Nat.le_of_ble_eq_true rfl) (Nat.le_of_ble_eq_true rfl) (by rintro r w1 ⟨-, rfl⟩; rfl) ?_
  rintro r w1 ⟨rfl, rfl⟩
  simp only [Option.map_some, Option.map_none, Option.toList_some, Option.toList_none, List.cons_append, List.nil_append, tg_v]
  refine (show tg_G _ _ _ _ _ _ _ _ _ ((wK tx (nI L) (nI (tkF tx L b)) (nI (tkB tx L (tkF tx L b))) dn td tv tn tc tm te nv)) from ?_)
  rcases hx : numR tx L (tkF tx L b) (tkB tx L (tkF tx L b)) 1 9 with _ | x
  · simp only [oI]
    unfold wK
    refine tg_go bX1_doSupport_17 ?_
    simp only [ti_iload, ti_istore, ti_push, tg_s1, tg_cl, List.getElem?_cons_zero, List.getElem?_cons_succ, List.set_cons_zero, List.set_cons_succ, true_and]
    refine g_icmp_ne (tgt := 25) dX1_doSupport_20 rfl (fun h20 => ?_) (fun h20 => ?_)
    · exact absurd rfl h20
    · refine tg_go bX1_doSupport_23 ?_
      simp only [ti_push, List.getElem?_cons_zero, List.getElem?_cons_succ, true_and]
      refine g_zret dX1_doSupport_24 rfl (by first | exact Or.inl rfl | exact Or.inr rfl | assumption) ?_
      exact hK0 _ _ (Or.inl ⟨hx, rfl, rfl⟩)
  · simp only [oI]
    unfold wK
    refine tg_go bX1_doSupport_17 ?_
    simp only [ti_iload, ti_istore, ti_push, tg_s1, tg_cl, List.getElem?_cons_zero, List.getElem?_cons_succ, List.set_cons_zero, List.set_cons_succ, true_and]
    refine g_icmp_ne (tgt := 25) dX1_doSupport_20 rfl (fun h20 => ?_) (fun h20 => ?_)
    · refine tg_go bX1_doSupport_25 ?_
      simp only [ti_aload, ti_getf, ti_iload, ti_putfI, List.getElem?_cons_zero, List.getElem?_cons_succ, List.set_cons_zero, List.set_cons_succ, true_and]
      refine tg_cV [1, 2] vX1_doSupport_37 (kX7_toNextToken hL hbb.2.1) rfl rfl rfl rfl rfl (Nat.le_of_ble_eq_true rfl) rfl (Nat.le_of_ble_eq_true rfl) (Nat.le_of_ble_eq_true rfl) (by rintro r w1 ⟨-, rfl⟩; rfl) ?_
      rintro r w1 ⟨rfl, rfl⟩
      simp only [Option.map_some, Option.map_none, Option.toList_some, Option.toList_none, List.cons_append, List.nil_append, tg_v]
      refine (show tg_G _ _ _ _ _ _ _ _ _ ((wK tx (nI L) (nI (tkF tx L (tkB tx L (tkF tx L b)))) (nI (tkB tx L (tkF tx L (tkB tx L (tkF tx L b))))) dn td tv tn tc tm (nI x) nv)) from ?_)
      unfold wK
      refine tg_go bX1_doSupport_40 ?_
      simp only [ti_push, List.getElem?_cons_zero, List.getElem?_cons_succ, true_and]
      refine g_zret dX1_doSupport_41 rfl (by first | exact Or.inl rfl | exact Or.inr rfl | assumption) ?_
      exact hK0 _ _ (Or.inr ⟨x, hx, rfl, rfl⟩)
    · have := numR_in hx; exact absurd h20 (nI_ne1 (by omega))
theorem kX1_dT_l (hL : L ≤ 200) : ∀ (m k f b : Nat) (nv : Nat → Int32) (x2 : Value), m + k = 4 → f ≤ L → b = tkB tx L f → (∀ x2, tg_G l mX1_doTable 1000 K 0 0 53 [.ref 0, .int (nI (tabC tx L m k f b nv).1), x2] [] (wK tx (nI L) (nI (tabC tx L m k f b nv).2.1) (nI (tabC tx L m k f b nv).2.2.1) dn td tv tn tc tm te ((tabC tx L m k f b nv).2.2.2))) → tg_G l mX1_doTable 1000 K 0 0 9 [.ref 0, .int (nI k), x2] [] (wK tx (nI L) (nI f) (nI b) dn td tv tn tc tm te nv) := by
  intro m
  induction m with
  | zero =>
    intro k f b nv x2 hk hf hb h1
    obtain rfl : k = 4 := by omega
    have h1 := h1 x2
    unfold wK at h1 ⊢
    refine tg_go bX1_doTable_9 ?_
    simp only [ti_iload, ti_push, List.getElem?_cons_zero, List.getElem?_cons_succ, true_and]
    refine g_icmp_ge (tgt := 53) dX1_doTable_11 rfl (fun h11 => ?_) (fun h11 => ?_)
    · exact h1
    · exact absurd (by decide) h11
  | succ m ih =>
    intro k f b nv x2 hk hf hb h1
    have hbb := tkB_in (tx := tx) hf
    rw [← hb] at hbb
    rw [tabC] at h1
    unfold wK at ih h1 ⊢
    refine tg_go bX1_doTable_9 ?_
    simp only [ti_iload, ti_push, List.getElem?_cons_zero, List.getElem?_cons_succ, true_and]
    refine g_icmp_ge (tgt := 53) dX1_doTable_11 rfl (fun h11 => ?_) (fun h11 => ?_)
    · rw [fa_lit, lI_le (by omega) (by omega)] at h11; omega
    · refine tg_go bX1_doTable_14 ?_
      simp only [ti_aload, ti_getf, ti_push, List.getElem?_cons_zero, List.getElem?_cons_succ, true_and]
      refine tg_cV [1, 2] vX1_doTable_21 (kX7_numberWithin (lo := 1) (hi := 6) hL hb hf (by omega) (by omega)) rfl rfl rfl rfl rfl (Nat.le_of_ble_eq_true rfl) rfl (Nat.le_of_ble_eq_true rfl) (Nat.le_of_ble_eq_true rfl) (by rintro r w1 ⟨-, rfl⟩; rfl) ?_
      rintro r w1 ⟨rfl, rfl⟩
      simp only [Option.map_some, Option.map_none, Option.toList_some, Option.toList_none, List.cons_append, List.nil_append, tg_v]
      refine (show tg_G _ _ _ _ _ _ _ _ _ ((wK tx (nI L) (nI f) (nI b) dn td tv tn tc tm te nv)) from ?_)
      rcases hx : numR tx L f b 1 6 with _ | x
      · simp only [oI]
        rw [hx] at h1
        unfold wK
        refine tg_go bX1_doTable_24 ?_
        simp only [ti_iload, ti_istore, ti_push, tg_s1, tg_cl, List.getElem?_cons_zero, List.getElem?_cons_succ, List.set_cons_zero, List.set_cons_succ, true_and]
        refine g_icmp_ne (tgt := 33) dX1_doTable_27 rfl (fun h27 => ?_) (fun h27 => ?_)
        · exact absurd rfl h27
        · refine g_goto (tgt := 53) dX1_doTable_30 rfl ?_
          exact h1 _
      · simp only [oI]
        rw [hx] at h1
        unfold wK
        refine tg_go bX1_doTable_24 ?_
        simp only [ti_iload, ti_istore, ti_push, tg_s1, tg_cl, List.getElem?_cons_zero, List.getElem?_cons_succ, List.set_cons_zero, List.set_cons_succ, true_and]
        refine g_icmp_ne (tgt := 33) dX1_doTable_27 rfl (fun h27 => ?_) (fun h27 => ?_)
        · refine tg_go bX1_doTable_33 ?_
          simp only [ti_aload, ti_getf, ti_iast, ti_iinc, ti_iload, tg_s1, tg_cl, List.getElem?_cons_zero, List.getElem?_cons_succ, List.set_cons_zero, List.set_cons_succ, true_and]
          rw [nI_1, nI_clamp (by omega)]
          refine ⟨vp_in_nI (by omega) (by omega), ?_⟩
          refine tg_cV [1, 2] vX1_doTable_47 (kX7_toNextToken hL hbb.2.1) rfl rfl rfl rfl rfl (Nat.le_of_ble_eq_true rfl) rfl (Nat.le_of_ble_eq_true rfl) (Nat.le_of_ble_eq_true rfl) (by rintro r w1 ⟨-, rfl⟩; rfl) ?_
          rintro r w1 ⟨rfl, rfl⟩
          simp only [Option.map_some, Option.map_none, Option.toList_some, Option.toList_none, List.cons_append, List.nil_append, tg_v]
          refine (show tg_G _ _ _ _ _ _ _ _ _ ((wK tx (nI L) (nI (tkF tx L b)) (nI (tkB tx L (tkF tx L b))) dn td tv tn tc tm te (upd nv k (nI x)))) from ?_)
          unfold wK
          refine g_goto (tgt := 9) dX1_doTable_50 rfl ?_
          exact ih (k + 1) _ _ _ _ (by omega) (tkF_le (tx := tx) hbb.2.1) rfl h1
        · have := numR_in hx; exact absurd h27 (nI_ne1 (by omega))
theorem kX1_doTable (hL : L ≤ 200) (hb : b ≤ L) : tg_Ct l mX1_doTable 1000 [.ref 0] (wK tx (nI L) ts (nI b) dn td tv tn tc tm te nv) (fun r w => ∃ k f2 b2 nv2, tabC tx L 4 0 (tkF tx L b) (tkB tx L (tkF tx L b)) nv = (k, f2, b2, nv2) ∧ ((k = 0 ∧ r = some (.int 0) ∧ w = (wK tx (nI L) (nI f2) (nI b2) dn td tv tn tc tm te nv2)) ∨ (¬ k = 0 ∧ r = some (.int 1) ∧ w = (wK tx (nI L) (nI f2) (nI b2) dn (nI k) nv2 0 tc tm 1 nv2)))) := by
  refine tg_gen (fun K0 hK0 => ?_)
  have hf := tkF_le (tx := tx) hb
  have hbb := tkB_in (tx := tx) hf
  show tg_G _ _ _ _ _ _ _ [.ref 0, .null, .null] [] _
  unfold wK
  refine tg_go bX1_doTable_0 ?_
  simp only [ti_aload, ti_getf, List.getElem?_cons_zero, List.getElem?_cons_succ, true_and]
  refine tg_cV [1, 2] vX1_doTable_4 (kX7_toNextToken hL hb) rfl rfl rfl rfl rfl (Nat.le_of_ble_eq_true rfl) rfl (Nat.le_of_ble_eq_true rfl) (Nat.le_of_ble_eq_true rfl) (by rintro r w1 ⟨-, rfl⟩; rfl) ?_
  rintro r w1 ⟨rfl, rfl⟩
  simp only [Option.map_some, Option.map_none, Option.toList_some, Option.toList_none, List.cons_append, List.nil_append, tg_v]
  refine (show tg_G _ _ _ _ _ _ _ _ _ ((wK tx (nI L) (nI (tkF tx L b)) (nI (tkB tx L (tkF tx L b))) dn td tv tn tc tm te nv)) from ?_)
  unfold wK
  refine tg_go bX1_doTable_7 ?_
  simp only [ti_istore, ti_push, tg_s1, tg_cl, List.getElem?_cons_zero, List.getElem?_cons_succ, List.set_cons_zero, List.set_cons_succ, true_and]
  refine kX1_dT_l hL 4 0 _ _ _ _ rfl hf rfl (fun x2 => ?_)
  have hin := (tabC_in (tx := tx) 4 0 (tkF tx L b) (tkB tx L (tkF tx L b)) nv hf rfl).2.2
  generalize hT : tabC tx L 4 0 (tkF tx L b) (tkB tx L (tkF tx L b)) nv = T at hin hK0 ⊢
  obtain ⟨k, f2, b2, nv2⟩ := T
  simp only at hin ⊢
  unfold wK
  refine tg_go bX1_doTable_53 ?_
  simp only [ti_iload, List.getElem?_cons_zero, List.getElem?_cons_succ]
  refine g_if_ne (tgt := 59) dX1_doTable_54 rfl (fun h54 => ?_) (fun h54 => ?_)
  · refine tg_go bX1_doTable_59 ?_
    simp only [ti_aload, ti_getf, ti_iload, List.getElem?_cons_zero, List.getElem?_cons_succ, true_and]
    refine tg_cV [3, 4, 5, 6, 7] vX1_doTable_68 (kX6_startWith) rfl rfl rfl rfl rfl (Nat.le_of_ble_eq_true rfl) rfl (Nat.le_of_ble_eq_true rfl) (Nat.le_of_ble_eq_true rfl) (by rintro r w1 ⟨-, rfl⟩; rfl) ?_
    rintro r w1 ⟨rfl, rfl⟩
    simp only [Option.map_some, Option.map_none, Option.toList_some, Option.toList_none, List.cons_append, List.nil_append, tg_v]
    refine (show tg_G _ _ _ _ _ _ _ _ _ ((wK tx (nI L) (nI f2) (nI b2) dn (nI k) nv2 0 tc tm 1 nv2)) from ?_)
    refine tg_go bX1_doTable_71 ?_
    simp only [ti_push]
    refine g_zret dX1_doTable_72 rfl (Or.inr rfl) ?_
    exact hK0 _ _ ⟨k, f2, b2, nv2, rfl, Or.inr ⟨fun q => h54 (by rw [q]; rfl), rfl, rfl⟩⟩
  · refine tg_go bX1_doTable_57 ?_
    simp only [ti_push]
    refine g_zret dX1_doTable_58 rfl (Or.inl rfl) ?_
    refine hK0 _ _ ⟨k, f2, b2, nv2, rfl, Or.inl ⟨?_, rfl, rfl⟩⟩
    rw [fa_lit, lI_eq (by omega) (by omega)] at h54
    exact h54
theorem kX1_dR_l (hL : L ≤ 200) (hv : rvOK D tv) : ∀ (m k f b c : Nat) (x3 : Value), m + k = D → f ≤ L → b = tkB tx L f → ((rowR tx L tv m k f b c).1 = true → ∀ x3, tg_G l mX1_doRow 1000 K 0 0 71 [.ref 0, .int (nI (rowR tx L tv m k f b c).2.2.2), .int (nI D), x3] [] (wK tx (nI L) (nI (rowR tx L tv m k f b c).2.1) (nI (rowR tx L tv m k f b c).2.2.1) dn (nI D) tv tn tc tm te nv)) → ((rowR tx L tv m k f b c).1 = false → K (some (.int 0)) (wK tx (nI L) (nI (rowR tx L tv m k f b c).2.1) (nI (rowR tx L tv m k f b c).2.2.1) dn (nI D) tv tn tc tm te nv)) → tg_G l mX1_doRow 1000 K 0 0 11 [.ref 0, .int (nI c), .int (nI k), x3] [] (wK tx (nI L) (nI f) (nI b) dn (nI D) tv tn tc tm te nv) := by
  intro m
  induction m with
  | zero =>
    intro k f b c x3 hk hf hb h1 h2
    obtain rfl : k = D := by omega
    have hD := hv.1
    have h1 := h1 rfl x3
    unfold wK at h1 ⊢
    refine tg_go bX1_doRow_11 ?_
    simp only [ti_aload, ti_getf, ti_iload, List.getElem?_cons_zero, List.getElem?_cons_succ, true_and]
    refine g_icmp_ge (tgt := 71) dX1_doRow_19 rfl (fun h19 => ?_) (fun h19 => ?_)
    · exact h1
    · rw [lI_le (by omega) (by omega)] at h19; omega
  | succ m ih =>
    intro k f b c x3 hk hf hb h1 h2
    have hD := hv.1
    obtain ⟨x0, hx1, hx6, hxe⟩ := hv.2 k (by omega)
    have ex0 : (tv k).toInt.toNat = x0 := by rw [hxe, nI_toInt (by omega)]; omega
    have hbb := tkB_in (tx := tx) hf
    rw [← hb] at hbb
    rw [rowR, ex0] at h1 h2
    unfold wK at ih h1 h2 ⊢
    refine tg_go bX1_doRow_11 ?_
    simp only [ti_aload, ti_getf, ti_iload, List.getElem?_cons_zero, List.getElem?_cons_succ, true_and]
    refine g_icmp_ge (tgt := 71) dX1_doRow_19 rfl (fun h19 => ?_) (fun h19 => ?_)
    · rw [lI_le (by omega) (by omega)] at h19; omega
    · refine tg_go bX1_doRow_22 ?_
      simp only [ti_aload, ti_getf, ti_iald, ti_iload, ti_isub, ti_push, List.getElem?_cons_zero, List.getElem?_cons_succ, true_and]
      rw [nI_clamp (by omega), hxe, show nI x0 - 1 = nI (x0 - 1) from pk_sub (a := x0) (b := 1) hx1]
      refine ⟨vp_in_nI (by omega) (by omega), ?_⟩
      refine tg_cV [1, 2] vX1_doRow_38 (kX7_numberWithin (lo := 0) (hi := x0 - 1) hL hb hf (by omega) (by omega)) rfl rfl rfl rfl rfl (Nat.le_of_ble_eq_true rfl) rfl (Nat.le_of_ble_eq_true rfl) (Nat.le_of_ble_eq_true rfl) (by rintro r w1 ⟨-, rfl⟩; rfl) ?_
      rintro r w1 ⟨rfl, rfl⟩
      simp only [Option.map_some, Option.map_none, Option.toList_some, Option.toList_none, List.cons_append, List.nil_append, tg_v]
      refine (show tg_G _ _ _ _ _ _ _ _ _ ((wK tx (nI L) (nI f) (nI b) dn (nI D) tv tn tc tm te nv)) from ?_)
      rcases hx : numR tx L f b 0 (x0 - 1) with _ | x
      · simp only [oI]
        rw [hx] at h1 h2
        unfold wK
        refine tg_go bX1_doRow_41 ?_
        simp only [ti_iload, ti_istore, ti_push, tg_s1, tg_cl, List.getElem?_cons_zero, List.getElem?_cons_succ, List.set_cons_zero, List.set_cons_succ, true_and]
        refine g_icmp_ne (tgt := 49) dX1_doRow_44 rfl (fun h44 => ?_) (fun h44 => ?_)
        · exact absurd rfl h44
        · refine tg_go bX1_doRow_47 ?_
          simp only [ti_push, List.getElem?_cons_zero, List.getElem?_cons_succ, true_and]
          refine g_zret dX1_doRow_48 rfl (by first | exact Or.inl rfl | exact Or.inr rfl | assumption) ?_
          exact h2 rfl
      · simp only [oI]
        rw [hx] at h1 h2
        unfold wK
        refine tg_go bX1_doRow_41 ?_
        simp only [ti_iload, ti_istore, ti_push, tg_s1, tg_cl, List.getElem?_cons_zero, List.getElem?_cons_succ, List.set_cons_zero, List.set_cons_succ, true_and]
        refine g_icmp_ne (tgt := 49) dX1_doRow_44 rfl (fun h44 => ?_) (fun h44 => ?_)
        · refine tg_go bX1_doRow_49 ?_
          simp only [ti_aload, ti_getf, ti_iadd, ti_iload, ti_imul, ti_istore, ti_push, tg_s1, tg_cl, List.getElem?_cons_zero, List.getElem?_cons_succ, List.set_cons_zero, List.set_cons_succ, true_and]
          rw [show nI c * (7 : Int32) = nI (7 * c) from by rw [Int32.mul_comm]; exact pk_mul 7 _, nI_add, nI_1]
          refine tg_cV [1, 2] vX1_doRow_62 (kX7_toNextToken hL hbb.2.1) rfl rfl rfl rfl rfl (Nat.le_of_ble_eq_true rfl) rfl (Nat.le_of_ble_eq_true rfl) (Nat.le_of_ble_eq_true rfl) (by rintro r w1 ⟨-, rfl⟩; rfl) ?_
          rintro r w1 ⟨rfl, rfl⟩
          simp only [Option.map_some, Option.map_none, Option.toList_some, Option.toList_none, List.cons_append, List.nil_append, tg_v]
          refine (show tg_G _ _ _ _ _ _ _ _ _ ((wK tx (nI L) (nI (tkF tx L b)) (nI (tkB tx L (tkF tx L b))) dn (nI D) tv tn tc tm te nv)) from ?_)
          unfold wK
          refine tg_go bX1_doRow_65 ?_
          simp only [ti_iinc, tg_s1, tg_cl, List.getElem?_cons_zero, List.getElem?_cons_succ, List.set_cons_zero, List.set_cons_succ, true_and]
          rw [nI_1]
          refine g_goto (tgt := 11) dX1_doRow_68 rfl ?_
          exact ih (k + 1) _ _ _ _ (by omega) (tkF_le (tx := tx) hbb.2.1) rfl h1 h2
        · have := numR_in hx; exact absurd h44 (nI_ne1 (by omega))
theorem kX1_doRow (hL : L ≤ 200) (hb : b ≤ L) (hv : rvOK D tv) (hn : n < 40) : tg_Ct l mX1_doRow 1000 [.ref 0] (wK tx (nI L) ts (nI b) dn (nI D) tv (nI n) tc tm te nv) (fun r w => ∃ ok f2 b2 c x, rowQ tx L D (tkF tx L b) (tkB tx L (tkF tx L b)) tv = (ok, f2, b2, c, x) ∧ ((ok = false ∧ r = some (.int 0) ∧ w = (wK tx (nI L) (nI f2) (nI b2) dn (nI D) tv (nI n) tc tm te nv)) ∨ (ok = true ∧ r = some (.int 1) ∧ w = (wK tx (nI L) (nI f2) (nI b2) dn (nI D) tv (nI (n + 1)) (tIns tc n n (nI c)) (tIns tm n n (nI x)) te nv)))) := by
  refine tg_gen (fun K0 hK0 => ?_)
  have hf := tkF_le (tx := tx) hb
  have hbb := tkB_in (tx := tx) hf
  show tg_G _ _ _ _ _ _ _ [.ref 0, .null, .null, .null] [] _
  unfold wK
  refine tg_go bX1_doRow_0 ?_
  simp only [ti_aload, ti_getf, List.getElem?_cons_zero, List.getElem?_cons_succ, true_and]
  refine tg_cV [1, 2] vX1_doRow_4 (kX7_toNextToken hL hb) rfl rfl rfl rfl rfl (Nat.le_of_ble_eq_true rfl) rfl (Nat.le_of_ble_eq_true rfl) (Nat.le_of_ble_eq_true rfl) (by rintro r w1 ⟨-, rfl⟩; rfl) ?_
  rintro r w1 ⟨rfl, rfl⟩
  simp only [Option.map_some, Option.map_none, Option.toList_some, Option.toList_none, List.cons_append, List.nil_append, tg_v]
  refine (show tg_G _ _ _ _ _ _ _ _ _ ((wK tx (nI L) (nI (tkF tx L b)) (nI (tkB tx L (tkF tx L b))) dn (nI D) tv (nI n) tc tm te nv)) from ?_)
  unfold wK
  refine tg_go bX1_doRow_7 ?_
  simp only [ti_istore, ti_push, tg_s1, tg_cl, List.getElem?_cons_zero, List.getElem?_cons_succ, List.set_cons_zero, List.set_cons_succ, true_and]
  unfold rowQ at hK0
  have hin := rowR_b (tx := tx) (rv := tv) D 0 (tkF tx L b) (tkB tx L (tkF tx L b)) 0 hf rfl
  refine kX1_dR_l hL hv D 0 _ _ 0 _ rfl hf rfl (fun hok x3 => ?_) (fun hok => ?_)
  · generalize hR : rowR tx L tv D 0 (tkF tx L b) (tkB tx L (tkF tx L b)) 0 = R at hin hK0 hok ⊢
    obtain ⟨ok, f1, b1, c⟩ := R
    simp only at hin hok hK0 ⊢
    obtain ⟨hf1, rfl⟩ := hin
    subst hok
    simp only at hK0
    have hb1 := tkB_in (tx := tx) hf1
    unfold wK
    refine tg_go bX1_doRow_71 ?_
    simp only [ti_aload, ti_getf, ti_push, List.getElem?_cons_zero, List.getElem?_cons_succ, true_and]
    refine tg_cV [1, 2] vX1_doRow_78 (kX7_numberWithin (lo := 0) (hi := 99) hL rfl hf1 (by omega) (by omega)) rfl rfl rfl rfl rfl (Nat.le_of_ble_eq_true rfl) rfl (Nat.le_of_ble_eq_true rfl) (Nat.le_of_ble_eq_true rfl) (by rintro r w1 ⟨-, rfl⟩; rfl) ?_
    rintro r w1 ⟨rfl, rfl⟩
    simp only [Option.map_some, Option.map_none, Option.toList_some, Option.toList_none, List.cons_append, List.nil_append, tg_v]
    refine (show tg_G _ _ _ _ _ _ _ _ _ ((wK tx (nI L) (nI f1) (nI (tkB tx L f1)) dn (nI D) tv (nI n) tc tm te nv)) from ?_)
    unfold wK
    refine tg_go bX1_doRow_81 ?_
    simp only [ti_istore, ti_iload, ti_push, tg_s1, tg_cl, List.getElem?_cons_zero, List.getElem?_cons_succ, List.set_cons_zero, List.set_cons_succ]
    rcases hx : numR tx L f1 (tkB tx L f1) 0 99 with _ | x
    · simp only [oI]
      rw [hx] at hK0
      refine g_icmp_ne (tgt := 89) dX1_doRow_84 rfl (fun h => absurd rfl h) (fun _ => ?_)
      refine tg_go bX1_doRow_87 ?_
      simp only [ti_push]
      refine g_zret dX1_doRow_88 rfl (Or.inl rfl) ?_
      exact hK0 _ _ ⟨_, _, _, _, _, rfl, Or.inl ⟨rfl, rfl, rfl⟩⟩
    · simp only [oI]
      rw [hx] at hK0
      have hx99 := numR_in hx
      refine g_icmp_ne (tgt := 89) dX1_doRow_84 rfl (fun _ => ?_) (fun h => absurd h (nI_ne1 (by omega)))
      refine tg_go bX1_doRow_89 ?_
      simp only [ti_aload, ti_getf, ti_iload, List.getElem?_cons_zero, List.getElem?_cons_succ, true_and]
      refine tg_cV [3, 4, 5, 6] vX1_doRow_102 (kX6_insert hn (Nat.le_refl n)) rfl rfl rfl rfl rfl (Nat.le_of_ble_eq_true rfl) rfl (Nat.le_of_ble_eq_true rfl) (Nat.le_of_ble_eq_true rfl) (by rintro r w1 ⟨-, rfl⟩; rfl) ?_
      rintro r w1 ⟨rfl, rfl⟩
      simp only [Option.map_some, Option.map_none, Option.toList_some, Option.toList_none, List.cons_append, List.nil_append, tg_v]
      refine (show tg_G _ _ _ _ _ _ _ _ _ ((wK tx (nI L) (nI f1) (nI (tkB tx L f1)) dn (nI D) tv (nI (n + 1)) (tIns tc n n (nI c)) (tIns tm n n (nI x)) te nv)) from ?_)
      unfold wK
      refine tg_go bX1_doRow_105 ?_
      simp only [ti_aload, ti_getf, List.getElem?_cons_zero, List.getElem?_cons_succ, true_and]
      refine tg_cV [1, 2] vX1_doRow_109 (kX7_toNextToken hL hb1.2.1) rfl rfl rfl rfl rfl (Nat.le_of_ble_eq_true rfl) rfl (Nat.le_of_ble_eq_true rfl) (Nat.le_of_ble_eq_true rfl) (by rintro r w1 ⟨-, rfl⟩; rfl) ?_
      rintro r w1 ⟨rfl, rfl⟩
      simp only [Option.map_some, Option.map_none, Option.toList_some, Option.toList_none, List.cons_append, List.nil_append, tg_v]
      refine (show tg_G _ _ _ _ _ _ _ _ _ ((wK tx (nI L) (nI (tkF tx L (tkB tx L f1))) (nI (tkB tx L (tkF tx L (tkB tx L f1)))) dn (nI D) tv (nI (n + 1)) (tIns tc n n (nI c)) (tIns tm n n (nI x)) te nv)) from ?_)
      refine tg_go bX1_doRow_112 ?_
      simp only [ti_push]
      refine g_zret dX1_doRow_113 rfl (Or.inr rfl) ?_
      exact hK0 _ _ ⟨_, _, _, _, _, rfl, Or.inr ⟨rfl, rfl, rfl⟩⟩
  · generalize hR : rowR tx L tv D 0 (tkF tx L b) (tkB tx L (tkF tx L b)) 0 = R at hin hK0 hok ⊢
    obtain ⟨ok, f1, b1, c⟩ := R
    simp only at hin hok hK0 ⊢
    subst hok
    exact hK0 _ _ ⟨_, _, _, _, _, rfl, Or.inl ⟨rfl, rfl, rfl⟩⟩
end CLAUSES
