/-! THE REFERENCE: clauses and texts -/
/-- table: from k numbers on -/
def tabR (tx : Nat → Int32) (L : Nat) : Nat → Nat → Nat → Nat → (Nat → Int32) → Bool × Nat × Nat × Nat × (Nat → Int32)
  | 0, k, f, b, rv => (false, k, f, b, rv)
  | m + 1, k, f, b, rv => if k = 0 ∨ endB tx L f = false then (if k < 4 then (match numR tx L f b 1 6 with
    | some x => tabR tx L m (k + 1) (tkF tx L b) (tkB tx L (tkF tx L b)) (upd rv k (nI x))
    | none => (false, k, f, b, rv)) else (false, k, f, b, rv)) else (true, k, f, b, rv)
/-- row: m values yet, from the k-th on -/
def rowR (tx : Nat → Int32) (L : Nat) (rv : Nat → Int32) : Nat → Nat → Nat → Nat → Nat → Bool × Nat × Nat × Nat
  | 0, _, f, b, c => (true, f, b, c)
  | m + 1, k, f, b, c => match numR tx L f b 0 ((rv k).toInt.toNat - 1) with
    | some x => rowR tx L rv m (k + 1) (tkF tx L b) (tkB tx L (tkF tx L b)) (7 * c + x + 1)
    | none => (false, f, b, c)
def vLo (vals rv : Nat → Int32) (n q : Nat) : Nat → Int32 := fun j => if j < q then (if j < n then rv j else 0) else vals j
theorem vLo_step {vals rv : Nat → Int32} {n q : Nat} : upd (vLo vals rv n q) q (if q < n then rv q else 0) = vLo vals rv n (q + 1) := by
  funext j
  unfold upd vLo
  by_cases h : j = q
  · subst h
    rw [if_pos rfl, if_pos (show j < j + 1 by omega)]
  · rw [if_neg h]
    by_cases h2 : j < q
    · rw [if_pos h2, if_pos (show j < q + 1 by omega)]
    · rw [if_neg h2, if_neg (show ¬ j < q + 1 by omega)]
theorem vLo_0 {vals rv : Nat → Int32} {n : Nat} : vLo vals rv n 0 = vals := by
  funext j
  unfold vLo
  rw [if_neg (by omega)]
theorem tabR_in {tx : Nat → Int32} {L : Nat} : ∀ (m k f b : Nat) (rv : Nat → Int32), f ≤ b → b ≤ L → k ≤ 4 → (∀ j, j < k → ∃ x, 1 ≤ x ∧ x ≤ 6 ∧ rv j = nI x) → (tabR tx L m k f b rv).2.2.1 ≤ (tabR tx L m k f b rv).2.2.2.1 ∧ (tabR tx L m k f b rv).2.2.2.1 ≤ L ∧ (tabR tx L m k f b rv).2.1 ≤ 4 ∧ (∀ j, j < (tabR tx L m k f b rv).2.1 → ∃ x, 1 ≤ x ∧ x ≤ 6 ∧ (tabR tx L m k f b rv).2.2.2.2 j = nI x)
  | 0, k, f, b, rv, h1, h2, h3, h4 => ⟨h1, h2, h3, h4⟩
  | m + 1, k, f, b, rv, h1, h2, h3, h4 => by
    rw [tabR]
    split
    · split
      · split
        · rename_i x hx
          have hn := numR_in hx
          have hf := tkF_le (tx := tx) h2
          have hb := tkB_in (tx := tx) hf
          refine tabR_in m (k + 1) _ _ _ hb.1 hb.2.1 (by omega) (fun j hj => ?_)
          by_cases e : j = k
          · rw [e, pk_us]
            exact ⟨x, hn.1, hn.2.1, rfl⟩
          · rw [pk_un e]
            exact h4 j (by omega)
        · exact ⟨h1, h2, h3, h4⟩
      · exact ⟨h1, h2, h3, h4⟩
    · exact ⟨h1, h2, h3, h4⟩
theorem rowR_in {tx : Nat → Int32} {L : Nat} {rv : Nat → Int32} : ∀ (m k f b c : Nat), f ≤ b → b ≤ L → (rowR tx L rv m k f b c).2.1 ≤ (rowR tx L rv m k f b c).2.2.1 ∧ (rowR tx L rv m k f b c).2.2.1 ≤ L
  | 0, k, f, b, c, h1, h2 => ⟨h1, h2⟩
  | m + 1, k, f, b, c, h1, h2 => by
    rw [rowR]
    split
    · have hf := tkF_le (tx := tx) h2
      have hb := tkB_in (tx := tx) hf
      exact rowR_in m (k + 1) _ _ _ hb.1 hb.2.1
    · exact ⟨h1, h2⟩
theorem tg_gen {l : tg_Ln} {M : tg_M} {n0 : Nat} {args : List Value} {w : List va_E} {K : Option Value → List va_E → Prop} (h : ∀ K0 : Option Value → List va_E → Prop, (∀ r w, K r w → K0 r w) → tg_Ct l M n0 args w K0) : tg_Ct l M n0 args w K := h K (fun _ _ h => h)
section REFE
variable {l : tg_Ln} {K : Option Value → List va_E → Prop} {row vals kp tx sz ct bm : Nat → Int32} {dm un len rM cl my su le gr cz vi ov : Int32} {it : Nat → Int64} {ask : Int64} {L : Nat}
theorem kX9_rT_1 {rD dg : Int32} {x3 : Value} (hL : L ≤ 200) : ∀ (m k f b : Nat) (rv : Nat → Int32) (nu : Int32), k ≤ 4 → 6 ≤ m + k → f ≤ b → b ≤ L → (∀ nu, tg_G l mX9_readsTable 1000 K 0 0 60 [.ref 0, .int (nI (tabR tx L m k f b rv).2.1), .int (bZ (tabR tx L m k f b rv).1), x3] [] (wM row dm vals un kp tx (nI L) sz it ask (nI (tabR tx L m k f b rv).2.2.1) (nI (tabR tx L m k f b rv).2.2.2.1) rD rM cl dg nu my su le gr cz vi ov ((tabR tx L m k f b rv).2.2.2.2) ct bm)) → tg_G l mX9_readsTable 1000 K 0 0 4 [.ref 0, .int (nI k), .int 1, x3] [] (wM row dm vals un kp tx (nI L) sz it ask (nI f) (nI b) rD rM cl dg nu my su le gr cz vi ov rv ct bm) := by
  intro m
  induction m with
  | zero => intro k f b rv nu h1 h2; omega
  | succ m ih =>
    intro k f b rv nu h1 h2 h3 h4 hK
    rw [tabR] at hK
    unfold wM at ih hK ⊢
    have fail : (if k = 0 ∨ endB tx L f = false then (if k < 4 then (match numR tx L f b 1 6 with
      | some x => tabR tx L m (k + 1) (tkF tx L b) (tkB tx L (tkF tx L b)) (upd rv k (nI x))
      | none => (false, k, f, b, rv)) else (false, k, f, b, rv)) else (true, k, f, b, rv)) = (false, k, f, b, rv) → tg_G l mX9_readsTable 1000 K 0 0 38 [.ref 0, .int (nI k), .int 1, x3] [] (wM row dm vals un kp tx (nI L) sz it ask (nI f) (nI b) rD rM cl dg nu my su le gr cz vi ov rv ct bm) := by
      intro e
      rw [e] at hK
      unfold wM
      refine tg_go bX9_readsTable_38 ?_
      simp only [ti_push, List.getElem?_cons_zero, List.getElem?_cons_succ, true_and]
      refine tg_go bX9_readsTable_39 ?_
      simp only [ti_iload, ti_istore, tg_s1, tg_cl, List.getElem?_cons_zero, List.getElem?_cons_succ, List.set_cons_zero, List.set_cons_succ, true_and]
      refine g_if_eq (tgt := 4) dX9_readsTable_41 rfl (fun h41 => ?_) (fun h41 => ?_)
      · refine tg_go bX9_readsTable_4 ?_
        simp only [ti_iload, List.getElem?_cons_zero, List.getElem?_cons_succ]
        exact g_if_eq (tgt := 60) dX9_readsTable_5 rfl (fun _ => hK _) (fun q => absurd rfl q)
      · exact absurd rfl h41
    unfold wM at fail
    have main : (k = 0 ∨ endB tx L f = false) → tg_G l mX9_readsTable 1000 K 0 0 19 [.ref 0, .int (nI k), .int 1, x3] [] (wM row dm vals un kp tx (nI L) sz it ask (nI f) (nI b) rD rM cl dg nu my su le gr cz vi ov rv ct bm) := by
      intro hc
      rw [if_pos hc] at fail hK
      unfold wM
      refine tg_go bX9_readsTable_19 ?_
      simp only [ti_iload, ti_push, List.getElem?_cons_zero, List.getElem?_cons_succ, true_and]
      refine g_icmp_ge (tgt := 38) dX9_readsTable_21 rfl (fun h21 => ?_) (fun h21 => ?_)
      · rw [fa_lit, lI_le (by omega) (by omega)] at h21
        exact fail (by rw [if_neg (by omega)])
      · rw [fa_lit, lI_le (by omega) (by omega)] at h21
        rw [if_pos (show k < 4 by omega)] at fail hK
        refine tg_go bX9_readsTable_24 ?_
        simp only [ti_aload, ti_push, List.getElem?_cons_zero, List.getElem?_cons_succ, true_and]
        refine tg_cWe vX9_readsTable_28 (kX9_readsNumber (lo := 1) (hi := 6) hL h3 h4 (by omega) (by omega)) rfl rfl rfl rfl (Nat.le_of_ble_eq_true rfl) (Nat.le_of_ble_eq_true rfl) (Nat.le_of_ble_eq_true rfl) (by rintro r w1 (⟨-, -, rfl⟩ | ⟨x, -, -, rfl⟩) <;> rfl) ?_
        rintro r w1 (⟨hn, rfl, rfl⟩ | ⟨x, hx, rfl, rfl⟩) <;> simp only [Option.toList_some, List.cons_append, List.nil_append]
        · unfold wM
          refine g_if_eq (tgt := 38) dX9_readsTable_31 rfl (fun h31 => ?_) (fun h31 => ?_)
          · exact fail (by rw [hn])
          · exact absurd rfl h31
        · unfold wM
          rw [hx] at hK
          have hf := tkF_le (tx := tx) h4
          have hb := tkB_in (tx := tx) hf
          refine g_if_eq (tgt := 38) dX9_readsTable_31 rfl (fun h31 => ?_) (fun h31 => ?_)
          · exact absurd h31 (by decide)
          · refine tg_go bX9_readsTable_34 ?_
            simp only [ti_push, List.getElem?_cons_zero, List.getElem?_cons_succ, true_and]
            refine g_goto (tgt := 39) dX9_readsTable_35 rfl ?_
            refine tg_go bX9_readsTable_39 ?_
            simp only [ti_iload, ti_istore, tg_s1, tg_cl, List.getElem?_cons_zero, List.getElem?_cons_succ, List.set_cons_zero, List.set_cons_succ, true_and]
            refine g_if_eq (tgt := 4) dX9_readsTable_41 rfl (fun h41 => ?_) (fun h41 => ?_)
            · exact absurd h41 (by decide)
            · refine tg_go bX9_readsTable_44 ?_
              simp only [ti_aload, ti_getf, ti_iast, ti_iinc, ti_iload, tg_s1, tg_cl, List.getElem?_cons_zero, List.getElem?_cons_succ, List.set_cons_zero, List.set_cons_succ, true_and]
              rw [nI_1, nI_clamp (by omega)]
              refine ⟨vp_in_nI (by omega) (by omega), ?_⟩
              refine g_goto (tgt := 4) dX9_readsTable_57 rfl ?_
              exact ih (k + 1) _ _ _ _ (by omega) (by omega) hb.1 hb.2.1 hK
    unfold wM at main
    refine tg_go bX9_readsTable_4 ?_
    simp only [ti_iload, List.getElem?_cons_zero, List.getElem?_cons_succ, true_and]
    refine g_if_eq (tgt := 60) dX9_readsTable_5 rfl (fun h5 => ?_) (fun h5 => ?_)
    · exact absurd h5 (by decide)
    · refine tg_go bX9_readsTable_8 ?_
      simp only [ti_iload, List.getElem?_cons_zero, List.getElem?_cons_succ, true_and]
      refine g_if_eq (tgt := 19) dX9_readsTable_9 rfl (fun h9 => ?_) (fun h9 => ?_)
      · rw [fa_lit, lI_eq (by omega) (by omega)] at h9
        exact main (Or.inl h9)
      · rw [fa_lit, lI_eq (by omega) (by omega)] at h9
        refine tg_go bX9_readsTable_12 ?_
        simp only [ti_aload, List.getElem?_cons_zero, List.getElem?_cons_succ, true_and]
        refine tg_cW vX9_readsTable_13 (kX9_isEnd hL (show f ≤ L by omega)) rfl rfl rfl rfl (Nat.le_of_ble_eq_true rfl) (Nat.le_of_ble_eq_true rfl) (Nat.le_of_ble_eq_true rfl) rfl ?_
        unfold wM
        refine g_if_ne (tgt := 60) dX9_readsTable_16 rfl (fun h16 => ?_) (fun h16 => ?_)
        · have h6 := bZ_n h16
          rw [if_neg (fun q => q.elim h9 (fun q => by rw [h6] at q; exact absurd q (by decide)))] at hK
          exact hK _
        · have h6 := bZ_0 h16
          exact main (Or.inr h6)
theorem kX9_rT_2 {fi be dg nu rD : Int32} {rv : Nat → Int32} {n : Nat} {x2 : Int32} (hn : n ≤ 4) (hK : tg_G l mX9_readsTable 1000 K 0 0 120 [.ref 0, .int (nI n), .int x2, .int (nI 4)] [] (wM row dm (vLo vals rv n 4) un kp tx len sz it ask fi be rD rM cl dg nu my su le gr cz vi ov rv ct bm)) : ∀ (m q : Nat), 4 - q < m → q ≤ 4 → tg_G l mX9_readsTable 1000 K 0 0 88 [.ref 0, .int (nI n), .int x2, .int (nI q)] [] (wM row dm (vLo vals rv n q) un kp tx len sz it ask fi be rD rM cl dg nu my su le gr cz vi ov rv ct bm) := by
  intro m
  induction m with
  | zero => intro q h; omega
  | succ m ih =>
    intro q hm hq
    unfold wM at ih hK ⊢
    refine tg_go bX9_readsTable_88 ?_
    simp only [ti_iload, ti_push, List.getElem?_cons_zero, List.getElem?_cons_succ, true_and]
    refine g_icmp_ge (tgt := 120) dX9_readsTable_90 rfl (fun h90 => ?_) (fun h90 => ?_)
    · rw [fa_lit, lI_le (by omega) (by omega)] at h90
      obtain rfl : q = 4 := by omega
      exact hK
    · rw [fa_lit, lI_le (by omega) (by omega)] at h90
      refine tg_go bX9_readsTable_93 ?_
      simp only [ti_aload, ti_getf, ti_iload, List.getElem?_cons_zero, List.getElem?_cons_succ, true_and]
      refine g_cut2 113 (fun z => z = if q < n then rv q else 0) (fun J113 => ?_) (fun z hz => ?_)
      · refine g_icmp_ge (tgt := 112) dX9_readsTable_100 rfl (fun h100 => ?_) (fun h100 => ?_)
        · rw [lI_le (by omega) (by omega)] at h100
          refine tg_go bX9_readsTable_112 ?_
          simp only [ti_push, List.getElem?_cons_zero, List.getElem?_cons_succ, true_and]
          exact J113 _ (by rw [if_neg (by omega)])
        · rw [lI_le (by omega) (by omega)] at h100
          refine tg_go bX9_readsTable_103 ?_
          simp only [ti_aload, ti_getf, ti_iald, ti_iload, List.getElem?_cons_zero, List.getElem?_cons_succ, true_and]
          rw [nI_clamp (by omega)]
          refine ⟨vp_in_nI (by omega) (by omega), ?_⟩
          refine g_goto (tgt := 113) dX9_readsTable_109 rfl ?_
          exact J113 _ (by rw [if_pos (by omega)])
      subst hz
      refine tg_go bX9_readsTable_113 ?_
      simp only [ti_iast, ti_iinc, tg_s1, tg_cl, List.getElem?_cons_zero, List.getElem?_cons_succ, List.set_cons_zero, List.set_cons_succ, true_and]
      rw [nI_1, nI_clamp (by omega), vLo_step]
      refine ⟨vp_in_nI (by omega) (by omega), ?_⟩
      refine g_goto (tgt := 88) dX9_readsTable_117 rfl ?_
      exact ih (q + 1) (by omega) (by omega)
/-- readsTable(): dg: whether it does what it reads -/
theorem kX9_readsTable {D N f b : Nat} {rv : Nat → Int32} {g : Bool} {nu : Int32} (hL : L ≤ 200) (hb : f ≤ b) (hbL : b ≤ L) : tg_Ct l mX9_readsTable 1000 [.ref 0] (wM row dm vals un kp tx (nI L) sz it ask (nI f) (nI b) (nI D) (nI N) cl (bZ g) nu my su le gr cz vi ov rv ct bm) (fun r w => r = some (.int (bZ (tabR tx L 6 0 f b rv).1)) ∧ ∃ nu dm1 vals1 row1, w = (wM row1 dm1 vals1 un kp tx (nI L) sz it ask (nI (tabR tx L 6 0 f b rv).2.2.1) (nI (tabR tx L 6 0 f b rv).2.2.2.1) (nI (if (tabR tx L 6 0 f b rv).1 = true then (tabR tx L 6 0 f b rv).2.1 else D)) (nI (if (tabR tx L 6 0 f b rv).1 = true then 0 else N)) cl (bZ g) nu my su le gr cz vi ov ((tabR tx L 6 0 f b rv).2.2.2.2) ct bm) ∧ (g = false → dm1 = dm ∧ vals1 = vals ∧ row1 = row) ∧ (g = true → (tabR tx L 6 0 f b rv).1 = true → dm1 = nI (tabR tx L 6 0 f b rv).2.1 ∧ vals1 = vLo vals (tabR tx L 6 0 f b rv).2.2.2.2 (tabR tx L 6 0 f b rv).2.1 4 ∧ row1 = upd (upd row 0 0) 1 1)) := by
  have hin := tabR_in (tx := tx) (L := L) 6 0 f b rv hb hbL (by omega) (fun j hj => by omega)
  refine tg_gen (fun K0 hK0 => ?_)
  show tg_G _ _ _ _ _ _ _ [.ref 0, .null, .null, .null] [] _
  unfold wM
  refine tg_go bX9_readsTable_0 ?_
  simp only [ti_istore, ti_push, tg_s1, tg_cl, List.getElem?_cons_zero, List.getElem?_cons_succ, List.set_cons_zero, List.set_cons_succ, true_and]
  refine kX9_rT_1 hL 6 0 f b rv nu (by omega) (by omega) hb hbL (fun nu1 => ?_)
  generalize hR : tabR tx L 6 0 f b rv = R at hin hK0 ⊢
  obtain ⟨ok, k1, f1, b1, rv1⟩ := R
  dsimp only at hin hK0 ⊢
  cases ok with
  | false =>
    unfold wM
    refine tg_go bX9_readsTable_60 ?_
    simp only [ti_iload, List.getElem?_cons_zero, List.getElem?_cons_succ]
    refine g_if_eq (tgt := 134) dX9_readsTable_61 rfl (fun _ => ?_) (fun q => absurd rfl q)
    refine tg_go bX9_readsTable_134 ?_
    simp only [ti_iload, List.getElem?_cons_zero, List.getElem?_cons_succ]
    exact g_zret dX9_readsTable_135 rfl (Or.inl rfl) (hK0 _ _ ⟨rfl, nu1, dm, vals, row, rfl, fun _ => ⟨rfl, rfl, rfl⟩, fun _ q => absurd q (by decide)⟩)
  | true =>
    unfold wM
    refine tg_go bX9_readsTable_60 ?_
    simp only [ti_iload, List.getElem?_cons_zero, List.getElem?_cons_succ]
    refine g_if_eq (tgt := 134) dX9_readsTable_61 rfl (fun q => absurd q (by decide)) (fun _ => ?_)
    refine tg_go bX9_readsTable_64 ?_
    simp only [ti_aload, ti_iload, ti_push, ti_getf, ti_putfI, List.getElem?_cons_zero, List.getElem?_cons_succ, List.set_cons_zero, List.set_cons_succ, true_and]
    cases g with
    | false =>
      refine g_if_eq (tgt := 134) dX9_readsTable_78 rfl (fun _ => ?_) (fun q => absurd rfl q)
      refine tg_go bX9_readsTable_134 ?_
      simp only [ti_iload, List.getElem?_cons_zero, List.getElem?_cons_succ]
      exact g_zret dX9_readsTable_135 rfl (Or.inr rfl) (hK0 _ _ ⟨rfl, nu1, dm, vals, row, rfl, fun _ => ⟨rfl, rfl, rfl⟩, fun q => absurd q (by decide)⟩)
    | true =>
      refine g_if_eq (tgt := 134) dX9_readsTable_78 rfl (fun q => absurd q (by decide)) (fun _ => ?_)
      refine tg_go bX9_readsTable_81 ?_
      simp only [ti_aload, ti_iload, ti_push, ti_putfI, ti_istore, tg_s1, tg_cl, List.getElem?_cons_zero, List.getElem?_cons_succ, List.set_cons_zero, List.set_cons_succ, true_and]
      have h := kX9_rT_2 (l := l) (K := K0) (row := row) (vals := vals) (un := un) (kp := kp) (tx := tx) (len := nI L) (sz := sz) (it := it) (ask := ask) (fi := nI f1) (be := nI b1) (rD := nI k1) (rM := nI 0) (cl := cl) (dg := bZ true) (nu := nu1) (my := my) (su := su) (le := le) (gr := gr) (cz := cz) (vi := vi) (ov := ov) (rv := rv1) (ct := ct) (bm := bm) (dm := nI k1) (n := k1) (x2 := bZ true) hin.2.2.1 (by
        unfold wM
        refine tg_go bX9_readsTable_120 ?_
        simp only [ti_aload, ti_iload, ti_push, ti_getf, ti_iast, List.getElem?_cons_zero, List.getElem?_cons_succ, List.set_cons_zero, List.set_cons_succ, true_and]
        rw [sb_cl0, show (1 : Int32).toNatClampNeg = 1 by decide]
        refine ⟨vp_in_nI (n := 0) (by decide) (by decide), vp_in_nI (n := 1) (by decide) (by decide), ?_⟩
        refine tg_go bX9_readsTable_134 ?_
        simp only [ti_iload, List.getElem?_cons_zero, List.getElem?_cons_succ]
        exact g_zret dX9_readsTable_135 rfl (Or.inr rfl) (hK0 _ _ ⟨rfl, nu1, _, _, _, rfl, fun q => absurd q (by decide), fun _ _ => ⟨rfl, rfl, rfl⟩⟩)) 5 0 (by omega) (by omega)
      rw [vLo_0] at h
      exact h
end REFE
