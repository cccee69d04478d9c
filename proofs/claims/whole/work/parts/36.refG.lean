/-! THE REFERENCE: the whole text -/
/-- what an array holds beyond its end is nothing -/
theorem tg_arr {l : tg_Ln} {M : tg_M} {n0 : Nat} {K : Option Value → List va_E → Prop} {kc ks pc : Nat} {lv st : List Value} {w : List va_E} (p : Nat) {t n : Nat} {f : Nat → Int32} (f' : Nat → Int32) (hp : w[p]? = some (.inl (t, n, .inl f))) (he : ∀ j, j < n → f j = f' j) (h : tg_G l M n0 K kc ks pc lv st (w.set p (.inl (t, n, .inl f')))) : tg_G l M n0 K kc ks pc lv st w := by
  intro p0 e s m args below meth c D cA A ad H locs ls Qc C a1 a2 hK hA hE hQ hP hD hS hL
  have hw : (tg_w cA ad 0 w)[p]? = some (ad p, .inl (cA t, n, .inl f)) := tg_w_at hp
  have hcell : vp_cell (cA t) (n, .inl f) = vp_cell (cA t) (n, .inl f') := by
    rw [vp_cell_i, vp_cell_i]
    unfold arrV
    congr 2
    funext j
    show Value.int (f j.val) = Value.int (f' j.val)
    rw [he j.val j.isLt]
  have hP2 : va_P D vwCl (tg_w cA ad 0 (w.set p (.inl (t, n, .inl f')))) H := by
    rw [tg_w_set0]
    refine hP.set hD hw ?_ (fun q _ => rfl)
    have h0 : H[ad p]? = some (vp_cell (cA t) (n, .inl f)) := hP p _ hw
    show H[ad p]? = some (vp_cell (cA t) (n, .inl f'))
    rw [← hcell]
    exact h0
  have hD2 : va_D A (tg_w cA ad 0 (w.set p (.inl (t, n, .inl f')))) := by
    rw [tg_w_set0]
    exact hD.set hw
  exact h p0 e s m args below meth c D cA A ad H locs ls Qc C a1 a2 hK hA hE hQ hP2 hD2 hS hL
theorem rowQ_in {tx : Nat → Int32} {L D f b : Nat} {rv : Nat → Int32} (hb : f ≤ b) (hbL : b ≤ L) : (rowQ tx L D f b rv).2.1 ≤ (rowQ tx L D f b rv).2.2.1 ∧ (rowQ tx L D f b rv).2.2.1 ≤ L := by
  have h := rowR_in (tx := tx) (L := L) (rv := rv) D 0 f b 0 hb hbL
  unfold rowQ
  generalize rowR tx L rv D 0 f b 0 = R at h ⊢
  obtain ⟨ok, f1, b1, c⟩ := R
  cases ok with
  | false => exact h
  | true =>
    dsimp only at h ⊢
    split
    · have hf := tkF_le (tx := tx) h.2
      have hb1 := tkB_in (tx := tx) hf
      exact ⟨hb1.1, hb1.2.1⟩
    · exact h
theorem tabR_pos {tx : Nat → Int32} {L : Nat} : ∀ (m k f b : Nat) (rv : Nat → Int32), (tabR tx L m k f b rv).1 = true → 1 ≤ (tabR tx L m k f b rv).2.1
  | 0, k, f, b, rv, h => absurd (show false = true from h) (by decide)
  | m + 1, k, f, b, rv, h => by
    rw [tabR] at h ⊢
    split at h
    · rename_i hc
      rw [if_pos hc]
      split at h
      · rename_i h4
        rw [if_pos h4]
        split at h
        · rename_i x hx
          exact tabR_pos m (k + 1) _ _ _ h
        · exact absurd (show false = true from h) (by decide)
      · exact absurd (show false = true from h) (by decide)
    · rename_i hc
      rw [if_neg hc]
      show 1 ≤ k
      rcases Nat.eq_zero_or_pos k with q | q
      · exact absurd (Or.inl q) hc
      · exact q
theorem clR_in {tx : Nat → Int32} {L f b D N : Nat} {rv : Nat → Int32} (hb : f ≤ b) (hbL : b ≤ L) (hv : rvOK D rv) (hN : N ≤ 40) : (clR tx L f b D N rv).2.1 ≤ (clR tx L f b D N rv).2.2.1 ∧ (clR tx L f b D N rv).2.2.1 ≤ L ∧ (clR tx L f b D N rv).2.2.2.2.2 ≤ 40 ∧ ((clR tx L f b D N rv).1 = true → rvOK (clR tx L f b D N rv).2.2.2.1 (clR tx L f b D N rv).2.2.2.2.1 ∧ (1 ≤ D → 1 ≤ (clR tx L f b D N rv).2.2.2.1)) := by
  have hf1 := tkF_le (tx := tx) hbL
  have hb1 := tkB_in (tx := tx) hf1
  unfold clR
  split
  · exact ⟨hb, hbL, hN, fun q => absurd (show false = true from q) (by decide)⟩
  · rename_i hno
    split
    · have h := tabR_in (tx := tx) (L := L) 6 0 (tkF tx L b) (tkB tx L (tkF tx L b)) rv hb1.1 hb1.2.1 (by omega) (fun j hj => by omega)
      have hp := tabR_pos (tx := tx) (L := L) 6 0 (tkF tx L b) (tkB tx L (tkF tx L b)) rv
      generalize tabR tx L 6 0 (tkF tx L b) (tkB tx L (tkF tx L b)) rv = R at h hp ⊢
      obtain ⟨ok, k, f2, b2, rv2⟩ := R
      cases ok with
      | false => exact ⟨h.1, h.2.1, hN, fun q => absurd (show false = true from q) (by decide)⟩
      | true => exact ⟨h.1, h.2.1, (show (0 : Nat) ≤ 40 by decide), fun _ => ⟨⟨h.2.2.1, h.2.2.2⟩, fun _ => hp rfl⟩⟩
    · split
      · split
        · have hf2 := tkF_le (tx := tx) hb1.2.1
          have hb2 := tkB_in (tx := tx) hf2
          exact ⟨hb2.1, hb2.2.1, hN, fun _ => ⟨hv, fun q => q⟩⟩
        · exact ⟨hb1.1, hb1.2.1, hN, fun q => absurd (show false = true from q) (by decide)⟩
      · rename_i n0 n1
        have hw := wdH_in tx f b
        have hN40 : N < 40 := by
          rcases hw with q | q | q | q
          · exact absurd (Or.inl q) hno
          · exact absurd q n0
          · exact absurd q n1
          · have : ¬ N = 40 := fun z => hno (Or.inr ⟨q, z⟩)
            omega
        have h := rowQ_in (tx := tx) (L := L) (D := D) (rv := rv) hb1.1 hb1.2.1
        generalize rowQ tx L D (tkF tx L b) (tkB tx L (tkF tx L b)) rv = R at h ⊢
        obtain ⟨ok, f2, b2, c, x⟩ := R
        cases ok with
        | false => exact ⟨h.1, h.2, hN, fun q => absurd (show false = true from q) (by decide)⟩
        | true => exact ⟨h.1, h.2, by show N + 1 ≤ 40; omega, fun _ => ⟨hv, fun q => q⟩⟩
theorem clE_0 {tx : Nat → Int32} {L f b D N : Nat} {rv : Nat → Int32} {dm : Int32} {vals row : Nat → Int32} (h : (clR tx L f b D N rv).1 = true) (hr : row 0 = nI N) : (clE tx L f b D N rv dm vals row).2.2 0 = nI (clR tx L f b D N rv).2.2.2.2.2 := by
  unfold clR at h ⊢
  unfold clE
  split at h
  · exact absurd (show false = true from h) (by decide)
  · rename_i hno
    rw [if_neg hno]
    split at h
    · rename_i h0
      rw [if_pos h0, if_pos h0]
      generalize tabR tx L 6 0 (tkF tx L b) (tkB tx L (tkF tx L b)) rv = R at h ⊢
      obtain ⟨ok, k, f2, b2, rv2⟩ := R
      cases ok with
      | false => exact absurd (show false = true from h) (by decide)
      | true =>
        show upd (upd row 0 0) 1 1 0 = nI 0
        rw [pk_un (by omega), pk_us]
        rfl
    · rename_i h0
      rw [if_neg h0, if_neg h0]
      split at h
      · rename_i h1
        rw [if_pos h1, if_pos h1]
        generalize numR tx L (tkF tx L b) (tkB tx L (tkF tx L b)) 1 9 = R at h ⊢
        cases R with
        | none => exact absurd (show false = true from h) (by decide)
        | some x =>
          show upd row 1 (nI x) 0 = nI N
          rw [pk_un (by omega)]
          exact hr
      · rename_i h1
        rw [if_neg h1, if_neg h1]
        generalize rowQ tx L D (tkF tx L b) (tkB tx L (tkF tx L b)) rv = R at h ⊢
        obtain ⟨ok, f2, b2, c, x⟩ := R
        cases ok with
        | false => exact absurd (show false = true from h) (by decide)
        | true =>
          show rPut row 0 N (nI c) (nI x) 0 = nI (N + 1)
          unfold rPut
          rw [pk_us]
/-- on from a clause: whether all are such; how many; places behind .. -/
def rdR (tx : Nat → Int32) (L : Nat) : Nat → Nat → Bool × Nat × Nat × Nat × (Nat → Int32) × Nat → (Bool × Nat × Nat × Nat × (Nat → Int32) × Nat) × Nat
  | 0, q, R => (R, q)
  | m + 1, q, R => if R.1 = true ∧ R.2.1 < L then (if q < 24 ∧ tx R.2.1 = 59 then rdR tx L m (q + 1) (clR tx L (tkF tx L R.2.2.1) (tkB tx L (tkF tx L R.2.2.1)) R.2.2.2.1 R.2.2.2.2.2 R.2.2.2.2.1) else ((false, R.2), q)) else (R, q)
def rdE (tx : Nat → Int32) (L : Nat) : Nat → Nat → Bool × Nat × Nat × Nat × (Nat → Int32) × Nat → Int32 × (Nat → Int32) × (Nat → Int32) → Int32 × (Nat → Int32) × (Nat → Int32)
  | 0, _, _, E => E
  | m + 1, q, R, E => if R.1 = true ∧ R.2.1 < L then (if q < 24 ∧ tx R.2.1 = 59 then rdE tx L m (q + 1) (clR tx L (tkF tx L R.2.2.1) (tkB tx L (tkF tx L R.2.2.1)) R.2.2.2.1 R.2.2.2.2.2 R.2.2.2.2.1) (clE tx L (tkF tx L R.2.2.1) (tkB tx L (tkF tx L R.2.2.1)) R.2.2.2.1 R.2.2.2.2.2 R.2.2.2.2.1 E.1 E.2.1 E.2.2) else E) else E
def rvC (vals rv : Nat → Int32) (q : Nat) : Nat → Int32 := fun j => if j < q then vals j else rv j
theorem rvC_step {vals rv : Nat → Int32} {q : Nat} : upd (rvC vals rv q) q (vals q) = rvC vals rv (q + 1) := by
  funext j
  unfold upd rvC
  by_cases h : j = q
  · subst h
    rw [if_pos rfl, if_pos (show j < j + 1 by omega)]
  · rw [if_neg h]
    by_cases h2 : j < q
    · rw [if_pos h2, if_pos (show j < q + 1 by omega)]
    · rw [if_neg h2, if_neg (show ¬ j < q + 1 by omega)]
theorem rvC_0 {vals rv : Nat → Int32} : rvC vals rv 0 = rv := by
  funext j
  unfold rvC
  rw [if_neg (by omega)]
section REFG
variable {l : tg_Ln} {K : Option Value → List va_E → Prop} {kp tx sz ct bm : Nat → Int32} {un len my su le gr cz vi ov : Int32} {it : Nat → Int64} {ask : Int64} {L : Nat}
theorem kX9_reads_2 {g : Bool} {x1 : Int32} (hL : L ≤ 200) (f0 b0 D0 N0 : Nat) (rv0 : Nat → Int32) (ok0 : Bool) (q0 : Nat) (E0 : Int32 × (Nat → Int32) × (Nat → Int32)) (dmI : Int32) (valsI rowI : Nat → Int32) (hK : ∀ nu dm vals row, (g = false → dm = dmI ∧ vals = valsI ∧ row = rowI) → (g = true → ok0 = true → dm = E0.1 ∧ vals = E0.2.1 ∧ row = E0.2.2) → ∀ b D N rv, (ok0 = true → b = b0 ∧ D = D0 ∧ N = N0 ∧ rv = rv0) → K (some (.int (bZ ok0))) (wM row dm vals un kp tx (nI L) sz it ask (nI f0) (nI b) (nI D) (nI N) (nI q0) (bZ g) nu my su le gr cz vi ov rv ct bm)) : ∀ (m q : Nat) (ok : Bool) (f b D N : Nat) (rv : Nat → Int32) (nu dm : Int32) (vals row : Nat → Int32), 25 ≤ m + q → 1 ≤ q → q ≤ 24 → f ≤ b → b ≤ L → N ≤ 40 → (ok = true → rvOK D rv) → rdR tx L m q (ok, f, b, D, rv, N) = ((ok0, f0, b0, D0, rv0, N0), q0) → (g = false → dm = dmI ∧ vals = valsI ∧ row = rowI) → (g = true → ok = true → row 0 = nI N) → (g = true → ok0 = true → ok = true → rdE tx L m q (ok, f, b, D, rv, N) (dm, vals, row) = E0) → tg_G l mX9_reads 1000 K 0 0 67 [.ref 0, .int x1, .int (bZ ok)] [] (wM row dm vals un kp tx (nI L) sz it ask (nI f) (nI b) (nI D) (nI N) (nI q) (bZ g) nu my su le gr cz vi ov rv ct bm) := by
  intro m
  induction m with
  | zero => intro q ok f b D N rv nu dm vals row h1 h2 h3; omega
  | succ m ih =>
    intro q ok f b D N rv nu dm vals row h1 h2 h3 h4 h5 h6 h7 hR hg0 hr0 hE
    rw [rdR] at hR
    unfold wM at ih hK ⊢
    refine tg_go bX9_reads_67 ?_
    simp only [ti_iload, List.getElem?_cons_zero, List.getElem?_cons_succ, true_and]
    refine g_if_eq (tgt := 137) dX9_reads_68 rfl (fun h68 => ?_) (fun h68 => ?_)
    · have hok := bZ_0 h68
      rw [hok] at hR
      rw [if_neg (fun z => absurd (show false = true from z.1) (by decide))] at hR
      simp only [Prod.mk.injEq] at hR
      obtain ⟨⟨e1, e2, e3, e4, e5, e6⟩, e7⟩ := hR
      subst hok
      refine tg_go bX9_reads_137 ?_
      simp only [ti_iload, List.getElem?_cons_zero, List.getElem?_cons_succ, true_and]
      refine g_zret dX9_reads_138 rfl (bZ_01 _) ?_
      subst e2 e7
      rw [e1]
      exact hK _ _ _ _ hg0 (fun _ q => by rw [← e1] at q; exact absurd q (by decide)) _ _ _ _ (fun q => by rw [← e1] at q; exact absurd q (by decide))
    · have hok := bZ_n h68
      subst hok
      refine tg_go bX9_reads_71 ?_
      simp only [ti_aload, ti_getf, List.getElem?_cons_zero, List.getElem?_cons_succ, true_and]
      refine g_icmp_ge (tgt := 137) dX9_reads_79 rfl (fun h79 => ?_) (fun h79 => ?_)
      · rw [lI_le (by omega) (by omega)] at h79
        rw [if_neg (fun z => absurd z.2 (by show ¬ f < L; omega))] at hR
        simp only [Prod.mk.injEq] at hR
        obtain ⟨⟨e1, e2, e3, e4, e5, e6⟩, e7⟩ := hR
        refine tg_go bX9_reads_137 ?_
        simp only [ti_iload, List.getElem?_cons_zero, List.getElem?_cons_succ, true_and]
        refine g_zret dX9_reads_138 rfl (bZ_01 _) ?_
        subst e2 e7
        rw [e1]
        refine hK _ _ _ _ hg0 (fun z1 z2 => ?_) _ _ _ _ (fun _ => ⟨e3, e4, e6, e5⟩)
        have h9 := hE z1 z2 rfl
        rw [rdE, if_neg (fun z => absurd z.2 (by show ¬ f < L; omega))] at h9
        rw [← h9]
        exact ⟨rfl, rfl, rfl⟩
      · rw [lI_le (by omega) (by omega)] at h79
        rw [if_pos ⟨rfl, by show f < L; omega⟩] at hR
        dsimp only at hR
        have fail : ¬ (q < 24 ∧ tx f = 59) → tg_G l mX9_reads 1000 K 0 0 109 [.ref 0, .int x1, .int (bZ true)] [] (wM row dm vals un kp tx (nI L) sz it ask (nI f) (nI b) (nI D) (nI N) (nI q) (bZ g) nu my su le gr cz vi ov rv ct bm) := by
          intro hc
          rw [if_neg hc] at hR
          simp only [Prod.mk.injEq] at hR
          obtain ⟨⟨e1, e2, e3, e4, e5, e6⟩, e7⟩ := hR
          unfold wM
          refine tg_go bX9_reads_109 ?_
          simp only [ti_push, List.getElem?_cons_zero, List.getElem?_cons_succ]
          refine tg_go bX9_reads_110 ?_
          simp only [ti_istore, ti_iload, tg_s1, tg_cl, List.getElem?_cons_zero, List.getElem?_cons_succ, List.set_cons_zero, List.set_cons_succ]
          refine g_if_eq (tgt := 67) dX9_reads_112 rfl (fun _ => ?_) (fun q => absurd rfl q)
          refine tg_go bX9_reads_67 ?_
          simp only [ti_iload, List.getElem?_cons_zero, List.getElem?_cons_succ]
          refine g_if_eq (tgt := 137) dX9_reads_68 rfl (fun _ => ?_) (fun q => absurd rfl q)
          refine tg_go bX9_reads_137 ?_
          simp only [ti_iload, List.getElem?_cons_zero, List.getElem?_cons_succ]
          refine g_zret dX9_reads_138 rfl (Or.inl rfl) ?_
          subst e2 e7
          have h9 := hK nu dm vals row hg0 (fun _ q => by rw [← e1] at q; exact absurd q (by decide)) b D N rv (fun q => by rw [← e1] at q; exact absurd q (by decide))
          rw [← e1] at h9
          exact h9
        unfold wM at fail
        refine tg_go bX9_reads_82 ?_
        simp only [ti_aload, ti_getf, ti_push, List.getElem?_cons_zero, List.getElem?_cons_succ, true_and]
        refine g_icmp_ge (tgt := 109) dX9_reads_88 rfl (fun h88 => ?_) (fun h88 => ?_)
        · rw [fa_lit, lI_le (by omega) (by omega)] at h88
          exact fail (fun z => absurd z.1 (by omega))
        · rw [fa_lit, lI_le (by omega) (by omega)] at h88
          refine tg_go bX9_reads_91 ?_
          simp only [ti_aload, ti_getf, ti_iald, ti_push, List.getElem?_cons_zero, List.getElem?_cons_succ, true_and]
          rw [nI_clamp (by omega)]
          refine ⟨vp_in_nI (by omega) (by omega), ?_⟩
          refine g_icmp_ne (tgt := 109) dX9_reads_102 rfl (fun h102 => ?_) (fun h102 => ?_)
          · exact fail (fun z => h102 z.2)
          · have hc : q < 24 ∧ tx f = 59 := ⟨by omega, h102⟩
            rw [if_pos hc] at hR
            have hf1 := tkF_le (tx := tx) h5
            have hb1 := tkB_in (tx := tx) hf1
            have hin := clR_in (tx := tx) (L := L) (rv := rv) hb1.1 hb1.2.1 (h7 rfl) h6
            have hz := clE_0 (tx := tx) (L := L) (f := tkF tx L b) (b := tkB tx L (tkF tx L b)) (D := D) (N := N) (rv := rv) (dm := dm) (vals := vals) (row := row)
            refine tg_go bX9_reads_105 ?_
            simp only [ti_push, List.getElem?_cons_zero, List.getElem?_cons_succ, true_and]
            refine g_goto (tgt := 110) dX9_reads_106 rfl ?_
            refine tg_go bX9_reads_110 ?_
            simp only [ti_iload, ti_istore, tg_s1, tg_cl, List.getElem?_cons_zero, List.getElem?_cons_succ, List.set_cons_zero, List.set_cons_succ, true_and]
            refine g_if_eq (tgt := 67) dX9_reads_112 rfl (fun h112 => ?_) (fun h112 => ?_)
            · exact absurd h112 (by decide)
            · refine tg_go bX9_reads_115 ?_
              simp only [ti_aload, List.getElem?_cons_zero, List.getElem?_cons_succ, true_and]
              refine tg_cWv vX9_reads_116 (kX9_nextToken hL h5) rfl rfl rfl rfl (Nat.le_of_ble_eq_true rfl) (Nat.le_of_ble_eq_true rfl) (Nat.le_of_ble_eq_true rfl) rfl ?_
              unfold wM
              refine tg_go bX9_reads_119 ?_
              simp only [ti_aload, List.getElem?_cons_zero, List.getElem?_cons_succ, true_and]
              refine tg_cWe vX9_reads_120 (kX9_readsClause hL hb1.1 hb1.2.1 (h7 rfl) h6 (fun z => hr0 z rfl)) rfl rfl rfl rfl (Nat.le_of_ble_eq_true rfl) (Nat.le_of_ble_eq_true rfl) (Nat.le_of_ble_eq_true rfl) (by rintro r w1 ⟨-, _, _, _, _, rfl, -⟩; rfl) ?_
              rintro r w1 ⟨rfl, nu1, dm1, vals1, row1, rfl, he1, he2⟩
              simp only [Option.toList_some, List.cons_append, List.nil_append]
              unfold wM
              refine tg_go bX9_reads_123 ?_
              simp only [ti_aload, ti_dup, ti_getf, ti_iadd, ti_istore, ti_push, ti_putfI, tg_s1, tg_cl, Value.category, List.getElem?_cons_zero, List.getElem?_cons_succ, List.set_cons_zero, List.set_cons_succ, true_and]
              rw [nI_1]
              refine g_goto (tgt := 67) dX9_reads_134 rfl ?_
              refine ih (q + 1) _ _ _ _ _ _ _ _ _ _ (by omega) (by omega) (by omega) hin.1 hin.2.1 hin.2.2.1 (fun z => (hin.2.2.2 z).1) hR (fun z => ?_) (fun z1 z2 => ?_) (fun z1 z2 z3 => ?_)
              · obtain ⟨a1, a2, a3⟩ := he1 z
                rw [a1, a2, a3]
                exact hg0 z
              · rw [(he2 z1 z2).2.2]
                exact hz z2 (hr0 z1 rfl)
              · have h9 := hE z1 z2 rfl
                rw [rdE, if_pos ⟨rfl, by show f < L; omega⟩, if_pos hc] at h9
                obtain ⟨a1, a2, a3⟩ := he2 z1 z3
                rw [a1, a2, a3]
                exact h9
theorem kX9_reads_1 {fi cl dg nu rM rD dm be : Int32} {row vals rv : Nat → Int32} {x1 : Int32} (hK : tg_G l mX9_reads 1000 K 0 0 48 [.ref 0, .int x1, .int (nI 4)] [] (wM row dm vals un kp tx len sz it ask fi be rD rM cl dg nu my su le gr cz vi ov (rvC vals rv 4) ct bm)) : ∀ (m q : Nat), 4 - q < m → q ≤ 4 → tg_G l mX9_reads 1000 K 0 0 25 [.ref 0, .int x1, .int (nI q)] [] (wM row dm vals un kp tx len sz it ask fi be rD rM cl dg nu my su le gr cz vi ov (rvC vals rv q) ct bm) := by
  intro m
  induction m with
  | zero => intro q h; omega
  | succ m ih =>
    intro q hm hq
    unfold wM at ih hK ⊢
    refine tg_go bX9_reads_25 ?_
    simp only [ti_iload, ti_push, List.getElem?_cons_zero, List.getElem?_cons_succ, true_and]
    refine g_icmp_ge (tgt := 48) dX9_reads_27 rfl (fun h27 => ?_) (fun h27 => ?_)
    · rw [fa_lit, lI_le (by omega) (by omega)] at h27
      obtain rfl : q = 4 := by omega
      exact hK
    · rw [fa_lit, lI_le (by omega) (by omega)] at h27
      refine tg_go bX9_reads_30 ?_
      simp only [ti_aload, ti_getf, ti_iald, ti_iast, ti_iinc, ti_iload, tg_s1, tg_cl, List.getElem?_cons_zero, List.getElem?_cons_succ, List.set_cons_zero, List.set_cons_succ, true_and]
      rw [nI_1, nI_clamp (by omega), rvC_step]
      refine ⟨vp_in_nI (by omega) (by omega), vp_in_nI (by omega) (by omega), ?_⟩
      refine g_goto (tgt := 25) dX9_reads_45 rfl ?_
      exact ih (q + 1) (by omega) (by omega)
/-- the whole text, from a table of d dimensions with the values vals and n entries -/
def txR (tx : Nat → Int32) (L d n : Nat) (rv : Nat → Int32) : (Bool × Nat × Nat × Nat × (Nat → Int32) × Nat) × Nat := rdR tx L 24 1 (clR tx L (tkF tx L 0) (tkB tx L (tkF tx L 0)) d n rv)
def txE (tx : Nat → Int32) (L d n : Nat) (rv : Nat → Int32) (dm : Int32) (vals row : Nat → Int32) : Int32 × (Nat → Int32) × (Nat → Int32) := rdE tx L 24 1 (clR tx L (tkF tx L 0) (tkB tx L (tkF tx L 0)) d n rv) (clE tx L (tkF tx L 0) (tkB tx L (tkF tx L 0)) d n rv dm vals row)
theorem kX9_reads {g : Bool} {d n : Nat} {fi cl dg nu rM rD be : Int32} {row vals rv : Nat → Int32} (hL : L ≤ 200) (hv : rvOK d vals) (hn : n ≤ 40) (hr : row 0 = nI n) : tg_Ct l mX9_reads 1000 [.ref 0, .int (bZ g)] (wM row (nI d) vals un kp tx (nI L) sz it ask fi be rD rM cl dg nu my su le gr cz vi ov rv ct bm) (fun r w => r = some (.int (bZ (txR tx L d n vals).1.1)) ∧ ∃ nu dm1 vals1 row1 b D N rv1, w = (wM row1 dm1 vals1 un kp tx (nI L) sz it ask (nI (txR tx L d n vals).1.2.1) (nI b) (nI D) (nI N) (nI (txR tx L d n vals).2) (bZ g) nu my su le gr cz vi ov rv1 ct bm) ∧ (g = false → dm1 = nI d ∧ vals1 = vals ∧ row1 = row) ∧ (g = true → (txR tx L d n vals).1.1 = true → dm1 = (txE tx L d n vals (nI d) vals row).1 ∧ vals1 = (txE tx L d n vals (nI d) vals row).2.1 ∧ row1 = (txE tx L d n vals (nI d) vals row).2.2)) := by
  refine tg_gen (fun K0 hK0 => ?_)
  have hv4 := hv
  have hf1 := tkF_le (tx := tx) (Nat.zero_le L)
  have hb1 := tkB_in (tx := tx) hf1
  have hin := clR_in (tx := tx) (L := L) (N := n) hb1.1 hb1.2.1 hv4 hn
  have hz := clE_0 (tx := tx) (L := L) (f := tkF tx L 0) (b := tkB tx L (tkF tx L 0)) (D := d) (N := n) (rv := vals) (dm := nI d) (vals := vals) (row := row)
  unfold txR txE at hK0
  show tg_G _ _ _ _ _ _ _ [.ref 0, .int (bZ g), .null] [] _
  unfold wM
  refine tg_go bX9_reads_0 ?_
  simp only [ti_aload, ti_getf, ti_iload, ti_istore, ti_push, ti_putfI, ti_putfZ, tg_s1, tg_cl, List.getElem?_cons_zero, List.getElem?_cons_succ, List.set_cons_zero, List.set_cons_succ, true_and]
  refine ⟨bZ_01 _, ?_⟩
  have h := kX9_reads_1 (l := l) (K := K0) (row := row) (vals := vals) (un := un) (kp := kp) (tx := tx) (len := nI L) (sz := sz) (it := it) (ask := ask) (fi := fi) (be := 0) (rD := nI d) (rM := rM) (cl := 1) (dg := bZ g) (nu := nu) (my := my) (su := su) (le := le) (gr := gr) (cz := cz) (vi := vi) (ov := ov) (rv := rv) (ct := ct) (bm := bm) (dm := nI d) (x1 := bZ g) ?_ 5 0 (by omega) (by omega)
  · rw [rvC_0] at h
    exact h
  unfold wM
  refine tg_arr 7 vals rfl (fun j hj => by unfold rvC; rw [if_pos hj]) ?_
  simp only [List.set_cons_zero, List.set_cons_succ]
  refine tg_go bX9_reads_48 ?_
  simp only [ti_aload, ti_getf, ti_push, ti_iald, ti_putfI, List.getElem?_cons_zero, List.getElem?_cons_succ, List.set_cons_zero, List.set_cons_succ, true_and]
  rw [sb_cl0, hr]
  refine ⟨vp_in_nI (n := 0) (by decide) (by decide), ?_⟩
  refine tg_cWv vX9_reads_59 (kX9_nextToken (b := 0) hL (Nat.zero_le L)) rfl rfl rfl rfl (Nat.le_of_ble_eq_true rfl) (Nat.le_of_ble_eq_true rfl) (Nat.le_of_ble_eq_true rfl) rfl ?_
  unfold wM
  refine tg_go bX9_reads_62 ?_
  simp only [ti_aload, List.getElem?_cons_zero, List.getElem?_cons_succ]
  refine tg_cWe vX9_reads_63 (kX9_readsClause (g := g) hL hb1.1 hb1.2.1 hv4 hn (fun _ => hr)) rfl rfl rfl rfl (Nat.le_of_ble_eq_true rfl) (Nat.le_of_ble_eq_true rfl) (Nat.le_of_ble_eq_true rfl) (by rintro r w1 ⟨-, _, _, _, _, rfl, -⟩; rfl) ?_
  rintro r w1 ⟨rfl, nu1, dm1, vals1, row1, rfl, he1, he2⟩
  simp only [Option.toList_some, List.cons_append, List.nil_append]
  unfold wM
  refine tg_go bX9_reads_66 ?_
  simp only [ti_istore, tg_s1, tg_cl, List.getElem?_cons_zero, List.getElem?_cons_succ, List.set_cons_zero, List.set_cons_succ]
  generalize hRR : clR tx L (tkF tx L 0) (tkB tx L (tkF tx L 0)) d n vals = R at hin hz he2 hK0 ⊢
  obtain ⟨ok, f, b, D, rv1, N⟩ := R
  generalize hQQ : rdR tx L 24 1 (ok, f, b, D, rv1, N) = Q at hK0 ⊢
  obtain ⟨⟨ok0, f0, b0, D0, rv0, N0⟩, q0⟩ := Q
  dsimp only at hin hz he2 hK0 ⊢
  refine kX9_reads_2 (g := g) hL f0 b0 D0 N0 rv0 ok0 q0 _ (nI d) vals row (fun nu dm vals' row' z1 z2 b D N rv z3 => hK0 _ _ ⟨rfl, nu, dm, vals', row', b, D, N, rv, rfl, z1, z2⟩) 24 1 ok f b D N rv1 nu1 dm1 vals1 row1 (by omega) (by omega) (by omega) hin.1 hin.2.1 hin.2.2.1 (fun z => (hin.2.2.2 z).1) hQQ he1 (fun z1 z2 => ?_) (fun z1 z2 z3 => ?_)
  · rw [(he2 z1 z2).2.2]
    exact hz z2 hr
  · obtain ⟨a1, a2, a3⟩ := he2 z1 z3
    rw [a1, a2, a3]
theorem kX9_fault {d n : Nat} {fi cl dg nu rM rD be : Int32} {row vals rv : Nat → Int32} (hL : L ≤ 200) (hv : rvOK d vals) (hn : n ≤ 40) (hr : row 0 = nI n) : tg_Ct l mX9_fault 1000 [.ref 0] (wM row (nI d) vals un kp tx (nI L) sz it ask fi be rD rM cl dg nu my su le gr cz vi ov rv ct bm) (fun r w => r = some (.int (if (txR tx L d n vals).1.1 = true then -1 else nI (txR tx L d n vals).1.2.1)) ∧ (sM row (nI d) vals un kp tx (nI L) sz it ask) w) := by
  refine tg_gen (fun K0 hK0 => ?_)
  show tg_G _ _ _ _ _ _ _ [.ref 0] [] _
  unfold wM
  refine tg_go bX9_fault_0 ?_
  simp only [ti_aload, ti_push, List.getElem?_cons_zero, List.getElem?_cons_succ, true_and]
  refine tg_cWe vX9_fault_2 (kX9_reads (g := false) hL hv hn hr) rfl rfl rfl rfl (Nat.le_of_ble_eq_true rfl) (Nat.le_of_ble_eq_true rfl) (Nat.le_of_ble_eq_true rfl) (by rintro r w1 ⟨-, _, _, _, _, _, _, _, _, rfl, -⟩; rfl) ?_
  rintro r w1 ⟨rfl, nu1, dm1, vals1, row1, b1, D1, N1, rv1, rfl, he1, he2⟩
  obtain ⟨rfl, rfl, rfl⟩ := he1 rfl
  simp only [Option.toList_some, List.cons_append, List.nil_append]
  unfold wM
  refine g_if_eq (tgt := 12) dX9_fault_5 rfl (fun h5 => ?_) (fun h5 => ?_)
  · refine tg_go bX9_fault_12 ?_
    simp only [ti_aload, ti_getf, List.getElem?_cons_zero, List.getElem?_cons_succ, true_and]
    refine g_iret dX9_fault_16 rfl ?_
    exact hK0 _ _ ⟨by rw [if_neg (by rw [bZ_0 h5]; decide)], sM_mk⟩
  · refine tg_go bX9_fault_8 ?_
    simp only [ti_push, List.getElem?_cons_zero, List.getElem?_cons_succ, true_and]
    refine g_goto (tgt := 16) dX9_fault_9 rfl ?_
    refine g_iret dX9_fault_16 rfl ?_
    exact hK0 _ _ ⟨by rw [if_pos (bZ_n h5)], sM_mk⟩
theorem kX9_read {d n : Nat} {fi cl dg nu rM rD be : Int32} {row vals rv : Nat → Int32} (hL : L ≤ 200) (hv : rvOK d vals) (hn : n ≤ 40) (hr : row 0 = nI n) : tg_Ct l mX9_read 1000 [.ref 0] (wM row (nI d) vals un kp tx (nI L) sz it ask fi be rD rM cl dg nu my su le gr cz vi ov rv ct bm) (fun r w => ((txR tx L d n vals).1.1 = false ∧ r = some (.int (-4)) ∧ (sM row (nI d) vals un kp tx (nI L) sz it ask) w) ∨ ((txR tx L d n vals).1.1 = true ∧ r = some (.int (nI (txR tx L d n vals).2)) ∧ (sM ((txE tx L d n vals (nI d) vals row).2.2) ((txE tx L d n vals (nI d) vals row).1) ((txE tx L d n vals (nI d) vals row).2.1) 0 (upd (upd kp 0 0) 1 0) tx 0 sz it ask) w)) := by
  refine tg_gen (fun K0 hK0 => ?_)
  show tg_G _ _ _ _ _ _ _ [.ref 0] [] _
  unfold wM
  refine tg_go bX9_read_0 ?_
  simp only [ti_aload, ti_push, List.getElem?_cons_zero, List.getElem?_cons_succ, true_and]
  refine tg_cWe vX9_read_2 (kX9_reads (g := false) hL hv hn hr) rfl rfl rfl rfl (Nat.le_of_ble_eq_true rfl) (Nat.le_of_ble_eq_true rfl) (Nat.le_of_ble_eq_true rfl) (by rintro r w1 ⟨-, _, _, _, _, _, _, _, _, rfl, -⟩; rfl) ?_
  rintro r w1 ⟨rfl, nu1, dm1, vals1, row1, b1, D1, N1, rv1, rfl, he1, he2⟩
  obtain ⟨rfl, rfl, rfl⟩ := he1 rfl
  clear he1 he2
  simp only [Option.toList_some, List.cons_append, List.nil_append]
  unfold wM
  refine g_if_ne (tgt := 11) dX9_read_5 rfl (fun h5 => ?_) (fun h5 => ?_)
  · have hok := bZ_n h5
    refine tg_go bX9_read_11 ?_
    simp only [ti_aload, ti_push, List.getElem?_cons_zero, List.getElem?_cons_succ, true_and]
    refine tg_cWe vX9_read_13 (kX9_reads (g := true) hL hv hn hr) rfl rfl rfl rfl (Nat.le_of_ble_eq_true rfl) (Nat.le_of_ble_eq_true rfl) (Nat.le_of_ble_eq_true rfl) (by rintro r w1 ⟨-, _, _, _, _, _, _, _, _, rfl, -⟩; rfl) ?_
    rintro r w1 ⟨rfl, nu2, dm2, vals2, row2, b2, D2, N2, rv2, rfl, he1, he2⟩
    obtain ⟨rfl, rfl, rfl⟩ := he2 rfl hok
    clear he1 he2
    simp only [Option.toList_some, List.cons_append, List.nil_append]
    unfold wM
    refine tg_go bX9_read_16 ?_
    simp only [ti_aload, ti_getf, ti_pop, ti_push, ti_putfI, ti_zast, Value.category, List.getElem?_cons_zero, List.getElem?_cons_succ, List.set_cons_zero, List.set_cons_succ, true_and]
    rw [sb_cl0, show (1 : Int32).toNatClampNeg = 1 by decide]
    refine ⟨vp_in_nI (n := 0) (by decide) (by decide), rfl, vp_in_nI (n := 1) (by decide) (by decide), rfl, ?_⟩
    refine g_iret dX9_read_45 rfl ?_
    exact hK0 _ _ (Or.inr ⟨hok, rfl, sM_mk⟩)
  · refine tg_go bX9_read_8 ?_
    simp only [ti_push, List.getElem?_cons_zero, List.getElem?_cons_succ, true_and]
    refine g_iret dX9_read_10 rfl ?_
    exact hK0 _ _ (Or.inl ⟨bZ_0 h5, rfl, sM_mk⟩)
end REFG
