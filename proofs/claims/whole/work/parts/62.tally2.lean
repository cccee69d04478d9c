/-! THE CLASS: Cells: tally, the loop over the list -/
def icO (d n : Nat) (c : Nat → Nat) (A : Nat) (ic : Nat → Int32) : Prop := ∀ a, a < A → neD d n c a = true → ic (gMany (neD d n c) a) = bZ (clD d n c a)
theorem icO_put {d n A : Nat} {c : Nat → Nat} {ic : Nat → Int32} (h : icO d n c A ic) : icO d n c (A + 1) (upd ic (gMany (neD d n c) A) (bZ (clD d n c A))) := fun a ha hp => by
  by_cases q : a < A
  · have h1 := gMany_lt hp q
    rw [pk_un (by omega)]
    exact h a q hp
  · obtain rfl : a = A := by omega
    rw [pk_us]
theorem alN_s {d n A q : Nat} {c : Nat → Nat} (h : neD d n c A = true) : alN d n c (A + 1) q = alN d n c A q + if gMany (cvP d c A) n = q then 1 else 0 := by
  unfold alN
  rw [gMany, h]
  simp
theorem csN_s {d n A q : Nat} {c : Nat → Nat} (h : neD d n c A = true) : csN d n c (A + 1) q = csN d n c A q + if clD d n c A = true ∧ gMany (cvP d c A) n = q then 1 else 0 := by
  unfold csN
  rw [gMany, h]
  simp
theorem onN_s {d n A q : Nat} {c : Nat → Nat} (h : neD d n c A = true) : onN d n c (A + 1) q = onN d n c A q + if dmB d A d = q then 1 else 0 := by
  unfold onN
  rw [gMany, h]
  simp
theorem alN_k {d n A q : Nat} {c : Nat → Nat} (h : neD d n c A = false) : alN d n c (A + 1) q = alN d n c A q ∧ csN d n c (A + 1) q = csN d n c A q ∧ onN d n c (A + 1) q = onN d n c A q := by
  unfold alN csN onN
  rw [gMany, gMany, gMany, h]
  simp
theorem nI_inc {f : Nat → Int32} {F : Nat → Nat} {k q : Nat} (h : f q = nI (F q)) (hk : f k = nI (F k)) : upd f k (nI (F k) + 1) q = nI (F q + if k = q then 1 else 0) := by
  by_cases e : q = k
  · subst e
    rw [pk_us, if_pos rfl, nI_1]
  · rw [pk_un e, if_neg (fun z => e z.symm), Nat.add_zero]
    exact h
theorem bZ_nar (b : Bool) : vp_nar .boolean (bZ b) = bZ b := by cases b <;> rfl
section TALLY2
variable {l : tg_Ln} {K : Option Value → List va_E → Prop} {tv tc tm en : Nat → Int32} {hv : Nat → Int64} {td tn te qd qv cz : Int32} {d n s : Nat} {v c : Nat → Nat} {cd oc : Nat → Int32} {cv ov : Nat → Int64}
theorem kX0_ta_3f (hh : hvOK hv d n c) (hd : d ≤ 4) (hn : n ≤ 40) (hc : cOK d n c) (ht : ∀ i, i < n → tc i = nI (c i)) (hls : lsO (neD d n c) (7 ^ d) (fun a => mkN (cvP d c a) n) cd cv) (hK : ∀ ic al cs on, icO d n c (7 ^ d) ic → (∀ q, q ≤ 40 → al q = nI (alN d n c (7 ^ d) q)) → (∀ q, q ≤ 40 → cs q = nI (csN d n c (7 ^ d) q)) → (∀ q, q < 16 → on q = nI (onN d n c (7 ^ d) q)) → K none (wCf (nI d) tv (nI n) tc tm te qd qv en hv (nI (gMany (neD d n c) (7 ^ d))) cd cv oc ov ic al cs on)) : ∀ (m a : Nat) (ic al cs on : Nat → Int32) (x2 : Value), 7 ^ d - a < m → a ≤ 7 ^ d → icO d n c a ic → (∀ q, q ≤ 40 → al q = nI (alN d n c a q)) → (∀ q, q ≤ 40 → cs q = nI (csN d n c a q)) → (∀ q, q < 16 → on q = nI (onN d n c a q)) → tg_G l mX0_tally 1000 K 0 0 51 [.ref 0, .int (nI (gMany (neD d n c) a)), x2] [] (wCf (nI d) tv (nI n) tc tm te qd qv en hv (nI (gMany (neD d n c) (7 ^ d))) cd cv oc ov ic al cs on) := by
  have hb1 := neK_640 (d := d) (c := c) hn hd
  rw [neK_d] at hb1
  have hp7 := pow7 hd
  intro m
  induction m with
  | zero => intro a ic al cs on x2 h; omega
  | succ m ih =>
    intro a ic al cs on x2 hm ha hic hal hcs hon
    by_cases hend : a = 7 ^ d
    · subst hend
      unfold wCf wC at hK ⊢
      refine tg_go bX0_tally_51 ?_
      simp only [ti_aload, ti_getf, ti_iload, List.getElem?_cons_zero, List.getElem?_cons_succ, true_and]
      refine g_icmp_ge (tgt := 158) dX0_tally_56 rfl (fun h56 => ?_) (fun h56 => ?_)
      · refine g_vret dX0_tally_158 rfl ?_
        exact hK _ _ _ _ hic hal hcs hon
      · exact absurd (Int32.le_refl _) h56
    · cases hne : neD d n c a with
      | false =>
        have h2 := ih (a + 1) ic al cs on x2 (by omega) (by omega) (fun b hb hp => by
          by_cases q : b < a
          · exact hic b q hp
          · rw [show b = a by omega, hne] at hp; cases hp) (fun q hq => by rw [(alN_k hne).1]; exact hal q hq) (fun q hq => by rw [(alN_k hne).2.1]; exact hcs q hq) (fun q hq => by rw [(alN_k (q := q) hne).2.2]; exact hon q hq)
        rw [show gMany (neD d n c) (a + 1) = gMany (neD d n c) a from by rw [gMany, hne]; simp] at h2
        exact h2
      | true =>
        have hlt := gMany_lt hne (show a < 7 ^ d by omega)
        have hmn := gMany_le (cvP d c a) n
        obtain ⟨hcda, hcva⟩ := hls a (by omega) hne
        have hcva : cv (gMany (neD d n c) a) = lN (mkN (cvP d c a) n) := hcva
        have hdm := dmB_lt hd a d
        have eo := oI_eq (o := gClo d (cvP d c a) c n) (a := a) (by omega) (fun x hx => by have := gClo_lt n (fun i hi => (hc i hi).1) x hx; omega)
        have hal' := hal (gMany (cvP d c a) n) (by omega)
        have hcs' := hcs (gMany (cvP d c a) n) (by omega)
        have hon' := hon (dmB d a d) hdm
        have h2 := fun cs' hcs2 y2 => ih (a + 1) (upd ic (gMany (neD d n c) a) (bZ (clD d n c a))) (upd al (gMany (cvP d c a) n) (nI (alN d n c a (gMany (cvP d c a) n)) + 1)) cs' (upd on (dmB d a d) (nI (onN d n c a (dmB d a d)) + 1)) y2 (by omega) (by omega) (icO_put hic) (fun q hq => by rw [alN_s hne]; exact nI_inc (F := alN d n c a) (hal q hq) hal') hcs2 (fun q hq => by rw [onN_s hne]; exact nI_inc (F := onN d n c a) (hon q hq) hon')
        rw [show gMany (neD d n c) (a + 1) = gMany (neD d n c) a + 1 from by rw [gMany, hne]; simp] at h2
        unfold wCf wC at h2 ⊢
        refine tg_go bX0_tally_51 ?_
        simp only [ti_aload, ti_getf, ti_iload, List.getElem?_cons_zero, List.getElem?_cons_succ, true_and]
        refine g_icmp_ge (tgt := 158) dX0_tally_56 rfl (fun h56 => ?_) (fun h56 => ?_)
        · rw [lI_le (by omega) (by omega)] at h56; omega
        · refine tg_go bX0_tally_59 ?_
          simp only [ti_aload, ti_getf, ti_iload, ti_lald, List.getElem?_cons_zero, List.getElem?_cons_succ, true_and]
          rw [nI_clamp (by omega), hcva]
          refine ⟨vp_in_nI (by omega) (by omega), ?_⟩
          refine tg_cP vX0_tally_65 (kJ13_bitCount) rfl rfl (Nat.le_of_ble_eq_true rfl) (Nat.le_of_ble_eq_true rfl) ?_
          rw [bc_mk (by omega)]
          refine tg_go bX0_tally_68 ?_
          simp only [ti_aload, ti_getf, ti_iload, ti_istore, ti_lald, ti_mmin, ti_push, tg_s1, tg_cl, List.getElem?_cons_zero, List.getElem?_cons_succ, List.set_cons_zero, List.set_cons_succ, true_and, List.map_nil, List.map_cons, List.sum_nil, List.sum_cons, Value.category, Nat.reduceAdd, Nat.reduceLeDiff, and_self, and_true]
          rw [if_neg (show ¬ (40 : Int32) < nI (gMany (cvP d c a) n) from by rw [fa_lit, lI_lt (by omega) (by omega)]; omega), nI_clamp (by omega), hcva]
          refine ⟨vp_in_nI (by omega) (by omega), ?_⟩
          refine tg_cW vX0_tally_86 (kX0_closureOf (p := cvP d c a) hh hd hn hc ht) rfl rfl rfl rfl (Nat.le_of_ble_eq_true rfl) (Nat.le_of_ble_eq_true rfl) (Nat.le_of_ble_eq_true rfl) rfl ?_
          unfold wC
          refine tg_go bX0_tally_89 ?_
          simp only [ti_aload, ti_getf, ti_iald, ti_iload, List.getElem?_cons_zero, List.getElem?_cons_succ, true_and]
          rw [nI_clamp (by omega), hcda]
          refine ⟨vp_in_nI (by omega) (by omega), ?_⟩
          refine g_cut2 103 (fun z => z = bZ (clD d n c a)) (fun J103 => ?_) (fun z hz => ?_)
          · refine g_icmp_ne (tgt := 102) dX0_tally_95 rfl (fun h95 => ?_) (fun h95 => ?_)
            · rw [eo] at h95
              refine tg_go bX0_tally_102 ?_
              simp only [ti_push, List.getElem?_cons_zero, List.getElem?_cons_succ, true_and]
              exact J103 _ (by unfold clD; rw [decide_eq_false h95]; rfl)
            · rw [eo] at h95
              refine tg_go bX0_tally_98 ?_
              simp only [ti_push, List.getElem?_cons_zero, List.getElem?_cons_succ, true_and]
              refine g_goto (tgt := 103) dX0_tally_99 rfl ?_
              exact J103 _ (by unfold clD; rw [decide_eq_true h95]; rfl)
          subst hz
          refine tg_go bX0_tally_103 ?_
          simp only [ti_aload, ti_dup2, ti_getf, ti_iadd, ti_iald, ti_iast, ti_iload, ti_push, ti_zald, ti_zast, Value.category, List.getElem?_cons_zero, List.getElem?_cons_succ, List.set_cons_zero, List.set_cons_succ, true_and]
          rw [nI_clamp (show gMany (neD d n c) a < 2 ^ 31 by omega), nI_clamp (show gMany (cvP d c a) n < 2 ^ 31 by omega), hal', pk_us]
          refine ⟨vp_in_nI (by omega) (by omega), bZ_nar _, vp_in_nI (by omega) (by omega), vp_in_nI (by omega) (by omega), vp_in_nI (by omega) (by omega), ?_⟩
          refine g_if_eq (tgt := 133) dX0_tally_120 rfl (fun h120 => ?_) (fun h120 => ?_)
          · refine tg_go bX0_tally_133 ?_
            simp only [ti_aload, ti_getf, ti_iald, ti_iload, List.getElem?_cons_zero, List.getElem?_cons_succ, true_and]
            rw [nI_clamp (by omega), hcda]
            refine ⟨vp_in_nI (by omega) (by omega), ?_⟩
            refine tg_cW vX0_tally_144 (kX0_dimensionsOf (a := a) hd (by omega)) rfl rfl rfl rfl (Nat.le_of_ble_eq_true rfl) (Nat.le_of_ble_eq_true rfl) (Nat.le_of_ble_eq_true rfl) rfl ?_
            unfold wC
            refine tg_go bX0_tally_147 ?_
            simp only [ti_dup2, ti_iadd, ti_iald, ti_iast, ti_iinc, ti_push, tg_s1, tg_cl, Value.category, List.getElem?_cons_zero, List.getElem?_cons_succ, List.set_cons_zero, List.set_cons_succ, true_and]
            rw [nI_clamp (by omega), hon', nI_1 (gMany (neD d n c) a)]
            refine ⟨vp_in_nI (by omega) (by omega), vp_in_nI (by omega) (by omega), ?_⟩
            refine g_goto (tgt := 51) dX0_tally_155 rfl ?_
            exact h2 _ (fun q hq => by rw [csN_s hne, if_neg (by rw [bZ_0 h120]; simp), Nat.add_zero]; exact hcs q hq) _
          · refine tg_go bX0_tally_123 ?_
            simp only [ti_aload, ti_dup2, ti_getf, ti_iadd, ti_iald, ti_iast, ti_iload, ti_push, Value.category, List.getElem?_cons_zero, List.getElem?_cons_succ, List.set_cons_zero, List.set_cons_succ, true_and]
            rw [nI_clamp (by omega), hcs']
            refine ⟨vp_in_nI (by omega) (by omega), vp_in_nI (by omega) (by omega), ?_⟩
            refine tg_go bX0_tally_133 ?_
            simp only [ti_aload, ti_getf, ti_iald, ti_iload, List.getElem?_cons_zero, List.getElem?_cons_succ, true_and]
            rw [nI_clamp (by omega), hcda]
            refine ⟨vp_in_nI (by omega) (by omega), ?_⟩
            refine tg_cW vX0_tally_144 (kX0_dimensionsOf (a := a) hd (by omega)) rfl rfl rfl rfl (Nat.le_of_ble_eq_true rfl) (Nat.le_of_ble_eq_true rfl) (Nat.le_of_ble_eq_true rfl) rfl ?_
            unfold wC
            refine tg_go bX0_tally_147 ?_
            simp only [ti_dup2, ti_iadd, ti_iald, ti_iast, ti_iinc, ti_push, tg_s1, tg_cl, Value.category, List.getElem?_cons_zero, List.getElem?_cons_succ, List.set_cons_zero, List.set_cons_succ, true_and]
            rw [nI_clamp (by omega), hon', nI_1 (gMany (neD d n c) a)]
            refine ⟨vp_in_nI (by omega) (by omega), vp_in_nI (by omega) (by omega), ?_⟩
            refine g_goto (tgt := 51) dX0_tally_155 rfl ?_
            exact h2 _ (fun q hq => by
              rw [csN_s hne, nI_inc (F := csN d n c a) (hcs q hq) hcs']
              simp [bZ_n h120]) _
theorem kX0_ta_3t (hh : hvOK hv d n c) (hd : d ≤ 4) (hn : n ≤ 40) (hc : cOK d n c) (ht : ∀ i, i < n → tc i = nI (c i)) (hls : lsO (neD d n c) (7 ^ d) (fun a => mkN (cvP d c a) n) cd cv) (hK : ∀ ic al cs on, icO d n c (7 ^ d) ic → (∀ q, q ≤ 40 → al q = nI (alN d n c (7 ^ d) q)) → (∀ q, q ≤ 40 → cs q = nI (csN d n c (7 ^ d) q)) → (∀ q, q < 16 → on q = nI (onN d n c (7 ^ d) q)) → K none (wCt (nI d) tv (nI n) tc tm te qd qv en hv (nI (gMany (neD d n c) (7 ^ d))) cd cv oc ov ic al cs on)) : ∀ (m a : Nat) (ic al cs on : Nat → Int32) (x2 : Value), 7 ^ d - a < m → a ≤ 7 ^ d → icO d n c a ic → (∀ q, q ≤ 40 → al q = nI (alN d n c a q)) → (∀ q, q ≤ 40 → cs q = nI (csN d n c a q)) → (∀ q, q < 16 → on q = nI (onN d n c a q)) → tg_G l mX0_tally 1000 K 0 0 51 [.ref 0, .int (nI (gMany (neD d n c) a)), x2] [] (wCt (nI d) tv (nI n) tc tm te qd qv en hv (nI (gMany (neD d n c) (7 ^ d))) cd cv oc ov ic al cs on) := by
  have hb1 := neK_640 (d := d) (c := c) hn hd
  rw [neK_d] at hb1
  have hp7 := pow7 hd
  intro m
  induction m with
  | zero => intro a ic al cs on x2 h; omega
  | succ m ih =>
    intro a ic al cs on x2 hm ha hic hal hcs hon
    by_cases hend : a = 7 ^ d
    · subst hend
      unfold wCt wC at hK ⊢
      refine tg_go bX0_tally_51 ?_
      simp only [ti_aload, ti_getf, ti_iload, List.getElem?_cons_zero, List.getElem?_cons_succ, true_and]
      refine g_icmp_ge (tgt := 158) dX0_tally_56 rfl (fun h56 => ?_) (fun h56 => ?_)
      · refine g_vret dX0_tally_158 rfl ?_
        exact hK _ _ _ _ hic hal hcs hon
      · exact absurd (Int32.le_refl _) h56
    · cases hne : neD d n c a with
      | false =>
        have h2 := ih (a + 1) ic al cs on x2 (by omega) (by omega) (fun b hb hp => by
          by_cases q : b < a
          · exact hic b q hp
          · rw [show b = a by omega, hne] at hp; cases hp) (fun q hq => by rw [(alN_k hne).1]; exact hal q hq) (fun q hq => by rw [(alN_k hne).2.1]; exact hcs q hq) (fun q hq => by rw [(alN_k (q := q) hne).2.2]; exact hon q hq)
        rw [show gMany (neD d n c) (a + 1) = gMany (neD d n c) a from by rw [gMany, hne]; simp] at h2
        exact h2
      | true =>
        have hlt := gMany_lt hne (show a < 7 ^ d by omega)
        have hmn := gMany_le (cvP d c a) n
        obtain ⟨hcda, hcva⟩ := hls a (by omega) hne
        have hcva : cv (gMany (neD d n c) a) = lN (mkN (cvP d c a) n) := hcva
        have hdm := dmB_lt hd a d
        have eo := oI_eq (o := gClo d (cvP d c a) c n) (a := a) (by omega) (fun x hx => by have := gClo_lt n (fun i hi => (hc i hi).1) x hx; omega)
        have hal' := hal (gMany (cvP d c a) n) (by omega)
        have hcs' := hcs (gMany (cvP d c a) n) (by omega)
        have hon' := hon (dmB d a d) hdm
        have h2 := fun cs' hcs2 y2 => ih (a + 1) (upd ic (gMany (neD d n c) a) (bZ (clD d n c a))) (upd al (gMany (cvP d c a) n) (nI (alN d n c a (gMany (cvP d c a) n)) + 1)) cs' (upd on (dmB d a d) (nI (onN d n c a (dmB d a d)) + 1)) y2 (by omega) (by omega) (icO_put hic) (fun q hq => by rw [alN_s hne]; exact nI_inc (F := alN d n c a) (hal q hq) hal') hcs2 (fun q hq => by rw [onN_s hne]; exact nI_inc (F := onN d n c a) (hon q hq) hon')
        rw [show gMany (neD d n c) (a + 1) = gMany (neD d n c) a + 1 from by rw [gMany, hne]; simp] at h2
        unfold wCt wC at h2 ⊢
        refine tg_go bX0_tally_51 ?_
        simp only [ti_aload, ti_getf, ti_iload, List.getElem?_cons_zero, List.getElem?_cons_succ, true_and]
        refine g_icmp_ge (tgt := 158) dX0_tally_56 rfl (fun h56 => ?_) (fun h56 => ?_)
        · rw [lI_le (by omega) (by omega)] at h56; omega
        · refine tg_go bX0_tally_59 ?_
          simp only [ti_aload, ti_getf, ti_iload, ti_lald, List.getElem?_cons_zero, List.getElem?_cons_succ, true_and]
          rw [nI_clamp (by omega), hcva]
          refine ⟨vp_in_nI (by omega) (by omega), ?_⟩
          refine tg_cP vX0_tally_65 (kJ13_bitCount) rfl rfl (Nat.le_of_ble_eq_true rfl) (Nat.le_of_ble_eq_true rfl) ?_
          rw [bc_mk (by omega)]
          refine tg_go bX0_tally_68 ?_
          simp only [ti_aload, ti_getf, ti_iload, ti_istore, ti_lald, ti_mmin, ti_push, tg_s1, tg_cl, List.getElem?_cons_zero, List.getElem?_cons_succ, List.set_cons_zero, List.set_cons_succ, true_and, List.map_nil, List.map_cons, List.sum_nil, List.sum_cons, Value.category, Nat.reduceAdd, Nat.reduceLeDiff, and_self, and_true]
          rw [if_neg (show ¬ (40 : Int32) < nI (gMany (cvP d c a) n) from by rw [fa_lit, lI_lt (by omega) (by omega)]; omega), nI_clamp (by omega), hcva]
          refine ⟨vp_in_nI (by omega) (by omega), ?_⟩
          refine tg_cW vX0_tally_86 (kX0_closureOf (p := cvP d c a) hh hd hn hc ht) rfl rfl rfl rfl (Nat.le_of_ble_eq_true rfl) (Nat.le_of_ble_eq_true rfl) (Nat.le_of_ble_eq_true rfl) rfl ?_
          unfold wC
          refine tg_go bX0_tally_89 ?_
          simp only [ti_aload, ti_getf, ti_iald, ti_iload, List.getElem?_cons_zero, List.getElem?_cons_succ, true_and]
          rw [nI_clamp (by omega), hcda]
          refine ⟨vp_in_nI (by omega) (by omega), ?_⟩
          refine g_cut2 103 (fun z => z = bZ (clD d n c a)) (fun J103 => ?_) (fun z hz => ?_)
          · refine g_icmp_ne (tgt := 102) dX0_tally_95 rfl (fun h95 => ?_) (fun h95 => ?_)
            · rw [eo] at h95
              refine tg_go bX0_tally_102 ?_
              simp only [ti_push, List.getElem?_cons_zero, List.getElem?_cons_succ, true_and]
              exact J103 _ (by unfold clD; rw [decide_eq_false h95]; rfl)
            · rw [eo] at h95
              refine tg_go bX0_tally_98 ?_
              simp only [ti_push, List.getElem?_cons_zero, List.getElem?_cons_succ, true_and]
              refine g_goto (tgt := 103) dX0_tally_99 rfl ?_
              exact J103 _ (by unfold clD; rw [decide_eq_true h95]; rfl)
          subst hz
          refine tg_go bX0_tally_103 ?_
          simp only [ti_aload, ti_dup2, ti_getf, ti_iadd, ti_iald, ti_iast, ti_iload, ti_push, ti_zald, ti_zast, Value.category, List.getElem?_cons_zero, List.getElem?_cons_succ, List.set_cons_zero, List.set_cons_succ, true_and]
          rw [nI_clamp (show gMany (neD d n c) a < 2 ^ 31 by omega), nI_clamp (show gMany (cvP d c a) n < 2 ^ 31 by omega), hal', pk_us]
          refine ⟨vp_in_nI (by omega) (by omega), bZ_nar _, vp_in_nI (by omega) (by omega), vp_in_nI (by omega) (by omega), vp_in_nI (by omega) (by omega), ?_⟩
          refine g_if_eq (tgt := 133) dX0_tally_120 rfl (fun h120 => ?_) (fun h120 => ?_)
          · refine tg_go bX0_tally_133 ?_
            simp only [ti_aload, ti_getf, ti_iald, ti_iload, List.getElem?_cons_zero, List.getElem?_cons_succ, true_and]
            rw [nI_clamp (by omega), hcda]
            refine ⟨vp_in_nI (by omega) (by omega), ?_⟩
            refine tg_cW vX0_tally_144 (kX0_dimensionsOf (a := a) hd (by omega)) rfl rfl rfl rfl (Nat.le_of_ble_eq_true rfl) (Nat.le_of_ble_eq_true rfl) (Nat.le_of_ble_eq_true rfl) rfl ?_
            unfold wC
            refine tg_go bX0_tally_147 ?_
            simp only [ti_dup2, ti_iadd, ti_iald, ti_iast, ti_iinc, ti_push, tg_s1, tg_cl, Value.category, List.getElem?_cons_zero, List.getElem?_cons_succ, List.set_cons_zero, List.set_cons_succ, true_and]
            rw [nI_clamp (by omega), hon', nI_1 (gMany (neD d n c) a)]
            refine ⟨vp_in_nI (by omega) (by omega), vp_in_nI (by omega) (by omega), ?_⟩
            refine g_goto (tgt := 51) dX0_tally_155 rfl ?_
            exact h2 _ (fun q hq => by rw [csN_s hne, if_neg (by rw [bZ_0 h120]; simp), Nat.add_zero]; exact hcs q hq) _
          · refine tg_go bX0_tally_123 ?_
            simp only [ti_aload, ti_dup2, ti_getf, ti_iadd, ti_iald, ti_iast, ti_iload, ti_push, Value.category, List.getElem?_cons_zero, List.getElem?_cons_succ, List.set_cons_zero, List.set_cons_succ, true_and]
            rw [nI_clamp (by omega), hcs']
            refine ⟨vp_in_nI (by omega) (by omega), vp_in_nI (by omega) (by omega), ?_⟩
            refine tg_go bX0_tally_133 ?_
            simp only [ti_aload, ti_getf, ti_iald, ti_iload, List.getElem?_cons_zero, List.getElem?_cons_succ, true_and]
            rw [nI_clamp (by omega), hcda]
            refine ⟨vp_in_nI (by omega) (by omega), ?_⟩
            refine tg_cW vX0_tally_144 (kX0_dimensionsOf (a := a) hd (by omega)) rfl rfl rfl rfl (Nat.le_of_ble_eq_true rfl) (Nat.le_of_ble_eq_true rfl) (Nat.le_of_ble_eq_true rfl) rfl ?_
            unfold wC
            refine tg_go bX0_tally_147 ?_
            simp only [ti_dup2, ti_iadd, ti_iald, ti_iast, ti_iinc, ti_push, tg_s1, tg_cl, Value.category, List.getElem?_cons_zero, List.getElem?_cons_succ, List.set_cons_zero, List.set_cons_succ, true_and]
            rw [nI_clamp (by omega), hon', nI_1 (gMany (neD d n c) a)]
            refine ⟨vp_in_nI (by omega) (by omega), vp_in_nI (by omega) (by omega), ?_⟩
            refine g_goto (tgt := 51) dX0_tally_155 rfl ?_
            exact h2 _ (fun q hq => by
              rw [csN_s hne, nI_inc (F := csN d n c a) (hcs q hq) hcs']
              simp [bZ_n h120]) _
end TALLY2
