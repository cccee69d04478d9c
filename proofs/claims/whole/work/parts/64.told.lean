/-! THE CLASS: Cells: the k-th of the cube; parted -/
def cuB (d n s : Nat) (c : Nat → Nat) (a : Nat) : Bool := clD d n c a && decide (s ≤ gMany (cvP d c a) n)
/-- what parting goes into -/
def goB (d n s : Nat) (c : Nat → Nat) (a : Nat) : Bool := neD d n c a && (!decide (a = 0) && decide (s ≤ gMany (cvP d c a) n))
def enF (d n s : Nat) (c : Nat → Nat) (A q : Nat) : Nat := (if q = 0 then n else 0) + sg (fun a => if goB d n s c a = true ∧ dmB d a d = q then gMany (cvP d c a) n else 0) A
theorem cuB_ne {d n s a : Nat} {c : Nat → Nat} (h : cuB d n s c a = true) : neD d n c a = true := by
  unfold cuB at h
  rw [Bool.and_eq_true] at h
  have h1 := of_decide_eq_true h.1
  refine decide_eq_true ?_
  cases hz : gMany (cvP d c a) n with
  | zero =>
    rw [(gClo_none n).mpr ((gMany_0 n).mp hz)] at h1
    cases h1
  | succ k => omega
theorem upd_en {en : Nat → Int32} {F : Nat → Nat} {k y q : Nat} (h : en q = nI (F q)) (hk : en k = nI (F k)) : upd en k (nI (F k) + nI y) q = nI (F q + if k = q then y else 0) := by
  by_cases e : q = k
  · subst e
    rw [pk_us, if_pos rfl, nI_add]
  · rw [pk_un e, if_neg (fun z => e z.symm), Nat.add_zero]
    exact h
section TOLD
variable {l : tg_Ln} {K : Option Value → List va_E → Prop} {tv tc tm ic al cs on : Nat → Int32} {hv : Nat → Int64} {td tn te cz : Int32} {d n s : Nat} {v c : Nat → Nat} {cd oc : Nat → Int32} {cv ov : Nat → Int64}
theorem kX0_codeInCube_lf {qd qv : Int32} {en : Nat → Int32} {q : Nat} (hd : d ≤ 4) (hn : n ≤ 40) (hs : s ≤ 9) (hq : q < 2 ^ 31) (hcl : clsO d n c hv cz cd cv ic al cs on) (hK : K (some (.int (oI (nth (cuB d n s c) (7 ^ d) q)))) (wCf (nI d) tv (nI n) tc tm (nI s) qd qv en hv cz cd cv oc ov ic al cs on)) : ∀ (m a : Nat), 7 ^ d - a < m → a ≤ 7 ^ d → gMany (cuB d n s c) a ≤ q → tg_G l mX0_codeInCube 1000 K 0 0 4 [.ref 0, .int (nI q), .int (nI (gMany (cuB d n s c) a)), .int (nI (gMany (neD d n c) a))] [] (wCf (nI d) tv (nI n) tc tm (nI s) qd qv en hv cz cd cv oc ov ic al cs on) := by
  obtain ⟨hh, hcz, hls, hic, -, -, -⟩ := hcl
  have hb1 := neK_640 (d := d) (c := c) hn hd
  rw [neK_d] at hb1
  have hp7 := pow7 hd
  intro m
  induction m with
  | zero => intro a h; omega
  | succ m ih =>
    intro a hm ha hqa
    have hga := gMany_le (cuB d n s c) a
    by_cases hend : a = 7 ^ d
    · subst hend
      rw [nth_none _ hqa] at hK
      rw [hcz] at hK ⊢
      unfold wCf wC at hK ⊢
      refine tg_go bX0_codeInCube_4 ?_
      simp only [ti_aload, ti_getf, ti_iload, List.getElem?_cons_zero, List.getElem?_cons_succ, true_and]
      refine g_icmp_ge (tgt := 61) dX0_codeInCube_9 rfl (fun h9 => ?_) (fun h9 => ?_)
      · refine tg_go bX0_codeInCube_61 ?_
        simp only [ti_push, List.getElem?_cons_zero, List.getElem?_cons_succ, true_and]
        refine g_iret dX0_codeInCube_62 rfl ?_
        exact hK
      · exact absurd (Int32.le_refl _) h9
    · cases hne : neD d n c a with
      | false =>
        have hcu : cuB d n s c a = false := by
          cases z : cuB d n s c a with
          | false => rfl
          | true => rw [cuB_ne z] at hne; cases hne
        have e1 : gMany (neD d n c) (a + 1) = gMany (neD d n c) a := by rw [gMany, hne]; simp
        have e2 : gMany (cuB d n s c) (a + 1) = gMany (cuB d n s c) a := by rw [gMany, hcu]; simp
        have h2 := ih (a + 1) (by omega) (by omega)
        rw [e1, e2] at h2
        exact h2 hqa
      | true =>
        have hlt := gMany_lt hne (show a < 7 ^ d by omega)
        have hmn := gMany_le (cvP d c a) n
        obtain ⟨hcda, hcva⟩ := hls a (by omega) hne
        have hcva : cv (gMany (neD d n c) a) = lN (mkN (cvP d c a) n) := hcva
        have hica := hic a (by omega) hne
        have e1 : gMany (neD d n c) (a + 1) = gMany (neD d n c) a + 1 := by rw [gMany, hne]; simp
        have h2 := ih (a + 1) (by omega) (by omega)
        rw [e1, gMany] at h2
        have stay : cuB d n s c a = false → tg_G l mX0_codeInCube 1000 K 0 0 55 [.ref 0, .int (nI q), .int (nI (gMany (cuB d n s c) a)), .int (nI (gMany (neD d n c) a))] [] (wCf (nI d) tv (nI n) tc tm (nI s) qd qv en hv cz cd cv oc ov ic al cs on) := by
          intro hcu
          rw [hcu, if_neg (by decide), Nat.add_zero] at h2
          unfold wCf wC at h2 ⊢
          refine tg_go bX0_codeInCube_55 ?_
          simp only [ti_iinc, tg_s1, tg_cl, List.getElem?_cons_zero, List.getElem?_cons_succ, List.set_cons_zero, List.set_cons_succ, true_and]
          rw [nI_1]
          refine g_goto (tgt := 4) dX0_codeInCube_58 rfl ?_
          exact h2 hqa
        rw [hcz] at h2 hK stay ⊢
        unfold wCf wC at h2 hK stay ⊢
        refine tg_go bX0_codeInCube_4 ?_
        simp only [ti_aload, ti_getf, ti_iload, List.getElem?_cons_zero, List.getElem?_cons_succ, true_and]
        refine g_icmp_ge (tgt := 61) dX0_codeInCube_9 rfl (fun h9 => ?_) (fun h9 => ?_)
        · rw [lI_le (by omega) (by omega)] at h9; omega
        · refine tg_go bX0_codeInCube_12 ?_
          simp only [ti_aload, ti_getf, ti_iload, ti_zald, List.getElem?_cons_zero, List.getElem?_cons_succ, true_and]
          rw [nI_clamp (by omega), hica]
          refine ⟨vp_in_nI (by omega) (by omega), ?_⟩
          refine g_if_eq (tgt := 55) dX0_codeInCube_18 rfl (fun h18 => ?_) (fun h18 => ?_)
          · exact stay (by unfold cuB; rw [bZ_0 h18]; rfl)
          · refine tg_go bX0_codeInCube_21 ?_
            simp only [ti_aload, ti_getf, ti_iload, ti_lald, List.getElem?_cons_zero, List.getElem?_cons_succ, true_and]
            rw [nI_clamp (by omega), hcva]
            refine ⟨vp_in_nI (by omega) (by omega), ?_⟩
            refine tg_cP vX0_codeInCube_27 (kJ13_bitCount) rfl rfl (Nat.le_of_ble_eq_true rfl) (Nat.le_of_ble_eq_true rfl) ?_
            rw [bc_mk (by omega)]
            refine tg_go bX0_codeInCube_30 ?_
            simp only [ti_aload, ti_getf, List.getElem?_cons_zero, List.getElem?_cons_succ, true_and]
            refine g_icmp_lt (tgt := 55) dX0_codeInCube_37 rfl (fun h37 => ?_) (fun h37 => ?_)
            · rw [lI_lt (by omega) (by omega)] at h37
              exact stay (by unfold cuB; rw [decide_eq_false (show ¬ s ≤ gMany (cvP d c a) n by omega), Bool.and_false])
            · rw [lI_lt (by omega) (by omega)] at h37
              have hcu : cuB d n s c a = true := by unfold cuB; rw [bZ_n h18, decide_eq_true (show s ≤ gMany (cvP d c a) n by omega)]; rfl
              rw [if_pos hcu] at h2
              refine tg_go bX0_codeInCube_40 ?_
              simp only [ti_iload, List.getElem?_cons_zero, List.getElem?_cons_succ, true_and]
              refine g_icmp_ne (tgt := 52) dX0_codeInCube_42 rfl (fun h42 => ?_) (fun h42 => ?_)
              · rw [lI_eq (by omega) (by omega)] at h42
                refine tg_go bX0_codeInCube_52 ?_
                simp only [ti_iinc, tg_s1, tg_cl, List.getElem?_cons_zero, List.getElem?_cons_succ, List.set_cons_zero, List.set_cons_succ, true_and]
                rw [nI_1]
                refine tg_go bX0_codeInCube_55 ?_
                simp only [ti_iinc, tg_s1, tg_cl, List.getElem?_cons_zero, List.getElem?_cons_succ, List.set_cons_zero, List.set_cons_succ, true_and]
                rw [nI_1]
                refine g_goto (tgt := 4) dX0_codeInCube_58 rfl ?_
                exact h2 (by omega)
              · rw [lI_eq (by omega) (by omega)] at h42
                have h3 := nth_some hcu h42 (7 ^ d - a - 1)
                rw [show a + 1 + (7 ^ d - a - 1) = 7 ^ d by omega] at h3
                rw [h3] at hK
                refine tg_go bX0_codeInCube_45 ?_
                simp only [ti_aload, ti_getf, ti_iald, ti_iload, List.getElem?_cons_zero, List.getElem?_cons_succ, true_and]
                rw [nI_clamp (by omega), hcda]
                refine ⟨vp_in_nI (by omega) (by omega), ?_⟩
                refine g_iret dX0_codeInCube_51 rfl ?_
                exact hK
theorem kX0_codeInCubef {qd qv : Int32} {en : Nat → Int32} {q : Nat} (hd : d ≤ 4) (hn : n ≤ 40) (hs : s ≤ 9) (hq : q < 2 ^ 31) (hcl : clsO d n c hv cz cd cv ic al cs on) : tg_Ct l mX0_codeInCube 1000 [.ref 0, .int (nI q)] (wCf (nI d) tv (nI n) tc tm (nI s) qd qv en hv cz cd cv oc ov ic al cs on) (fun r w => r = some (.int (oI (nth (cuB d n s c) (7 ^ d) q))) ∧ w = (wCf (nI d) tv (nI n) tc tm (nI s) qd qv en hv cz cd cv oc ov ic al cs on)) := by
  show tg_G _ _ _ _ _ _ _ [.ref 0, .int (nI q), .null, .null] [] _
  unfold wCf wC
  refine tg_go bX0_codeInCube_0 ?_
  simp only [ti_istore, ti_push, tg_s1, tg_cl, List.getElem?_cons_zero, List.getElem?_cons_succ, List.set_cons_zero, List.set_cons_succ, true_and]
  exact kX0_codeInCube_lf hd hn hs hq hcl ⟨rfl, rfl⟩ (7 ^ d + 1) 0 (Nat.lt_succ_of_le (Nat.sub_le _ _)) (Nat.zero_le _) (Nat.zero_le _)
theorem kX0_parted_lf {qd : Int32} (hd : d ≤ 4) (hn : n ≤ 40) (hs : s ≤ 9) (hcl : clsO d n c hv cz cd cv ic al cs on) (hK : ∀ en, (∀ q, q < 16 → en q = nI (enF d n s c (7 ^ d) q)) → K (some (.ref 5)) (wCf (nI d) tv (nI n) tc tm (nI s) qd (nI (gMany (goB d n s c) (7 ^ d))) en hv cz cd cv oc ov ic al cs on)) : ∀ (m a : Nat) (en : Nat → Int32) (x2 : Value), 7 ^ d - a < m → a ≤ 7 ^ d → (∀ q, q < 16 → en q = nI (enF d n s c a q)) → tg_G l mX0_parted 1000 K 0 0 23 [.ref 0, .int (nI (gMany (neD d n c) a)), x2] [] (wCf (nI d) tv (nI n) tc tm (nI s) qd (nI (gMany (goB d n s c) a)) en hv cz cd cv oc ov ic al cs on) := by
  obtain ⟨hh, hcz, hls, hic, -, -, -⟩ := hcl
  have hb1 := neK_640 (d := d) (c := c) hn hd
  rw [neK_d] at hb1
  have hp7 := pow7 hd
  intro m
  induction m with
  | zero => intro a en x2 h; omega
  | succ m ih =>
    intro a en x2 hm ha hen
    by_cases hend : a = 7 ^ d
    · subst hend
      rw [hcz] at hK ⊢
      unfold wCf wC at hK ⊢
      refine tg_go bX0_parted_23 ?_
      simp only [ti_aload, ti_getf, ti_iload, List.getElem?_cons_zero, List.getElem?_cons_succ, true_and]
      refine g_icmp_ge (tgt := 85) dX0_parted_28 rfl (fun h28 => ?_) (fun h28 => ?_)
      · refine tg_go bX0_parted_85 ?_
        simp only [ti_aload, ti_getf, List.getElem?_cons_zero, List.getElem?_cons_succ, true_and]
        refine g_aret dX0_parted_89 rfl (by first | exact Or.inl ⟨_, rfl⟩ | exact Or.inr ⟨_, rfl⟩) ?_
        exact hK _ hen
      · exact absurd (Int32.le_refl _) h28
    · have stay : goB d n s c a = false → ∀ q, q < 16 → en q = nI (enF d n s c (a + 1) q) := fun hg q hq => by
        rw [hen q hq]
        unfold enF
        rw [sg, hg]
        simp
      cases hne : neD d n c a with
      | false =>
        have hcu : goB d n s c a = false := by unfold goB; rw [hne]; rfl
        have e1 : gMany (neD d n c) (a + 1) = gMany (neD d n c) a := by rw [gMany, hne]; simp
        have e2 : gMany (goB d n s c) (a + 1) = gMany (goB d n s c) a := by rw [gMany, hcu]; simp
        have h2 := ih (a + 1) en x2 (by omega) (by omega) (stay hcu)
        rw [e1, e2] at h2
        exact h2
      | true =>
        have hlt := gMany_lt hne (show a < 7 ^ d by omega)
        have hmn := gMany_le (cvP d c a) n
        have hdm := dmB_lt hd a d
        obtain ⟨hcda, hcva⟩ := hls a (by omega) hne
        have hcva : cv (gMany (neD d n c) a) = lN (mkN (cvP d c a) n) := hcva
        have e1 : gMany (neD d n c) (a + 1) = gMany (neD d n c) a + 1 := by rw [gMany, hne]; simp
        have h2 := fun en' y2 h => ih (a + 1) en' y2 (by omega) (by omega) h
        rw [e1, gMany] at h2
        rw [hcz] at h2 hK ⊢
        unfold wCf wC at h2 hK ⊢
        refine tg_go bX0_parted_23 ?_
        simp only [ti_aload, ti_getf, ti_iload, List.getElem?_cons_zero, List.getElem?_cons_succ, true_and]
        refine g_icmp_ge (tgt := 85) dX0_parted_28 rfl (fun h28 => ?_) (fun h28 => ?_)
        · rw [lI_le (by omega) (by omega)] at h28; omega
        · refine tg_go bX0_parted_31 ?_
          simp only [ti_aload, ti_getf, ti_iload, ti_lald, List.getElem?_cons_zero, List.getElem?_cons_succ, true_and]
          rw [nI_clamp (by omega), hcva]
          refine ⟨vp_in_nI (by omega) (by omega), ?_⟩
          refine tg_cP vX0_parted_37 (kJ13_bitCount) rfl rfl (Nat.le_of_ble_eq_true rfl) (Nat.le_of_ble_eq_true rfl) ?_
          rw [bc_mk (by omega)]
          refine tg_go bX0_parted_40 ?_
          simp only [ti_aload, ti_getf, ti_iald, ti_iload, ti_istore, tg_s1, tg_cl, List.getElem?_cons_zero, List.getElem?_cons_succ, List.set_cons_zero, List.set_cons_succ, true_and]
          rw [nI_clamp (by omega), hcda]
          refine ⟨vp_in_nI (by omega) (by omega), ?_⟩
          refine g_if_eq (tgt := 79) dX0_parted_47 rfl (fun h47 => ?_) (fun h47 => ?_)
          · rw [fa_lit, lI_eq (by omega) (by omega)] at h47
            have hg : goB d n s c a = false := by unfold goB; rw [decide_eq_true h47]; simp
            rw [hg, if_neg (by decide), Nat.add_zero] at h2
            refine tg_go bX0_parted_79 ?_
            simp only [ti_iinc, tg_s1, tg_cl, List.getElem?_cons_zero, List.getElem?_cons_succ, List.set_cons_zero, List.set_cons_succ, true_and]
            rw [nI_1]
            refine g_goto (tgt := 23) dX0_parted_82 rfl ?_
            exact h2 _ _ (stay hg)
          · rw [fa_lit, lI_eq (by omega) (by omega)] at h47
            refine tg_go bX0_parted_50 ?_
            simp only [ti_aload, ti_getf, ti_iload, List.getElem?_cons_zero, List.getElem?_cons_succ, true_and]
            refine g_icmp_lt (tgt := 79) dX0_parted_58 rfl (fun h58 => ?_) (fun h58 => ?_)
            · rw [lI_lt (by omega) (by omega)] at h58
              have hg : goB d n s c a = false := by unfold goB; rw [decide_eq_false (show ¬ s ≤ gMany (cvP d c a) n by omega)]; simp
              rw [hg, if_neg (by decide), Nat.add_zero] at h2
              refine tg_go bX0_parted_79 ?_
              simp only [ti_iinc, tg_s1, tg_cl, List.getElem?_cons_zero, List.getElem?_cons_succ, List.set_cons_zero, List.set_cons_succ, true_and]
              rw [nI_1]
              refine g_goto (tgt := 23) dX0_parted_82 rfl ?_
              exact h2 _ _ (stay hg)
            · rw [lI_lt (by omega) (by omega)] at h58
              have hg : goB d n s c a = true := by unfold goB; rw [hne, decide_eq_false h47, decide_eq_true (show s ≤ gMany (cvP d c a) n by omega)]; rfl
              rw [if_pos hg] at h2
              refine tg_go bX0_parted_61 ?_
              simp only [ti_aload, ti_getf, ti_iald, ti_iload, List.getElem?_cons_zero, List.getElem?_cons_succ, true_and]
              rw [nI_clamp (by omega), hcda]
              refine ⟨vp_in_nI (by omega) (by omega), ?_⟩
              refine tg_cW vX0_parted_72 (kX0_dimensionsOf (a := a) hd (by omega)) rfl rfl rfl rfl (Nat.le_of_ble_eq_true rfl) (Nat.le_of_ble_eq_true rfl) (Nat.le_of_ble_eq_true rfl) rfl ?_
              unfold wC
              refine tg_go bX0_parted_75 ?_
              simp only [ti_iload, List.getElem?_cons_zero, List.getElem?_cons_succ, true_and]
              refine tg_cV [5, 6] vX0_parted_76 (kX4_goInto (s := dmB d a d) (y := nI (gMany (cvP d c a) n)) (qd := qd) (qv := nI (gMany (goB d n s c) a)) (en := en) hdm) rfl rfl rfl rfl rfl (Nat.le_of_ble_eq_true rfl) rfl (Nat.le_of_ble_eq_true rfl) (Nat.le_of_ble_eq_true rfl) (by rintro r w1 ⟨-, rfl⟩; rfl) ?_
              rintro r w1 ⟨rfl, rfl⟩
              simp only [Option.map_some, Option.map_none, Option.toList_some, Option.toList_none, List.cons_append, List.nil_append, tg_v]
              refine (show tg_G _ _ _ _ _ _ _ _ _ ((wCf (nI d) tv (nI n) tc tm (nI s) qd (nI (gMany (goB d n s c) a) + 1) (upd en (dmB d a d) (en (dmB d a d) + nI (gMany (cvP d c a) n))) hv (nI (gMany (neD d n c) (7 ^ d))) cd cv oc ov ic al cs on)) from ?_)
              unfold wCf wC
              rw [nI_1 (gMany (goB d n s c) a)]
              refine tg_go bX0_parted_79 ?_
              simp only [ti_iinc, tg_s1, tg_cl, List.getElem?_cons_zero, List.getElem?_cons_succ, List.set_cons_zero, List.set_cons_succ, true_and]
              rw [nI_1]
              refine g_goto (tgt := 23) dX0_parted_82 rfl ?_
              refine h2 _ _ (fun q hq => ?_)
              rw [hen _ hdm, upd_en (F := enF d n s c a) (hen q hq) (hen _ hdm)]
              unfold enF
              rw [sg]
              simp [hg, Nat.add_assoc]
theorem kX0_partedf {qd qv : Int32} {en : Nat → Int32} (hd : d ≤ 4) (hn : n ≤ 40) (hs : s ≤ 9) (hcl : clsO d n c hv cz cd cv ic al cs on) : tg_Ct l mX0_parted 1000 [.ref 0] (wCf (nI d) tv (nI n) tc tm (nI s) qd qv en hv cz cd cv oc ov ic al cs on) (fun r w => r = some (.ref 5) ∧ ∃ en, (∀ q, q < 16 → en q = nI (enF d n s c (7 ^ d) q)) ∧ w = (wCf (nI d) tv (nI n) tc tm (nI s) (nI d) (nI (gMany (goB d n s c) (7 ^ d))) en hv cz cd cv oc ov ic al cs on)) := by
  refine tg_gen (fun K0 hK0 => ?_)
  show tg_G _ _ _ _ _ _ _ [.ref 0, .null, .null] [] _
  unfold wCf wC
  refine tg_go bX0_parted_0 ?_
  simp only [ti_aload, ti_getf, List.getElem?_cons_zero, List.getElem?_cons_succ, true_and]
  refine tg_cV [5, 6] vX0_parted_18 (kX4_startWith (x := nI d) (y := nI n) (qd := qd) (qv := qv) (en := en)) rfl rfl rfl rfl rfl (Nat.le_of_ble_eq_true rfl) rfl (Nat.le_of_ble_eq_true rfl) (Nat.le_of_ble_eq_true rfl) (by rintro r w1 ⟨-, _, -, -, rfl⟩; rfl) ?_
  rintro r w1 ⟨rfl, en', h1, h2, rfl⟩
  simp only [Option.map_none, Option.toList_none, List.nil_append]
  refine (show tg_G _ _ _ _ _ _ _ _ _ (wCf (nI d) tv (nI n) tc tm (nI s) (nI d) 0 en' hv cz cd cv oc ov ic al cs on) from ?_)
  unfold wCf wC
  refine tg_go bX0_parted_21 ?_
  simp only [ti_istore, ti_push, tg_s1, tg_cl, List.getElem?_cons_zero, List.getElem?_cons_succ, List.set_cons_zero, List.set_cons_succ, true_and]
  exact kX0_parted_lf hd hn hs hcl (fun en he => hK0 _ _ ⟨rfl, en, he, rfl⟩) (7 ^ d + 1) 0 en' .null (Nat.lt_succ_of_le (Nat.sub_le _ _)) (Nat.zero_le _) (fun q hq => by
    unfold enF
    rw [sg, Nat.add_zero]
    by_cases z : q = 0
    · rw [if_pos z, z, h1]
    · rw [if_neg z, h2 q hq z]; rfl)
theorem kX0_codeInCube_lt {qd qv : Int32} {en : Nat → Int32} {q : Nat} (hd : d ≤ 4) (hn : n ≤ 40) (hs : s ≤ 9) (hq : q < 2 ^ 31) (hcl : clsO d n c hv cz cd cv ic al cs on) (hK : K (some (.int (oI (nth (cuB d n s c) (7 ^ d) q)))) (wCt (nI d) tv (nI n) tc tm (nI s) qd qv en hv cz cd cv oc ov ic al cs on)) : ∀ (m a : Nat), 7 ^ d - a < m → a ≤ 7 ^ d → gMany (cuB d n s c) a ≤ q → tg_G l mX0_codeInCube 1000 K 0 0 4 [.ref 0, .int (nI q), .int (nI (gMany (cuB d n s c) a)), .int (nI (gMany (neD d n c) a))] [] (wCt (nI d) tv (nI n) tc tm (nI s) qd qv en hv cz cd cv oc ov ic al cs on) := by
  obtain ⟨hh, hcz, hls, hic, -, -, -⟩ := hcl
  have hb1 := neK_640 (d := d) (c := c) hn hd
  rw [neK_d] at hb1
  have hp7 := pow7 hd
  intro m
  induction m with
  | zero => intro a h; omega
  | succ m ih =>
    intro a hm ha hqa
    have hga := gMany_le (cuB d n s c) a
    by_cases hend : a = 7 ^ d
    · subst hend
      rw [nth_none _ hqa] at hK
      rw [hcz] at hK ⊢
      unfold wCt wC at hK ⊢
      refine tg_go bX0_codeInCube_4 ?_
      simp only [ti_aload, ti_getf, ti_iload, List.getElem?_cons_zero, List.getElem?_cons_succ, true_and]
      refine g_icmp_ge (tgt := 61) dX0_codeInCube_9 rfl (fun h9 => ?_) (fun h9 => ?_)
      · refine tg_go bX0_codeInCube_61 ?_
        simp only [ti_push, List.getElem?_cons_zero, List.getElem?_cons_succ, true_and]
        refine g_iret dX0_codeInCube_62 rfl ?_
        exact hK
      · exact absurd (Int32.le_refl _) h9
    · cases hne : neD d n c a with
      | false =>
        have hcu : cuB d n s c a = false := by
          cases z : cuB d n s c a with
          | false => rfl
          | true => rw [cuB_ne z] at hne; cases hne
        have e1 : gMany (neD d n c) (a + 1) = gMany (neD d n c) a := by rw [gMany, hne]; simp
        have e2 : gMany (cuB d n s c) (a + 1) = gMany (cuB d n s c) a := by rw [gMany, hcu]; simp
        have h2 := ih (a + 1) (by omega) (by omega)
        rw [e1, e2] at h2
        exact h2 hqa
      | true =>
        have hlt := gMany_lt hne (show a < 7 ^ d by omega)
        have hmn := gMany_le (cvP d c a) n
        obtain ⟨hcda, hcva⟩ := hls a (by omega) hne
        have hcva : cv (gMany (neD d n c) a) = lN (mkN (cvP d c a) n) := hcva
        have hica := hic a (by omega) hne
        have e1 : gMany (neD d n c) (a + 1) = gMany (neD d n c) a + 1 := by rw [gMany, hne]; simp
        have h2 := ih (a + 1) (by omega) (by omega)
        rw [e1, gMany] at h2
        have stay : cuB d n s c a = false → tg_G l mX0_codeInCube 1000 K 0 0 55 [.ref 0, .int (nI q), .int (nI (gMany (cuB d n s c) a)), .int (nI (gMany (neD d n c) a))] [] (wCt (nI d) tv (nI n) tc tm (nI s) qd qv en hv cz cd cv oc ov ic al cs on) := by
          intro hcu
          rw [hcu, if_neg (by decide), Nat.add_zero] at h2
          unfold wCt wC at h2 ⊢
          refine tg_go bX0_codeInCube_55 ?_
          simp only [ti_iinc, tg_s1, tg_cl, List.getElem?_cons_zero, List.getElem?_cons_succ, List.set_cons_zero, List.set_cons_succ, true_and]
          rw [nI_1]
          refine g_goto (tgt := 4) dX0_codeInCube_58 rfl ?_
          exact h2 hqa
        rw [hcz] at h2 hK stay ⊢
        unfold wCt wC at h2 hK stay ⊢
        refine tg_go bX0_codeInCube_4 ?_
        simp only [ti_aload, ti_getf, ti_iload, List.getElem?_cons_zero, List.getElem?_cons_succ, true_and]
        refine g_icmp_ge (tgt := 61) dX0_codeInCube_9 rfl (fun h9 => ?_) (fun h9 => ?_)
        · rw [lI_le (by omega) (by omega)] at h9; omega
        · refine tg_go bX0_codeInCube_12 ?_
          simp only [ti_aload, ti_getf, ti_iload, ti_zald, List.getElem?_cons_zero, List.getElem?_cons_succ, true_and]
          rw [nI_clamp (by omega), hica]
          refine ⟨vp_in_nI (by omega) (by omega), ?_⟩
          refine g_if_eq (tgt := 55) dX0_codeInCube_18 rfl (fun h18 => ?_) (fun h18 => ?_)
          · exact stay (by unfold cuB; rw [bZ_0 h18]; rfl)
          · refine tg_go bX0_codeInCube_21 ?_
            simp only [ti_aload, ti_getf, ti_iload, ti_lald, List.getElem?_cons_zero, List.getElem?_cons_succ, true_and]
            rw [nI_clamp (by omega), hcva]
            refine ⟨vp_in_nI (by omega) (by omega), ?_⟩
            refine tg_cP vX0_codeInCube_27 (kJ13_bitCount) rfl rfl (Nat.le_of_ble_eq_true rfl) (Nat.le_of_ble_eq_true rfl) ?_
            rw [bc_mk (by omega)]
            refine tg_go bX0_codeInCube_30 ?_
            simp only [ti_aload, ti_getf, List.getElem?_cons_zero, List.getElem?_cons_succ, true_and]
            refine g_icmp_lt (tgt := 55) dX0_codeInCube_37 rfl (fun h37 => ?_) (fun h37 => ?_)
            · rw [lI_lt (by omega) (by omega)] at h37
              exact stay (by unfold cuB; rw [decide_eq_false (show ¬ s ≤ gMany (cvP d c a) n by omega), Bool.and_false])
            · rw [lI_lt (by omega) (by omega)] at h37
              have hcu : cuB d n s c a = true := by unfold cuB; rw [bZ_n h18, decide_eq_true (show s ≤ gMany (cvP d c a) n by omega)]; rfl
              rw [if_pos hcu] at h2
              refine tg_go bX0_codeInCube_40 ?_
              simp only [ti_iload, List.getElem?_cons_zero, List.getElem?_cons_succ, true_and]
              refine g_icmp_ne (tgt := 52) dX0_codeInCube_42 rfl (fun h42 => ?_) (fun h42 => ?_)
              · rw [lI_eq (by omega) (by omega)] at h42
                refine tg_go bX0_codeInCube_52 ?_
                simp only [ti_iinc, tg_s1, tg_cl, List.getElem?_cons_zero, List.getElem?_cons_succ, List.set_cons_zero, List.set_cons_succ, true_and]
                rw [nI_1]
                refine tg_go bX0_codeInCube_55 ?_
                simp only [ti_iinc, tg_s1, tg_cl, List.getElem?_cons_zero, List.getElem?_cons_succ, List.set_cons_zero, List.set_cons_succ, true_and]
                rw [nI_1]
                refine g_goto (tgt := 4) dX0_codeInCube_58 rfl ?_
                exact h2 (by omega)
              · rw [lI_eq (by omega) (by omega)] at h42
                have h3 := nth_some hcu h42 (7 ^ d - a - 1)
                rw [show a + 1 + (7 ^ d - a - 1) = 7 ^ d by omega] at h3
                rw [h3] at hK
                refine tg_go bX0_codeInCube_45 ?_
                simp only [ti_aload, ti_getf, ti_iald, ti_iload, List.getElem?_cons_zero, List.getElem?_cons_succ, true_and]
                rw [nI_clamp (by omega), hcda]
                refine ⟨vp_in_nI (by omega) (by omega), ?_⟩
                refine g_iret dX0_codeInCube_51 rfl ?_
                exact hK
theorem kX0_codeInCubet {qd qv : Int32} {en : Nat → Int32} {q : Nat} (hd : d ≤ 4) (hn : n ≤ 40) (hs : s ≤ 9) (hq : q < 2 ^ 31) (hcl : clsO d n c hv cz cd cv ic al cs on) : tg_Ct l mX0_codeInCube 1000 [.ref 0, .int (nI q)] (wCt (nI d) tv (nI n) tc tm (nI s) qd qv en hv cz cd cv oc ov ic al cs on) (fun r w => r = some (.int (oI (nth (cuB d n s c) (7 ^ d) q))) ∧ w = (wCt (nI d) tv (nI n) tc tm (nI s) qd qv en hv cz cd cv oc ov ic al cs on)) := by
  show tg_G _ _ _ _ _ _ _ [.ref 0, .int (nI q), .null, .null] [] _
  unfold wCt wC
  refine tg_go bX0_codeInCube_0 ?_
  simp only [ti_istore, ti_push, tg_s1, tg_cl, List.getElem?_cons_zero, List.getElem?_cons_succ, List.set_cons_zero, List.set_cons_succ, true_and]
  exact kX0_codeInCube_lt hd hn hs hq hcl ⟨rfl, rfl⟩ (7 ^ d + 1) 0 (Nat.lt_succ_of_le (Nat.sub_le _ _)) (Nat.zero_le _) (Nat.zero_le _)
theorem kX0_parted_lt {qd : Int32} (hd : d ≤ 4) (hn : n ≤ 40) (hs : s ≤ 9) (hcl : clsO d n c hv cz cd cv ic al cs on) (hK : ∀ en, (∀ q, q < 16 → en q = nI (enF d n s c (7 ^ d) q)) → K (some (.ref 5)) (wCt (nI d) tv (nI n) tc tm (nI s) qd (nI (gMany (goB d n s c) (7 ^ d))) en hv cz cd cv oc ov ic al cs on)) : ∀ (m a : Nat) (en : Nat → Int32) (x2 : Value), 7 ^ d - a < m → a ≤ 7 ^ d → (∀ q, q < 16 → en q = nI (enF d n s c a q)) → tg_G l mX0_parted 1000 K 0 0 23 [.ref 0, .int (nI (gMany (neD d n c) a)), x2] [] (wCt (nI d) tv (nI n) tc tm (nI s) qd (nI (gMany (goB d n s c) a)) en hv cz cd cv oc ov ic al cs on) := by
  obtain ⟨hh, hcz, hls, hic, -, -, -⟩ := hcl
  have hb1 := neK_640 (d := d) (c := c) hn hd
  rw [neK_d] at hb1
  have hp7 := pow7 hd
  intro m
  induction m with
  | zero => intro a en x2 h; omega
  | succ m ih =>
    intro a en x2 hm ha hen
    by_cases hend : a = 7 ^ d
    · subst hend
      rw [hcz] at hK ⊢
      unfold wCt wC at hK ⊢
      refine tg_go bX0_parted_23 ?_
      simp only [ti_aload, ti_getf, ti_iload, List.getElem?_cons_zero, List.getElem?_cons_succ, true_and]
      refine g_icmp_ge (tgt := 85) dX0_parted_28 rfl (fun h28 => ?_) (fun h28 => ?_)
      · refine tg_go bX0_parted_85 ?_
        simp only [ti_aload, ti_getf, List.getElem?_cons_zero, List.getElem?_cons_succ, true_and]
        refine g_aret dX0_parted_89 rfl (by first | exact Or.inl ⟨_, rfl⟩ | exact Or.inr ⟨_, rfl⟩) ?_
        exact hK _ hen
      · exact absurd (Int32.le_refl _) h28
    · have stay : goB d n s c a = false → ∀ q, q < 16 → en q = nI (enF d n s c (a + 1) q) := fun hg q hq => by
        rw [hen q hq]
        unfold enF
        rw [sg, hg]
        simp
      cases hne : neD d n c a with
      | false =>
        have hcu : goB d n s c a = false := by unfold goB; rw [hne]; rfl
        have e1 : gMany (neD d n c) (a + 1) = gMany (neD d n c) a := by rw [gMany, hne]; simp
        have e2 : gMany (goB d n s c) (a + 1) = gMany (goB d n s c) a := by rw [gMany, hcu]; simp
        have h2 := ih (a + 1) en x2 (by omega) (by omega) (stay hcu)
        rw [e1, e2] at h2
        exact h2
      | true =>
        have hlt := gMany_lt hne (show a < 7 ^ d by omega)
        have hmn := gMany_le (cvP d c a) n
        have hdm := dmB_lt hd a d
        obtain ⟨hcda, hcva⟩ := hls a (by omega) hne
        have hcva : cv (gMany (neD d n c) a) = lN (mkN (cvP d c a) n) := hcva
        have e1 : gMany (neD d n c) (a + 1) = gMany (neD d n c) a + 1 := by rw [gMany, hne]; simp
        have h2 := fun en' y2 h => ih (a + 1) en' y2 (by omega) (by omega) h
        rw [e1, gMany] at h2
        rw [hcz] at h2 hK ⊢
        unfold wCt wC at h2 hK ⊢
        refine tg_go bX0_parted_23 ?_
        simp only [ti_aload, ti_getf, ti_iload, List.getElem?_cons_zero, List.getElem?_cons_succ, true_and]
        refine g_icmp_ge (tgt := 85) dX0_parted_28 rfl (fun h28 => ?_) (fun h28 => ?_)
        · rw [lI_le (by omega) (by omega)] at h28; omega
        · refine tg_go bX0_parted_31 ?_
          simp only [ti_aload, ti_getf, ti_iload, ti_lald, List.getElem?_cons_zero, List.getElem?_cons_succ, true_and]
          rw [nI_clamp (by omega), hcva]
          refine ⟨vp_in_nI (by omega) (by omega), ?_⟩
          refine tg_cP vX0_parted_37 (kJ13_bitCount) rfl rfl (Nat.le_of_ble_eq_true rfl) (Nat.le_of_ble_eq_true rfl) ?_
          rw [bc_mk (by omega)]
          refine tg_go bX0_parted_40 ?_
          simp only [ti_aload, ti_getf, ti_iald, ti_iload, ti_istore, tg_s1, tg_cl, List.getElem?_cons_zero, List.getElem?_cons_succ, List.set_cons_zero, List.set_cons_succ, true_and]
          rw [nI_clamp (by omega), hcda]
          refine ⟨vp_in_nI (by omega) (by omega), ?_⟩
          refine g_if_eq (tgt := 79) dX0_parted_47 rfl (fun h47 => ?_) (fun h47 => ?_)
          · rw [fa_lit, lI_eq (by omega) (by omega)] at h47
            have hg : goB d n s c a = false := by unfold goB; rw [decide_eq_true h47]; simp
            rw [hg, if_neg (by decide), Nat.add_zero] at h2
            refine tg_go bX0_parted_79 ?_
            simp only [ti_iinc, tg_s1, tg_cl, List.getElem?_cons_zero, List.getElem?_cons_succ, List.set_cons_zero, List.set_cons_succ, true_and]
            rw [nI_1]
            refine g_goto (tgt := 23) dX0_parted_82 rfl ?_
            exact h2 _ _ (stay hg)
          · rw [fa_lit, lI_eq (by omega) (by omega)] at h47
            refine tg_go bX0_parted_50 ?_
            simp only [ti_aload, ti_getf, ti_iload, List.getElem?_cons_zero, List.getElem?_cons_succ, true_and]
            refine g_icmp_lt (tgt := 79) dX0_parted_58 rfl (fun h58 => ?_) (fun h58 => ?_)
            · rw [lI_lt (by omega) (by omega)] at h58
              have hg : goB d n s c a = false := by unfold goB; rw [decide_eq_false (show ¬ s ≤ gMany (cvP d c a) n by omega)]; simp
              rw [hg, if_neg (by decide), Nat.add_zero] at h2
              refine tg_go bX0_parted_79 ?_
              simp only [ti_iinc, tg_s1, tg_cl, List.getElem?_cons_zero, List.getElem?_cons_succ, List.set_cons_zero, List.set_cons_succ, true_and]
              rw [nI_1]
              refine g_goto (tgt := 23) dX0_parted_82 rfl ?_
              exact h2 _ _ (stay hg)
            · rw [lI_lt (by omega) (by omega)] at h58
              have hg : goB d n s c a = true := by unfold goB; rw [hne, decide_eq_false h47, decide_eq_true (show s ≤ gMany (cvP d c a) n by omega)]; rfl
              rw [if_pos hg] at h2
              refine tg_go bX0_parted_61 ?_
              simp only [ti_aload, ti_getf, ti_iald, ti_iload, List.getElem?_cons_zero, List.getElem?_cons_succ, true_and]
              rw [nI_clamp (by omega), hcda]
              refine ⟨vp_in_nI (by omega) (by omega), ?_⟩
              refine tg_cW vX0_parted_72 (kX0_dimensionsOf (a := a) hd (by omega)) rfl rfl rfl rfl (Nat.le_of_ble_eq_true rfl) (Nat.le_of_ble_eq_true rfl) (Nat.le_of_ble_eq_true rfl) rfl ?_
              unfold wC
              refine tg_go bX0_parted_75 ?_
              simp only [ti_iload, List.getElem?_cons_zero, List.getElem?_cons_succ, true_and]
              refine tg_cV [5, 6] vX0_parted_76 (kX4_goInto (s := dmB d a d) (y := nI (gMany (cvP d c a) n)) (qd := qd) (qv := nI (gMany (goB d n s c) a)) (en := en) hdm) rfl rfl rfl rfl rfl (Nat.le_of_ble_eq_true rfl) rfl (Nat.le_of_ble_eq_true rfl) (Nat.le_of_ble_eq_true rfl) (by rintro r w1 ⟨-, rfl⟩; rfl) ?_
              rintro r w1 ⟨rfl, rfl⟩
              simp only [Option.map_some, Option.map_none, Option.toList_some, Option.toList_none, List.cons_append, List.nil_append, tg_v]
              refine (show tg_G _ _ _ _ _ _ _ _ _ ((wCt (nI d) tv (nI n) tc tm (nI s) qd (nI (gMany (goB d n s c) a) + 1) (upd en (dmB d a d) (en (dmB d a d) + nI (gMany (cvP d c a) n))) hv (nI (gMany (neD d n c) (7 ^ d))) cd cv oc ov ic al cs on)) from ?_)
              unfold wCt wC
              rw [nI_1 (gMany (goB d n s c) a)]
              refine tg_go bX0_parted_79 ?_
              simp only [ti_iinc, tg_s1, tg_cl, List.getElem?_cons_zero, List.getElem?_cons_succ, List.set_cons_zero, List.set_cons_succ, true_and]
              rw [nI_1]
              refine g_goto (tgt := 23) dX0_parted_82 rfl ?_
              refine h2 _ _ (fun q hq => ?_)
              rw [hen _ hdm, upd_en (F := enF d n s c a) (hen q hq) (hen _ hdm)]
              unfold enF
              rw [sg]
              simp [hg, Nat.add_assoc]
theorem kX0_partedt {qd qv : Int32} {en : Nat → Int32} (hd : d ≤ 4) (hn : n ≤ 40) (hs : s ≤ 9) (hcl : clsO d n c hv cz cd cv ic al cs on) : tg_Ct l mX0_parted 1000 [.ref 0] (wCt (nI d) tv (nI n) tc tm (nI s) qd qv en hv cz cd cv oc ov ic al cs on) (fun r w => r = some (.ref 5) ∧ ∃ en, (∀ q, q < 16 → en q = nI (enF d n s c (7 ^ d) q)) ∧ w = (wCt (nI d) tv (nI n) tc tm (nI s) (nI d) (nI (gMany (goB d n s c) (7 ^ d))) en hv cz cd cv oc ov ic al cs on)) := by
  refine tg_gen (fun K0 hK0 => ?_)
  show tg_G _ _ _ _ _ _ _ [.ref 0, .null, .null] [] _
  unfold wCt wC
  refine tg_go bX0_parted_0 ?_
  simp only [ti_aload, ti_getf, List.getElem?_cons_zero, List.getElem?_cons_succ, true_and]
  refine tg_cV [5, 6] vX0_parted_18 (kX4_startWith (x := nI d) (y := nI n) (qd := qd) (qv := qv) (en := en)) rfl rfl rfl rfl rfl (Nat.le_of_ble_eq_true rfl) rfl (Nat.le_of_ble_eq_true rfl) (Nat.le_of_ble_eq_true rfl) (by rintro r w1 ⟨-, _, -, -, rfl⟩; rfl) ?_
  rintro r w1 ⟨rfl, en', h1, h2, rfl⟩
  simp only [Option.map_none, Option.toList_none, List.nil_append]
  refine (show tg_G _ _ _ _ _ _ _ _ _ (wCt (nI d) tv (nI n) tc tm (nI s) (nI d) 0 en' hv cz cd cv oc ov ic al cs on) from ?_)
  unfold wCt wC
  refine tg_go bX0_parted_21 ?_
  simp only [ti_istore, ti_push, tg_s1, tg_cl, List.getElem?_cons_zero, List.getElem?_cons_succ, List.set_cons_zero, List.set_cons_succ, true_and]
  exact kX0_parted_lt hd hn hs hcl (fun en he => hK0 _ _ ⟨rfl, en, he, rfl⟩) (7 ^ d + 1) 0 en' .null (Nat.lt_succ_of_le (Nat.sub_le _ _)) (Nat.zero_le _) (fun q hq => by
    unfold enF
    rw [sg, Nat.add_zero]
    by_cases z : q = 0
    · rw [if_pos z, z, h1]
    · rw [if_neg z, h2 q hq z]; rfl)
end TOLD
