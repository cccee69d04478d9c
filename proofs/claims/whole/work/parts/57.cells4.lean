/-! THE CLASS: Cells: one entry more, one less -/
section CELLS4
variable {l : tg_Ln} {K : Option Value → List va_E → Prop} {tv tc tm en a8 a10 ic al cs on : Nat → Int32} {hv a9 a11 : Nat → Int64} {td tn te qd qv cz : Int32} {r1 r2 r3 r4 : Nat} {d n s : Nat} {v c : Nat → Nat}
theorem kX0_gained_l {e : Nat} (hh : hvOK hv d n c) (hd : d ≤ 4) (hn : n ≤ 40) (hs : s ≤ 9) (hc : cOK d n c) (ht : ∀ i, i < n → tc i = nI (c i)) (he : e < 2 ^ 31) (hK : K (some (.int (nI (gMany (gnB d n s c e) (2 ^ d))))) (wC (nI d) tv (nI n) tc tm (nI s) qd qv en hv cz r1 r2 r3 r4 a8 a9 a10 a11 ic al cs on)) : ∀ (m q : Nat) (x4 x5 x6 x7 : Value), 2 ^ d - q < m → q ≤ 2 ^ d → tg_G l mX0_gainedWith 1000 K 0 0 4 [.ref 0, .int (nI e), .int (nI (gMany (gnB d n s c e) q)), .int (nI q), x4, x5, x6, x7] [] (wC (nI d) tv (nI n) tc tm (nI s) qd qv en hv cz r1 r2 r3 r4 a8 a9 a10 a11 ic al cs on) := by
  have h16 := pow2 hd
  have hp7 := pow7 hd
  intro m
  induction m with
  | zero => intro q x4 x5 x6 x7 h; omega
  | succ m ih =>
    intro q x4 x5 x6 x7 hm hq
    have hw := smD_lt (f := wiF d e q) wiF_lt d
    have hgm := gMany_le (cvP d c (smD (wiF d e q) d)) n
    have hsh := smD_lt (f := shF c n (cvP d c (smD (wiF d e q) d)) e) shF_lt d
    unfold wC at ih hK ⊢
    refine tg_go bX0_gainedWith_4 ?_
    simp only [ti_aload, ti_getf, ti_iload, ti_ishl, ti_push, List.getElem?_cons_zero, List.getElem?_cons_succ, true_and]
    rw [shl1 hd]
    refine g_icmp_ge (tgt := 94) dX0_gainedWith_14 rfl (fun h14 => ?_) (fun h14 => ?_)
    · rw [lI_le (by omega) (by omega)] at h14
      obtain rfl : q = 2 ^ d := by omega
      refine tg_go bX0_gainedWith_94 ?_
      simp only [ti_iload, List.getElem?_cons_zero, List.getElem?_cons_succ, true_and]
      refine g_iret dX0_gainedWith_95 rfl ?_
      exact hK
    · rw [lI_le (by omega) (by omega)] at h14
      refine tg_go bX0_gainedWith_17 ?_
      simp only [ti_aload, ti_iload, List.getElem?_cons_zero, List.getElem?_cons_succ, true_and]
      refine tg_cW vX0_gainedWith_20 (kX0_within (e := e) (q := q) hd he (by omega)) rfl rfl rfl rfl (Nat.le_of_ble_eq_true rfl) (Nat.le_of_ble_eq_true rfl) (Nat.le_of_ble_eq_true rfl) rfl ?_
      unfold wC
      refine tg_go bX0_gainedWith_23 ?_
      simp only [ti_aload, ti_iload, ti_istore, tg_s1, tg_cl, List.getElem?_cons_zero, List.getElem?_cons_succ, List.set_cons_zero, List.set_cons_succ, true_and]
      refine tg_cW vX0_gainedWith_28 (kX0_coverOf (a := smD (wiF d e q) d) hh hd hn (by omega)) rfl rfl rfl rfl (Nat.le_of_ble_eq_true rfl) (Nat.le_of_ble_eq_true rfl) (Nat.le_of_ble_eq_true rfl) rfl ?_
      unfold wC
      have fin : ∀ (x7 : Value), gnB d n s c e q = false → tg_G l mX0_gainedWith 1000 K 0 0 88 [.ref 0, .int (nI e), .int (nI (gMany (gnB d n s c e) q)), .int (nI q), .int (nI (smD (wiF d e q) d)), .long (lN (mkN (cvP d c (smD (wiF d e q) d)) n)), .null, x7] [] (wC (nI d) tv (nI n) tc tm (nI s) qd qv en hv cz r1 r2 r3 r4 a8 a9 a10 a11 ic al cs on) := by
        intro x7 hb
        have h2 := ih (q + 1) (.int (nI (smD (wiF d e q) d))) (.long (lN (mkN (cvP d c (smD (wiF d e q) d)) n))) .null x7 (by omega) (by omega)
        rw [gMany, hb, if_neg (by decide), Nat.add_zero] at h2
        unfold wC
        refine tg_go bX0_gainedWith_88 ?_
        simp only [ti_iinc, tg_s1, tg_cl, List.getElem?_cons_zero, List.getElem?_cons_succ, List.set_cons_zero, List.set_cons_succ]
        rw [nI_1]
        exact g_goto (tgt := 4) dX0_gainedWith_91 rfl h2
      unfold wC at fin
      refine tg_go bX0_gainedWith_31 ?_
      simp only [ti_lload, ti_lstore, tg_s2, tg_cl, List.getElem?_cons_zero, List.getElem?_cons_succ, List.set_cons_zero, List.set_cons_succ, true_and]
      refine tg_cP vX0_gainedWith_35 (kJ13_bitCount) rfl rfl (Nat.le_of_ble_eq_true rfl) (Nat.le_of_ble_eq_true rfl) ?_
      rw [bc_mk (by omega)]
      refine tg_go bX0_gainedWith_38 ?_
      simp only [ti_aload, ti_getf, ti_iadd, ti_push, List.getElem?_cons_zero, List.getElem?_cons_succ, true_and]
      rw [nI_1]
      refine g_icmp_lt (tgt := 66) dX0_gainedWith_47 rfl (fun h47 => ?_) (fun h47 => ?_)
      · rw [lI_lt (by omega) (by omega)] at h47
        refine tg_go bX0_gainedWith_66 ?_
        simp only [ti_push, List.getElem?_cons_zero, List.getElem?_cons_succ, true_and]
        refine tg_go bX0_gainedWith_67 ?_
        simp only [ti_iload, ti_istore, tg_s1, tg_cl, List.getElem?_cons_zero, List.getElem?_cons_succ, List.set_cons_zero, List.set_cons_succ, true_and]
        refine g_if_eq (tgt := 88) dX0_gainedWith_71 rfl (fun h71 => ?_) (fun h71 => ?_)
        · exact fin _ (by unfold gnB; rw [decide_eq_false (by omega)]; rfl)
        · exact absurd rfl h71
      · rw [lI_lt (by omega) (by omega)] at h47
        refine tg_go bX0_gainedWith_50 ?_
        simp only [ti_aload, ti_iload, ti_lload, List.getElem?_cons_zero, List.getElem?_cons_succ, true_and]
        refine tg_cW vX0_gainedWith_54 (kX0_sharedWith (e := e) (p := cvP d c (smD (wiF d e q) d)) hh hd hn he) rfl rfl rfl rfl (Nat.le_of_ble_eq_true rfl) (Nat.le_of_ble_eq_true rfl) (Nat.le_of_ble_eq_true rfl) rfl ?_
        unfold wC
        refine tg_go bX0_gainedWith_57 ?_
        simp only [ti_iload, List.getElem?_cons_zero, List.getElem?_cons_succ, true_and]
        refine g_icmp_ne (tgt := 66) dX0_gainedWith_59 rfl (fun h59 => ?_) (fun h59 => ?_)
        · rw [lI_eq (by omega) (by omega)] at h59
          refine tg_go bX0_gainedWith_66 ?_
          simp only [ti_push, List.getElem?_cons_zero, List.getElem?_cons_succ, true_and]
          refine tg_go bX0_gainedWith_67 ?_
          simp only [ti_iload, ti_istore, tg_s1, tg_cl, List.getElem?_cons_zero, List.getElem?_cons_succ, List.set_cons_zero, List.set_cons_succ, true_and]
          refine g_if_eq (tgt := 88) dX0_gainedWith_71 rfl (fun h71 => ?_) (fun h71 => ?_)
          · exact fin _ (by unfold gnB; rw [decide_eq_false h59, Bool.and_false, Bool.false_and])
          · exact absurd rfl h71
        · rw [lI_eq (by omega) (by omega)] at h59
          refine tg_go bX0_gainedWith_62 ?_
          simp only [ti_push, List.getElem?_cons_zero, List.getElem?_cons_succ, true_and]
          refine g_goto (tgt := 67) dX0_gainedWith_63 rfl ?_
          refine tg_go bX0_gainedWith_67 ?_
          simp only [ti_iload, ti_istore, tg_s1, tg_cl, List.getElem?_cons_zero, List.getElem?_cons_succ, List.set_cons_zero, List.set_cons_succ, true_and]
          refine g_if_eq (tgt := 88) dX0_gainedWith_71 rfl (fun h71 => ?_) (fun h71 => ?_)
          · exact absurd h71 (by decide)
          · refine tg_go bX0_gainedWith_74 ?_
            simp only [ti_aload, ti_iload, ti_lload, List.getElem?_cons_zero, List.getElem?_cons_succ, true_and]
            refine tg_cW vX0_gainedWith_79 (kX0_isInCube (a := smD (wiF d e q) d) (p := cvP d c (smD (wiF d e q) d)) hh hd hn hs hc ht (by omega)) rfl rfl rfl rfl (Nat.le_of_ble_eq_true rfl) (Nat.le_of_ble_eq_true rfl) (Nat.le_of_ble_eq_true rfl) rfl ?_
            unfold wC
            refine g_if_ne (tgt := 88) dX0_gainedWith_82 rfl (fun h82 => ?_) (fun h82 => ?_)
            · exact fin _ (by unfold gnB; rw [bZ_n h82]; simp)
            · refine tg_go bX0_gainedWith_85 ?_
              simp only [ti_iinc, tg_s1, tg_cl, List.getElem?_cons_zero, List.getElem?_cons_succ, List.set_cons_zero, List.set_cons_succ, true_and]
              rw [nI_1]
              refine tg_go bX0_gainedWith_88 ?_
              simp only [ti_iinc, tg_s1, tg_cl, List.getElem?_cons_zero, List.getElem?_cons_succ, List.set_cons_zero, List.set_cons_succ, true_and]
              rw [nI_1]
              refine g_goto (tgt := 4) dX0_gainedWith_91 rfl ?_
              have h2 := ih (q + 1) (.int (nI (smD (wiF d e q) d))) (.long (lN (mkN (cvP d c (smD (wiF d e q) d)) n))) .null (.int 1) (by omega) (by omega)
              rw [gMany, if_pos (show gnB d n s c e q = true from by unfold gnB; rw [decide_eq_true (by omega), decide_eq_true h59, bZ_0 h82]; rfl)] at h2
              exact h2
theorem kX0_gainedWith {e : Nat} (hh : hvOK hv d n c) (hd : d ≤ 4) (hn : n ≤ 40) (hs : s ≤ 9) (hc : cOK d n c) (ht : ∀ i, i < n → tc i = nI (c i)) (he : e < 2 ^ 31) : tg_Ct l mX0_gainedWith 1000 [.ref 0, .int (nI e)] (wC (nI d) tv (nI n) tc tm (nI s) qd qv en hv cz r1 r2 r3 r4 a8 a9 a10 a11 ic al cs on) (fun r w => r = some (.int (nI (gMany (gnB d n s c e) (2 ^ d)))) ∧ w = (wC (nI d) tv (nI n) tc tm (nI s) qd qv en hv cz r1 r2 r3 r4 a8 a9 a10 a11 ic al cs on)) := by
  show tg_G _ _ _ _ _ _ _ [.ref 0, .int (nI e), .null, .null, .null, .null, .null, .null] [] _
  unfold wC
  refine tg_go bX0_gainedWith_0 ?_
  simp only [ti_istore, ti_push, tg_s1, tg_cl, List.getElem?_cons_zero, List.getElem?_cons_succ, List.set_cons_zero, List.set_cons_succ, true_and]
  exact kX0_gained_l hh hd hn hs hc ht he ⟨rfl, rfl⟩ (2 ^ d + 1) 0 .null .null .null .null (Nat.lt_succ_of_le (Nat.sub_le _ _)) (Nat.zero_le _)
theorem kX0_lost_l {e : Nat} (hh : hvOK hv d n c) (hd : d ≤ 4) (hn : n ≤ 40) (hs : s ≤ 9) (hc : cOK d n c) (ht : ∀ i, i < n → tc i = nI (c i)) (he : e < n) (hK : K (some (.int (nI (gMany (lsB d n s c e) (2 ^ d))))) (wC (nI d) tv (nI n) tc tm (nI s) qd qv en hv cz r1 r2 r3 r4 a8 a9 a10 a11 ic al cs on)) : ∀ (m q : Nat) (x4 x5 x6 : Value), 2 ^ d - q < m → q ≤ 2 ^ d → tg_G l mX0_lostWithout 1000 K 0 0 17 [.ref 0, .int (nI e), .int (nI (gMany (lsB d n s c e) q)), .int (nI q), x4, x5, x6] [] (wC (nI d) tv (nI n) tc tm (nI s) qd qv en hv cz r1 r2 r3 r4 a8 a9 a10 a11 ic al cs on) := by
  have h16 := pow2 hd
  have hp7 := pow7 hd
  have hce := (hc e he).1
  intro m
  induction m with
  | zero => intro q x4 x5 x6 h; omega
  | succ m ih =>
    intro q x4 x5 x6 hm hq
    have hw := smD_lt (f := wiF d (c e) q) wiF_lt d
    unfold wC at ih hK ⊢
    refine tg_go bX0_lostWithout_17 ?_
    simp only [ti_aload, ti_getf, ti_iload, ti_ishl, ti_push, List.getElem?_cons_zero, List.getElem?_cons_succ, true_and]
    rw [shl1 hd]
    refine g_icmp_ge (tgt := 93) dX0_lostWithout_27 rfl (fun h27 => ?_) (fun h27 => ?_)
    · rw [lI_le (by omega) (by omega)] at h27
      obtain rfl : q = 2 ^ d := by omega
      refine tg_go bX0_lostWithout_93 ?_
      simp only [ti_iload, List.getElem?_cons_zero, List.getElem?_cons_succ, true_and]
      refine g_iret dX0_lostWithout_94 rfl ?_
      exact hK
    · rw [lI_le (by omega) (by omega)] at h27
      refine tg_go bX0_lostWithout_30 ?_
      simp only [ti_aload, ti_getf, ti_iald, ti_iload, List.getElem?_cons_zero, List.getElem?_cons_succ, true_and]
      rw [nI_clamp (by omega), ht e he]
      refine ⟨vp_in_nI (by omega) (by omega), ?_⟩
      refine tg_cW vX0_lostWithout_41 (kX0_within (e := c e) (q := q) hd (by omega) (by omega)) rfl rfl rfl rfl (Nat.le_of_ble_eq_true rfl) (Nat.le_of_ble_eq_true rfl) (Nat.le_of_ble_eq_true rfl) rfl ?_
      unfold wC
      refine tg_go bX0_lostWithout_44 ?_
      simp only [ti_aload, ti_iload, ti_istore, tg_s1, tg_cl, List.getElem?_cons_zero, List.getElem?_cons_succ, List.set_cons_zero, List.set_cons_succ, true_and]
      refine tg_cW vX0_lostWithout_49 (kX0_coverOf (a := smD (wiF d (c e) q) d) hh hd hn (by omega)) rfl rfl rfl rfl (Nat.le_of_ble_eq_true rfl) (Nat.le_of_ble_eq_true rfl) (Nat.le_of_ble_eq_true rfl) rfl ?_
      unfold wC
      have fin : lsB d n s c e q = false → tg_G l mX0_lostWithout 1000 K 0 0 87 [.ref 0, .int (nI e), .int (nI (gMany (lsB d n s c e) q)), .int (nI q), .int (nI (smD (wiF d (c e) q) d)), .long (lN (mkN (cvP d c (smD (wiF d (c e) q) d)) n)), .null] [] (wC (nI d) tv (nI n) tc tm (nI s) qd qv en hv cz r1 r2 r3 r4 a8 a9 a10 a11 ic al cs on) := by
        intro hb
        have h2 := ih (q + 1) (.int (nI (smD (wiF d (c e) q) d))) (.long (lN (mkN (cvP d c (smD (wiF d (c e) q) d)) n))) .null (by omega) (by omega)
        rw [gMany, hb, if_neg (by decide), Nat.add_zero] at h2
        unfold wC
        refine tg_go bX0_lostWithout_87 ?_
        simp only [ti_iinc, tg_s1, tg_cl, List.getElem?_cons_zero, List.getElem?_cons_succ, List.set_cons_zero, List.set_cons_succ]
        rw [nI_1]
        exact g_goto (tgt := 17) dX0_lostWithout_90 rfl h2
      unfold wC at fin
      refine tg_go bX0_lostWithout_52 ?_
      simp only [ti_aload, ti_iload, ti_lload, ti_lstore, tg_s2, tg_cl, List.getElem?_cons_zero, List.getElem?_cons_succ, List.set_cons_zero, List.set_cons_succ, true_and]
      refine tg_cW vX0_lostWithout_59 (kX0_isInCube (a := smD (wiF d (c e) q) d) (p := cvP d c (smD (wiF d (c e) q) d)) hh hd hn hs hc ht (by omega)) rfl rfl rfl rfl (Nat.le_of_ble_eq_true rfl) (Nat.le_of_ble_eq_true rfl) (Nat.le_of_ble_eq_true rfl) rfl ?_
      unfold wC
      refine g_if_eq (tgt := 87) dX0_lostWithout_62 rfl (fun h62 => ?_) (fun h62 => ?_)
      · exact fin (by unfold lsB; rw [bZ_0 h62]; rfl)
      · refine tg_go bX0_lostWithout_65 ?_
        simp only [ti_aload, ti_iload, ti_land, ti_lload, ti_lshl, ti_lxor, ti_push, List.getElem?_cons_zero, List.getElem?_cons_succ, true_and]
        rw [one_shl (by omega), ← mk_one he, mk_not]
        refine tg_cW vX0_lostWithout_78 (kX0_isInCube (a := smD (wiF d (c e) q) d) (p := fun i => cvP d c (smD (wiF d (c e) q) d) i && !decide (i = e)) hh hd hn hs hc ht (by omega)) rfl rfl rfl rfl (Nat.le_of_ble_eq_true rfl) (Nat.le_of_ble_eq_true rfl) (Nat.le_of_ble_eq_true rfl) rfl ?_
        unfold wC
        refine g_if_ne (tgt := 87) dX0_lostWithout_81 rfl (fun h81 => ?_) (fun h81 => ?_)
        · exact fin (by unfold lsB; rw [bZ_n h81, Bool.not_true, Bool.and_false])
        · refine tg_go bX0_lostWithout_84 ?_
          simp only [ti_iinc, tg_s1, tg_cl, List.getElem?_cons_zero, List.getElem?_cons_succ, List.set_cons_zero, List.set_cons_succ, true_and]
          rw [nI_1]
          refine tg_go bX0_lostWithout_87 ?_
          simp only [ti_iinc, tg_s1, tg_cl, List.getElem?_cons_zero, List.getElem?_cons_succ, List.set_cons_zero, List.set_cons_succ, true_and]
          rw [nI_1]
          refine g_goto (tgt := 17) dX0_lostWithout_90 rfl ?_
          have h2 := ih (q + 1) (.int (nI (smD (wiF d (c e) q) d))) (.long (lN (mkN (cvP d c (smD (wiF d (c e) q) d)) n))) .null (by omega) (by omega)
          rw [gMany, if_pos (show lsB d n s c e q = true from by unfold lsB; rw [bZ_n h62, bZ_0 h81]; rfl)] at h2
          exact h2
theorem kX0_lostWithout {e : Nat} (hh : hvOK hv d n c) (hd : d ≤ 4) (hn : n ≤ 40) (hs : s ≤ 9) (hc : cOK d n c) (ht : ∀ i, i < n → tc i = nI (c i)) (he : e < n) : tg_Ct l mX0_lostWithout 1000 [.ref 0, .int (nI e)] (wC (nI d) tv (nI n) tc tm (nI s) qd qv en hv cz r1 r2 r3 r4 a8 a9 a10 a11 ic al cs on) (fun r w => r = some (.int (nI (gMany (lsB d n s c e) (2 ^ d)))) ∧ w = (wC (nI d) tv (nI n) tc tm (nI s) qd qv en hv cz r1 r2 r3 r4 a8 a9 a10 a11 ic al cs on)) := by
  refine tg_gen (fun K0 hK0 => ?_)
  show tg_G _ _ _ _ _ _ _ [.ref 0, .int (nI e), .null, .null, .null, .null, .null] [] _
  unfold wC
  refine tg_go bX0_lostWithout_0 ?_
  simp only [ti_aload, ti_getf, ti_iload, List.getElem?_cons_zero, List.getElem?_cons_succ, true_and]
  refine tg_cV [1, 2, 3, 4] vX0_lostWithout_5 (kX6_hasEntry (td := nI d) (tv := tv) (te := nI s) (tc := tc) (tm := tm) (x := nI e) hn) rfl rfl rfl rfl rfl (Nat.le_of_ble_eq_true rfl) rfl (Nat.le_of_ble_eq_true rfl) (Nat.le_of_ble_eq_true rfl) (by rintro r w1 ⟨-, rfl⟩; rfl) ?_
  rintro r w1 ⟨rfl, rfl⟩
  simp only [Option.map_some, Option.map_none, Option.toList_some, Option.toList_none, List.cons_append, List.nil_append, tg_v]
  refine (show tg_G _ _ _ _ _ _ _ _ _ (wC (nI d) tv (nI n) tc tm (nI s) qd qv en hv cz r1 r2 r3 r4 a8 a9 a10 a11 ic al cs on) from ?_)
  unfold wC
  rw [show entOK n (nI e) = true from decide_eq_true (by rw [nI_toInt (by omega)]; omega)]
  refine g_if_ne (tgt := 13) dX0_lostWithout_8 rfl (fun h8 => ?_) (fun h8 => ?_)
  · refine tg_go bX0_lostWithout_13 ?_
    simp only [ti_istore, ti_push, tg_s1, tg_cl, List.getElem?_cons_zero, List.getElem?_cons_succ, List.set_cons_zero, List.set_cons_succ, true_and]
    exact kX0_lost_l hh hd hn hs hc ht he (hK0 _ _ ⟨rfl, rfl⟩) (2 ^ d + 1) 0 .null .null .null (Nat.lt_succ_of_le (Nat.sub_le _ _)) (Nat.zero_le _)
  · exact absurd h8 (by decide)
end CELLS4
