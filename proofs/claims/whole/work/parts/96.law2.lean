/-! THE LAW: its loop, its start -/
theorem dL_law_0 : decode cL_law 0 = .ok (.new 7, 3) := by decide +kernel
theorem dL_law_3 : decode cL_law 3 = .ok (.dup, 1) := by decide +kernel
theorem dL_law_4 : decode cL_law 4 = .ok (.invokespecial 9, 3) := by decide +kernel
theorem dL_law_7 : decode cL_law 7 = .ok (.astore_n 1, 1) := by decide +kernel
theorem dL_law_8 : decode cL_law 8 = .ok (.new 10, 3) := by decide +kernel
theorem dL_law_11 : decode cL_law 11 = .ok (.dup, 1) := by decide +kernel
theorem dL_law_12 : decode cL_law 12 = .ok (.invokespecial 12, 3) := by decide +kernel
theorem dL_law_15 : decode cL_law 15 = .ok (.astore_n 2, 1) := by decide +kernel
theorem dL_law_16 : decode cL_law 16 = .ok (.iconst 0, 1) := by decide +kernel
theorem dL_law_17 : decode cL_law 17 = .ok (.istore_n 3, 1) := by decide +kernel
theorem dL_law_18 : decode cL_law 18 = .ok (.iload_n 3, 1) := by decide +kernel
theorem dL_law_19 : decode cL_law 19 = .ok (.aload_n 0, 1) := by decide +kernel
theorem dL_law_20 : decode cL_law 20 = .ok (.arraylength, 1) := by decide +kernel
theorem dL_law_21 : decode cL_law 21 = .ok (.iconst 5, 1) := by decide +kernel
theorem dL_law_22 : decode cL_law 22 = .ok (.isub, 1) := by decide +kernel
theorem dL_law_23 : decode cL_law 23 = .ok (.if_icmp .gt 979, 3) := by decide +kernel
theorem dL_law_26 : decode cL_law 26 = .ok (.aload_n 0, 1) := by decide +kernel
theorem dL_law_27 : decode cL_law 27 = .ok (.iload_n 3, 1) := by decide +kernel
theorem dL_law_28 : decode cL_law 28 = .ok (.iaload, 1) := by decide +kernel
theorem dL_law_29 : decode cL_law 29 = .ok (.bipush 31, 2) := by decide +kernel
theorem dL_law_31 : decode cL_law 31 = .ok (.iand, 1) := by decide +kernel
theorem dL_law_32 : decode cL_law 32 = .ok (.tableswitch 964 0 30 #[140, 163, 176, 189, 202, 235, 258, 281, 294, 317, 340, 373, 406, 429, 452, 485, 518, 541, 574, 607, 630, 643, 676, 709, 752, 805, 838, 861, 904, 927, 941], 140) := by decide +kernel
theorem dL_law_996 : decode cL_law 996 = .ok (.iinc 3 5, 3) := by decide +kernel
theorem dL_law_999 : decode cL_law 999 = .ok (.goto (-981), 3) := by decide +kernel
theorem dL_law_1002 : decode cL_law 1002 = .ok (.iconst 1, 1) := by decide +kernel
theorem dL_law_1003 : decode cL_law 1003 = .ok (.ireturn, 1) := by decide +kernel
theorem iL_law_4 : tg_IS mL_law 4 mX8_init := ⟨okX8_init, ⟨9, dL_law_4, Or.inl mlL_9⟩, insX8_init, rfl, rfl, parX8_init, Nat.le_of_ble_eq_true rfl, Nat.le_of_ble_eq_true rfl⟩
theorem iL_law_12 : tg_IS mL_law 12 mX9_init := ⟨okX9_init, ⟨12, dL_law_12, Or.inl mlL_12⟩, insX9_init, rfl, rfl, parX9_init, Nat.le_of_ble_eq_true rfl, Nat.le_of_ble_eq_true rfl⟩
def w8 : List va_E := wA 0 0 0 (fun _ => 0) 0 0 0 2 in4 0 (fun _ => 0) (fun _ => 0) 1 (fun _ => 0) 2 in4 0 (fun _ => 0) (fun _ => 0) 1 0 0 (fun _ => 0) (fun _ => 0) 0 8 9 10 11 (fun _ => 0) (fun _ => 0) (fun _ => 0) (fun _ => 0) (fun _ => 0) (fun _ => 0) (fun _ => 0) (fun _ => 0) 0 0 (fun _ => 0) (fun _ => 0) (fun _ => 0) (fun _ => 0) 2 in4 0 (fun _ => 0) (fun _ => 0) 1 2 in4 0 (fun _ => 0) (fun _ => 0) 1 (fun _ => 0) in3 (fun _ _ => 0)
def w9 : List va_E := wM (upd (fun _ => 0) 1 1) 2 in40 0 (fun _ => 0) (fun _ => 0) 0 in3 (fun _ => 0) 0 0 0 0 0 0 0 0 0 0 0 0 0 0 0 (fun _ => 0) (fun _ => 0) (fun _ => 0)
theorem ne_0 {d : Nat} {c : Nat → Nat} : ∀ a, neD d 0 c a = false := fun a => rfl
theorem many_f {p : Nat → Bool} (h : ∀ a, p a = false) : ∀ n, gMany p n = 0
  | 0 => rfl
  | n + 1 => by rw [gMany, many_f h n, h n]; rfl
theorem J_init : J w8 w9 := by
  refine ⟨0, (fun _ => 0), 0, 2, (fun _ => 4), 0, (fun _ => 0), (fun _ => 0), 1, 0, 0, (fun _ => 0), (fun _ => 0), (fun _ => 0), (fun _ => 0), 2, in4, 0, (fun _ => 0), (fun _ => 0), 1, 2, in4, 0, (fun _ => 0), (fun _ => 0), 1, (fun _ => 0), in3, (fun _ _ => 0), upd (fun _ => 0) 1 1, in40, (fun _ => 0), ?_, ⟨_, _, _, _, _, _, _, _, _, _, _, _, _, _, _, _, _, rfl⟩, ?_, ?_, by decide, by decide, by decide, ?_, ?_, ⟨0, (fun _ => 0), (fun _ => 0), 1, Or.inl rfl, fun q => absurd q (by decide)⟩, ⟨0, (fun _ => 0), (fun _ => 0), 1, Or.inl rfl, fun q => absurd q (by decide)⟩, trivial⟩
  · refine ⟨_, _, _, _, _, _, _, _, _, _, _, _, _, _, _, _, _, _, _, _, _, _, _, _, _, _, _, _, _, _, _, _, _, _, ⟨rfl, ?_, rfl, fun i hi => absurd hi (by omega), fun i hi => absurd hi (by omega), rfl⟩, ?_, ?_, Or.inl rfl, Or.inl ⟨rfl, rfl, rfl, rfl⟩, fun _ => ?_, rfl⟩
    · intro k hk
      rcases (show k = 0 ∨ k = 1 by omega) with rfl | rfl <;> rfl
    · exact ⟨by decide, by decide, fun k hk => ⟨by show 1 ≤ 4; decide, by show 4 ≤ 6; decide⟩⟩
    · exact ⟨by decide, by decide, fun i hi => absurd hi (by omega), fun i hi => absurd hi (by omega)⟩
    · refine ⟨false, _, _, _, _, ⟨⟨rfl, rfl, rfl, rfl⟩, rfl, rfl, rfl, rfl⟩, ?_, ?_, ?_, ?_, ?_, ?_, ?_⟩
      · intro k hk f h1 h2; rfl
      · rw [many_f ne_0]; rfl
      · intro a ha hp; exact absurd hp (by rw [ne_0]; decide)
      · unfold icO
        intro a ha hp
        exact absurd hp (by rw [ne_0]; decide)
      · intro q hq
        unfold alN
        rw [many_f (fun a => by rw [ne_0]; rfl)]; rfl
      · intro q hq
        unfold csN
        rw [many_f (fun a => by rw [ne_0]; rfl)]; rfl
      · intro q hq
        unfold onN
        rw [many_f (fun a => by rw [ne_0]; rfl)]; rfl
  · intro k hk
    rcases (show k = 0 ∨ k = 1 by omega) with rfl | rfl <;> rfl
  · exact ⟨rfl, rfl, fun i hi => absurd hi (by omega), fun i hi => absurd hi (by omega), fun i hi => absurd hi (by omega), by decide, by decide, by decide⟩
  · intro r hr
    rcases (show r = 0 ∨ r = 1 ∨ r = 2 by omega) with rfl | rfl | rfl <;> exact Or.inl rfl
  · intro r hr i hi; rfl
theorem and_31 (x : Int32) : ∃ k, k < 32 ∧ x &&& 31 = nI k := by
  refine ⟨(x.toBitVec &&& 31#32).toNat, ?_, ?_⟩
  · rw [BitVec.toNat_and]
    exact Nat.lt_of_le_of_lt Nat.and_le_right (by decide)
  · apply Int32.toBitVec_inj.mp
    rw [Int32.toBitVec_and]
    show x.toBitVec &&& 31#32 = BitVec.ofNat 32 (x.toBitVec &&& 31#32).toNat
    simp
theorem lw_gt {L i : Nat} (hL : L ≤ 2560) (hi : i ≤ 4000) (h : ¬ nI L - 5 < nI i) : i + 4 < L := by
  by_cases q : 5 ≤ L
  · rw [show nI L - 5 = nI (L - 5) from pk_sub (a := L) (b := 5) q, lI_lt (by omega) (by omega)] at h
    omega
  · exfalso
    apply h
    rw [xlt, nI_toInt (by omega)]
    have : (nI L - 5).toInt < 0 := by
      rcases (show L = 0 ∨ L = 1 ∨ L = 2 ∨ L = 3 ∨ L = 4 by omega) with rfl | rfl | rfl | rfl | rfl <;> decide
    omega
section LAWL
variable {l : tg_Ln} {K : Option Value → List va_E → Prop} {kc ks : Nat}
theorem lw_sw {i k : Nat} {wc wr : List va_E} (hE : ∀ wc wr, J wc wr → tg_G l mL_law 0 K kc ks 996 (lvL i) [] (jn wc wr)) (h : J wc wr) (h5 : i + 4 < l.2.1) (hL : l.2.1 ≤ 2560) (hk : k < 32) : tg_G l mL_law 0 K kc ks 32 (lvL i) [.int (nI k)] (jn wc wr) := by
  rcases (show k = 0 ∨ k = 1 ∨ k = 2 ∨ k = 3 ∨ k = 4 ∨ k = 5 ∨ k = 6 ∨ k = 7 ∨ k = 8 ∨ k = 9 ∨ k = 10 ∨ k = 11 ∨ k = 12 ∨ k = 13 ∨ k = 14 ∨ k = 15 ∨ k = 16 ∨ k = 17 ∨ k = 18 ∨ k = 19 ∨ k = 20 ∨ k = 21 ∨ k = 22 ∨ k = 23 ∨ k = 24 ∨ k = 25 ∨ k = 26 ∨ k = 27 ∨ k = 28 ∨ k = 29 ∨ k = 30 ∨ k = 31 by omega) with rfl | rfl | rfl | rfl | rfl | rfl | rfl | rfl | rfl | rfl | rfl | rfl | rfl | rfl | rfl | rfl | rfl | rfl | rfl | rfl | rfl | rfl | rfl | rfl | rfl | rfl | rfl | rfl | rfl | rfl | rfl | rfl
  · exact g_tblIn (tgt := 172) dL_law_32 (by decide) (by decide) rfl rfl (lw_172 hE h h5 hL)
  · exact g_tblIn (tgt := 195) dL_law_32 (by decide) (by decide) rfl rfl (lw_195 hE h h5 hL)
  · exact g_tblIn (tgt := 208) dL_law_32 (by decide) (by decide) rfl rfl (lw_208 hE h h5 hL)
  · exact g_tblIn (tgt := 221) dL_law_32 (by decide) (by decide) rfl rfl (lw_221 hE h h5 hL)
  · exact g_tblIn (tgt := 234) dL_law_32 (by decide) (by decide) rfl rfl (lw_234 hE h h5 hL)
  · exact g_tblIn (tgt := 267) dL_law_32 (by decide) (by decide) rfl rfl (lw_267 hE h h5 hL)
  · exact g_tblIn (tgt := 290) dL_law_32 (by decide) (by decide) rfl rfl (lw_290 hE h h5 hL)
  · exact g_tblIn (tgt := 313) dL_law_32 (by decide) (by decide) rfl rfl (lw_313 hE h h5 hL)
  · exact g_tblIn (tgt := 326) dL_law_32 (by decide) (by decide) rfl rfl (lw_326 hE h h5 hL)
  · exact g_tblIn (tgt := 349) dL_law_32 (by decide) (by decide) rfl rfl (lw_349 hE h h5 hL)
  · exact g_tblIn (tgt := 372) dL_law_32 (by decide) (by decide) rfl rfl (lw_372 hE h h5 hL)
  · exact g_tblIn (tgt := 405) dL_law_32 (by decide) (by decide) rfl rfl (lw_405 hE h h5 hL)
  · exact g_tblIn (tgt := 438) dL_law_32 (by decide) (by decide) rfl rfl (lw_438 hE h h5 hL)
  · exact g_tblIn (tgt := 461) dL_law_32 (by decide) (by decide) rfl rfl (lw_461 hE h h5 hL)
  · exact g_tblIn (tgt := 484) dL_law_32 (by decide) (by decide) rfl rfl (lw_484 hE h h5 hL)
  · exact g_tblIn (tgt := 517) dL_law_32 (by decide) (by decide) rfl rfl (lw_517 hE h h5 hL)
  · exact g_tblIn (tgt := 550) dL_law_32 (by decide) (by decide) rfl rfl (lw_550 hE h h5 hL)
  · exact g_tblIn (tgt := 573) dL_law_32 (by decide) (by decide) rfl rfl (lw_573 hE h h5 hL)
  · exact g_tblIn (tgt := 606) dL_law_32 (by decide) (by decide) rfl rfl (lw_606 hE h h5 hL)
  · exact g_tblIn (tgt := 639) dL_law_32 (by decide) (by decide) rfl rfl (lw_639 hE h h5 hL)
  · exact g_tblIn (tgt := 662) dL_law_32 (by decide) (by decide) rfl rfl (lw_662 hE h h5 hL)
  · exact g_tblIn (tgt := 675) dL_law_32 (by decide) (by decide) rfl rfl (lw_675 hE h h5 hL)
  · exact g_tblIn (tgt := 708) dL_law_32 (by decide) (by decide) rfl rfl (lw_708 hE h h5 hL)
  · exact g_tblIn (tgt := 741) dL_law_32 (by decide) (by decide) rfl rfl (lw_741 hE h h5 hL)
  · exact g_tblIn (tgt := 784) dL_law_32 (by decide) (by decide) rfl rfl (lw_784 hE h h5 hL)
  · exact g_tblIn (tgt := 837) dL_law_32 (by decide) (by decide) rfl rfl (lw_837 hE h h5 hL)
  · exact g_tblIn (tgt := 870) dL_law_32 (by decide) (by decide) rfl rfl (lw_870 hE h h5 hL)
  · exact g_tblIn (tgt := 893) dL_law_32 (by decide) (by decide) rfl rfl (lw_893 hE h h5 hL)
  · exact g_tblIn (tgt := 936) dL_law_32 (by decide) (by decide) rfl rfl (lw_936 hE h h5 hL)
  · exact g_tblIn (tgt := 959) dL_law_32 (by decide) (by decide) rfl rfl (lw_959 hE h h5 hL)
  · exact g_tblIn (tgt := 973) dL_law_32 (by decide) (by decide) rfl rfl (lw_973 hE h h5 hL)
  · exact g_tblOut (tgt := 996) dL_law_32 (Or.inr (by decide)) rfl (hE _ _ h)
theorem lw_loop (hK : ∀ w, K (some (.int 1)) w) (hL : l.2.1 ≤ 2560) : ∀ (m i : Nat) (wc wr : List va_E), l.2.1 + 5 - i < m → i ≤ l.2.1 + 5 → J wc wr → tg_G l mL_law 0 K kc ks 18 (lvL i) [] (jn wc wr)
  | 0, _, _, _, h, _, _ => absurd h (by omega)
  | m + 1, i, wc, wr, hm, hi, h => by
    have h1 : tg_G l mL_law 0 K kc ks 23 (lvL i) [.int (nI l.2.1 - 5), .int (nI i)] (jn wc wr) := by
      refine g_icmp_gt (tgt := 1002) dL_law_23 rfl (fun _ => ?_) (fun h5 => ?_)
      · refine tg_go (M := mL_law) (a := 1002) (b := 1003) (T := ti_push (.int 1)) (si_iconst (M := mL_law) (pc := 1002) (v := 1) dL_law_1002 rfl) ?_
        exact g_zret dL_law_1003 rfl (Or.inr rfl) (hK _)
      · have h5 := lw_gt hL (by omega) h5
        have hE : ∀ wc wr, J wc wr → tg_G l mL_law 0 K kc ks 996 (lvL i) [] (jn wc wr) := fun wc wr h => by
          refine tg_go (M := mL_law) (a := 996) (b := 999) (T := ti_iinc 3 5) (si_iinc (M := mL_law) (pc := 996) (v := 5) dL_law_996 rfl (Nat.le_of_ble_eq_true rfl)) ?_
          show tg_G l mL_law 0 K kc ks 999 [.ref 1040, .ref 0, .ref 46, .int (nI i + nI 5)] [] (jn wc wr)
          rw [nI_add]
          refine g_goto (tgt := 18) dL_law_999 rfl ?_
          exact lw_loop hK hL m (i + 5) wc wr (by omega) (by omega) h
        refine tg_go (M := mL_law) (a := 26) (b := 27) (T := ti_aload 0) (si_aload_n (M := mL_law) (pc := 26) (i := 0) dL_law_26 rfl) ?_
        refine tg_go (M := mL_law) (a := 27) (b := 28) (T := ti_iload 3) (si_iload_n (M := mL_law) (pc := 27) (i := 3) dL_law_27 rfl) ?_
        show tg_G l mL_law 0 K kc ks 28 (lvL i) [.int (nI i), .ref 1040] (jn wc wr)
        refine g_xald dL_law_28 (vp_in_nI (by omega) (by omega)) ?_
        refine tg_go (M := mL_law) (a := 29) (b := 31) (T := ti_push (.int 31)) (si_bipush (M := mL_law) (pc := 29) (v := 31) dL_law_29 rfl) ?_
        refine tg_go (M := mL_law) (a := 31) (b := 32) (T := ti_iand) (si_iand (M := mL_law) (pc := 31) dL_law_31) ?_
        show tg_G l mL_law 0 K kc ks 32 (lvL i) [.int (l.2.2 (nI i).toNatClampNeg &&& 31)] (jn wc wr)
        obtain ⟨k, hk, e⟩ := and_31 (l.2.2 (nI i).toNatClampNeg)
        rw [e]
        exact lw_sw hE h h5 hL hk
    refine tg_go (M := mL_law) (a := 18) (b := 19) (T := ti_iload 3) (si_iload_n (M := mL_law) (pc := 18) (i := 3) dL_law_18 rfl) ?_
    refine tg_go (M := mL_law) (a := 19) (b := 20) (T := ti_aload 0) (si_aload_n (M := mL_law) (pc := 19) (i := 0) dL_law_19 rfl) ?_
    show tg_G l mL_law 0 K kc ks 20 (lvL i) [.ref 1040, .int (nI i)] (jn wc wr)
    refine g_xlen dL_law_20 ?_
    refine tg_go (M := mL_law) (a := 21) (b := 22) (T := ti_push (.int 5)) (si_iconst (M := mL_law) (pc := 21) (v := 5) dL_law_21 rfl) ?_
    refine tg_go (M := mL_law) (a := 22) (b := 23) (T := ti_isub) (si_isub (M := mL_law) (pc := 22) dL_law_22) ?_
    exact h1
end LAWL
