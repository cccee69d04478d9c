/-! the library: String.length and String.charAt of the class's constants (places 1010.., their bytes 1020..) -/
section JDK
variable {l : tg_Ln} {M M' : tg_M} {n0 n pc kc ks idx : Nat} {K K' : Option Value → List va_E → Prop} {lv st : List Value} {w : List va_E} {i : Nat}
theorem g_cs (hd : decode M.2.1 pc = .ok (.getstatic idx, 3)) (hl : Cond.fieldLink M.1.cls idx "java/lang/String" "COMPACT_STRINGS" "Z" ∈ tg_T) (k : tg_G l M n0 K kc ks (pc + 3) lv (.int 1 :: st) w) : tg_G l M n0 K kc ks pc lv st w := by
  intro p e s m args below meth c D cA A ad H locs ls Qc C a1 a2 hK hA hE hQ hP hD hS hL
  exact va_gets C.1 C.2.1 hE.2.2.2.1.1 hS C.2.2.2.2.1 (C.2.2.2.2.2.1 _ hl) (fun _ h => h) hd (k p e s m args below meth c D cA A ad H locs ls Qc C a1 a2 hK hA hE hQ hP hD hS hL)
theorem g_sio (hd : decode M.2.1 pc = .ok (.getstatic idx, 3)) (hl : Cond.fieldLink M.1.cls idx "jdk/internal/util/Preconditions" "SIOOBE_FORMATTER" "Ljava/util/function/BiFunction;" ∈ tg_T) (k1 : tg_G l M n0 K kc ks (pc + 3) lv (.null :: st) w) (k2 : tg_G l M n0 K kc ks (pc + 3) lv (.ref 1030 :: st) w) : tg_G l M n0 K kc ks pc lv st w := by
  intro p e s m args below meth c D cA A ad H locs ls Qc C a1 a2 hK hA hE hQ hP hD hS hL
  rcases hE.2.2.2.1.2 with h | h
  · exact va_gets C.1 C.2.1 h hS C.2.2.2.2.1 (C.2.2.2.2.2.1 _ hl) (fun _ h => h) hd (k1 p e s m args below meth c D cA A ad H locs ls Qc C a1 a2 hK hA hE hQ hP hD hS hL)
  · exact va_gets C.1 C.2.1 h hS C.2.2.2.2.1 (C.2.2.2.2.2.1 _ hl) (fun _ h => h) hd (k2 p e s m args below meth c D cA A ad H locs ls Qc C a1 a2 hK hA hE hQ hP hD hS hL)
theorem g_scod (hi : i < 4) (hd : decode M.2.1 pc = .ok (.getfield idx, 3)) (hl : Cond.fieldLink M.1.cls idx "java/lang/String" "coder" "B" ∈ tg_T) (k : tg_G l M n0 K kc ks (pc + 3) lv (.int 0 :: st) w) : tg_G l M n0 K kc ks pc lv (.ref (1010 + i) :: st) w := by
  intro p e s m args below meth c D cA A ad H locs ls Qc C a1 a2 hK hA hE hQ hP hD hS hL
  exact vk_getf C.1 C.2.1 (hE.2.2.1.1.1 i hi).2.1 hS C.2.2.2.2.1 (C.2.2.2.2.2.1 _ hl) (fun _ h => h) hd (k p e s m args below meth c D cA A ad H locs ls Qc C a1 a2 hK hA hE hQ hP hD hS hL)
theorem g_sval (hi : i < 4) (hd : decode M.2.1 pc = .ok (.getfield idx, 3)) (hl : Cond.fieldLink M.1.cls idx "java/lang/String" "value" "[B" ∈ tg_T) (k : tg_G l M n0 K kc ks (pc + 3) lv (.ref (1020 + i) :: st) w) : tg_G l M n0 K kc ks pc lv (.ref (1010 + i) :: st) w := by
  intro p e s m args below meth c D cA A ad H locs ls Qc C a1 a2 hK hA hE hQ hP hD hS hL
  exact vk_getf C.1 C.2.1 (hE.2.2.1.1.1 i hi).2.2.1 hS C.2.2.2.2.1 (C.2.2.2.2.2.1 _ hl) (fun _ h => h) hd (k p e s m args below meth c D cA A ad H locs ls Qc C a1 a2 hK hA hE hQ hP hD hS hL)
theorem g_slen (hi : i < 4) (hd : decode M.2.1 pc = .ok (.arraylength, 1)) (k : tg_G l M n0 K kc ks (pc + 1) lv (.int (nI (tg_sl.getD i 0)) :: st) w) : tg_G l M n0 K kc ks pc lv (.ref (1020 + i) :: st) w := by
  intro p e s m args below meth c D cA A ad H locs ls Qc C a1 a2 hK hA hE hQ hP hD hS hL
  exact va_tlen C.1 C.2.1 (hE.2.2.1.1.1 i hi).2.2.2 hS rfl hd (k p e s m args below meth c D cA A ad H locs ls Qc C a1 a2 hK hA hE hQ hP hD hS hL)
theorem g_sbld {j : Int32} (hi : i < 4) (hin : vp_in j (tg_sl.getD i 0)) (hd : decode M.2.1 pc = .ok (.baload, 1)) (k : tg_G l M n0 K kc ks (pc + 1) lv (.int ((tg_sb.getD i []).getD j.toNatClampNeg 0) :: st) w) : tg_G l M n0 K kc ks pc lv (.int j :: .ref (1020 + i) :: st) w := by
  intro p e s m args below meth c D cA A ad H locs ls Qc C a1 a2 hK hA hE hQ hP hD hS hL
  exact va_tb C.1 C.2.1 (hE.2.2.1.1.1 i hi).2.2.2 hS hin rfl hd (k p e s m args below meth c D cA A ad H locs ls Qc C a1 a2 hK hA hE hQ hP hD hS hL)
set_option maxHeartbeats 1000000 in
/-- an instance method of a String constant -/
theorem tg_callStr (hs : tg_VS M pc M' n) (hcl : M'.1.cls = "java/lang/String") (hi : i < 4) {As rest : List Value} {v : Value} (hc : tg_Ct l M' 1000 (.ref (1010 + i) :: As) [] (fun r w => r = some v ∧ w = []))
    (hn : As.length = n) (hla : (tg_la (.ref (1010 + i) :: As)).length ≤ M'.2.2.1) (hW : (rest.map fun v => v.category).sum ≤ 8) (hst : st = As.reverse ++ .ref (1010 + i) :: rest)
    (kk : tg_G l M n0 K kc ks (pc + 3) lv (v :: rest) w) : tg_G l M n0 K kc ks pc lv st w := by
  subst hst
  obtain ⟨hok, ⟨idx, hdg, hlk⟩, hin, hse, hpd, hc0, hs0, hfrm, hloc⟩ := hs
  intro p e s m args below meth c D cA A ad H locs ls Qc C hkc hks hK hA hE hQ hP hD hS hL
  obtain ⟨hx, hb, hr, hml, hown, hts, hlk2, hnm⟩ := id C
  have hfr : ([] : List Nat).map (fun i => w[i]?) = ([] : List va_E).map (fun c => some (tg_e (fun t => t) (tg_rn []) c)) := rfl
  have hpart := tg_part (cA := cA) (ad := ad) hfr
  have hPc : va_P D vwCl (tg_w cA (fun k => ad (tg_rn [] k)) 0 []) H := fun k q h => by simp [tg_w] at h
  have hDc := hD.sub [] rfl hpart
  have hF := va_free (A0 := A) hD hS hA [] hpart
  have hrun := va_runV (p := p) (l := l.1) (e := e) (R := M.2.2.2.2) (below := below) (meth := meth) (locs := locs) (cells := kc) (slots := ks) (As := As.map (tg_v (fun k => ad (tg_rn [] k)))) (rest := rest.map (tg_v ad)) (g := F0 m pc ls ((As.reverse ++ .ref (1010 + i) :: rest).map (tg_v ad))) (b := ad (1010 + i)) (Ts := tg_T) (n := n) ⟨hx, hb, hml, hown, hts⟩
    (tg_met hok hla hc D cA (fun k => ad (tg_rn [] k)) H.size)
    (cwV (C := M'.1.cls) n hts (fun z hz => by
      rcases List.mem_append.mp hz with hz | hz
      · simp only [List.mem_cons, List.not_mem_nil, or_false] at hz
        rcases hz with rfl | rfl | rfl | rfl
        · exact tg_goodT _ hlk
        · exact tg_goodT _ hin
        · exact tg_goodT _ hse
        · exact tg_goodT _ hok.2.1
      · exact tg_goodM hok z hz) rfl rfl rfl ⟨rfl, hok.2.2.2.1, hok.2.2.2.2, hpd⟩ ⟨hfrm, hloc⟩)
    ⟨tg_blind _ _ _ _ _ _ _, by rw [hcl]; exact vk_recv (adK := fun i => ad (1010 + i)) (i := i) hE.2.2.1.1 hi hS, fun U hU hW => ⟨by simp [tg_v_ref, tg_rn_nil], by rw [hU], by rw [hU]; exact hPc, va_K.moved hW.alike hK, hDc.weaken (fun _ _ _ _ => trivial), hE.go hW (fun q h1 h2 => by rw [hU]; exact hS.2.1 q h1 h2) (by rw [hU]; exact hS.1) hF (fun k hk => by rw [tg_rn_nil])⟩⟩
    rfl (by simp [hn]) hL.1 (by simp [tg_v_ref, tg_rn_nil, List.map_reverse]) (lv_room (by simpa [tg_v_cat, Function.comp_def] using hW)) hdg ⟨by omega, by omega⟩
  refine tgw_ret hrun hP hD hS hA hfr (fun r wc' h => by rw [h.2]) (fun r wc' H1 locs1 hK' hP1 hD1 hS1 => ?_)
  obtain ⟨rfl, rfl⟩ := hK'
  have key := kk p e s m args below meth c D cA A ad H1 locs1 ls Qc C hkc hks hK hA hE hQ hP1 hD1 hS1 hL
  rw [hc0, hs0]
  have e1 : ((v :: rest).map (tg_v ad)) = ((some v).map (tg_v (fun k => ad (tg_rn [] k)))).toList ++ rest.map (tg_v ad) := by
    simp [tg_rn_nil]
  rw [e1] at key
  exact key
end JDK
section JDK2
variable {l : tg_Ln} {i : Nat}
theorem kJ0_coder (hi : i < 4) : tg_Ct l mJ0_coder_7d493 1000 [.ref (1010 + i)] [] (fun r w => r = some (.int 0) ∧ w = []) := by
  show tg_G _ _ _ _ _ _ _ [.ref (1010 + i)] [] _
  refine g_cs dJ0_coder_7d493_0 flJ0_38 ?_
  refine g_if_eq (tgt := 13) dJ0_coder_7d493_3 rfl (fun h => absurd h (by decide)) (fun _ => ?_)
  refine tg_go (si_aload_n (i := 0) dJ0_coder_7d493_6 rfl) ?_
  simp only [ti_aload, List.getElem?_cons_zero]
  refine g_scod hi dJ0_coder_7d493_7 flJ0_15 ?_
  refine g_goto (tgt := 14) dJ0_coder_7d493_10 rfl ?_
  exact g_nret (ty := .byte) dJ0_coder_7d493_14 rfl rfl ⟨rfl, rfl⟩
theorem kJ0_isLatin1 (hi : i < 4) : tg_Ct l mJ0_isLatin1_aae02 1000 [.ref (1010 + i)] [] (fun r w => r = some (.int 1) ∧ w = []) := by
  show tg_G _ _ _ _ _ _ _ [.ref (1010 + i)] [] _
  refine g_cs dJ0_isLatin1_aae02_0 flJ0_38 ?_
  refine g_if_eq (tgt := 17) dJ0_isLatin1_aae02_3 rfl (fun h => absurd h (by decide)) (fun _ => ?_)
  refine tg_go (si_aload_n (i := 0) dJ0_isLatin1_aae02_6 rfl) ?_
  simp only [ti_aload, List.getElem?_cons_zero]
  refine g_scod hi dJ0_isLatin1_aae02_7 flJ0_15 ?_
  refine g_if_ne (tgt := 17) dJ0_isLatin1_aae02_10 rfl (fun h => absurd rfl h) (fun _ => ?_)
  refine tg_go (si_iconst (v := 1) dJ0_isLatin1_aae02_13 (by decide)) ?_
  simp only [ti_push]
  refine g_goto (tgt := 18) dJ0_isLatin1_aae02_14 rfl ?_
  exact g_zret dJ0_isLatin1_aae02_18 rfl (Or.inr rfl) ⟨rfl, rfl⟩
theorem kJ0_length (hi : i < 4) : tg_Ct l mJ0_length_8abf5 1000 [.ref (1010 + i)] [] (fun r w => r = some (.int (nI (tg_sl.getD i 0))) ∧ w = []) := by
  show tg_G _ _ _ _ _ _ _ [.ref (1010 + i)] [] _
  refine tg_go (si_aload_n (i := 0) dJ0_length_8abf5_0 rfl) ?_
  simp only [ti_aload, List.getElem?_cons_zero]
  refine g_sval hi dJ0_length_8abf5_1 flJ0_9 ?_
  refine g_slen hi dJ0_length_8abf5_4 ?_
  refine tg_go (si_aload_n (i := 0) dJ0_length_8abf5_5 rfl) ?_
  simp only [ti_aload, List.getElem?_cons_zero]
  refine tg_callStr vJ0_length_8abf5_6 rfl hi (kJ0_coder hi) (As := []) rfl (Nat.le_of_ble_eq_true rfl) (Nat.le_of_ble_eq_true rfl) rfl ?_
  refine tg_go (si_ishr dJ0_length_8abf5_9) ?_
  simp only [ti_ishr]
  refine g_iret dJ0_length_8abf5_10 rfl ⟨?_, rfl⟩
  rcases (show i = 0 ∨ i = 1 ∨ i = 2 ∨ i = 3 by omega) with rfl | rfl | rfl | rfl <;> rfl
theorem kJ3_checkIndex {x y : Int32} {v : Value} (hv : v = .null ∨ v = .ref 1030) (h1 : ¬ x < 0) (h2 : x < y) : tg_Ct l mJ3_checkIndex_8e157 1000 [.int x, .int y, v] [] (fun r w => r = some (.int x) ∧ w = []) := by
  have key : ∀ u : Value, tg_G l mJ3_checkIndex_8e157 1000 (fun r w => r = some (.int x) ∧ w = []) 0 0 0 [.int x, .int y, u] [] [] := by
    intro u
    refine tg_go (si_iload_n (i := 0) dJ3_checkIndex_8e157_0 rfl) ?_
    simp only [ti_iload, List.getElem?_cons_zero]
    refine g_if_lt (tgt := 9) dJ3_checkIndex_8e157_1 rfl (fun h => absurd h h1) (fun _ => ?_)
    refine tg_go (tg_seq (si_iload_n (i := 0) dJ3_checkIndex_8e157_4 rfl) (si_iload_n (i := 1) dJ3_checkIndex_8e157_5 rfl)) ?_
    simp only [ti_iload, List.getElem?_cons_zero, List.getElem?_cons_succ]
    refine g_icmp_lt (tgt := 16) dJ3_checkIndex_8e157_6 rfl (fun _ => ?_) (fun h => absurd h2 h)
    refine tg_go (si_iload_n (i := 0) dJ3_checkIndex_8e157_16 rfl) ?_
    simp only [ti_iload, List.getElem?_cons_zero]
    exact g_iret dJ3_checkIndex_8e157_17 rfl ⟨rfl, rfl⟩
  rcases hv with rfl | rfl
  · exact key .null
  · exact key (.ref 1030)
theorem kJ0_checkIndex {x y : Int32} (h1 : ¬ x < 0) (h2 : x < y) : tg_Ct l mJ0_checkIndex_df160 1000 [.int x, .int y] [] (fun r w => r = none ∧ w = []) := by
  show tg_G _ _ _ _ _ _ _ [.int x, .int y] [] _
  refine tg_go (tg_seq (si_iload_n (i := 0) dJ0_checkIndex_df160_0 rfl) (si_iload_n (i := 1) dJ0_checkIndex_df160_1 rfl)) ?_
  simp only [ti_iload, List.getElem?_cons_zero, List.getElem?_cons_succ]
  refine g_sio dJ0_checkIndex_df160_2 flJ0_1053 ?_ ?_
  · refine tg_cP vJ0_checkIndex_df160_5 (kJ3_checkIndex (x := x) (y := y) (v := .null) (Or.inl rfl) h1 h2) (rest := []) rfl rfl (Nat.le_of_ble_eq_true rfl) (Nat.le_of_ble_eq_true rfl) ?_
    refine tg_go (si_pop dJ0_checkIndex_df160_8) ?_
    simp only [ti_pop, Value.category, true_and]
    exact g_vret dJ0_checkIndex_df160_9 rfl ⟨rfl, rfl⟩
  · refine tg_cP vJ0_checkIndex_df160_5 (kJ3_checkIndex (x := x) (y := y) (v := .ref 1030) (Or.inr rfl) h1 h2) (rest := []) rfl rfl (Nat.le_of_ble_eq_true rfl) (Nat.le_of_ble_eq_true rfl) ?_
    refine tg_go (si_pop dJ0_checkIndex_df160_8) ?_
    simp only [ti_pop, Value.category, true_and]
    exact g_vret dJ0_checkIndex_df160_9 rfl ⟨rfl, rfl⟩
theorem sb_nat : ∀ i, i < 4 → ∀ j, j < 7 → ∃ q, q < 256 ∧ (tg_sb.getD i []).getD j 0 = nI q := by
  intro i hi j hj
  rcases (show i = 0 ∨ i = 1 ∨ i = 2 ∨ i = 3 by omega) with rfl | rfl | rfl | rfl
  · exact ⟨([116, 97, 98, 108, 101, 0, 0] : List Nat).getD j 0, by rcases (show j = 0 ∨ j = 1 ∨ j = 2 ∨ j = 3 ∨ j = 4 ∨ j = 5 ∨ j = 6 by omega) with rfl | rfl | rfl | rfl | rfl | rfl | rfl <;> decide, by rcases (show j = 0 ∨ j = 1 ∨ j = 2 ∨ j = 3 ∨ j = 4 ∨ j = 5 ∨ j = 6 by omega) with rfl | rfl | rfl | rfl | rfl | rfl | rfl <;> decide⟩
  · exact ⟨([115, 117, 112, 112, 111, 114, 116] : List Nat).getD j 0, by rcases (show j = 0 ∨ j = 1 ∨ j = 2 ∨ j = 3 ∨ j = 4 ∨ j = 5 ∨ j = 6 by omega) with rfl | rfl | rfl | rfl | rfl | rfl | rfl <;> decide, by rcases (show j = 0 ∨ j = 1 ∨ j = 2 ∨ j = 3 ∨ j = 4 ∨ j = 5 ∨ j = 6 by omega) with rfl | rfl | rfl | rfl | rfl | rfl | rfl <;> decide⟩
  · exact ⟨([114, 111, 119, 0, 0, 0, 0] : List Nat).getD j 0, by rcases (show j = 0 ∨ j = 1 ∨ j = 2 ∨ j = 3 ∨ j = 4 ∨ j = 5 ∨ j = 6 by omega) with rfl | rfl | rfl | rfl | rfl | rfl | rfl <;> decide, by rcases (show j = 0 ∨ j = 1 ∨ j = 2 ∨ j = 3 ∨ j = 4 ∨ j = 5 ∨ j = 6 by omega) with rfl | rfl | rfl | rfl | rfl | rfl | rfl <;> decide⟩
  · exact ⟨([59, 0, 0, 0, 0, 0, 0] : List Nat).getD j 0, by rcases (show j = 0 ∨ j = 1 ∨ j = 2 ∨ j = 3 ∨ j = 4 ∨ j = 5 ∨ j = 6 by omega) with rfl | rfl | rfl | rfl | rfl | rfl | rfl <;> decide, by rcases (show j = 0 ∨ j = 1 ∨ j = 2 ∨ j = 3 ∨ j = 4 ∨ j = 5 ∨ j = 6 by omega) with rfl | rfl | rfl | rfl | rfl | rfl | rfl <;> decide⟩
theorem sb_chr : ∀ i, i < 4 → ∀ j, j < 7 → (((tg_sb.getD i []).getD j 0 &&& 255).toUInt32 % 65536).toInt32 = (tg_sb.getD i []).getD j 0 ∧ narrow .char (.int ((tg_sb.getD i []).getD j 0)) = .int ((tg_sb.getD i []).getD j 0) := by
  intro i hi j hj
  obtain ⟨q, hq, e⟩ := sb_nat i hi j hj
  rw [e]
  refine ⟨?_, (pk_charN (by omega)).1⟩
  rw [pk_andN (m := 255) (by omega) 8 (by decide), pk_char, pk_tn (by omega), Nat.mod_eq_of_lt (show q % 2 ^ 8 < 65536 by omega), Nat.mod_eq_of_lt (show q < 2 ^ 8 by omega)]
theorem sl_7 : ∀ i, i < 4 → tg_sl.getD i 0 ≤ 7 := by
  intro i hi
  rcases (show i = 0 ∨ i = 1 ∨ i = 2 ∨ i = 3 by omega) with rfl | rfl | rfl | rfl <;> decide
theorem kJ1_charAt {j : Nat} (hi : i < 4) (hj : j < tg_sl.getD i 0) : tg_Ct l mJ1_charAt_3b067 1000 [.ref (1020 + i), .int (nI j)] [] (fun r w => r = some (.int ((tg_sb.getD i []).getD j 0)) ∧ w = []) := by
  have h7 := sl_7 i hi
  obtain ⟨e1, e2⟩ := sb_chr i hi j (by omega)
  show tg_G _ _ _ _ _ _ _ [.ref (1020 + i), .int (nI j)] [] _
  refine tg_go (tg_seq (si_iload_n (i := 1) dJ1_charAt_3b067_0 rfl) (si_aload_n (i := 0) dJ1_charAt_3b067_1 rfl)) ?_
  simp only [ti_iload, ti_aload, List.getElem?_cons_zero, List.getElem?_cons_succ]
  refine g_slen hi dJ1_charAt_3b067_2 ?_
  refine tg_callP vJ1_charAt_3b067_3 (P := fun r => r = none) (As := [.int (nI j), .int (nI (tg_sl.getD i 0))]) (rest := []) (kJ0_checkIndex (nI_pos (by omega)) ((nI_ltI (by omega) (by omega)).mpr hj)) rfl (Nat.le_of_ble_eq_true rfl) (Nat.le_of_ble_eq_true rfl) (fun r hr => ?_)
  subst hr
  simp only [Option.toList_none, List.nil_append]
  refine tg_go (tg_seq (si_aload_n (i := 0) dJ1_charAt_3b067_6 rfl) (si_iload_n (i := 1) dJ1_charAt_3b067_7 rfl)) ?_
  simp only [ti_iload, ti_aload, List.getElem?_cons_zero, List.getElem?_cons_succ]
  refine g_sbld hi (vp_in_nI hj (by omega)) dJ1_charAt_3b067_8 ?_
  rw [nI_clamp (by omega)]
  refine tg_go (tg_seq (si_sipush (v := 255) dJ1_charAt_3b067_9 (by decide)) (tg_seq (si_iand dJ1_charAt_3b067_12) (si_i2c dJ1_charAt_3b067_13))) ?_
  simp only [ti_push, ti_iand, ti_i2c]
  rw [e1]
  exact g_nret (ty := .char) dJ1_charAt_3b067_14 rfl e2 ⟨rfl, rfl⟩
theorem kJ0_charAt {j : Nat} (hi : i < 4) (hj : j < tg_sl.getD i 0) : tg_Ct l mJ0_charAt_5068e 1000 [.ref (1010 + i), .int (nI j)] [] (fun r w => r = some (.int ((tg_sb.getD i []).getD j 0)) ∧ w = []) := by
  have h7 := sl_7 i hi
  obtain ⟨e1, e2⟩ := sb_chr i hi j (by omega)
  show tg_G _ _ _ _ _ _ _ [.ref (1010 + i), .int (nI j)] [] _
  refine tg_go (si_aload_n (i := 0) dJ0_charAt_5068e_0 rfl) ?_
  simp only [ti_aload, List.getElem?_cons_zero]
  refine tg_callStr vJ0_charAt_5068e_1 rfl hi (kJ0_isLatin1 hi) (As := []) rfl (Nat.le_of_ble_eq_true rfl) (Nat.le_of_ble_eq_true rfl) rfl ?_
  refine g_if_eq (tgt := 16) dJ0_charAt_5068e_4 rfl (fun h => absurd h (by decide)) (fun _ => ?_)
  refine tg_go (si_aload_n (i := 0) dJ0_charAt_5068e_7 rfl) ?_
  simp only [ti_aload, List.getElem?_cons_zero]
  refine g_sval hi dJ0_charAt_5068e_8 flJ0_9 ?_
  refine tg_go (si_iload_n (i := 1) dJ0_charAt_5068e_11 rfl) ?_
  simp only [ti_iload, List.getElem?_cons_zero, List.getElem?_cons_succ]
  refine tg_cP vJ0_charAt_5068e_12 (kJ1_charAt hi hj) (rest := []) rfl rfl (Nat.le_of_ble_eq_true rfl) (Nat.le_of_ble_eq_true rfl) ?_
  exact g_nret (ty := .char) dJ0_charAt_5068e_15 rfl e2 ⟨rfl, rfl⟩
end JDK2
