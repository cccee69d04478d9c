/-! CLASS AND REFERENCE TOGETHER: entries, the past, the text read -/
section J5
variable {l : tg_Ln} {wc wr : List va_E} {row : Nat → Int32} {d n s z : Nat} {v c : Nat → Nat} {u : Nat → Int32}
theorem tb_add {x y : Int32} (h : tbR row d 0 n s c u) (hn : n < 40) (hx : x = nI x.toInt.toNat) (hE : eOK d v (n + 1) (exC c n x.toInt.toNat) (exC u n y) s) : tbR (rPut (rKeep row z) 0 n x y) d 0 (n + 1) s (exC c n x.toInt.toNat) (exC u n y) := by
  obtain ⟨h1, h2, h3, h4, h5, h6, h7, h8⟩ := h
  refine ⟨?_, ?_, fun i hi => ?_, fun i hi => ?_, fun i hi => (hE.2.2.1 i hi).1, by omega, h7, by omega⟩
  · unfold rPut upd
    rw [if_pos rfl]
  · unfold rPut upd
    rw [if_neg (by omega), if_neg (by omega), if_neg (by omega), rKeep_lo (by omega)]
    exact h2
  · unfold rPut upd exC
    rw [if_neg (by omega), if_neg (by omega)]
    by_cases q : i = n
    · rw [if_pos (by omega), if_pos q]; exact hx
    · rw [if_neg (by omega), if_neg q, rKeep_lo (by omega)]
      exact h3 i (by omega)
  · unfold rPut upd exC
    rw [if_neg (by omega)]
    by_cases q : i = n
    · rw [if_pos (by omega), if_pos q]
    · rw [if_neg (by omega), if_neg (by omega), if_neg q, rKeep_lo (by omega)]
      exact h4 i (by omega)
theorem add_row {x y : Int32} {j : Nat} (hn : n < 40) (hj : 82 ≤ j) : rPut (rKeep row z) 0 n x y j = rKeep row z j := by
  unfold rPut upd
  rw [if_neg (by omega), if_neg (by omega), if_neg (by omega)]
theorem tb_del {e : Nat} (h : tbR row d 0 n s c u) (he : e < n) (hE : eOK d v (n - 1) (delC c e) (delC u e) s) : tbR (rTake (rKeep row z) 0 n e) d 0 (n - 1) s (delC c e) (delC u e) := by
  obtain ⟨h1, h2, h3, h4, h5, h6, h7, h8⟩ := h
  refine ⟨?_, ?_, fun i hi => ?_, fun i hi => ?_, fun i hi => (hE.2.2.1 i hi).1, by omega, h7, by omega⟩
  · unfold rTake rTk
    rw [if_pos rfl]
  · unfold rTake rTk
    rw [if_neg (by omega), if_neg (by omega), if_neg (by omega), rKeep_lo (by omega)]
    exact h2
  · unfold rTake rTk delC
    rw [if_neg (by omega)]
    by_cases q : i < e
    · rw [if_neg (by omega), if_neg (by omega), if_pos q, rKeep_lo (by omega)]
      exact h3 i (by omega)
    · rw [if_pos (by omega), if_neg q, rKeep_lo (by omega)]
      exact h3 (i + 1) (by omega)
  · unfold rTake rTk delC
    rw [if_neg (by omega), if_neg (by omega)]
    by_cases q : i < e
    · rw [if_neg (by omega), if_pos q, rKeep_lo (by omega)]
      exact h4 i (by omega)
    · rw [if_pos (by omega), if_neg q, rKeep_lo (by omega)]
      exact h4 (i + 1) (by omega)
theorem del_row {e j : Nat} (hn : n ≤ 40) (he : e < n) (hj : 82 ≤ j) : rTake (rKeep row z) 0 n e j = rKeep row z j := by
  unfold rTake rTk
  rw [if_neg (by omega), if_neg (by omega), if_neg (by omega)]
theorem tb_sup {x : Int32} (h : tbR row d 0 n s c u) (hx : 1 ≤ x.toInt ∧ x.toInt ≤ 9) : tbR (upd (rKeep row z) 1 x) d 0 n x.toInt.toNat c u := by
  obtain ⟨h1, h2, h3, h4, h5, h6, h7, h8⟩ := h
  refine ⟨?_, ?_, fun i hi => ?_, fun i hi => ?_, h5, h6, by omega, by omega⟩
  · unfold upd
    rw [if_neg (by omega), rKeep_lo (by omega)]; exact h1
  · unfold upd
    rw [if_pos rfl]
    exact (x_of (n := 10) (by omega) (by omega)).1
  · unfold upd
    rw [if_neg (by omega), rKeep_lo (by omega)]; exact h3 i hi
  · unfold upd
    rw [if_neg (by omega), rKeep_lo (by omega)]; exact h4 i hi
theorem sup_row {x : Int32} {j : Nat} (hj : 82 ≤ j) : upd (rKeep row z) 1 x j = rKeep row z j := by
  unfold upd
  rw [if_neg (by omega)]
theorem un_eq : min (z + 1) 8 = uShift z + 1 ∨ 8 < z := by unfold uShift; split <;> omega
theorem J_add {x y : Int32} (h : J wc wr) : JC l mX8_add mX9_add [.int x, .int y] wc wr := by
  obtain ⟨told, tx, L, d, v, n, c, u, s, z, p, pk, pn, pc, pm, kd, kv, kn, kc, km, ke, jd, jv, jn, jc, jm, je, kp, ln, P, row, vals, it, h⟩ := h
  have hV := sA_V h.A
  have hE := sA_E h.A
  have hd4 : d ≤ 4 := hV.2.1
  have hv6 : ∀ k, k < d → vals k = nI (v k) ∧ v k ≤ 6 := fun k hk => ⟨h.V k hk, (hV.2.2 k hk).2⟩
  have hrv : rvOK d vals := ⟨hd4, fun k hk => ⟨v k, (hV.2.2 k hk).1, (hV.2.2 k hk).2, h.V k hk⟩⟩
  obtain ⟨fi, be, rD, rM, cl, dg, nu, my, su, le, gr, cz, vi, ov, rv, ct, bm, rfl⟩ := id h.R
  have hz8 := h.hz
  have hu : min (z + 1) 8 = uShift z + 1 := un_eq.elim id (fun q => absurd q (by omega))
  refine (kX8_add h.A h.hz h.hp).mono (fun r w hw => ?_)
  rcases hw with ⟨a1, rfl, hA⟩ | ⟨a1, a2, rfl, hA⟩ | ⟨a1, a2, rfl, hA⟩
  all_goals
    refine ⟨sA_len hA, _, rfl, (kX9_add hd4 hv6 hE.1 h.T.1 h.hz).mono (fun r' w' hw' => ?_)⟩
    rcases hw' with ⟨b1, rfl, hR⟩ | ⟨b1, b2, rfl, hR⟩ | ⟨b1, b2, rfl, hR⟩
    all_goals first | exact absurd a1 b1 | exact absurd b1 a1 | (exfalso; omega) | skip
  · exact ⟨rfl, ⟨_, _, _, _, _, _, _, _, _, _, _, _, _, _, _, _, _, _, _, _, _, _, _, _, _, _, _, _, _, _, _, _, _, hA, hR, h.V, h.T, h.hL, h.hp, h.hz, h.sl, h.hi, h.K0, h.K1, h.pa⟩⟩
  · exact ⟨rfl, ⟨_, _, _, _, _, _, _, _, _, _, _, _, _, _, _, _, _, _, _, _, _, _, _, _, _, _, _, _, _, _, _, _, _, hA, hR, h.V, h.T, h.hL, h.hp, h.hz, h.sl, h.hi, h.K0, h.K1, h.pa⟩⟩
  · rw [← hu] at hR
    have hE' := eOK_ex hE a1.1 a2 a1.2
    obtain ⟨b, eb, qb⟩ := wholeOK_in a1.1
    have ex : x = nI x.toInt.toNat := by
      have hb31 : b < 2 ^ 31 := by have := pow7 hd4; omega
      rw [eb, nI_toInt hb31, Int.toNat_natCast]
    refine ⟨rfl, ⟨_, _, _, _, _, _, _, _, _, _, _, _, _, _, _, _, _, _, _, _, _, _, _, _, _, _, _, _, _, _, _, _, _, hA, hR, h.V, tb_add h.T a2 ex hE', h.hL, nx_lt, Nat.min_le_right _ _, h.sl, h.hi, kpJ_mv h.K0 (fun j h1 h2 => (add_row a2 (by omega)).trans (rKeep_hi h.hz (by omega))), kpJ_mv h.K1 (fun j h1 h2 => (add_row a2 (by omega)).trans (rKeep_hi h.hz (by omega))), past_push h.hz h.hp h.T hE h.pa (fun j h1 h2 => add_row a2 h1) (Or.inl ⟨rfl, n, rfl, by omega, by omega, rfl, fun i hi => ?_⟩)⟩⟩
    unfold delC exC
    rw [if_pos hi, if_pos hi, if_neg (by omega), if_neg (by omega)]
    exact ⟨rfl, rfl⟩
theorem J_remove {x : Int32} (h : J wc wr) : JC l mX8_remove mX9_remove [.int x] wc wr := by
  obtain ⟨told, tx, L, d, v, n, c, u, s, z, p, pk, pn, pc, pm, kd, kv, kn, kc, km, ke, jd, jv, jn, jc, jm, je, kp, ln, P, row, vals, it, h⟩ := h
  have hV := sA_V h.A
  have hE := sA_E h.A
  have hd4 : d ≤ 4 := hV.2.1
  have hv6 : ∀ k, k < d → vals k = nI (v k) ∧ v k ≤ 6 := fun k hk => ⟨h.V k hk, (hV.2.2 k hk).2⟩
  have hrv : rvOK d vals := ⟨hd4, fun k hk => ⟨v k, (hV.2.2 k hk).1, (hV.2.2 k hk).2, h.V k hk⟩⟩
  obtain ⟨fi, be, rD, rM, cl, dg, nu, my, su, le, gr, cz, vi, ov, rv, ct, bm, rfl⟩ := id h.R
  have hz8 := h.hz
  have hu : min (z + 1) 8 = uShift z + 1 := un_eq.elim id (fun q => absurd q (by omega))
  refine (kX8_remove h.A h.hz h.hp).mono (fun r w hw => ?_)
  rcases hw with ⟨a1, rfl, hA⟩ | ⟨a1, rfl, hA⟩
  all_goals
    refine ⟨sA_len hA, _, rfl, (kX9_remove hE.1 h.T.1 h.hz).mono (fun r' w' hw' => ?_)⟩
    rcases hw' with ⟨b1, rfl, hR⟩ | ⟨b1, rfl, hR⟩
    all_goals first | exact absurd a1 b1 | exact absurd b1 a1 | (exfalso; omega) | skip
  · exact ⟨rfl, ⟨_, _, _, _, _, _, _, _, _, _, _, _, _, _, _, _, _, _, _, _, _, _, _, _, _, _, _, _, _, _, _, _, _, hA, hR, h.V, h.T, h.hL, h.hp, h.hz, h.sl, h.hi, h.K0, h.K1, h.pa⟩⟩
  · rw [← hu] at hR
    obtain ⟨ex, qx⟩ := xO a1
    have hE' := eOK_del hE qx
    refine ⟨rfl, ⟨_, _, _, _, _, _, _, _, _, _, _, _, _, _, _, _, _, _, _, _, _, _, _, _, _, _, _, _, _, _, _, _, _, hA, hR, h.V, tb_del h.T qx hE', h.hL, nx_lt, Nat.min_le_right _ _, h.sl, h.hi, kpJ_mv h.K0 (fun j h1 h2 => (del_row hE.1 qx (by omega)).trans (rKeep_hi h.hz (by omega))), kpJ_mv h.K1 (fun j h1 h2 => (del_row hE.1 qx (by omega)).trans (rKeep_hi h.hz (by omega))), past_push h.hz h.hp h.T hE h.pa (fun j h1 h2 => del_row hE.1 qx h1) (Or.inr (Or.inl ⟨rfl, x.toInt.toNat, c x.toInt.toNat, ex, rfl, by omega, by omega, rfl, fun i hi => ?_⟩))⟩⟩
    unfold insC delC
    by_cases q1 : i < x.toInt.toNat
    · rw [if_pos q1, if_pos q1, if_pos q1, if_pos q1]; exact ⟨rfl, rfl⟩
    · rw [if_neg q1, if_neg q1]
      by_cases q2 : i = x.toInt.toNat
      · rw [if_pos q2, if_pos q2, q2]; exact ⟨rfl, rfl⟩
      · rw [if_neg q2, if_neg q2, if_neg (by omega), if_neg (by omega), Nat.sub_add_cancel (by omega)]; exact ⟨rfl, rfl⟩
theorem J_support {x : Int32} (h : J wc wr) : JC l mX8_support mX9_support [.int x] wc wr := by
  obtain ⟨told, tx, L, d, v, n, c, u, s, z, p, pk, pn, pc, pm, kd, kv, kn, kc, km, ke, jd, jv, jn, jc, jm, je, kp, ln, P, row, vals, it, h⟩ := h
  have hV := sA_V h.A
  have hE := sA_E h.A
  have hd4 : d ≤ 4 := hV.2.1
  have hv6 : ∀ k, k < d → vals k = nI (v k) ∧ v k ≤ 6 := fun k hk => ⟨h.V k hk, (hV.2.2 k hk).2⟩
  have hrv : rvOK d vals := ⟨hd4, fun k hk => ⟨v k, (hV.2.2 k hk).1, (hV.2.2 k hk).2, h.V k hk⟩⟩
  obtain ⟨fi, be, rD, rM, cl, dg, nu, my, su, le, gr, cz, vi, ov, rv, ct, bm, rfl⟩ := id h.R
  have hz8 := h.hz
  have hu : min (z + 1) 8 = uShift z + 1 := un_eq.elim id (fun q => absurd q (by omega))
  refine (kX8_support h.A h.hz h.hp).mono (fun r w hw => ?_)
  rcases hw with ⟨a1, rfl, hA⟩ | ⟨a1, a2, rfl, hA⟩ | ⟨a1, a2, rfl, hA⟩
  all_goals
    refine ⟨sA_len hA, _, rfl, (kX9_support hE.2.1.2 h.T.2.1 h.hz).mono (fun r' w' hw' => ?_)⟩
    rcases hw' with ⟨b1, rfl, hR⟩ | ⟨b1, b2, rfl, hR⟩ | ⟨b1, b2, rfl, hR⟩
    all_goals first | exact absurd a1 b1 | exact absurd b1 a1 | exact absurd a2 b2 | exact absurd b2 a2 | (exfalso; omega) | skip
  · exact ⟨rfl, ⟨_, _, _, _, _, _, _, _, _, _, _, _, _, _, _, _, _, _, _, _, _, _, _, _, _, _, _, _, _, _, _, _, _, hA, hR, h.V, h.T, h.hL, h.hp, h.hz, h.sl, h.hi, h.K0, h.K1, h.pa⟩⟩
  · exact ⟨rfl, ⟨_, _, _, _, _, _, _, _, _, _, _, _, _, _, _, _, _, _, _, _, _, _, _, _, _, _, _, _, _, _, _, _, _, hA, hR, h.V, h.T, h.hL, h.hp, h.hz, h.sl, h.hi, h.K0, h.K1, h.pa⟩⟩
  · rw [← hu] at hR
    exact ⟨rfl, ⟨_, _, _, _, _, _, _, _, _, _, _, _, _, _, _, _, _, _, _, _, _, _, _, _, _, _, _, _, _, _, _, _, _, hA, hR, h.V, tb_sup h.T a1, h.hL, nx_lt, Nat.min_le_right _ _, h.sl, h.hi, kpJ_mv h.K0 (fun j h1 h2 => (sup_row (by omega)).trans (rKeep_hi h.hz (by omega))), kpJ_mv h.K1 (fun j h1 h2 => (sup_row (by omega)).trans (rKeep_hi h.hz (by omega))), past_push h.hz h.hp h.T hE h.pa (fun j h1 h2 => sup_row h1) (Or.inr (Or.inr ⟨rfl, s, rfl, rfl, rfl, fun i hi => ⟨rfl, rfl⟩⟩))⟩⟩
theorem J_undo (h : J wc wr) : JC l mX8_undo mX9_undo [] wc wr := by
  obtain ⟨told, tx, L, d, v, n, c, u, s, z, p, pk, pn, pc, pm, kd, kv, kn, kc, km, ke, jd, jv, jn, jc, jm, je, kp, ln, P, row, vals, it, h⟩ := h
  have hV := sA_V h.A
  have hE := sA_E h.A
  have hd4 : d ≤ 4 := hV.2.1
  have hv6 : ∀ k, k < d → vals k = nI (v k) ∧ v k ≤ 6 := fun k hk => ⟨h.V k hk, (hV.2.2 k hk).2⟩
  have hrv : rvOK d vals := ⟨hd4, fun k hk => ⟨v k, (hV.2.2 k hk).1, (hV.2.2 k hk).2, h.V k hk⟩⟩
  obtain ⟨fi, be, rD, rM, cl, dg, nu, my, su, le, gr, cz, vi, ov, rv, ct, bm, rfl⟩ := id h.R
  cases z with
  | zero =>
    refine (kX8_undo_0 h.A).mono (fun r w hw => ?_)
    obtain ⟨rfl, hA⟩ := hw
    refine ⟨sA_len hA, _, rfl, (kX9_undo h.hz).mono (fun r' w' hw' => ?_)⟩
    rcases hw' with ⟨b1, rfl, hR⟩ | ⟨b1, rfl, hR⟩
    · exact ⟨rfl, ⟨_, _, _, _, _, _, _, _, _, _, _, _, _, _, _, _, _, _, _, _, _, _, _, _, _, _, _, _, _, _, _, _, _, hA, hR, h.V, h.T, h.hL, h.hp, h.hz, h.sl, h.hi, h.K0, h.K1, h.pa⟩⟩
    · exact absurd b1 (by omega)
  | succ z =>
    obtain ⟨n', c', u', s', t1, e1, st, pa⟩ := id h.pa
    rcases st with ⟨hk, e, hq, he, rfl, rfl, hc⟩ | ⟨hk, e, b, hq, hb, he, rfl, rfl, hc⟩ | ⟨hk, e, hq, rfl, rfl, hc⟩
    · refine (kX8_undo_add h.A h.hp (by omega) h.hz hk hq he).mono (fun r w hw => ?_)
      obtain ⟨rfl, hA⟩ := hw
      refine ⟨sA_len hA, _, rfl, (kX9_undo h.hz).mono (fun r' w' hw' => ?_)⟩
      rcases hw' with ⟨b1, rfl, hR⟩ | ⟨b1, rfl, hR⟩
      · exact absurd b1 (by omega)
      · rw [Nat.add_sub_cancel] at hR hA
        exact ⟨rfl, ⟨_, _, _, _, _, _, _, _, _, _, _, _, _, _, _, _, _, _, _, _, _, _, _, _, _, _, _, _, _, _, _, _, _, hA, hR, h.V, tbR_congr (tbR_mv t1 (by omega) (fun t ht => cpy_in ht)) (fun i hi => ⟨(hc i hi).1.symm, (hc i hi).2.symm⟩), h.hL, pv_lt h.hp, by have := h.hz; omega, h.sl, h.hi, kpJ_mv h.K0 (fun j h1 h2 => cpy_out (by omega)), kpJ_mv h.K1 (fun j h1 h2 => cpy_out (by omega)), past_row (by have := h.hz; omega) (past_congr pa (fun i hi => ⟨(hc i hi).1.symm, (hc i hi).2.symm⟩)) (fun j h1 h2 => cpy_out (by omega))⟩⟩
    · refine (kX8_undo_rem (y := pm (pv8 p)) h.A h.hp (by omega) h.hz hk hq he (by have := e1.1; omega) hb rfl (by have q1 := e1.2.2.1 e (by omega); rw [(hc e (by omega)).1, show insC c e b e = b by unfold insC; rw [if_neg (by omega), if_pos rfl]] at q1; exact q1) (by have q1 := e1.2.2.2 e (by omega); rw [(hc e (by omega)).2, show insC u e (pm (pv8 p)) e = pm (pv8 p) by unfold insC; rw [if_neg (by omega), if_pos rfl]] at q1; exact q1)).mono (fun r w hw => ?_)
      obtain ⟨rfl, hA⟩ := hw
      refine ⟨sA_len hA, _, rfl, (kX9_undo h.hz).mono (fun r' w' hw' => ?_)⟩
      rcases hw' with ⟨b1, rfl, hR⟩ | ⟨b1, rfl, hR⟩
      · exact absurd b1 (by omega)
      · rw [Nat.add_sub_cancel] at hR hA
        exact ⟨rfl, ⟨_, _, _, _, _, _, _, _, _, _, _, _, _, _, _, _, _, _, _, _, _, _, _, _, _, _, _, _, _, _, _, _, _, hA, hR, h.V, tbR_congr (tbR_mv t1 (by omega) (fun t ht => cpy_in ht)) (fun i hi => ⟨(hc i hi).1.symm, (hc i hi).2.symm⟩), h.hL, pv_lt h.hp, by have := h.hz; omega, h.sl, h.hi, kpJ_mv h.K0 (fun j h1 h2 => cpy_out (by omega)), kpJ_mv h.K1 (fun j h1 h2 => cpy_out (by omega)), past_row (by have := h.hz; omega) (past_congr pa (fun i hi => ⟨(hc i hi).1.symm, (hc i hi).2.symm⟩)) (fun j h1 h2 => cpy_out (by omega))⟩⟩
    · refine (kX8_undo_sup h.A h.hp (by omega) h.hz hk hq e1.2.1).mono (fun r w hw => ?_)
      obtain ⟨rfl, hA⟩ := hw
      refine ⟨sA_len hA, _, rfl, (kX9_undo h.hz).mono (fun r' w' hw' => ?_)⟩
      rcases hw' with ⟨b1, rfl, hR⟩ | ⟨b1, rfl, hR⟩
      · exact absurd b1 (by omega)
      · rw [Nat.add_sub_cancel] at hR hA
        exact ⟨rfl, ⟨_, _, _, _, _, _, _, _, _, _, _, _, _, _, _, _, _, _, _, _, _, _, _, _, _, _, _, _, _, _, _, _, _, hA, hR, h.V, tbR_congr (tbR_mv t1 (by omega) (fun t ht => cpy_in ht)) (fun i hi => ⟨(hc i hi).1.symm, (hc i hi).2.symm⟩), h.hL, pv_lt h.hp, by have := h.hz; omega, h.sl, h.hi, kpJ_mv h.K0 (fun j h1 h2 => cpy_out (by omega)), kpJ_mv h.K1 (fun j h1 h2 => cpy_out (by omega)), past_row (by have := h.hz; omega) (past_congr pa (fun i hi => ⟨(hc i hi).1.symm, (hc i hi).2.symm⟩)) (fun j h1 h2 => cpy_out (by omega))⟩⟩
theorem J_read (h : J wc wr) : JC l mX8_read mX9_read [] wc wr := by
  obtain ⟨told, tx, L, d, v, n, c, u, s, z, p, pk, pn, pc, pm, kd, kv, kn, kc, km, ke, jd, jv, jn, jc, jm, je, kp, ln, P, row, vals, it, h⟩ := h
  have hV := sA_V h.A
  have hE := sA_E h.A
  have hd4 : d ≤ 4 := hV.2.1
  have hv6 : ∀ k, k < d → vals k = nI (v k) ∧ v k ≤ 6 := fun k hk => ⟨h.V k hk, (hV.2.2 k hk).2⟩
  have hrv : rvOK d vals := ⟨hd4, fun k hk => ⟨v k, (hV.2.2 k hk).1, (hV.2.2 k hk).2, h.V k hk⟩⟩
  obtain ⟨fi, be, rD, rM, cl, dg, nu, my, su, le, gr, cz, vi, ov, rv, ct, bm, rfl⟩ := id h.R
  refine (kX8_read h.A h.hL h.V h.T).mono (fun r w hw => ?_)
  rcases hw with ⟨a1, rfl, hA⟩ | ⟨a1, rfl, d', v', n', c', u', s', e1, e2, e3, hA⟩
  all_goals
    refine ⟨sA_len hA, _, rfl, (kX9_read h.hL hrv hE.1 h.T.1).mono (fun r' w' hw' => ?_)⟩
    rcases hw' with ⟨b1, rfl, hR⟩ | ⟨b1, rfl, hR⟩
    all_goals first | exact absurd (a1.symm.trans b1) (by decide) | skip
  · exact ⟨rfl, ⟨_, _, _, _, _, _, _, _, _, _, _, _, _, _, _, _, _, _, _, _, _, _, _, _, _, _, _, _, _, _, _, _, _, hA, hR, h.V, h.T, h.hL, h.hp, h.hz, h.sl, h.hi, h.K0, h.K1, h.pa⟩⟩
  · rw [e1] at hR
    exact ⟨rfl, ⟨_, _, _, _, _, _, _, _, _, _, _, _, _, _, _, _, _, _, _, _, _, _, _, _, _, _, _, _, _, _, _, _, _, hA, hR, e2, e3, Nat.zero_le _, h.hp, Nat.zero_le _, h.sl, h.hi, ⟨n', c', u', s', Or.inl rfl, fun q => absurd q (show ¬ (0 : Int32) = 1 by decide)⟩, ⟨n', c', u', s', Or.inl rfl, fun q => absurd q (show ¬ (0 : Int32) = 1 by decide)⟩, trivial⟩⟩
end J5
