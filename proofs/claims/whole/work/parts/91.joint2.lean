/-! CLASS AND REFERENCE TOGETHER: text, what is foretold, what is kept, rows of longs -/
section J3
variable {l : tg_Ln} {wc wr : List va_E}
theorem kpJ_kp {kp kp' : Nat → Int32} {k : Nat} {td : Int32} {tv : Nat → Int32} {tn : Int32} {tc tm : Nat → Int32} {te : Int32} {d : Nat} {v : Nat → Nat} {row : Nat → Int32} (h : kpJ kp k td tv tn tc tm te d v row) (e : kp' k = kp k) : kpJ kp' k td tv tn tc tm te d v row := by
  obtain ⟨n, c, u, s, h1, h2⟩ := h
  refine ⟨n, c, u, s, ?_, fun q => h2 (e ▸ q)⟩
  unfold kpT at *
  rw [e]; exact h1
theorem past_row {row row' : Nat → Int32} {d : Nat} {v : Nat → Nat} {pk pn pc pm : Nat → Int32} {z p n : Nat} {c : Nat → Nat} {u : Nat → Int32} {s : Nat} (hz : z ≤ 8) (h : pastR row d v pk pn pc pm z p n c u s) (hr : ∀ j, 82 ≤ j → j < 738 → row' j = row j) : pastR row' d v pk pn pc pm z p n c u s :=
  past_mv (k := 0) z p n c u s hz (fun j t hj ht => hr _ (by omega) (by omega)) (fun _ _ => ⟨rfl, rfl, rfl, rfl⟩) h
theorem eOK_ex {d n s : Nat} {v c : Nat → Nat} {u : Nat → Int32} {x y : Int32} (hE : eOK d v n c u s) (hw : wholeOK d v x = true) (hn : n < 40) (hy : -99 ≤ y.toInt ∧ y.toInt ≤ 99) : eOK d v (n + 1) (exC c n x.toInt.toNat) (exC u n y) s := by
  refine ⟨by omega, hE.2.1, fun i hi => ?_, fun i hi => ?_⟩
  · unfold exC
    by_cases q : i = n
    · rw [if_pos q]
      rw [← hfB_whole] at hw
      unfold hfB at hw
      rw [hfR_eq] at hw
      simp only [Bool.and_eq_true, decide_eq_true_eq, allB_true] at hw
      exact ⟨hw.2.1, hw.2.2⟩
    · rw [if_neg q]; exact hE.2.2.1 i (by omega)
  · unfold exC
    by_cases q : i = n
    · rw [if_pos q]; exact hy
    · rw [if_neg q]; exact hE.2.2.2 i (by omega)
theorem eOK_del {d n s e : Nat} {v c : Nat → Nat} {u : Nat → Int32} (hE : eOK d v n c u s) (he : e < n) : eOK d v (n - 1) (delC c e) (delC u e) s := by
  have h40 := hE.1
  refine ⟨by omega, hE.2.1, fun i hi => ?_, fun i hi => ?_⟩
  · unfold delC
    split
    · exact hE.2.2.1 i (by omega)
    · exact hE.2.2.1 (i + 1) (by omega)
  · unfold delC
    split
    · exact hE.2.2.2 i (by omega)
    · exact hE.2.2.2 (i + 1) (by omega)
theorem more_row {row : Nat → Int32} {n j : Nat} {x : Int32} (h : j < 902) : rPut (va_cpy row row 0 902 82) 902 n x 0 j = row j := by
  unfold rPut upd va_cpy
  rw [if_neg (by omega), if_neg (by omega), if_neg (by omega), if_neg (by omega)]
theorem less_row {row : Nat → Int32} {n e j : Nat} (h : j < 902) : rTake (va_cpy row row 0 902 82) 902 n e j = row j := by
  unfold rTake rTk va_cpy
  rw [if_neg (by omega), if_neg (by omega), if_neg (by omega), if_neg (by omega)]
theorem cpy_out {row : Nat → Int32} {F T j : Nat} (h : j < T ∨ T + 82 ≤ j) : va_cpy row row F T 82 j = row j := by
  unfold va_cpy
  rw [if_neg (by omega)]
theorem cpy_in {row : Nat → Int32} {F T t : Nat} (h : t < 82) : va_cpy row row F T 82 (T + t) = row (F + t) := by
  unfold va_cpy
  rw [if_pos (by omega)]
  congr 1
  omega
theorem i_0 : (0 : Int32).toInt.toNat = 0 := by decide
theorem i_1 : (1 : Int32).toInt.toNat = 1 := by decide
theorem npI_in {ln : Nat → Int32} {x y : Int32} (h : npI ln x y = 0) : (0 ≤ x.toInt ∧ x.toInt ≤ 2) ∧ 0 ≤ y.toInt ∧ y.toInt < (ln x.toInt.toNat).toInt := by
  unfold npI at h
  split at h
  · exact absurd h (by decide)
  · rename_i h1
    split at h
    · exact absurd h (by decide)
    · split at h
      · rename_i h2
        exact ⟨by omega, h2⟩
      · exact absurd h (by decide)
theorem sz_le {ln : Nat → Int32} (h : szOK ln) {r : Nat} (hr : r < 3) : (ln r).toInt ≤ 12 := by
  rcases h r hr with e | ⟨q, h1, e⟩
  · rw [e]; decide
  · rw [e, nI_toInt (by omega)]; omega
theorem itR_upd {ln : Nat → Int32} {P : Nat → Nat → Int64} {it : Nat → Int64} {x i : Int32} {a : Int64} (hs : szOK ln) (h : itR ln P it) (hn : npI ln x i = 0) : itR ln (updP P x.toInt.toNat (vp_updL (P x.toInt.toNat) i.toInt.toNat a)) (vp_updL it (12 * x.toInt.toNat + i.toInt.toNat) a) := by
  obtain ⟨h1, h2, h3⟩ := npI_in hn
  have hx := sz_le hs (show x.toInt.toNat < 3 by omega)
  intro r hr j hj
  have hj12 := sz_le hs hr
  have h0 := h r hr j hj
  unfold updP vp_updL
  by_cases q : r = x.toInt.toNat
  · rw [if_pos q]
    by_cases q2 : j = i.toInt.toNat
    · rw [if_pos (by omega), if_pos q2]
    · rw [if_neg (by omega), if_neg q2, ← q]; exact h0
  · rw [if_neg q, if_neg (by omega)]; exact h0
theorem it_at {ln : Nat → Int32} {P : Nat → Nat → Int64} {it : Nat → Int64} {x i : Int32} (h : itR ln P it) (hn : npI ln x i = 0) : it (12 * x.toInt.toNat + i.toInt.toNat) = P x.toInt.toNat i.toInt.toNat := by
  obtain ⟨h1, h2, h3⟩ := npI_in hn
  exact h _ (by omega) _ (by omega)
theorem sumK_congr {f g : Nat → Int64} : ∀ q, (∀ j, j < q → f j = g j) → sumK f q = sumK g q
  | 0, _ => rfl
  | q + 1, h => by
    unfold sumK
    rw [sumK_congr q (fun j hj => h j (by omega)), h q (by omega)]
theorem J_write {x : Int32} (h : J wc wr) : JC l mX8_write mX9_write [.int x] wc wr := by
  obtain ⟨told, tx, L, d, v, n, c, u, s, z, p, pk, pn, pc, pm, kd, kv, kn, kc, km, ke, jd, jv, jn, jc, jm, je, kp, ln, P, row, vals, it, h⟩ := h
  have hV := sA_V h.A
  have hE := sA_E h.A
  have hd4 : d ≤ 4 := hV.2.1
  have hv6 : ∀ k, k < d → vals k = nI (v k) ∧ v k ≤ 6 := fun k hk => ⟨h.V k hk, (hV.2.2 k hk).2⟩
  have hrv : rvOK d vals := ⟨hd4, fun k hk => ⟨v k, (hV.2.2 k hk).1, (hV.2.2 k hk).2, h.V k hk⟩⟩
  obtain ⟨fi, be, rD, rM, cl, dg, nu, my, su, le, gr, cz, vi, ov, rv, ct, bm, rfl⟩ := id h.R
  refine (kX8_write h.A h.hL).mono (fun r w hw => ?_)
  rcases hw with ⟨a1, rfl, hA⟩ | ⟨a1, a2, rfl, hA⟩ | ⟨a1, a2, rfl, hA⟩
  all_goals
    refine ⟨sA_len hA, _, rfl, (kX9_write h.hL).mono (fun r' w' hw' => ?_)⟩
    rcases hw' with ⟨b1, rfl, hR⟩ | ⟨b1, b2, rfl, hR⟩ | ⟨b1, b2, rfl, hR⟩
    all_goals first | exact absurd a1 b1 | exact absurd b1 a1 | (exfalso; omega) | skip
  · exact ⟨rfl, ⟨_, _, _, _, _, _, _, _, _, _, _, _, _, _, _, _, _, _, _, _, _, _, _, _, _, _, _, _, _, _, _, _, _, hA, hR, h.V, h.T, h.hL, h.hp, h.hz, h.sl, h.hi, h.K0, h.K1, h.pa⟩⟩
  · exact ⟨rfl, ⟨_, _, _, _, _, _, _, _, _, _, _, _, _, _, _, _, _, _, _, _, _, _, _, _, _, _, _, _, _, _, _, _, _, hA, hR, h.V, h.T, h.hL, h.hp, h.hz, h.sl, h.hi, h.K0, h.K1, h.pa⟩⟩
  · exact ⟨rfl, ⟨_, _, _, _, _, _, _, _, _, _, _, _, _, _, _, _, _, _, _, _, _, _, _, _, _, _, _, _, _, _, _, _, _, hA, hR, h.V, h.T, Nat.succ_le_of_lt a2, h.hp, h.hz, h.sl, h.hi, h.K0, h.K1, h.pa⟩⟩
theorem J_erase (h : J wc wr) : JC l mX8_erase mX9_erase [] wc wr := by
  obtain ⟨told, tx, L, d, v, n, c, u, s, z, p, pk, pn, pc, pm, kd, kv, kn, kc, km, ke, jd, jv, jn, jc, jm, je, kp, ln, P, row, vals, it, h⟩ := h
  have hV := sA_V h.A
  have hE := sA_E h.A
  have hd4 : d ≤ 4 := hV.2.1
  have hv6 : ∀ k, k < d → vals k = nI (v k) ∧ v k ≤ 6 := fun k hk => ⟨h.V k hk, (hV.2.2 k hk).2⟩
  have hrv : rvOK d vals := ⟨hd4, fun k hk => ⟨v k, (hV.2.2 k hk).1, (hV.2.2 k hk).2, h.V k hk⟩⟩
  obtain ⟨fi, be, rD, rM, cl, dg, nu, my, su, le, gr, cz, vi, ov, rv, ct, bm, rfl⟩ := id h.R
  refine (kX8_erase h.A).mono (fun r w hw => ?_)
  obtain ⟨rfl, hA⟩ := hw
  refine ⟨sA_len hA, _, rfl, kX9_erase.mono (fun r' w' hw' => ?_)⟩
  obtain ⟨rfl, hR⟩ := hw'
  exact ⟨rfl, ⟨_, _, _, _, _, _, _, _, _, _, _, _, _, _, _, _, _, _, _, _, _, _, _, _, _, _, _, _, _, _, _, _, _, hA, hR, h.V, h.T, Nat.zero_le _, h.hp, h.hz, h.sl, h.hi, h.K0, h.K1, h.pa⟩⟩
theorem J_more {x y : Int32} (h : J wc wr) : JC l mX8_more mX9_more [.int x, .int y] wc wr := by
  obtain ⟨told, tx, L, d, v, n, c, u, s, z, p, pk, pn, pc, pm, kd, kv, kn, kc, km, ke, jd, jv, jn, jc, jm, je, kp, ln, P, row, vals, it, h⟩ := h
  have hV := sA_V h.A
  have hE := sA_E h.A
  have hd4 : d ≤ 4 := hV.2.1
  have hv6 : ∀ k, k < d → vals k = nI (v k) ∧ v k ≤ 6 := fun k hk => ⟨h.V k hk, (hV.2.2 k hk).2⟩
  have hrv : rvOK d vals := ⟨hd4, fun k hk => ⟨v k, (hV.2.2 k hk).1, (hV.2.2 k hk).2, h.V k hk⟩⟩
  obtain ⟨fi, be, rD, rM, cl, dg, nu, my, su, le, gr, cz, vi, ov, rv, ct, bm, rfl⟩ := id h.R
  refine (kX8_more h.A).mono (fun r w hw => ?_)
  obtain ⟨hr, hA⟩ := hw
  rcases hr with ⟨a1, rfl⟩ | ⟨a1, a2, rfl⟩ | ⟨a1, a2, rfl⟩
  all_goals
    refine ⟨sA_len hA, _, rfl, (kX9_more hd4 hv6 h.T).mono (fun r' w' hw' => ?_)⟩
    rcases hw' with ⟨b1, rfl, hR⟩ | ⟨b1, b2, rfl, hR⟩ | ⟨b1, b2, rfl, hR⟩
    all_goals first | exact absurd a1 b1 | exact absurd b1 a1 | (exfalso; omega) | skip
  · exact ⟨rfl, ⟨_, _, _, _, _, _, _, _, _, _, _, _, _, _, _, _, _, _, _, _, _, _, _, _, _, _, _, _, _, _, _, _, _, hA, hR, h.V, h.T, h.hL, h.hp, h.hz, h.sl, h.hi, h.K0, h.K1, h.pa⟩⟩
  · exact ⟨rfl, ⟨_, _, _, _, _, _, _, _, _, _, _, _, _, _, _, _, _, _, _, _, _, _, _, _, _, _, _, _, _, _, _, _, _, hA, hR, h.V, h.T, h.hL, h.hp, h.hz, h.sl, h.hi, h.K0, h.K1, h.pa⟩⟩
  · obtain ⟨m1, m2⟩ := more_eq hE (eOK_ex (y := 0) hE a1.1 a2 (by decide))
    exact ⟨by rw [m1, m2, cube_size hE (by have := hE.2.1; omega)], ⟨_, _, _, _, _, _, _, _, _, _, _, _, _, _, _, _, _, _, _, _, _, _, _, _, _, _, _, _, _, _, _, _, _, hA, hR, h.V, tbR_mv h.T (by omega) (fun t ht => more_row (by omega)), h.hL, h.hp, h.hz, h.sl, h.hi, kpJ_mv h.K0 (fun j h1 h2 => more_row (by omega)), kpJ_mv h.K1 (fun j h1 h2 => more_row (by omega)), past_row h.hz h.pa (fun j h1 h2 => more_row (by omega))⟩⟩
theorem J_less {x y : Int32} (h : J wc wr) : JC l mX8_less mX9_less [.int x, .int y] wc wr := by
  obtain ⟨told, tx, L, d, v, n, c, u, s, z, p, pk, pn, pc, pm, kd, kv, kn, kc, km, ke, jd, jv, jn, jc, jm, je, kp, ln, P, row, vals, it, h⟩ := h
  have hV := sA_V h.A
  have hE := sA_E h.A
  have hd4 : d ≤ 4 := hV.2.1
  have hv6 : ∀ k, k < d → vals k = nI (v k) ∧ v k ≤ 6 := fun k hk => ⟨h.V k hk, (hV.2.2 k hk).2⟩
  have hrv : rvOK d vals := ⟨hd4, fun k hk => ⟨v k, (hV.2.2 k hk).1, (hV.2.2 k hk).2, h.V k hk⟩⟩
  obtain ⟨fi, be, rD, rM, cl, dg, nu, my, su, le, gr, cz, vi, ov, rv, ct, bm, rfl⟩ := id h.R
  refine (kX8_less h.A).mono (fun r w hw => ?_)
  obtain ⟨hr, hA⟩ := hw
  rcases hr with ⟨a1, rfl⟩ | ⟨a1, a2, rfl⟩ | ⟨a1, a2, rfl⟩
  all_goals
    refine ⟨sA_len hA, _, rfl, (kX9_less hd4 hv6 h.T).mono (fun r' w' hw' => ?_)⟩
    rcases hw' with ⟨b1, rfl, hR⟩ | ⟨b1, b2, rfl, hR⟩ | ⟨b1, b2, rfl, hR⟩
    all_goals first | exact absurd a1 b1 | exact absurd b1 a1 | (exfalso; omega) | skip
  · exact ⟨rfl, ⟨_, _, _, _, _, _, _, _, _, _, _, _, _, _, _, _, _, _, _, _, _, _, _, _, _, _, _, _, _, _, _, _, _, hA, hR, h.V, h.T, h.hL, h.hp, h.hz, h.sl, h.hi, h.K0, h.K1, h.pa⟩⟩
  · exact ⟨rfl, ⟨_, _, _, _, _, _, _, _, _, _, _, _, _, _, _, _, _, _, _, _, _, _, _, _, _, _, _, _, _, _, _, _, _, hA, hR, h.V, h.T, h.hL, h.hp, h.hz, h.sl, h.hi, h.K0, h.K1, h.pa⟩⟩
  · obtain ⟨m1, m2⟩ := less_eq hE (eOK_del hE (e := x.toInt.toNat) (by omega)) (by omega)
    refine ⟨?_, ⟨_, _, _, _, _, _, _, _, _, _, _, _, _, _, _, _, _, _, _, _, _, _, _, _, _, _, _, _, _, _, _, _, _, hA, hR, h.V, tbR_mv h.T (by omega) (fun t ht => less_row (by omega)), h.hL, h.hp, h.hz, h.sl, h.hi, kpJ_mv h.K0 (fun j h1 h2 => less_row (by omega)), kpJ_mv h.K1 (fun j h1 h2 => less_row (by omega)), past_row h.hz h.pa (fun j h1 h2 => less_row (by omega))⟩⟩
    rw [m1, cube_size hE (by have := hE.2.1; omega), m2]
    by_cases q : y = 0
    · rw [if_pos q, if_pos q, pk_sub (by omega), Nat.add_sub_cancel]
    · rw [if_neg q, if_neg q]
theorem J_keep {x : Int32} (h : J wc wr) : JC l mX8_keep mX9_keep [.int x] wc wr := by
  obtain ⟨told, tx, L, d, v, n, c, u, s, z, p, pk, pn, pc, pm, kd, kv, kn, kc, km, ke, jd, jv, jn, jc, jm, je, kp, ln, P, row, vals, it, h⟩ := h
  have hV := sA_V h.A
  have hE := sA_E h.A
  have hd4 : d ≤ 4 := hV.2.1
  have hv6 : ∀ k, k < d → vals k = nI (v k) ∧ v k ≤ 6 := fun k hk => ⟨h.V k hk, (hV.2.2 k hk).2⟩
  have hrv : rvOK d vals := ⟨hd4, fun k hk => ⟨v k, (hV.2.2 k hk).1, (hV.2.2 k hk).2, h.V k hk⟩⟩
  obtain ⟨fi, be, rD, rM, cl, dg, nu, my, su, le, gr, cz, vi, ov, rv, ct, bm, rfl⟩ := id h.R
  refine (kX8_keep h.A).mono (fun r w hw => ?_)
  rcases hw with ⟨a1, rfl, hA⟩ | ⟨rfl, rfl, td, tv, tn, tc, tm, te, hC, hA⟩ | ⟨rfl, rfl, td, tv, tn, tc, tm, te, hC, hA⟩
  all_goals
    refine ⟨sA_len hA, _, rfl, (kX9_keep h.T.1).mono (fun r' w' hw' => ?_)⟩
    rcases hw' with ⟨b1, rfl, hR⟩ | ⟨b1, rfl, hR⟩
    all_goals first | exact absurd a1 b1 | exact absurd b1 a1 | (exfalso; omega) | skip
  · exact ⟨rfl, ⟨_, _, _, _, _, _, _, _, _, _, _, _, _, _, _, _, _, _, _, _, _, _, _, _, _, _, _, _, _, _, _, _, _, hA, hR, h.V, h.T, h.hL, h.hp, h.hz, h.sl, h.hi, h.K0, h.K1, h.pa⟩⟩
  · exact absurd (by decide) b1
  · rw [i_0] at hR
    exact ⟨rfl, ⟨_, _, _, _, _, _, _, _, _, _, _, _, _, _, _, _, _, _, _, _, _, _, _, _, _, _, _, _, _, _, _, _, _, hA, hR, h.V, tbR_mv h.T (by omega) (fun t ht => cpy_out (by omega)), h.hL, h.hp, h.hz, h.sl, h.hi, ⟨n, c, u, s, Or.inr ⟨rfl, hC, hE⟩, fun _ => tbR_mv h.T (by omega) (fun t ht => cpy_in ht)⟩, kpJ_kp (kpJ_mv h.K1 (fun j h1 h2 => cpy_out (by omega))) rfl, past_row h.hz h.pa (fun j h1 h2 => cpy_out (by omega))⟩⟩
  · exact absurd (by decide) b1
  · rw [i_1] at hR
    exact ⟨rfl, ⟨_, _, _, _, _, _, _, _, _, _, _, _, _, _, _, _, _, _, _, _, _, _, _, _, _, _, _, _, _, _, _, _, _, hA, hR, h.V, tbR_mv h.T (by omega) (fun t ht => cpy_out (by omega)), h.hL, h.hp, h.hz, h.sl, h.hi, kpJ_kp (kpJ_mv h.K0 (fun j h1 h2 => cpy_out (by omega))) rfl, ⟨n, c, u, s, Or.inr ⟨rfl, hC, hE⟩, fun _ => tbR_mv h.T (by omega) (fun t ht => cpy_in ht)⟩, past_row h.hz h.pa (fun j h1 h2 => cpy_out (by omega))⟩⟩
theorem J_back {x : Int32} (h : J wc wr) : JC l mX8_back mX9_back [.int x] wc wr := by
  obtain ⟨told, tx, L, d, v, n, c, u, s, z, p, pk, pn, pc, pm, kd, kv, kn, kc, km, ke, jd, jv, jn, jc, jm, je, kp, ln, P, row, vals, it, h⟩ := h
  have hV := sA_V h.A
  have hE := sA_E h.A
  have hd4 : d ≤ 4 := hV.2.1
  have hv6 : ∀ k, k < d → vals k = nI (v k) ∧ v k ≤ 6 := fun k hk => ⟨h.V k hk, (hV.2.2 k hk).2⟩
  have hrv : rvOK d vals := ⟨hd4, fun k hk => ⟨v k, (hV.2.2 k hk).1, (hV.2.2 k hk).2, h.V k hk⟩⟩
  obtain ⟨fi, be, rD, rM, cl, dg, nu, my, su, le, gr, cz, vi, ov, rv, ct, bm, rfl⟩ := id h.R
  obtain ⟨n0, c0, u0, s0, k0, t0⟩ := h.K0
  obtain ⟨n1, c1, u1, s1, k1, t1⟩ := h.K1
  have hk : ∀ j, j < 2 → kp j = 0 ∨ kp j = 1 := fun j hj => by
    rcases (show j = 0 ∨ j = 1 by omega) with rfl | rfl
    · exact k0.elim Or.inl (fun q => Or.inr q.1)
    · exact k1.elim Or.inl (fun q => Or.inr q.1)
  refine (kX8_back h.A k0 k1).mono (fun r w hw => ?_)
  rcases hw with ⟨a1, rfl, hA⟩ | ⟨a1, a2, rfl, hA⟩ | ⟨rfl, a2, rfl, hA⟩ | ⟨rfl, a2, rfl, hA⟩
  all_goals
    refine ⟨sA_len hA, _, rfl, (kX9_back (n := 0) hk).mono (fun r' w' hw' => ?_)⟩
    rcases hw' with ⟨b1, rfl, hR⟩ | ⟨b1, b2, rfl, hR⟩ | ⟨b1, b2, rfl, hR⟩
    all_goals first | exact absurd a1 b1 | exact absurd b1 a1 | (exfalso; omega) | skip
  · exact ⟨rfl, ⟨_, _, _, _, _, _, _, _, _, _, _, _, _, _, _, _, _, _, _, _, _, _, _, _, _, _, _, _, _, _, _, _, _, hA, hR, h.V, h.T, h.hL, h.hp, h.hz, h.sl, h.hi, h.K0, h.K1, h.pa⟩⟩
  · exact ⟨rfl, ⟨_, _, _, _, _, _, _, _, _, _, _, _, _, _, _, _, _, _, _, _, _, _, _, _, _, _, _, _, _, _, _, _, _, hA, hR, h.V, h.T, h.hL, h.hp, h.hz, h.sl, h.hi, h.K0, h.K1, h.pa⟩⟩
  · exact absurd (a2.symm.trans b2) (by decide)
  · exact absurd (by decide) b1
  · rw [i_0, a2] at b2; exact absurd b2 (by decide)
  · rw [i_0] at hR b2
    have t0 := t0 a2
    exact ⟨by rw [i_0]; exact congrArg (fun q => some (Value.int q)) t0.1, ⟨_, _, _, _, _, _, _, _, _, _, _, _, _, _, _, _, _, _, _, _, _, _, _, _, _, _, _, _, _, _, _, _, _, hA, hR, h.V, tbR_mv t0 (by omega) (fun t ht => cpy_in ht), h.hL, h.hp, Nat.zero_le _, h.sl, h.hi, kpJ_mv h.K0 (fun j h1 h2 => cpy_out (by omega)), kpJ_mv h.K1 (fun j h1 h2 => cpy_out (by omega)), trivial⟩⟩
  · exact absurd (by decide) b1
  · rw [i_1, a2] at b2; exact absurd b2 (by decide)
  · rw [i_1] at hR b2
    have t1 := t1 a2
    exact ⟨by rw [i_1]; exact congrArg (fun q => some (Value.int q)) t1.1, ⟨_, _, _, _, _, _, _, _, _, _, _, _, _, _, _, _, _, _, _, _, _, _, _, _, _, _, _, _, _, _, _, _, _, hA, hR, h.V, tbR_mv t1 (by omega) (fun t ht => cpy_in ht), h.hL, h.hp, Nat.zero_le _, h.sl, h.hi, kpJ_mv h.K0 (fun j h1 h2 => cpy_out (by omega)), kpJ_mv h.K1 (fun j h1 h2 => cpy_out (by omega)), trivial⟩⟩
end J3
