/-! CLASS AND REFERENCE TOGETHER: rows of longs -/
section J4
variable {l : tg_Ln} {wc wr : List va_E}
theorem szOK_upd {ln : Nat → Int32} {x : Nat} {y : Int32} (h : szOK ln) (hy : y = -1 ∨ ∃ n, n ≤ 12 ∧ y = nI n) : szOK (upd ln x y) := fun r hr => by
  unfold upd
  by_cases q : r = x
  · rw [if_pos q]; exact hy
  · rw [if_neg q]; exact h r hr
theorem J_row {x y : Int32} (h : J wc wr) : JC l mX8_row mX9_row [.int x, .int y] wc wr := by
  obtain ⟨told, tx, L, d, v, n, c, u, s, z, p, pk, pn, pc, pm, kd, kv, kn, kc, km, ke, jd, jv, jn, jc, jm, je, kp, ln, P, row, vals, it, h⟩ := h
  have hV := sA_V h.A
  have hE := sA_E h.A
  have hd4 : d ≤ 4 := hV.2.1
  have hv6 : ∀ k, k < d → vals k = nI (v k) ∧ v k ≤ 6 := fun k hk => ⟨h.V k hk, (hV.2.2 k hk).2⟩
  have hrv : rvOK d vals := ⟨hd4, fun k hk => ⟨v k, (hV.2.2 k hk).1, (hV.2.2 k hk).2, h.V k hk⟩⟩
  obtain ⟨fi, be, rD, rM, cl, dg, nu, my, su, le, gr, cz, vi, ov, rv, ct, bm, rfl⟩ := id h.R
  refine (kX8_row h.A).mono (fun r w hw => ?_)
  rcases hw with ⟨a1, rfl, hA⟩ | ⟨a1, a2, rfl, hA⟩ | ⟨a1, a2, rfl, hA⟩ | ⟨a1, a2, rfl, hA⟩
  all_goals
    refine ⟨sA_len hA, _, rfl, (kX9_row ).mono (fun r' w' hw' => ?_)⟩
    rcases hw' with ⟨b1, rfl, hR⟩ | ⟨b1, b2, rfl, hR⟩ | ⟨b1, b2, rfl, hR⟩ | ⟨b1, b2, rfl, hR⟩
    all_goals first | exact absurd a1 b1 | exact absurd b1 a1 | (exfalso; omega) | skip
  · exact ⟨rfl, ⟨_, _, _, _, _, _, _, _, _, _, _, _, _, _, _, _, _, _, _, _, _, _, _, _, _, _, _, _, _, _, _, _, _, hA, hR, h.V, h.T, h.hL, h.hp, h.hz, h.sl, h.hi, h.K0, h.K1, h.pa⟩⟩
  · exact ⟨rfl, ⟨_, _, _, _, _, _, _, _, _, _, _, _, _, _, _, _, _, _, _, _, _, _, _, _, _, _, _, _, _, _, _, _, _, hA, hR, h.V, h.T, h.hL, h.hp, h.hz, h.sl, h.hi, h.K0, h.K1, h.pa⟩⟩
  · exact ⟨rfl, ⟨_, _, _, _, _, _, _, _, _, _, _, _, _, _, _, _, _, _, _, _, _, _, _, _, _, _, _, _, _, _, _, _, _, hA, hR, h.V, h.T, h.hL, h.hp, h.hz, h.sl, h.hi, h.K0, h.K1, h.pa⟩⟩
  · obtain ⟨ey, qy⟩ := x_of (n := 13) a2.1 (by omega)
    refine ⟨rfl, ⟨_, _, _, _, _, _, _, _, _, _, _, _, _, _, _, _, _, _, _, _, _, _, _, _, _, _, _, _, _, _, _, _, _, hA, hR, h.V, h.T, h.hL, h.hp, h.hz, szOK_upd h.sl (Or.inr ⟨y.toInt.toNat, by omega, ey⟩), ?_, h.K0, h.K1, h.pa⟩⟩
    intro r hr j hj
    unfold upd at hj
    unfold updP zer zeP
    by_cases q : r = x.toInt.toNat
    · rw [if_pos q] at hj
      rw [if_pos q, if_pos (by omega), if_pos (by omega)]
    · rw [if_neg q] at hj
      have h12 := sz_le h.sl hr
      rw [if_neg q, if_neg (by omega)]
      exact h.hi r hr j hj
theorem J_set {x y z : Int32} (h : J wc wr) : JC l mX8_set mX9_set [.int x, .int y, .int z] wc wr := by
  obtain ⟨told, tx, L, d, v, n, c, u, s, z', p, pk, pn, pc, pm, kd, kv, kn, kc, km, ke, jd, jv, jn, jc, jm, je, kp, ln, P, row, vals, it, h⟩ := h
  have hV := sA_V h.A
  have hE := sA_E h.A
  have hd4 : d ≤ 4 := hV.2.1
  have hv6 : ∀ k, k < d → vals k = nI (v k) ∧ v k ≤ 6 := fun k hk => ⟨h.V k hk, (hV.2.2 k hk).2⟩
  have hrv : rvOK d vals := ⟨hd4, fun k hk => ⟨v k, (hV.2.2 k hk).1, (hV.2.2 k hk).2, h.V k hk⟩⟩
  obtain ⟨fi, be, rD, rM, cl, dg, nu, my, su, le, gr, cz, vi, ov, rv, ct, bm, rfl⟩ := id h.R
  refine (kX8_set h.A h.sl).mono (fun r w hw => ?_)
  rcases hw with ⟨a1, rfl, hA⟩ | ⟨a1, rfl, hA⟩
  all_goals
    refine ⟨sA_len hA, _, rfl, (kX9_set h.sl).mono (fun r' w' hw' => ?_)⟩
    rcases hw' with ⟨b1, rfl, hR⟩ | ⟨b1, rfl, hR⟩
    all_goals first | exact absurd a1 b1 | exact absurd b1 a1 | (exfalso; omega) | skip
  · exact ⟨rfl, ⟨_, _, _, _, _, _, _, _, _, _, _, _, _, _, _, _, _, _, _, _, _, _, _, _, _, _, _, _, _, _, _, _, _, hA, hR, h.V, h.T, h.hL, h.hp, h.hz, h.sl, h.hi, h.K0, h.K1, h.pa⟩⟩
  · exact ⟨rfl, ⟨_, _, _, _, _, _, _, _, _, _, _, _, _, _, _, _, _, _, _, _, _, _, _, _, _, _, _, _, _, _, _, _, _, hA, hR, h.V, h.T, h.hL, h.hp, h.hz, h.sl, itR_upd h.sl h.hi a1, h.K0, h.K1, h.pa⟩⟩
theorem J_work {x i y z : Int32} (h : J wc wr) : JC l mX8_work mX9_work [.int x, .int i, .int y, .int z] wc wr := by
  obtain ⟨told, tx, L, d, v, n, c, u, s, z', p, pk, pn, pc, pm, kd, kv, kn, kc, km, ke, jd, jv, jn, jc, jm, je, kp, ln, P, row, vals, it, h⟩ := h
  have hV := sA_V h.A
  have hE := sA_E h.A
  have hd4 : d ≤ 4 := hV.2.1
  have hv6 : ∀ k, k < d → vals k = nI (v k) ∧ v k ≤ 6 := fun k hk => ⟨h.V k hk, (hV.2.2 k hk).2⟩
  have hrv : rvOK d vals := ⟨hd4, fun k hk => ⟨v k, (hV.2.2 k hk).1, (hV.2.2 k hk).2, h.V k hk⟩⟩
  obtain ⟨fi, be, rD, rM, cl, dg, nu, my, su, le, gr, cz, vi, ov, rv, ct, bm, rfl⟩ := id h.R
  refine (kX8_work h.A h.sl).mono (fun r w hw => ?_)
  rcases hw with ⟨a1, rfl, hA⟩ | ⟨a1, a2, rfl, hA⟩ | ⟨a1, a2, a3, rfl, hA⟩ | ⟨a1, a2, a3, ⟨a4, rfl, hA⟩ | ⟨a4, rfl, hA⟩⟩
  all_goals
    refine ⟨sA_len hA, _, rfl, (kX9_work h.sl).mono (fun r' w' hw' => ?_)⟩
    rcases hw' with ⟨b1, rfl, hR⟩ | ⟨b1, b2, rfl, hR⟩ | ⟨b1, b2, b3, rfl, hR⟩ | ⟨b1, b2, b3, ⟨b4, rfl, hR⟩ | ⟨b4, rfl, hR⟩⟩
    all_goals first | exact absurd a1 b1 | exact absurd b1 a1 | exact absurd a2 b2 | exact absurd b2 a2 | exact absurd a3 b3 | exact absurd b3 a3 | (exfalso; omega) | skip
  · exact ⟨rfl, ⟨_, _, _, _, _, _, _, _, _, _, _, _, _, _, _, _, _, _, _, _, _, _, _, _, _, _, _, _, _, _, _, _, _, hA, hR, h.V, h.T, h.hL, h.hp, h.hz, h.sl, h.hi, h.K0, h.K1, h.pa⟩⟩
  · exact ⟨rfl, ⟨_, _, _, _, _, _, _, _, _, _, _, _, _, _, _, _, _, _, _, _, _, _, _, _, _, _, _, _, _, _, _, _, _, hA, hR, h.V, h.T, h.hL, h.hp, h.hz, h.sl, h.hi, h.K0, h.K1, h.pa⟩⟩
  · exact ⟨rfl, ⟨_, _, _, _, _, _, _, _, _, _, _, _, _, _, _, _, _, _, _, _, _, _, _, _, _, _, _, _, _, _, _, _, _, hA, hR, h.V, h.T, h.hL, h.hp, h.hz, h.sl, h.hi, h.K0, h.K1, h.pa⟩⟩
  · exact ⟨rfl, ⟨_, _, _, _, _, _, _, _, _, _, _, _, _, _, _, _, _, _, _, _, _, _, _, _, _, _, _, _, _, _, _, _, _, hA, hR, h.V, h.T, h.hL, h.hp, h.hz, h.sl, h.hi, h.K0, h.K1, h.pa⟩⟩
  · rw [it_at h.hi a3, a4] at b4; exact absurd b4 (by decide)
  · rw [it_at h.hi a3, a4] at b4; exact absurd b4 (by decide)
  · rw [it_at h.hi a3] at hR
    exact ⟨rfl, ⟨_, _, _, _, _, _, _, _, _, _, _, _, _, _, _, _, _, _, _, _, _, _, _, _, _, _, _, _, _, _, _, _, _, hA, hR, h.V, h.T, h.hL, h.hp, h.hz, h.sl, itR_upd h.sl h.hi a3, h.K0, h.K1, h.pa⟩⟩
theorem J_bits {x i : Int32} (h : J wc wr) : JC l mX8_bits mX9_bits [.int x, .int i] wc wr := by
  obtain ⟨told, tx, L, d, v, n, c, u, s, z, p, pk, pn, pc, pm, kd, kv, kn, kc, km, ke, jd, jv, jn, jc, jm, je, kp, ln, P, row, vals, it, h⟩ := h
  have hV := sA_V h.A
  have hE := sA_E h.A
  have hd4 : d ≤ 4 := hV.2.1
  have hv6 : ∀ k, k < d → vals k = nI (v k) ∧ v k ≤ 6 := fun k hk => ⟨h.V k hk, (hV.2.2 k hk).2⟩
  have hrv : rvOK d vals := ⟨hd4, fun k hk => ⟨v k, (hV.2.2 k hk).1, (hV.2.2 k hk).2, h.V k hk⟩⟩
  obtain ⟨fi, be, rD, rM, cl, dg, nu, my, su, le, gr, cz, vi, ov, rv, ct, bm, rfl⟩ := id h.R
  refine (kX8_bits h.A h.sl).mono (fun r w hw => ?_)
  rcases hw with ⟨a1, rfl, hA⟩ | ⟨a1, rfl, hA⟩
  all_goals
    refine ⟨sA_len hA, _, rfl, (kX9_bits h.sl).mono (fun r' w' hw' => ?_)⟩
    rcases hw' with ⟨b1, rfl, hR⟩ | ⟨b1, rfl, hR⟩
    all_goals first | exact absurd a1 b1 | exact absurd b1 a1 | (exfalso; omega) | skip
  · exact ⟨rfl, ⟨_, _, _, _, _, _, _, _, _, _, _, _, _, _, _, _, _, _, _, _, _, _, _, _, _, _, _, _, _, _, _, _, _, hA, hR, h.V, h.T, h.hL, h.hp, h.hz, h.sl, h.hi, h.K0, h.K1, h.pa⟩⟩
  · rw [it_at h.hi a1, ← bc_bits] at hR
    exact ⟨rfl, ⟨_, _, _, _, _, _, _, _, _, _, _, _, _, _, _, _, _, _, _, _, _, _, _, _, _, _, _, _, _, _, _, _, _, hA, hR, h.V, h.T, h.hL, h.hp, h.hz, h.sl, h.hi, h.K0, h.K1, h.pa⟩⟩
theorem J_drop {x : Int32} (h : J wc wr) : JC l mX8_drop mX9_drop [.int x] wc wr := by
  obtain ⟨told, tx, L, d, v, n, c, u, s, z, p, pk, pn, pc, pm, kd, kv, kn, kc, km, ke, jd, jv, jn, jc, jm, je, kp, ln, P, row, vals, it, h⟩ := h
  have hV := sA_V h.A
  have hE := sA_E h.A
  have hd4 : d ≤ 4 := hV.2.1
  have hv6 : ∀ k, k < d → vals k = nI (v k) ∧ v k ≤ 6 := fun k hk => ⟨h.V k hk, (hV.2.2 k hk).2⟩
  have hrv : rvOK d vals := ⟨hd4, fun k hk => ⟨v k, (hV.2.2 k hk).1, (hV.2.2 k hk).2, h.V k hk⟩⟩
  obtain ⟨fi, be, rD, rM, cl, dg, nu, my, su, le, gr, cz, vi, ov, rv, ct, bm, rfl⟩ := id h.R
  refine (kX8_drop h.A h.sl).mono (fun r w hw => ?_)
  rcases hw with ⟨a1, rfl, hA⟩ | ⟨a1, rfl, hA⟩
  all_goals
    refine ⟨sA_len hA, _, rfl, (kX9_drop h.sl).mono (fun r' w' hw' => ?_)⟩
    rcases hw' with ⟨b1, rfl, hR⟩ | ⟨b1, rfl, hR⟩
    all_goals first | exact absurd a1 b1 | exact absurd b1 a1 | (exfalso; omega) | skip
  · exact ⟨rfl, ⟨_, _, _, _, _, _, _, _, _, _, _, _, _, _, _, _, _, _, _, _, _, _, _, _, _, _, _, _, _, _, _, _, _, hA, hR, h.V, h.T, h.hL, h.hp, h.hz, h.sl, h.hi, h.K0, h.K1, h.pa⟩⟩
  · refine ⟨rfl, ⟨_, _, _, _, _, _, _, _, _, _, _, _, _, _, _, _, _, _, _, _, _, _, _, _, _, _, _, _, _, _, _, _, _, hA, hR, h.V, h.T, h.hL, h.hp, h.hz, szOK_upd h.sl (Or.inl rfl), ?_, h.K0, h.K1, h.pa⟩⟩
    intro r hr j hj
    unfold upd at hj
    by_cases q : r = x.toInt.toNat
    · rw [if_pos q] at hj
      have : ((-1 : Int32)).toInt = -1 := by decide
      omega
    · rw [if_neg q] at hj
      exact h.hi r hr j hj
theorem J_load {x i y : Int32} (h : J wc wr) : JC l mX8_load mX9_load [.int x, .int i, .int y] wc wr := by
  obtain ⟨told, tx, L, d, v, n, c, u, s, z, p, pk, pn, pc, pm, kd, kv, kn, kc, km, ke, jd, jv, jn, jc, jm, je, kp, ln, P, row, vals, it, h⟩ := h
  have hV := sA_V h.A
  have hE := sA_E h.A
  have hd4 : d ≤ 4 := hV.2.1
  have hv6 : ∀ k, k < d → vals k = nI (v k) ∧ v k ≤ 6 := fun k hk => ⟨h.V k hk, (hV.2.2 k hk).2⟩
  have hrv : rvOK d vals := ⟨hd4, fun k hk => ⟨v k, (hV.2.2 k hk).1, (hV.2.2 k hk).2, h.V k hk⟩⟩
  obtain ⟨fi, be, rD, rM, cl, dg, nu, my, su, le, gr, cz, vi, ov, rv, ct, bm, rfl⟩ := id h.R
  refine (kX8_load h.A h.sl).mono (fun r w hw => ?_)
  rcases hw with ⟨a1, rfl, hA⟩ | ⟨a1, a2, rfl, hA⟩ | ⟨a1, a2, a3, rfl, hA⟩ | ⟨a1, a2, a3, rfl, hA⟩
  all_goals
    refine ⟨sA_len hA, _, rfl, (kX9_load hd4 hv6 h.T h.sl).mono (fun r' w' hw' => ?_)⟩
    rcases hw' with ⟨b1, rfl, hR⟩ | ⟨b1, b2, rfl, hR⟩ | ⟨b1, b2, b3, rfl, hR⟩ | ⟨b1, b2, b3, rfl, hR⟩
    all_goals first | exact absurd a1 b1 | exact absurd b1 a1 | exact absurd (a2.symm.trans b2) (by decide) | exact absurd a3 b3 | exact absurd b3 a3 | (exfalso; omega) | skip
  · exact ⟨rfl, ⟨_, _, _, _, _, _, _, _, _, _, _, _, _, _, _, _, _, _, _, _, _, _, _, _, _, _, _, _, _, _, _, _, _, hA, hR, h.V, h.T, h.hL, h.hp, h.hz, h.sl, h.hi, h.K0, h.K1, h.pa⟩⟩
  · exact ⟨rfl, ⟨_, _, _, _, _, _, _, _, _, _, _, _, _, _, _, _, _, _, _, _, _, _, _, _, _, _, _, _, _, _, _, _, _, hA, hR, h.V, h.T, h.hL, h.hp, h.hz, h.sl, h.hi, h.K0, h.K1, h.pa⟩⟩
  · exact ⟨rfl, ⟨_, _, _, _, _, _, _, _, _, _, _, _, _, _, _, _, _, _, _, _, _, _, _, _, _, _, _, _, _, _, _, _, _, hA, hR, h.V, h.T, h.hL, h.hp, h.hz, h.sl, h.hi, h.K0, h.K1, h.pa⟩⟩
  · exact ⟨rfl, ⟨_, _, _, _, _, _, _, _, _, _, _, _, _, _, _, _, _, _, _, _, _, _, _, _, _, _, _, _, _, _, _, _, _, hA, hR, h.V, h.T, h.hL, h.hp, h.hz, h.sl, itR_upd h.sl h.hi a3, h.K0, h.K1, h.pa⟩⟩
theorem neg1 {q : Nat} (h : q ≤ 12) : ¬ (-1 : Int32) = nI q := fun e => by
  have h1 : ((-1 : Int32)).toInt = -1 := by decide
  rw [e, nI_toInt (by omega)] at h1
  omega
theorem J_sum {x : Int32} (h : J wc wr) : JC l mX8_sum mX9_sum [.int x] wc wr := by
  obtain ⟨told, tx, L, d, v, n, c, u, s, z, p, pk, pn, pc, pm, kd, kv, kn, kc, km, ke, jd, jv, jn, jc, jm, je, kp, ln, P, row, vals, it, h⟩ := h
  have hV := sA_V h.A
  have hE := sA_E h.A
  have hd4 : d ≤ 4 := hV.2.1
  have hv6 : ∀ k, k < d → vals k = nI (v k) ∧ v k ≤ 6 := fun k hk => ⟨h.V k hk, (hV.2.2 k hk).2⟩
  have hrv : rvOK d vals := ⟨hd4, fun k hk => ⟨v k, (hV.2.2 k hk).1, (hV.2.2 k hk).2, h.V k hk⟩⟩
  obtain ⟨fi, be, rD, rM, cl, dg, nu, my, su, le, gr, cz, vi, ov, rv, ct, bm, rfl⟩ := id h.R
  refine (kX8_sum h.A h.sl).mono (fun r w hw => ?_)
  rcases hw with ⟨a1, rfl, hA⟩ | ⟨a1, a2, rfl, hA⟩ | ⟨a1, q, hq, a2, ⟨a3, rfl, hA⟩ | ⟨t, a3, rfl, hA⟩⟩
  all_goals
    refine ⟨sA_len hA, _, rfl, (kX9_sum h.sl).mono (fun r' w' hw' => ?_)⟩
    rcases hw' with ⟨b1, rfl, hR⟩ | ⟨b1, b2, rfl, hR⟩ | ⟨b1, q', hq', b2, ⟨b3, rfl, hR⟩ | ⟨t', b3, rfl, hR⟩⟩
    all_goals first | exact absurd a1 b1 | exact absurd b1 a1 | skip
  · exact ⟨rfl, ⟨_, _, _, _, _, _, _, _, _, _, _, _, _, _, _, _, _, _, _, _, _, _, _, _, _, _, _, _, _, _, _, _, _, hA, hR, h.V, h.T, h.hL, h.hp, h.hz, h.sl, h.hi, h.K0, h.K1, h.pa⟩⟩
  · exact ⟨rfl, ⟨_, _, _, _, _, _, _, _, _, _, _, _, _, _, _, _, _, _, _, _, _, _, _, _, _, _, _, _, _, _, _, _, _, hA, hR, h.V, h.T, h.hL, h.hp, h.hz, h.sl, h.hi, h.K0, h.K1, h.pa⟩⟩
  · exact absurd (a2.symm.trans b2) (neg1 hq')
  · exact absurd (a2.symm.trans b2) (neg1 hq')
  · exact absurd (b2.symm.trans a2) (neg1 hq)
  all_goals first | exact absurd (b2.symm.trans a2) (neg1 hq) | skip
  all_goals
    have eq : q' = q := (nI_eq (by omega) (by omega)).mp (b2.symm.trans a2)
    subst eq
    rw [sumK_congr (g := P x.toInt.toNat) _ (fun j hj => h.hi _ (by omega) j (by rw [a2, nI_toInt (by omega)]; omega)), a3] at b3
  · exact ⟨rfl, ⟨_, _, _, _, _, _, _, _, _, _, _, _, _, _, _, _, _, _, _, _, _, _, _, _, _, _, _, _, _, _, _, _, _, hA, hR, h.V, h.T, h.hL, h.hp, h.hz, h.sl, h.hi, h.K0, h.K1, h.pa⟩⟩
  · exact absurd b3 (by simp)
  · exact absurd b3 (by simp)
  · cases b3
    exact ⟨rfl, ⟨_, _, _, _, _, _, _, _, _, _, _, _, _, _, _, _, _, _, _, _, _, _, _, _, _, _, _, _, _, _, _, _, _, hA, hR, h.V, h.T, h.hL, h.hp, h.hz, h.sl, h.hi, h.K0, h.K1, h.pa⟩⟩
end J4
