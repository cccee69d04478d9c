/-! CLASS AND REFERENCE TOGETHER: what only asks -/
section J2
variable {l : tg_Ln} {wc wr : List va_E}
theorem xO {x : Int32} {n : Nat} (h : 0 ≤ x.toInt ∧ x.toInt < n) : x = nI x.toInt.toNat ∧ x.toInt.toNat < n := x_of h.1 h.2
theorem J_fault (h : J wc wr) : JC l mX8_fault mX9_fault [] wc wr := by
  obtain ⟨told, tx, L, d, v, n, c, u, s, z, p, pk, pn, pc, pm, kd, kv, kn, kc, km, ke, jd, jv, jn, jc, jm, je, kp, ln, P, row, vals, it, h⟩ := h
  have hV := sA_V h.A
  have hE := sA_E h.A
  have hd4 : d ≤ 4 := hV.2.1
  have hv6 : ∀ k, k < d → vals k = nI (v k) ∧ v k ≤ 6 := fun k hk => ⟨h.V k hk, (hV.2.2 k hk).2⟩
  have hrv : rvOK d vals := ⟨hd4, fun k hk => ⟨v k, (hV.2.2 k hk).1, (hV.2.2 k hk).2, h.V k hk⟩⟩
  obtain ⟨fi, be, rD, rM, cl, dg, nu, my, su, le, gr, cz, vi, ov, rv, ct, bm, rfl⟩ := id h.R
  refine (kX8_fault h.A h.hL h.V h.T).mono (fun r w hw => ?_)
  obtain ⟨rfl, hA⟩ := hw
  refine ⟨sA_len hA, _, rfl, (kX9_fault h.hL hrv hE.1 h.T.1).mono (fun r' w' hw' => ?_)⟩
  obtain ⟨rfl, hR⟩ := hw'
  exact ⟨rfl, ⟨_, _, _, _, _, _, _, _, _, _, _, _, _, _, _, _, _, _, _, _, _, _, _, _, _, _, _, _, _, _, _, _, _, hA, hR, h.V, h.T, h.hL, h.hp, h.hz, h.sl, h.hi, h.K0, h.K1, h.pa⟩⟩
theorem J_count {x : Int32} (h : J wc wr) : JC l mX8_count mX9_count [.int x] wc wr := by
  obtain ⟨told, tx, L, d, v, n, c, u, s, z, p, pk, pn, pc, pm, kd, kv, kn, kc, km, ke, jd, jv, jn, jc, jm, je, kp, ln, P, row, vals, it, h⟩ := h
  have hV := sA_V h.A
  have hE := sA_E h.A
  have hd4 : d ≤ 4 := hV.2.1
  have hv6 : ∀ k, k < d → vals k = nI (v k) ∧ v k ≤ 6 := fun k hk => ⟨h.V k hk, (hV.2.2 k hk).2⟩
  have hrv : rvOK d vals := ⟨hd4, fun k hk => ⟨v k, (hV.2.2 k hk).1, (hV.2.2 k hk).2, h.V k hk⟩⟩
  obtain ⟨fi, be, rD, rM, cl, dg, nu, my, su, le, gr, cz, vi, ov, rv, ct, bm, rfl⟩ := id h.R
  refine (kX8_count h.A).mono (fun r w hw => ?_)
  obtain ⟨rfl, hA⟩ := hw
  refine ⟨sA_len hA, _, rfl, (kX9_count hd4 hv6 h.T).mono (fun r' w' hw' => ?_)⟩
  obtain ⟨rfl, hR⟩ := hw'
  exact ⟨by rw [cnt_eq hE h.V], ⟨_, _, _, _, _, _, _, _, _, _, _, _, _, _, _, _, _, _, _, _, _, _, _, _, _, _, _, _, _, _, _, _, _, hA, hR, h.V, h.T, h.hL, h.hp, h.hz, h.sl, h.hi, h.K0, h.K1, h.pa⟩⟩
theorem J_key (h : J wc wr) : JC l mX8_key mX9_key [] wc wr := by
  obtain ⟨told, tx, L, d, v, n, c, u, s, z, p, pk, pn, pc, pm, kd, kv, kn, kc, km, ke, jd, jv, jn, jc, jm, je, kp, ln, P, row, vals, it, h⟩ := h
  have hV := sA_V h.A
  have hE := sA_E h.A
  have hd4 : d ≤ 4 := hV.2.1
  have hv6 : ∀ k, k < d → vals k = nI (v k) ∧ v k ≤ 6 := fun k hk => ⟨h.V k hk, (hV.2.2 k hk).2⟩
  have hrv : rvOK d vals := ⟨hd4, fun k hk => ⟨v k, (hV.2.2 k hk).1, (hV.2.2 k hk).2, h.V k hk⟩⟩
  obtain ⟨fi, be, rD, rM, cl, dg, nu, my, su, le, gr, cz, vi, ov, rv, ct, bm, rfl⟩ := id h.R
  refine (kX8_key h.A).mono (fun r w hw => ?_)
  obtain ⟨⟨on, hon, rfl⟩, hA⟩ := hw
  refine ⟨sA_len hA, _, rfl, (kX9_key hd4 h.T).mono (fun r' w' hw' => ?_)⟩
  obtain ⟨rfl, hR⟩ := hw'
  exact ⟨by rw [key_eq hd4 hE.1 (cOK_of hE) hon (2 ^ d) (Nat.le_refl _)], ⟨_, _, _, _, _, _, _, _, _, _, _, _, _, _, _, _, _, _, _, _, _, _, _, _, _, _, _, _, _, _, _, _, _, hA, hR, h.V, h.T, h.hL, h.hp, h.hz, h.sl, h.hi, h.K0, h.K1, h.pa⟩⟩
theorem J_asked (h : J wc wr) : tg_Ct l mX8_asked 1000 [.ref 0] wc (fun r wc' => wc'.length = 46 ∧ ∃ x : Int64, r = some (.long x) ∧ tg_Ct l mX9_asked 1000 [.ref 0] wr (fun r' wr' => r' = r ∧ J wc' wr')) := by
  obtain ⟨told, tx, L, d, v, n, c, u, s, z, p, pk, pn, pc, pm, kd, kv, kn, kc, km, ke, jd, jv, jn, jc, jm, je, kp, ln, P, row, vals, it, h⟩ := h
  have hV := sA_V h.A
  have hE := sA_E h.A
  have hd4 : d ≤ 4 := hV.2.1
  have hv6 : ∀ k, k < d → vals k = nI (v k) ∧ v k ≤ 6 := fun k hk => ⟨h.V k hk, (hV.2.2 k hk).2⟩
  have hrv : rvOK d vals := ⟨hd4, fun k hk => ⟨v k, (hV.2.2 k hk).1, (hV.2.2 k hk).2, h.V k hk⟩⟩
  obtain ⟨fi, be, rD, rM, cl, dg, nu, my, su, le, gr, cz, vi, ov, rv, ct, bm, rfl⟩ := id h.R
  refine (kX8_asked h.A).mono (fun r w hw => ?_)
  obtain ⟨rfl, hA⟩ := hw
  refine ⟨sA_len hA, _, rfl, kX9_asked.mono (fun r' w' hw' => ?_)⟩
  obtain ⟨rfl, hR⟩ := hw'
  exact ⟨rfl, ⟨_, _, _, _, _, _, _, _, _, _, _, _, _, _, _, _, _, _, _, _, _, _, _, _, _, _, _, _, _, _, _, _, _, hA, hR, h.V, h.T, h.hL, h.hp, h.hz, h.sl, h.hi, h.K0, h.K1, h.pa⟩⟩
theorem J_cell {x y : Int32} (h : J wc wr) : JC l mX8_cell mX9_cell [.int x, .int y] wc wr := by
  obtain ⟨told, tx, L, d, v, n, c, u, s, z, p, pk, pn, pc, pm, kd, kv, kn, kc, km, ke, jd, jv, jn, jc, jm, je, kp, ln, P, row, vals, it, h⟩ := h
  have hV := sA_V h.A
  have hE := sA_E h.A
  have hd4 : d ≤ 4 := hV.2.1
  have hv6 : ∀ k, k < d → vals k = nI (v k) ∧ v k ≤ 6 := fun k hk => ⟨h.V k hk, (hV.2.2 k hk).2⟩
  have hrv : rvOK d vals := ⟨hd4, fun k hk => ⟨v k, (hV.2.2 k hk).1, (hV.2.2 k hk).2, h.V k hk⟩⟩
  obtain ⟨fi, be, rD, rM, cl, dg, nu, my, su, le, gr, cz, vi, ov, rv, ct, bm, rfl⟩ := id h.R
  refine (kX8_cell h.A).mono (fun r w hw => ?_)
  obtain ⟨hr, hA⟩ := hw
  have hlen := sA_len hA
  rcases hr with ⟨a1, rfl⟩ | ⟨a1, rfl⟩
  all_goals
    refine ⟨hlen, _, rfl, (kX9_cell hd4 hv6 h.T).mono (fun r' w' hw' => ?_)⟩
    obtain ⟨hr', hR⟩ := hw'
    refine ⟨?_, ⟨_, _, _, _, _, _, _, _, _, _, _, _, _, _, _, _, _, _, _, _, _, _, _, _, _, _, _, _, _, _, _, _, _, hA, hR, h.V, h.T, h.hL, h.hp, h.hz, h.sl, h.hi, h.K0, h.K1, h.pa⟩⟩
    rcases hr' with ⟨b1, rfl⟩ | ⟨b1, rfl⟩
    all_goals first | exact absurd a1 b1 | exact absurd b1 a1 | skip
  · rfl
  · rfl
theorem J_ask {x y : Int32} (h : J wc wr) : JC l mX8_ask mX9_ask [.int x, .int y] wc wr := by
  obtain ⟨told, tx, L, d, v, n, c, u, s, z, p, pk, pn, pc, pm, kd, kv, kn, kc, km, ke, jd, jv, jn, jc, jm, je, kp, ln, P, row, vals, it, h⟩ := h
  have hV := sA_V h.A
  have hE := sA_E h.A
  have hd4 : d ≤ 4 := hV.2.1
  have hv6 : ∀ k, k < d → vals k = nI (v k) ∧ v k ≤ 6 := fun k hk => ⟨h.V k hk, (hV.2.2 k hk).2⟩
  have hrv : rvOK d vals := ⟨hd4, fun k hk => ⟨v k, (hV.2.2 k hk).1, (hV.2.2 k hk).2, h.V k hk⟩⟩
  obtain ⟨fi, be, rD, rM, cl, dg, nu, my, su, le, gr, cz, vi, ov, rv, ct, bm, rfl⟩ := id h.R
  refine (kX8_ask h.A).mono (fun r w hw => ?_)
  obtain ⟨hr, hA⟩ := hw
  have hlen := sA_len hA
  rcases hr with ⟨a1, rfl⟩ | ⟨a1, rfl⟩
  all_goals
    refine ⟨hlen, _, rfl, (kX9_ask hd4 hv6 h.T).mono (fun r' w' hw' => ?_)⟩
    obtain ⟨hr', hR⟩ := hw'
    refine ⟨?_, ⟨_, _, _, _, _, _, _, _, _, _, _, _, _, _, _, _, _, _, _, _, _, _, _, _, _, _, _, _, _, _, _, _, _, hA, hR, h.V, h.T, h.hL, h.hp, h.hz, h.sl, h.hi, h.K0, h.K1, h.pa⟩⟩
    rcases hr' with ⟨b1, rfl⟩ | ⟨b1, rfl⟩
    all_goals first | exact absurd a1 b1 | exact absurd b1 a1 | skip
  · rfl
  · rfl
theorem J_closure {x : Int32} (h : J wc wr) : JC l mX8_closure mX9_closure [.int x] wc wr := by
  obtain ⟨told, tx, L, d, v, n, c, u, s, z, p, pk, pn, pc, pm, kd, kv, kn, kc, km, ke, jd, jv, jn, jc, jm, je, kp, ln, P, row, vals, it, h⟩ := h
  have hV := sA_V h.A
  have hE := sA_E h.A
  have hd4 : d ≤ 4 := hV.2.1
  have hv6 : ∀ k, k < d → vals k = nI (v k) ∧ v k ≤ 6 := fun k hk => ⟨h.V k hk, (hV.2.2 k hk).2⟩
  have hrv : rvOK d vals := ⟨hd4, fun k hk => ⟨v k, (hV.2.2 k hk).1, (hV.2.2 k hk).2, h.V k hk⟩⟩
  obtain ⟨fi, be, rD, rM, cl, dg, nu, my, su, le, gr, cz, vi, ov, rv, ct, bm, rfl⟩ := id h.R
  refine (kX8_closure h.A).mono (fun r w hw => ?_)
  obtain ⟨hr, hA⟩ := hw
  have hlen := sA_len hA
  rcases hr with ⟨a1, rfl⟩ | ⟨a1, rfl⟩
  all_goals
    refine ⟨hlen, _, rfl, (kX9_closure hd4 hv6 h.T).mono (fun r' w' hw' => ?_)⟩
    obtain ⟨hr', hR⟩ := hw'
    refine ⟨?_, ⟨_, _, _, _, _, _, _, _, _, _, _, _, _, _, _, _, _, _, _, _, _, _, _, _, _, _, _, _, _, _, _, _, _, hA, hR, h.V, h.T, h.hL, h.hp, h.hz, h.sl, h.hi, h.K0, h.K1, h.pa⟩⟩
    rcases hr' with ⟨b1, rfl⟩ | ⟨b1, rfl⟩
    all_goals first | exact absurd a1 b1 | exact absurd b1 a1 | skip
  · rfl
  · exact absurd (a1.symm.trans b1) (by decide)
  · exact absurd (b1.symm.trans a1) (by decide)
  · rfl
theorem J_kept {x : Int32} (h : J wc wr) : JC l mX8_kept mX9_kept [.int x] wc wr := by
  obtain ⟨told, tx, L, d, v, n, c, u, s, z, p, pk, pn, pc, pm, kd, kv, kn, kc, km, ke, jd, jv, jn, jc, jm, je, kp, ln, P, row, vals, it, h⟩ := h
  have hV := sA_V h.A
  have hE := sA_E h.A
  have hd4 : d ≤ 4 := hV.2.1
  have hv6 : ∀ k, k < d → vals k = nI (v k) ∧ v k ≤ 6 := fun k hk => ⟨h.V k hk, (hV.2.2 k hk).2⟩
  have hrv : rvOK d vals := ⟨hd4, fun k hk => ⟨v k, (hV.2.2 k hk).1, (hV.2.2 k hk).2, h.V k hk⟩⟩
  obtain ⟨fi, be, rD, rM, cl, dg, nu, my, su, le, gr, cz, vi, ov, rv, ct, bm, rfl⟩ := id h.R
  refine (kX8_kept h.A).mono (fun r w hw => ?_)
  obtain ⟨hr, hA⟩ := hw
  have hlen := sA_len hA
  rcases hr with ⟨a1, rfl⟩ | ⟨a1, rfl⟩
  all_goals
    refine ⟨hlen, _, rfl, (kX9_kept hd4 hv6 h.T).mono (fun r' w' hw' => ?_)⟩
    obtain ⟨hr', hR⟩ := hw'
    refine ⟨?_, ⟨_, _, _, _, _, _, _, _, _, _, _, _, _, _, _, _, _, _, _, _, _, _, _, _, _, _, _, _, _, _, _, _, _, hA, hR, h.V, h.T, h.hL, h.hp, h.hz, h.sl, h.hi, h.K0, h.K1, h.pa⟩⟩
    rcases hr' with ⟨b1, rfl⟩ | ⟨b1, rfl⟩
    all_goals first | exact absurd a1 b1 | exact absurd b1 a1 | skip
  · rfl
  · omega
  · omega
  · rw [nth_congr (p := inCu d v n c s) (q := cuB d n s c) _ (fun i _ => inCu_eq hE s i)]
theorem J_cap {x : Int32} (h : J wc wr) : JC l mX8_cap mX9_cap [.int x] wc wr := by
  obtain ⟨told, tx, L, d, v, n, c, u, s, z, p, pk, pn, pc, pm, kd, kv, kn, kc, km, ke, jd, jv, jn, jc, jm, je, kp, ln, P, row, vals, it, h⟩ := h
  have hV := sA_V h.A
  have hE := sA_E h.A
  have hd4 : d ≤ 4 := hV.2.1
  have hv6 : ∀ k, k < d → vals k = nI (v k) ∧ v k ≤ 6 := fun k hk => ⟨h.V k hk, (hV.2.2 k hk).2⟩
  have hrv : rvOK d vals := ⟨hd4, fun k hk => ⟨v k, (hV.2.2 k hk).1, (hV.2.2 k hk).2, h.V k hk⟩⟩
  obtain ⟨fi, be, rD, rM, cl, dg, nu, my, su, le, gr, cz, vi, ov, rv, ct, bm, rfl⟩ := id h.R
  refine (kX8_cap h.A).mono (fun r w hw => ?_)
  obtain ⟨hr, hA⟩ := hw
  have hlen := sA_len hA
  rcases hr with ⟨a1, rfl⟩ | ⟨a1, rfl⟩
  all_goals
    refine ⟨hlen, _, rfl, (kX9_cap hd4 hv6 h.T).mono (fun r' w' hw' => ?_)⟩
    obtain ⟨hr', hR⟩ := hw'
    refine ⟨?_, ⟨_, _, _, _, _, _, _, _, _, _, _, _, _, _, _, _, _, _, _, _, _, _, _, _, _, _, _, _, _, _, _, _, _, hA, hR, h.V, h.T, h.hL, h.hp, h.hz, h.sl, h.hi, h.K0, h.K1, h.pa⟩⟩
    rcases hr' with ⟨b1, rfl⟩ | ⟨b1, rfl⟩
    all_goals first | exact absurd a1 b1 | exact absurd b1 a1 | skip
  · rfl
  · rw [cap_eq, cs_by hE]
theorem J_rule {x y : Int32} (h : J wc wr) : JC l mX8_rule mX9_rule [.int x, .int y] wc wr := by
  obtain ⟨told, tx, L, d, v, n, c, u, s, z, p, pk, pn, pc, pm, kd, kv, kn, kc, km, ke, jd, jv, jn, jc, jm, je, kp, ln, P, row, vals, it, h⟩ := h
  have hV := sA_V h.A
  have hE := sA_E h.A
  have hd4 : d ≤ 4 := hV.2.1
  have hv6 : ∀ k, k < d → vals k = nI (v k) ∧ v k ≤ 6 := fun k hk => ⟨h.V k hk, (hV.2.2 k hk).2⟩
  have hrv : rvOK d vals := ⟨hd4, fun k hk => ⟨v k, (hV.2.2 k hk).1, (hV.2.2 k hk).2, h.V k hk⟩⟩
  obtain ⟨fi, be, rD, rM, cl, dg, nu, my, su, le, gr, cz, vi, ov, rv, ct, bm, rfl⟩ := id h.R
  refine (kX8_rule h.A).mono (fun r w hw => ?_)
  obtain ⟨hr, hA⟩ := hw
  have hlen := sA_len hA
  rcases hr with ⟨a1, rfl⟩ | ⟨a1, rfl⟩
  all_goals
    refine ⟨hlen, _, rfl, (kX9_rule hd4 h.T).mono (fun r' w' hw' => ?_)⟩
    obtain ⟨hr', hR⟩ := hw'
    refine ⟨?_, ⟨_, _, _, _, _, _, _, _, _, _, _, _, _, _, _, _, _, _, _, _, _, _, _, _, _, _, _, _, _, _, _, _, _, hA, hR, h.V, h.T, h.hL, h.hp, h.hz, h.sl, h.hi, h.K0, h.K1, h.pa⟩⟩
    rcases hr' with ⟨b1, rfl⟩ | ⟨b1, rfl⟩
    all_goals first | exact absurd a1 b1 | exact absurd b1 a1 | skip
  · rfl
  · obtain ⟨e1, q1⟩ := xO a1.1
    obtain ⟨e2, q2⟩ := xO a1.2
    have := rule_eq hd4 (cOK_of hE) q1 q2
    rw [← e1] at this
    rw [this]
theorem J_part {x y : Int32} (h : J wc wr) : JC l mX8_part mX9_part [.int x, .int y] wc wr := by
  obtain ⟨told, tx, L, d, v, n, c, u, s, z, p, pk, pn, pc, pm, kd, kv, kn, kc, km, ke, jd, jv, jn, jc, jm, je, kp, ln, P, row, vals, it, h⟩ := h
  have hV := sA_V h.A
  have hE := sA_E h.A
  have hd4 : d ≤ 4 := hV.2.1
  have hv6 : ∀ k, k < d → vals k = nI (v k) ∧ v k ≤ 6 := fun k hk => ⟨h.V k hk, (hV.2.2 k hk).2⟩
  have hrv : rvOK d vals := ⟨hd4, fun k hk => ⟨v k, (hV.2.2 k hk).1, (hV.2.2 k hk).2, h.V k hk⟩⟩
  obtain ⟨fi, be, rD, rM, cl, dg, nu, my, su, le, gr, cz, vi, ov, rv, ct, bm, rfl⟩ := id h.R
  refine (kX8_part h.A).mono (fun r w hw => ?_)
  obtain ⟨hr, hA⟩ := hw
  have hlen := sA_len hA
  rcases hr with ⟨a1, rfl⟩ | ⟨a1, en, hen, rfl⟩
  all_goals
    refine ⟨hlen, _, rfl, (kX9_part hd4 h.T).mono (fun r' w' hw' => ?_)⟩
    obtain ⟨hr', hR⟩ := hw'
    refine ⟨?_, ⟨_, _, _, _, _, _, _, _, _, _, _, _, _, _, _, _, _, _, _, _, _, _, _, _, _, _, _, _, _, _, _, _, _, hA, hR, h.V, h.T, h.hL, h.hp, h.hz, h.sl, h.hi, h.K0, h.K1, h.pa⟩⟩
    rcases hr' with ⟨b1, rfl⟩ | ⟨b1, rfl⟩
    all_goals first | exact absurd a1 b1 | exact absurd b1 a1 | skip
  · rfl
  · have ho := a1.1
    unfold orderOK at ho
    rw [Bool.and_eq_true, decide_eq_true_eq] at ho
    obtain ⟨e1, q1⟩ := xO ho.1
    have ho2 : ordC d d x.toInt.toNat 0 = true := by
      rw [← ord_C hd4 (Nat.lt_of_lt_of_le q1 (Nat.le_trans (Nat.pow_le_pow_right (by decide) hd4) (by decide))), ← e1]
      exact a1.1
    rw [part_eq hV.1 hd4 hen q1 ho2, vi_eq]
theorem J_best {x : Int32} (h : J wc wr) : JC l mX8_best mX9_best [.int x] wc wr := by
  obtain ⟨told, tx, L, d, v, n, c, u, s, z, p, pk, pn, pc, pm, kd, kv, kn, kc, km, ke, jd, jv, jn, jc, jm, je, kp, ln, P, row, vals, it, h⟩ := h
  have hV := sA_V h.A
  have hE := sA_E h.A
  have hd4 : d ≤ 4 := hV.2.1
  have hv6 : ∀ k, k < d → vals k = nI (v k) ∧ v k ≤ 6 := fun k hk => ⟨h.V k hk, (hV.2.2 k hk).2⟩
  have hrv : rvOK d vals := ⟨hd4, fun k hk => ⟨v k, (hV.2.2 k hk).1, (hV.2.2 k hk).2, h.V k hk⟩⟩
  obtain ⟨fi, be, rD, rM, cl, dg, nu, my, su, le, gr, cz, vi, ov, rv, ct, bm, rfl⟩ := id h.R
  refine (kX8_best h.A).mono (fun r w hw => ?_)
  obtain ⟨hr, hA⟩ := hw
  have hlen := sA_len hA
  rcases hr with ⟨a1, rfl⟩ | ⟨a1, en, hen, rfl⟩
  all_goals
    refine ⟨hlen, _, rfl, (kX9_best hd4 h.T).mono (fun r' w' hw' => ?_)⟩
    obtain ⟨hr', hR⟩ := hw'
    refine ⟨?_, ⟨_, _, _, _, _, _, _, _, _, _, _, _, _, _, _, _, _, _, _, _, _, _, _, _, _, _, _, _, _, _, _, _, _, hA, hR, h.V, h.T, h.hL, h.hp, h.hz, h.sl, h.hi, h.K0, h.K1, h.pa⟩⟩
    rcases hr' with ⟨b1, rfl⟩ | ⟨b1, rfl⟩
    all_goals first | exact absurd a1 b1 | exact absurd b1 a1 | skip
  · rfl
  · obtain ⟨e1, e2⟩ := best_eq hV.1 hd4 hE.1 hen
    rw [e2, e1]
theorem J_entry {x y : Int32} (h : J wc wr) : JC l mX8_entry mX9_entry [.int x, .int y] wc wr := by
  obtain ⟨told, tx, L, d, v, n, c, u, s, z, p, pk, pn, pc, pm, kd, kv, kn, kc, km, ke, jd, jv, jn, jc, jm, je, kp, ln, P, row, vals, it, h⟩ := h
  have hV := sA_V h.A
  have hE := sA_E h.A
  have hd4 : d ≤ 4 := hV.2.1
  have hv6 : ∀ k, k < d → vals k = nI (v k) ∧ v k ≤ 6 := fun k hk => ⟨h.V k hk, (hV.2.2 k hk).2⟩
  have hrv : rvOK d vals := ⟨hd4, fun k hk => ⟨v k, (hV.2.2 k hk).1, (hV.2.2 k hk).2, h.V k hk⟩⟩
  obtain ⟨fi, be, rD, rM, cl, dg, nu, my, su, le, gr, cz, vi, ov, rv, ct, bm, rfl⟩ := id h.R
  refine (kX8_entry h.A).mono (fun r w hw => ?_)
  obtain ⟨hr, hA⟩ := hw
  have hlen := sA_len hA
  rcases hr with ⟨a1, rfl⟩ | ⟨a1, a2, rfl⟩ | ⟨a1, a2, rfl⟩ | ⟨a1, a2, a3, rfl⟩
  all_goals
    refine ⟨hlen, _, rfl, (kX9_entry hE.1 h.T.1).mono (fun r' w' hw' => ?_)⟩
    obtain ⟨hr', hR⟩ := hw'
    refine ⟨?_, ⟨_, _, _, _, _, _, _, _, _, _, _, _, _, _, _, _, _, _, _, _, _, _, _, _, _, _, _, _, _, _, _, _, _, hA, hR, h.V, h.T, h.hL, h.hp, h.hz, h.sl, h.hi, h.K0, h.K1, h.pa⟩⟩
    rcases hr' with ⟨b1, rfl⟩ | ⟨b1, b2, rfl⟩ | ⟨b1, b2, rfl⟩ | ⟨b1, b2, b3, rfl⟩
    all_goals first | exact absurd a1 b1 | exact absurd b1 a1 | skip
  · rfl
  · have := h.T.2.2.1 x.toInt.toNat (by omega)
    rw [Nat.zero_add] at this
    rw [this]
  · exact absurd (a2.symm.trans b2) (by decide)
  · exact absurd a2 b2
  · exact absurd (a2.symm.trans b2) (by decide)
  · have := h.T.2.2.2.1 x.toInt.toNat (by omega)
    rw [Nat.zero_add] at this
    rw [this]
  · exact absurd a2 b3
  · exact absurd b2 a2
  · exact absurd b2 a3
  · rfl
end J2
