/-! CLASS AND REFERENCE TOGETHER: what holds between the two, ahead of each call of the law -/
theorem tg_Ct.mono {l : tg_Ln} {M : tg_M} {n0 : Nat} {args : List Value} {w : List va_E} {K K' : Option Value → List va_E → Prop} (h : tg_Ct l M n0 args w K) (hK : ∀ r w', K r w' → K' r w') : tg_Ct l M n0 args w K' := tg_G.mono h hK
/-- one step back in the past -/
def stp (k q a y : Int32) (n : Nat) (c : Nat → Nat) (u : Nat → Int32) (s n' : Nat) (c' : Nat → Nat) (u' : Nat → Int32) (s' : Nat) : Prop :=
  (k = 0 ∧ ∃ e, q = nI e ∧ e < n ∧ n' = n - 1 ∧ s' = s ∧ ∀ i, i < n' → c' i = delC c e i ∧ u' i = delC u e i) ∨
  (k = 1 ∧ ∃ e b, q = nI e ∧ a = nI b ∧ e ≤ n ∧ n' = n + 1 ∧ s' = s ∧ ∀ i, i < n' → c' i = insC c e b i ∧ u' i = insC u e y i) ∨
  (k = 2 ∧ ∃ e, q = nI e ∧ n' = n ∧ s' = e ∧ ∀ i, i < n' → c' i = c i ∧ u' i = u i)
def pastR (row : Nat → Int32) (d : Nat) (v : Nat → Nat) (pk pn pc pm : Nat → Int32) : Nat → Nat → Nat → (Nat → Nat) → (Nat → Int32) → Nat → Prop
  | 0, _, _, _, _, _ => True
  | z + 1, p, n, c, u, s => ∃ n' c' u' s', tbR row d (82 + 82 * z) n' s' c' u' ∧ eOK d v n' c' u' s' ∧ stp (pk (pv8 p)) (pn (pv8 p)) (pc (pv8 p)) (pm (pv8 p)) n c u s n' c' u' s' ∧ pastR row d v pk pn pc pm z (pv8 p) n' c' u' s'
/-- what is kept, in both -/
def kpJ (kp : Nat → Int32) (k : Nat) (td : Int32) (tv : Nat → Int32) (tn : Int32) (tc tm : Nat → Int32) (te : Int32) (d : Nat) (v : Nat → Nat) (row : Nat → Int32) : Prop := ∃ n c u s, kpT kp k td tv tn tc tm te d v n c u s ∧ (kp k = 1 → tbR row d (738 + 82 * k) n s c u)
def itR (ln : Nat → Int32) (P : Nat → Nat → Int64) (it : Nat → Int64) : Prop := ∀ r, r < 3 → ∀ i : Nat, (i : Int) < (ln r).toInt → it (12 * r + i) = P r i
def JS (told : Int64) (tx : Nat → Int32) (L d : Nat) (v : Nat → Nat) (n : Nat) (c : Nat → Nat) (u : Nat → Int32) (s z p : Nat) (pk pn pc pm : Nat → Int32) (kd : Int32) (kv : Nat → Int32) (kn : Int32) (kc km : Nat → Int32) (ke : Int32) (jd : Int32) (jv : Nat → Int32) (jn : Int32) (jc jm : Nat → Int32) (je : Int32) (kp ln : Nat → Int32) (P : Nat → Nat → Int64) (row vals : Nat → Int32) (it : Nat → Int64) (wc wr : List va_E) : Prop := ((sA told tx L d v n c u s z p pk pn pc pm kd kv kn kc km ke jd jv jn jc jm je kp ln P) wc) ∧ ((sM row (nI d) vals (nI z) kp tx (nI L) ln it told) wr) ∧ (∀ k, k < d → vals k = nI (v k)) ∧ (tbR row d 0 n s c u) ∧ (L ≤ 200) ∧ (p < 8) ∧ (z ≤ 8) ∧ (szOK ln) ∧ (itR ln P it) ∧ (kpJ kp 0 kd kv kn kc km ke d v row) ∧ (kpJ kp 1 jd jv jn jc jm je d v row) ∧ (pastR row d v pk pn pc pm z p n c u s)
section JSP
variable {told : Int64} {tx u pk pn pc pm kv kc km jv jc jm kp ln row vals : Nat → Int32} {L d n s z p : Nat} {v c : Nat → Nat} {kd kn ke jd jn je : Int32} {P : Nat → Nat → Int64} {it : Nat → Int64} {wc wr : List va_E}
theorem JS.A (h : (JS told tx L d v n c u s z p pk pn pc pm kd kv kn kc km ke jd jv jn jc jm je kp ln P row vals it) wc wr) : (sA told tx L d v n c u s z p pk pn pc pm kd kv kn kc km ke jd jv jn jc jm je kp ln P) wc := h.1
theorem JS.R (h : (JS told tx L d v n c u s z p pk pn pc pm kd kv kn kc km ke jd jv jn jc jm je kp ln P row vals it) wc wr) : (sM row (nI d) vals (nI z) kp tx (nI L) ln it told) wr := h.2.1
theorem JS.V (h : (JS told tx L d v n c u s z p pk pn pc pm kd kv kn kc km ke jd jv jn jc jm je kp ln P row vals it) wc wr) : ∀ k, k < d → vals k = nI (v k) := h.2.2.1
theorem JS.T (h : (JS told tx L d v n c u s z p pk pn pc pm kd kv kn kc km ke jd jv jn jc jm je kp ln P row vals it) wc wr) : tbR row d 0 n s c u := h.2.2.2.1
theorem JS.hL (h : (JS told tx L d v n c u s z p pk pn pc pm kd kv kn kc km ke jd jv jn jc jm je kp ln P row vals it) wc wr) : L ≤ 200 := h.2.2.2.2.1
theorem JS.hp (h : (JS told tx L d v n c u s z p pk pn pc pm kd kv kn kc km ke jd jv jn jc jm je kp ln P row vals it) wc wr) : p < 8 := h.2.2.2.2.2.1
theorem JS.hz (h : (JS told tx L d v n c u s z p pk pn pc pm kd kv kn kc km ke jd jv jn jc jm je kp ln P row vals it) wc wr) : z ≤ 8 := h.2.2.2.2.2.2.1
theorem JS.sl (h : (JS told tx L d v n c u s z p pk pn pc pm kd kv kn kc km ke jd jv jn jc jm je kp ln P row vals it) wc wr) : szOK ln := h.2.2.2.2.2.2.2.1
theorem JS.hi (h : (JS told tx L d v n c u s z p pk pn pc pm kd kv kn kc km ke jd jv jn jc jm je kp ln P row vals it) wc wr) : itR ln P it := h.2.2.2.2.2.2.2.2.1
theorem JS.K0 (h : (JS told tx L d v n c u s z p pk pn pc pm kd kv kn kc km ke jd jv jn jc jm je kp ln P row vals it) wc wr) : kpJ kp 0 kd kv kn kc km ke d v row := h.2.2.2.2.2.2.2.2.2.1
theorem JS.K1 (h : (JS told tx L d v n c u s z p pk pn pc pm kd kv kn kc km ke jd jv jn jc jm je kp ln P row vals it) wc wr) : kpJ kp 1 jd jv jn jc jm je d v row := h.2.2.2.2.2.2.2.2.2.2.1
theorem JS.pa (h : (JS told tx L d v n c u s z p pk pn pc pm kd kv kn kc km ke jd jv jn jc jm je kp ln P row vals it) wc wr) : pastR row d v pk pn pc pm z p n c u s := h.2.2.2.2.2.2.2.2.2.2.2
end JSP
def J (wc wr : List va_E) : Prop := ∃ told tx L d v n c u s z p pk pn pc pm kd kv kn kc km ke jd jv jn jc jm je kp ln P row vals it, (JS told tx L d v n c u s z p pk pn pc pm kd kv kn kc km ke jd jv jn jc jm je kp ln P row vals it) wc wr
/-- both are called: the same answer, and all holds again -/
def JC (l : tg_Ln) (M M' : tg_M) (args : List Value) (wc wr : List va_E) : Prop := tg_Ct l M 1000 (.ref 0 :: args) wc (fun r wc' => wc'.length = 46 ∧ ∃ x : Int32, r = some (.int x) ∧ tg_Ct l M' 1000 (.ref 0 :: args) wr (fun r' wr' => r' = r ∧ J wc' wr'))
section J0
variable {told : Int64} {tx u pk pn pc pm kv kc km jv jc jm kp ln : Nat → Int32} {L d n s z p : Nat} {v c : Nat → Nat} {kd kn ke jd jn je : Int32} {P : Nat → Nat → Int64} {w : List va_E}
theorem sA_len (h : (sA told tx L d v n c u s z p pk pn pc pm kd kv kn kc km ke jd jv jn jc jm je kp ln P) w) : w.length = 46 := by
  obtain ⟨_, _, _, _, _, _, _, _, _, _, _, _, _, _, _, _, _, _, _, _, _, _, _, _, _, _, _, _, _, _, _, _, _, _, -, -, -, -, -, -, rfl⟩ := h
  rfl
theorem sA_0 (h : (sA told tx L d v n c u s z p pk pn pc pm kd kv kn kc km ke jd jv jn jc jm je kp ln P) w) : ∃ fs, w[0]? = some (.inr (7, fs)) := by
  obtain ⟨_, _, _, _, _, _, _, _, _, _, _, _, _, _, _, _, _, _, _, _, _, _, _, _, _, _, _, _, _, _, _, _, _, _, -, -, -, -, -, -, rfl⟩ := h
  exact ⟨_, rfl⟩
theorem sA_V (h : (sA told tx L d v n c u s z p pk pn pc pm kd kv kn kc km ke jd jv jn jc jm je kp ln P) w) : vOK d v := by
  obtain ⟨_, _, _, _, _, _, _, _, _, _, _, _, _, _, _, _, _, _, _, _, _, _, _, _, _, _, _, _, _, _, _, _, _, _, -, h, -⟩ := h
  exact h
theorem sA_E (h : (sA told tx L d v n c u s z p pk pn pc pm kd kv kn kc km ke jd jv jn jc jm je kp ln P) w) : eOK d v n c u s := by
  obtain ⟨_, _, _, _, _, _, _, _, _, _, _, _, _, _, _, _, _, _, _, _, _, _, _, _, _, _, _, _, _, _, _, _, _, _, -, -, h, -⟩ := h
  exact h
end J0
section J1
variable {row vals kp tx sz : Nat → Int32} {dm un len : Int32} {it : Nat → Int64} {ask : Int64} {w : List va_E}
theorem sM_len (h : (sM row dm vals un kp tx len sz it ask) w) : w.length = 13 := by
  obtain ⟨_, _, _, _, _, _, _, _, _, _, _, _, _, _, _, _, _, rfl⟩ := h
  rfl
theorem sM_0 (h : (sM row dm vals un kp tx len sz it ask) w) : ∃ fs, w[0]? = some (.inr (8, fs)) := by
  obtain ⟨_, _, _, _, _, _, _, _, _, _, _, _, _, _, _, _, _, rfl⟩ := h
  exact ⟨_, rfl⟩
end J1
theorem J_len {wc wr : List va_E} (h : J wc wr) : wc.length = 46 ∧ wr.length = 13 ∧ (∃ fs, wc[0]? = some (.inr (7, fs))) ∧ ∃ fs, wr[0]? = some (.inr (8, fs)) := by
  obtain ⟨told, tx, L, d, v, n, c, u, s, z, p, pk, pn, pc, pm, kd, kv, kn, kc, km, ke, jd, jv, jn, jc, jm, je, kp, ln, P, row, vals, it, h⟩ := h
  exact ⟨sA_len h.A, sM_len h.R, sA_0 h.A, sM_0 h.R⟩
/-! rows -/
theorem tbR_mv {row row' : Nat → Int32} {d B B' n s : Nat} {c : Nat → Nat} {u : Nat → Int32} (h : tbR row d B n s c u) (hB : B' + 82 ≤ 984) (hr : ∀ t, t < 82 → row' (B' + t) = row (B + t)) : tbR row' d B' n s c u := by
  obtain ⟨h1, h2, h3, h4, h5, h6, h7, h8⟩ := h
  refine ⟨(hr 0 (by omega)).trans h1, (hr 1 (by omega)).trans h2, fun i hi => ?_, fun i hi => ?_, h5, h6, h7, hB⟩
  · rw [Nat.add_assoc, hr (2 + i) (by omega), ← Nat.add_assoc]; exact h3 i hi
  · rw [Nat.add_assoc, hr (42 + i) (by omega), ← Nat.add_assoc]; exact h4 i hi
theorem tbR_congr {row : Nat → Int32} {d B n s : Nat} {c c' : Nat → Nat} {u u' : Nat → Int32} (h : tbR row d B n s c u) (hc : ∀ i, i < n → c' i = c i ∧ u' i = u i) : tbR row d B n s c' u' := by
  obtain ⟨h1, h2, h3, h4, h5, h6, h7, h8⟩ := h
  exact ⟨h1, h2, fun i hi => by rw [(hc i hi).1]; exact h3 i hi, fun i hi => by rw [(hc i hi).2]; exact h4 i hi, fun i hi => by rw [(hc i hi).1]; exact h5 i hi, h6, h7, h8⟩
theorem kpJ_mv {kp : Nat → Int32} {k : Nat} {td : Int32} {tv : Nat → Int32} {tn : Int32} {tc tm : Nat → Int32} {te : Int32} {d : Nat} {v : Nat → Nat} {row row' : Nat → Int32} (h : kpJ kp k td tv tn tc tm te d v row) (hr : ∀ j, 738 + 82 * k ≤ j → j < 738 + 82 * k + 82 → row' j = row j) : kpJ kp k td tv tn tc tm te d v row' := by
  obtain ⟨n, c, u, s, h1, h2⟩ := h
  exact ⟨n, c, u, s, h1, fun h => tbR_mv (h2 h) (h2 h).2.2.2.2.2.2.2 (fun t ht => hr _ (by omega) (by omega))⟩
/-! the past -/
def bk : Nat → Nat → Nat
  | 0, p => pv8 p
  | j + 1, p => bk j (pv8 p)
theorem bk_ne {p j : Nat} (hp : p < 8) (hj : j < 7) : bk j p ≠ p := by
  have : ∀ p : Fin 8, ∀ j : Fin 7, bk j.val p.val ≠ p.val := by decide
  exact this ⟨p, hp⟩ ⟨j, hj⟩
theorem pv_nx {p : Nat} (hp : p < 8) : pv8 (nx8 p) = p := by
  have : ∀ p : Fin 8, pv8 (nx8 p.val) = p.val := by decide
  exact this ⟨p, hp⟩
theorem pv_lt {p : Nat} (hp : p < 8) : pv8 p < 8 := by unfold pv8; split <;> omega
theorem nx_lt {p : Nat} : nx8 p < 8 := by unfold nx8; split <;> omega
section PA
variable {row row' : Nat → Int32} {d : Nat} {v : Nat → Nat} {pk pn pc pm pk' pn' pc' pm' : Nat → Int32}
theorem past_mv {k : Nat} : ∀ (z p n : Nat) (c : Nat → Nat) (u : Nat → Int32) (s : Nat), z ≤ 8 → (∀ j t, j < z → t < 82 → row' (82 + 82 * j + t) = row (82 + 82 * (j + k) + t)) → (∀ j, j < z → pk' (bk j p) = pk (bk j p) ∧ pn' (bk j p) = pn (bk j p) ∧ pc' (bk j p) = pc (bk j p) ∧ pm' (bk j p) = pm (bk j p)) → pastR row d v pk pn pc pm (z + k) p n c u s → pastR row' d v pk' pn' pc' pm' z p n c u s
  | 0, _, _, _, _, _, _, _, _, _ => trivial
  | z + 1, p, n, c, u, s, hz, hr, hb, h => by
    rw [show z + 1 + k = (z + k) + 1 by omega] at h
    obtain ⟨n', c', u', s', h1, h2, h3, h4⟩ := h
    obtain ⟨b1, b2, b3, b4⟩ := hb 0 (by omega)
    refine ⟨n', c', u', s', tbR_mv h1 (by omega) (fun t ht => ?_), h2, ?_, past_mv z (pv8 p) n' c' u' s' (by omega) (fun j t hj ht => hr j t (by omega) ht) (fun j hj => hb (j + 1) (by omega)) h4⟩
    · exact hr z t (by omega) ht
    · simp only [bk] at b1 b2 b3 b4
      rw [b1, b2, b3, b4]; exact h3
theorem stp_congr {k q a y : Int32} {n : Nat} {c c2 : Nat → Nat} {u u2 : Nat → Int32} {s n' : Nat} {c' : Nat → Nat} {u' : Nat → Int32} {s' : Nat} (h : stp k q a y n c u s n' c' u' s') (hc : ∀ i, i < n → c2 i = c i ∧ u2 i = u i) : stp k q a y n c2 u2 s n' c' u' s' := by
  rcases h with ⟨h0, e, h1, h2, rfl, h4, h5⟩ | ⟨h0, e, b, h1, h1b, h2, rfl, h4, h5⟩ | ⟨h0, e, h1, rfl, h4, h5⟩
  · refine Or.inl ⟨h0, e, h1, h2, rfl, h4, fun i hi => ?_⟩
    obtain ⟨a1, a2⟩ := h5 i hi
    rw [a1, a2]
    unfold delC
    split
    · exact ⟨(hc i (by omega)).1.symm, (hc i (by omega)).2.symm⟩
    · exact ⟨(hc (i + 1) (by omega)).1.symm, (hc (i + 1) (by omega)).2.symm⟩
  · refine Or.inr (Or.inl ⟨h0, e, b, h1, h1b, h2, rfl, h4, fun i hi => ?_⟩)
    obtain ⟨a1, a2⟩ := h5 i hi
    rw [a1, a2]
    unfold insC
    by_cases q1 : i < e
    · rw [if_pos q1, if_pos q1, if_pos q1, if_pos q1]
      exact ⟨(hc i (by omega)).1.symm, (hc i (by omega)).2.symm⟩
    · rw [if_neg q1, if_neg q1, if_neg q1, if_neg q1]
      by_cases q2 : i = e
      · rw [if_pos q2, if_pos q2, if_pos q2, if_pos q2]; exact ⟨rfl, rfl⟩
      · rw [if_neg q2, if_neg q2, if_neg q2, if_neg q2]
        exact ⟨(hc (i - 1) (by omega)).1.symm, (hc (i - 1) (by omega)).2.symm⟩
  · refine Or.inr (Or.inr ⟨h0, e, h1, rfl, h4, fun i hi => ?_⟩)
    obtain ⟨a1, a2⟩ := h5 i hi
    exact ⟨a1.trans (hc i hi).1.symm, a2.trans (hc i hi).2.symm⟩
theorem past_congr {z p n : Nat} {c c2 : Nat → Nat} {u u2 : Nat → Int32} {s : Nat} (h : pastR row d v pk pn pc pm z p n c u s) (hc : ∀ i, i < n → c2 i = c i ∧ u2 i = u i) : pastR row d v pk pn pc pm z p n c2 u2 s := by
  cases z with
  | zero => trivial
  | succ z =>
    obtain ⟨n', c', u', s', h1, h2, h3, h4⟩ := h
    exact ⟨n', c', u', s', h1, h2, stp_congr h3 hc, h4⟩
theorem rKeep_seg {z t : Nat} (hz : z ≤ 8) (ht : t < 82) : rKeep row z (82 + 82 * uShift z + t) = row t := by
  unfold rKeep
  have hu : uShift z ≤ 7 := by unfold uShift; split <;> omega
  have : va_cpy (rShift row z) (rShift row z) 0 (82 + 82 * uShift z) 82 (82 + 82 * uShift z + t) = rShift row z t := by
    unfold va_cpy
    rw [if_pos (by omega)]
    congr 1
    omega
  rw [this]
  unfold rShift
  split
  · unfold va_cpy; rw [if_neg (by omega)]
  · rfl
theorem rKeep_old {z j t : Nat} (hz : z ≤ 8) (hj : j < uShift z) (ht : t < 82) : rKeep row z (82 + 82 * j + t) = row (82 + 82 * (j + (z - uShift z)) + t) := by
  unfold rKeep
  have : va_cpy (rShift row z) (rShift row z) 0 (82 + 82 * uShift z) 82 (82 + 82 * j + t) = rShift row z (82 + 82 * j + t) := by
    unfold va_cpy
    rw [if_neg (by omega)]
  rw [this]
  unfold rShift uShift at *
  by_cases h8 : z = 8
  · subst h8
    simp only [if_true] at hj ⊢
    unfold va_cpy
    rw [if_pos (by omega)]
    congr 1
    omega
  · simp only [if_neg h8] at hj ⊢
    congr 1
    omega
theorem rKeep_hi {z j : Nat} (hz : z ≤ 8) (hj : 738 ≤ j) : rKeep row z j = row j := by
  unfold rKeep
  have hu : uShift z ≤ 7 := by unfold uShift; split <;> omega
  have : va_cpy (rShift row z) (rShift row z) 0 (82 + 82 * uShift z) 82 j = rShift row z j := by
    unfold va_cpy
    rw [if_neg (by omega)]
  rw [this]
  unfold rShift
  split
  · unfold va_cpy; rw [if_neg (by omega)]
  · rfl
/-- one more in the past -/
theorem past_push {z p n n1 : Nat} {c c1 : Nat → Nat} {u u1 : Nat → Int32} {s s1 : Nat} {a b e f : Int32} (hz : z ≤ 8) (hp : p < 8) (hT : tbR row d 0 n s c u) (hE : eOK d v n c u s) (h : pastR row d v pk pn pc pm z p n c u s) (hr : ∀ j, 82 ≤ j → j < 738 → row' j = rKeep row z j) (hs : stp a b e f n1 c1 u1 s1 n c u s) : pastR row' d v (upd pk p a) (upd pn p b) (upd pc p e) (upd pm p f) (min (z + 1) 8) (nx8 p) n1 c1 u1 s1 := by
  have hu : min (z + 1) 8 = uShift z + 1 := by unfold uShift; split <;> omega
  have hu7 : uShift z ≤ 7 := by unfold uShift; split <;> omega
  have huz : uShift z + (z - uShift z) = z := by unfold uShift; split <;> omega
  rw [hu]
  refine ⟨n, c, u, s, tbR_mv hT (by omega) (fun t ht => ?_), hE, ?_, ?_⟩
  · rw [hr _ (by omega) (by omega), rKeep_seg hz ht]
    congr 1
    omega
  · rw [pv_nx hp]
    simp only [upd, if_true]
    exact hs
  · rw [pv_nx hp]
    refine past_mv (row := row) (k := z - uShift z) (uShift z) p n c u s (by omega) (fun j t hj ht => ?_) (fun j hj => ?_) (by rw [huz]; exact h)
    · rw [hr _ (by omega) (by omega), rKeep_old hz hj ht]
    · have := bk_ne hp (show j < 7 by omega)
      simp only [upd, if_neg this, and_self]
end PA
