/-! THE LAW: its world is the class's and the reference's together -/
abbrev iA : List Nat := [0, 1, 2, 3, 4, 5, 6, 7, 8, 9, 10, 11, 12, 13, 14, 15, 16, 17, 18, 19, 20, 21, 22, 23, 24, 25, 26, 27, 28, 29, 30, 31, 32, 33, 34, 35, 36, 37, 38, 39, 40, 41, 42, 43, 44, 45]
abbrev iB : List Nat := [46, 47, 48, 49, 50, 51, 52, 53, 54, 55, 56, 57, 58]
def jn (wc wr : List va_E) : List va_E := wc.map (tg_e (fun t => t) (tg_rn iA)) ++ wr.map (tg_e (fun t => t) (tg_rn iB))
theorem iA_at : ∀ k, k < 46 → iA[k]? = some k := by
  have : ∀ k : Fin 46, iA[k.val]? = some k.val := by decide
  exact fun k hk => this ⟨k, hk⟩
theorem iB_at : ∀ k, k < 13 → iB[k]? = some (46 + k) := by
  have : ∀ k : Fin 13, iB[k.val]? = some (46 + k.val) := by decide
  exact fun k hk => this ⟨k, hk⟩
theorem fr_gen {is : List Nat} {w X : List va_E} {a n : Nat} (hn : is.length = n) (hX : X.length = n) (hat : ∀ k, k < n → is[k]? = some (a + k)) (hw : ∀ k, k < n → w[a + k]? = X[k]?) : is.map (fun i => w[i]?) = X.map some := by
  apply List.ext_getElem?
  intro k
  by_cases h : k < n
  · rw [List.getElem?_map, hat k h, List.getElem?_map, Option.map_some, hw k h]
    rw [List.getElem?_eq_getElem (by omega)]
    rfl
  · rw [List.getElem?_eq_none (by simp; omega), List.getElem?_eq_none (by simp; omega)]
theorem put_gen {is : List Nat} {w X : List va_E} {cs : List va_E} {g : Nat → Nat} (hw : X.length = w.length) (hl : cs.length = is.length) (hin : ∀ (k j : Nat) (c : va_E), is[k]? = some j → cs[k]? = some c → X[j]? = some (tg_e (fun t => t) g c)) (hout : ∀ j : Nat, j ∉ is → X[j]? = w[j]?) : tg_put g w is cs = X := by
  apply List.ext_getElem?
  intro j
  by_cases h : j < w.length
  · have hp : j < (tg_put g w is cs).length := by rw [tg_put_len]; exact h
    rw [List.getElem?_eq_getElem hp]
    rcases tg_put_get g is cs w j _ (List.getElem?_eq_getElem hp) hl with ⟨k, c, h1, h2, h3⟩ | ⟨h1, h2⟩
    · rw [h3]; exact (hin k j c h1 h2).symm
    · rw [hout j h1]; exact h2.symm
  · rw [List.getElem?_eq_none (by rw [tg_put_len]; omega), List.getElem?_eq_none (by omega)]
theorem mem_iA {j : Nat} (h : j ∉ iA) : 46 ≤ j := Nat.le_of_not_lt fun q => h (List.mem_of_getElem? (iA_at j q))
theorem nmem_iB {j : Nat} (h : j ∉ iB) : j < 46 ∨ 59 ≤ j := by
  by_cases h1 : j < 46
  · exact Or.inl h1
  · by_cases h2 : 59 ≤ j
    · exact Or.inr h2
    · refine absurd (List.mem_of_getElem? (i := j - 46) ?_) h
      rw [iB_at _ (by omega)]
      congr 1
      omega
section LAW0
variable {wc wr wc' wr' : List va_E}
theorem jn_A (h : wc.length = 46) : iA.map (fun i => (jn wc wr)[i]?) = wc.map (fun c => some (tg_e (fun t => t) (tg_rn iA) c)) := by
  rw [fr_gen (X := wc.map (tg_e (fun t => t) (tg_rn iA))) (a := 0) (n := 46) rfl (by simpa using h) (fun k hk => by rw [iA_at k hk, Nat.zero_add]) (fun k hk => by
    unfold jn
    rw [Nat.zero_add, List.getElem?_append_left (by simp; omega)]), List.map_map]
  rfl
theorem jn_B (h : wc.length = 46) (h' : wr.length = 13) : iB.map (fun i => (jn wc wr)[i]?) = wr.map (fun c => some (tg_e (fun t => t) (tg_rn iB) c)) := by
  rw [fr_gen (X := wr.map (tg_e (fun t => t) (tg_rn iB))) (a := 46) (n := 13) rfl (by simpa using h') iB_at (fun k hk => by
    unfold jn
    rw [List.getElem?_append_right (by simp; omega)]
    congr 1
    simp
    omega), List.map_map]
  rfl
theorem jn_putA (h : wc.length = 46) (h2 : wc'.length = 46) : tg_put (tg_rn iA) (jn wc wr) iA wc' = jn wc' wr := by
  refine put_gen (by unfold jn; simp; omega) h2 (fun k j c h3 h4 => ?_) (fun j hj => ?_)
  · have hk : k < 46 := by
      have := (List.getElem?_eq_some_iff.mp h3).1
      exact this
    rw [iA_at k hk] at h3
    cases h3
    unfold jn
    rw [List.getElem?_append_left (by simp; omega), List.getElem?_map, h4]
    rfl
  · have := mem_iA hj
    unfold jn
    rw [List.getElem?_append_right (by simp; omega), List.getElem?_append_right (by simp; omega)]
    simp only [List.length_map, h, h2]
theorem jn_putB (h : wc.length = 46) (h1 : wr.length = 13) (h2 : wr'.length = 13) : tg_put (tg_rn iB) (jn wc wr) iB wr' = jn wc wr' := by
  refine put_gen (by unfold jn; simp; omega) h2 (fun k j c h3 h4 => ?_) (fun j hj => ?_)
  · have hk : k < 13 := by
      have := (List.getElem?_eq_some_iff.mp h3).1
      exact this
    rw [iB_at k hk] at h3
    cases h3
    unfold jn
    rw [List.getElem?_append_right (by simp; omega), show 46 + k - (wc.map (tg_e (fun t => t) (tg_rn iA))).length = k by simp; omega, List.getElem?_map, h4]
    rfl
  · unfold jn
    rcases nmem_iB hj with q | q
    · rw [List.getElem?_append_left (by simp; omega), List.getElem?_append_left (by simp; omega)]
    · rw [List.getElem?_eq_none (by simp; omega), List.getElem?_eq_none (by simp; omega)]
end LAW0
def mL_law : tg_M := (yL_law, cL_law, 4, some .boolean, room_1)
section LAW1
variable {l : tg_Ln} {K : Option Value → List va_E → Prop} {kc ks pc i : Nat} {st : List Value} {w wc wr : List va_E}
abbrev lvL (i : Nat) : List Value := [.ref 1040, .ref 0, .ref 46, .int (nI i)]
theorem lw_a1 (hd : decode mL_law.2.1 pc = .ok (.aload_n 1, 1)) (k : tg_G l mL_law 0 K kc ks (pc + 1) (lvL i) (.ref 0 :: st) w) : tg_G l mL_law 0 K kc ks pc (lvL i) st w := tg_go (si_aload_n (i := 1) hd rfl) k
theorem lw_a2 (hd : decode mL_law.2.1 pc = .ok (.aload_n 2, 1)) (k : tg_G l mL_law 0 K kc ks (pc + 1) (lvL i) (.ref 46 :: st) w) : tg_G l mL_law 0 K kc ks pc (lvL i) st w := tg_go (si_aload_n (i := 2) hd rfl) k
theorem lw_arg (v : Nat) (hv : v ≤ 4) (hd0 : decode mL_law.2.1 pc = .ok (.aload_n 0, 1)) (hd1 : decode mL_law.2.1 (pc + 1) = .ok (.iload_n 3, 1)) (hd2 : decode mL_law.2.1 (pc + 2) = .ok (.iconst (v : Int), 1)) (hd3 : decode mL_law.2.1 (pc + 3) = .ok (.iadd, 1)) (hd4 : decode mL_law.2.1 (pc + 4) = .ok (.iaload, 1)) (hi : i + 4 < l.2.1) (hL : l.2.1 ≤ 2560) (k : tg_G l mL_law 0 K kc ks (pc + 5) (lvL i) (.int (l.2.2 (i + v)) :: st) w) : tg_G l mL_law 0 K kc ks pc (lvL i) st w := by
  refine tg_go (si_aload_n (i := 0) hd0 rfl) ?_
  refine tg_go (si_iload_n (i := 3) hd1 rfl) ?_
  refine tg_go (si_iconst (v := nI v) hd2 rfl) ?_
  refine tg_go (si_iadd hd3) ?_
  show tg_G l mL_law 0 K kc ks (pc + 4) (lvL i) (.int (nI i + nI v) :: .ref 1040 :: st) w
  rw [nI_add]
  refine g_xald hd4 (vp_in_nI (by omega) (by omega)) ?_
  rw [nI_clamp (by omega)]
  exact k
theorem ints_v (g : Nat → Nat) (xs : List Int32) : (xs.map Value.int).map (tg_v g) = xs.map Value.int := by
  rw [List.map_map]
  rfl
theorem lw_c8 {M M' : tg_M} {n : Nat} (xs : List Int32) (hs : tg_VS mL_law pc M n) (hJ : JC l M M' (xs.map Value.int) wc wr) (h : J wc wr) (hcl : M.1.cls = RX8) (hn : xs.length = n) (hla : (tg_la (.ref 0 :: xs.map Value.int)).length ≤ M.2.2.1)
    (kk : ∀ wc1 x, wc1.length = 46 → tg_Ct l M' 1000 (.ref 0 :: xs.map Value.int) wr (fun r' wr' => r' = some (.int x) ∧ J wc1 wr') → tg_G l mL_law 0 K kc ks (pc + 3) (lvL i) [.int x] (jn wc1 wr)) : tg_G l mL_law 0 K kc ks pc (lvL i) ((xs.map Value.int).reverse ++ [.ref 0]) (jn wc wr) := by
  obtain ⟨e1, e2, ⟨fs, e3⟩, -⟩ := J_len h
  refine tg_cV (rest := []) iA hs hJ (by rw [ints_v]; rfl) (jn_A e1) e3 (by rw [hcl]; rfl) (by simpa using hn) hla (by decide) (by decide) (by decide) (fun r w' q => q.1.trans e1.symm) ?_
  intro r w1 hq
  obtain ⟨h1, x, rfl, h2⟩ := hq
  rw [jn_putA e1 h1]
  exact kk w1 x h1 h2
theorem lw_c9 {M' : tg_M} {n : Nat} {x : Int32} {wc1 : List va_E} (xs : List Int32) (hs : tg_VS mL_law pc M' n) (h : J wc wr) (h1 : wc1.length = 46) (hc : tg_Ct l M' 1000 (.ref 0 :: xs.map Value.int) wr (fun r' wr' => r' = some (.int x) ∧ J wc1 wr')) (hcl : M'.1.cls = RX9) (hn : xs.length = n) (hla : (tg_la (.ref 0 :: xs.map Value.int)).length ≤ M'.2.2.1)
    (kk : ∀ wr1, J wc1 wr1 → tg_G l mL_law 0 K kc ks (pc + 3) (lvL i) [.int x, .int x] (jn wc1 wr1)) : tg_G l mL_law 0 K kc ks pc (lvL i) ((xs.map Value.int).reverse ++ [.ref 46, .int x]) (jn wc1 wr) := by
  obtain ⟨e1, e2, -, ⟨fs, e3⟩⟩ := J_len h
  refine tg_cV (rest := [.int x]) iB hs hc (by rw [ints_v]; rfl) (jn_B h1 e2) e3 (by rw [hcl]; rfl) (by simpa using hn) hla (by decide) (by decide) (Nat.le_of_ble_eq_true rfl) (fun r w' q => (J_len q.2).2.1.trans e2.symm) ?_
  rintro r w1 ⟨rfl, h2⟩
  rw [jn_putB h1 e2 (J_len h2).2.1]
  exact kk w1 h2
end LAW1
