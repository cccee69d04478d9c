/-! THE CLASS: Cells: counts, keys, what one entry more or less would do -/
theorem tg_cS {l : tg_Ln} {M M' : tg_M} {n0 n pc kc ks : Nat} {K K' : Option Value → List va_E → Prop} {lv st : List Value} {w : List va_E} (is : List Nat) {As rest : List Value} {wc : List va_E} (hs : tg_SS0 M pc M' n) (hc : tg_Ct l M' 1000 As wc K') (hst : st = (As.map (tg_v (tg_rn is))).reverse ++ rest) (hfr : is.map (fun i => w[i]?) = wc.map (fun c => some (tg_e (fun t => t) (tg_rn is) c))) (hn : As.length = n) (hla : (tg_la As).length ≤ M'.2.2.1) (hnd : va_nd is = true) (his : is.length ≤ 1000) (hW : (rest.map fun v => v.category).sum ≤ 8) (hlen : ∀ r wc', K' r wc' → wc'.length = wc.length)
    (kk : ∀ r wc', K' r wc' → tg_G l M n0 K kc ks (pc + 3) lv ((r.map (tg_v (tg_rn is))).toList ++ rest) (tg_put (tg_rn is) w is wc')) : tg_G l M n0 K kc ks pc lv st w := by
  rw [hst]
  exact tg_callS hs is hc hfr hnd his hn hla hW hlen kk
def suN (F : Nat → Nat) (lo : Nat) : Nat → Nat
  | 0 => 0
  | k + 1 => suN F lo k + F (lo + k)
theorem suN_le {F : Nat → Nat} {lo B : Nat} (h : ∀ j, F j ≤ B) : ∀ k, suN F lo k ≤ k * B
  | 0 => by simp [suN]
  | k + 1 => by
    have := suN_le (lo := lo) h k
    have := h (lo + k)
    rw [suN, Nat.succ_mul]
    omega
def lsR (F : Nat → Nat) (q : Nat) : Nat → Nat → Nat
  | 0, s => s
  | m + 1, s => if suN F s (41 - s) ≤ q then s else lsR F q m (s + 1)
def kyC (on : Nat → Int32) (n : Nat) : Nat → Int32
  | 0 => -1
  | q + 1 => if (kyC on n q = -1 ∨ bcI (nI q) < bcI (kyC on n q)) ∧ on q = nI n then nI q else kyC on n q
def gnB (d n s : Nat) (c : Nat → Nat) (e q : Nat) : Bool := (decide (s ≤ gMany (cvP d c (smD (wiF d e q) d)) n + 1) && decide (smD (shF c n (cvP d c (smD (wiF d e q) d)) e) d = smD (wiF d e q) d)) && !inQ d n s c (smD (wiF d e q) d) (cvP d c (smD (wiF d e q) d))
def lsB (d n s : Nat) (c : Nat → Nat) (e q : Nat) : Bool := inQ d n s c (smD (wiF d (c e) q) d) (cvP d c (smD (wiF d (c e) q) d)) && !inQ d n s c (smD (wiF d (c e) q) d) (fun i => cvP d c (smD (wiF d (c e) q) d) i && !decide (i = e))
section CELLS3
variable {l : tg_Ln} {K : Option Value → List va_E → Prop} {tv tc tm en a8 a10 ic al cs on : Nat → Int32} {hv a9 a11 : Nat → Int64} {td tn te qd qv cz : Int32} {r1 r2 r3 r4 : Nat} {d n s : Nat} {v c : Nat → Nat}
theorem kX0_ofSize_l {F : Nat → Nat} {lo : Nat} {f : Nat → Int32} {x1 : Int32} (hf : ∀ j, j ≤ 40 → f j = nI (F j)) (hlo : lo ≤ 41) (hK : K (some (.int (nI (suN F lo (41 - lo))))) [.inl (0, 41, .inl f)]) : ∀ (m k : Nat), 41 - lo - k < m → k ≤ 41 - lo → tg_G l mX0_ofSizeOrMore 1000 K 0 0 8 [.ref 0, .int x1, .int (nI (suN F lo k)), .int (nI (lo + k))] [] [.inl (0, 41, .inl f)] := by
  intro m
  induction m with
  | zero => intro k h; omega
  | succ m ih =>
    intro k hm hk
    refine tg_go bX0_ofSizeOrMore_8 ?_
    simp only [ti_iload, ti_push, List.getElem?_cons_zero, List.getElem?_cons_succ, true_and]
    refine g_icmp_gt (tgt := 26) dX0_ofSizeOrMore_11 rfl (fun h11 => ?_) (fun h11 => ?_)
    · rw [fa_lit, lI_lt (by omega) (by omega)] at h11
      obtain rfl : k = 41 - lo := by omega
      refine tg_go bX0_ofSizeOrMore_26 ?_
      simp only [ti_iload, List.getElem?_cons_zero, List.getElem?_cons_succ, true_and]
      refine g_iret dX0_ofSizeOrMore_27 rfl ?_
      exact hK
    · rw [fa_lit, lI_lt (by omega) (by omega)] at h11
      refine tg_go bX0_ofSizeOrMore_14 ?_
      simp only [ti_aload, ti_iadd, ti_iald, ti_iinc, ti_iload, ti_istore, tg_s1, tg_cl, List.getElem?_cons_zero, List.getElem?_cons_succ, List.set_cons_zero, List.set_cons_succ, true_and]
      rw [nI_1, nI_clamp (by omega), hf _ (by omega), nI_add]
      refine ⟨vp_in_nI (by omega) (by omega), ?_⟩
      refine g_goto (tgt := 8) dX0_ofSizeOrMore_23 rfl ?_
      exact ih (k + 1) (by omega) (by omega)
theorem kX0_ofSizeOrMore {F : Nat → Nat} {lo : Nat} {f : Nat → Int32} (hf : ∀ j, j ≤ 40 → f j = nI (F j)) (hlo : lo ≤ 41) : tg_Ct l mX0_ofSizeOrMore 1000 [.ref 0, .int (nI lo)] [.inl (0, 41, .inl f)] (fun r w => r = some (.int (nI (suN F lo (41 - lo)))) ∧ w = [.inl (0, 41, .inl f)]) := by
  show tg_G _ _ _ _ _ _ _ [.ref 0, .int (nI lo), .null, .null] [] _
  refine tg_go bX0_ofSizeOrMore_0 ?_
  simp only [ti_iload, ti_istore, ti_mmax, ti_push, tg_s1, tg_cl, List.getElem?_cons_zero, List.getElem?_cons_succ, List.set_cons_zero, List.set_cons_succ, true_and, List.map_nil, List.map_cons, List.sum_nil, List.sum_cons, Value.category, Nat.reduceAdd, Nat.reduceLeDiff, and_self, and_true]
  rw [if_neg (nI_pos (by omega))]
  exact kX0_ofSize_l hf hlo ⟨rfl, rfl⟩ (41 - lo + 1) 0 (by omega) (by omega)
theorem kX0_cubeSize {F : Nat → Nat} {lo : Nat} (hf : ∀ j, j ≤ 40 → cs j = nI (F j)) (hlo : lo ≤ 41) : tg_Ct l mX0_cubeSize 1000 [.ref 0, .int (nI lo)] (wC td tv tn tc tm te qd qv en hv cz r1 r2 r3 r4 a8 a9 a10 a11 ic al cs on) (fun r w => r = some (.int (nI (suN F lo (41 - lo)))) ∧ w = (wC td tv tn tc tm te qd qv en hv cz r1 r2 r3 r4 a8 a9 a10 a11 ic al cs on)) := by
  show tg_G _ _ _ _ _ _ _ [.ref 0, .int (nI lo)] [] _
  unfold wC
  refine tg_go bX0_cubeSize_0 ?_
  simp only [ti_aload, ti_getf, ti_iload, List.getElem?_cons_zero, List.getElem?_cons_succ, true_and]
  refine tg_cS [14] vX0_cubeSize_5 (kX0_ofSizeOrMore hf hlo) rfl rfl rfl (Nat.le_of_ble_eq_true rfl) rfl (Nat.le_of_ble_eq_true rfl) (Nat.le_of_ble_eq_true rfl) (by rintro r w1 ⟨-, rfl⟩; rfl) ?_
  rintro r w1 ⟨rfl, rfl⟩
  simp only [Option.map_some, Option.toList_some, List.cons_append, List.nil_append, tg_v]
  refine (show tg_G _ _ _ _ _ _ _ _ _ (wC td tv tn tc tm te qd qv en hv cz r1 r2 r3 r4 a8 a9 a10 a11 ic al cs on) from ?_)
  refine g_iret dX0_cubeSize_8 rfl ?_
  exact ⟨rfl, rfl⟩
theorem kX0_cellsWith {F : Nat → Nat} {lo : Nat} (hf : ∀ j, j ≤ 40 → al j = nI (F j)) (hlo : lo ≤ 41) : tg_Ct l mX0_cellsWith 1000 [.ref 0, .int (nI lo)] (wC td tv tn tc tm te qd qv en hv cz r1 r2 r3 r4 a8 a9 a10 a11 ic al cs on) (fun r w => r = some (.int (nI (suN F lo (41 - lo)))) ∧ w = (wC td tv tn tc tm te qd qv en hv cz r1 r2 r3 r4 a8 a9 a10 a11 ic al cs on)) := by
  show tg_G _ _ _ _ _ _ _ [.ref 0, .int (nI lo)] [] _
  unfold wC
  refine tg_go bX0_cellsWith_0 ?_
  simp only [ti_aload, ti_getf, ti_iload, List.getElem?_cons_zero, List.getElem?_cons_succ, true_and]
  refine tg_cS [13] vX0_cellsWith_5 (kX0_ofSizeOrMore hf hlo) rfl rfl rfl (Nat.le_of_ble_eq_true rfl) rfl (Nat.le_of_ble_eq_true rfl) (Nat.le_of_ble_eq_true rfl) (by rintro r w1 ⟨-, rfl⟩; rfl) ?_
  rintro r w1 ⟨rfl, rfl⟩
  simp only [Option.map_some, Option.toList_some, List.cons_append, List.nil_append, tg_v]
  refine (show tg_G _ _ _ _ _ _ _ _ _ (wC td tv tn tc tm te qd qv en hv cz r1 r2 r3 r4 a8 a9 a10 a11 ic al cs on) from ?_)
  refine g_iret dX0_cellsWith_8 rfl ?_
  exact ⟨rfl, rfl⟩
theorem kX0_leastSupportFor_l {F : Nat → Nat} {q : Nat} (hf : ∀ j, j ≤ 40 → cs j = nI (F j)) (hB : ∀ j, F j ≤ 2401) (hq : q < 2 ^ 31) : ∀ (m s : Nat), m + s = 41 → 1 ≤ s → K (some (.int (nI (lsR F q m s)))) (wC td tv tn tc tm te qd qv en hv cz r1 r2 r3 r4 a8 a9 a10 a11 ic al cs on) → tg_G l mX0_leastSupportFor 1000 K 0 0 2 [.ref 0, .int (nI q), .int (nI s)] [] (wC td tv tn tc tm te qd qv en hv cz r1 r2 r3 r4 a8 a9 a10 a11 ic al cs on) := by
  intro m
  induction m with
  | zero =>
    intro s hms h1 hK
    obtain rfl : s = 41 := by omega
    unfold wC at hK ⊢
    refine tg_go bX0_leastSupportFor_2 ?_
    simp only [ti_iload, ti_push, List.getElem?_cons_zero, List.getElem?_cons_succ, true_and]
    refine g_icmp_gt (tgt := 25) dX0_leastSupportFor_5 rfl (fun h5 => ?_) (fun h5 => ?_)
    · refine tg_go bX0_leastSupportFor_25 ?_
      simp only [ti_push, List.getElem?_cons_zero, List.getElem?_cons_succ, true_and]
      refine g_iret dX0_leastSupportFor_27 rfl ?_
      exact hK
    · exact absurd (by decide) h5
  | succ m ih =>
    intro s hms h1 hK
    have hsu := suN_le (lo := s) hB (41 - s)
    have h41 : (41 - s) * 2401 ≤ 41 * 2401 := Nat.mul_le_mul_right _ (by omega)
    rw [lsR] at hK
    unfold wC at ih hK ⊢
    refine tg_go bX0_leastSupportFor_2 ?_
    simp only [ti_iload, ti_push, List.getElem?_cons_zero, List.getElem?_cons_succ, true_and]
    refine g_icmp_gt (tgt := 25) dX0_leastSupportFor_5 rfl (fun h5 => ?_) (fun h5 => ?_)
    · rw [fa_lit, lI_lt (by omega) (by omega)] at h5; omega
    · refine tg_go bX0_leastSupportFor_8 ?_
      simp only [ti_aload, ti_iload, List.getElem?_cons_zero, List.getElem?_cons_succ, true_and]
      refine tg_cW vX0_leastSupportFor_10 (kX0_cubeSize (lo := s) hf (by omega)) rfl rfl rfl rfl (Nat.le_of_ble_eq_true rfl) (Nat.le_of_ble_eq_true rfl) (Nat.le_of_ble_eq_true rfl) rfl ?_
      unfold wC
      refine tg_go bX0_leastSupportFor_13 ?_
      simp only [ti_iload, List.getElem?_cons_zero, List.getElem?_cons_succ, true_and]
      refine g_icmp_gt (tgt := 19) dX0_leastSupportFor_14 rfl (fun h14 => ?_) (fun h14 => ?_)
      · rw [lI_lt (by omega) (by omega)] at h14
        rw [if_neg (by omega)] at hK
        refine tg_go bX0_leastSupportFor_19 ?_
        simp only [ti_iinc, tg_s1, tg_cl, List.getElem?_cons_zero, List.getElem?_cons_succ, List.set_cons_zero, List.set_cons_succ, true_and]
        rw [nI_1]
        refine g_goto (tgt := 2) dX0_leastSupportFor_22 rfl ?_
        exact ih (s + 1) (by omega) (by omega) hK
      · rw [lI_lt (by omega) (by omega)] at h14
        rw [if_pos (by omega)] at hK
        refine tg_go bX0_leastSupportFor_17 ?_
        simp only [ti_iload, List.getElem?_cons_zero, List.getElem?_cons_succ, true_and]
        refine g_iret dX0_leastSupportFor_18 rfl ?_
        exact hK
theorem kX0_leastSupportFor {F : Nat → Nat} {q : Nat} (hf : ∀ j, j ≤ 40 → cs j = nI (F j)) (hB : ∀ j, F j ≤ 2401) (hq : q < 2 ^ 31) : tg_Ct l mX0_leastSupportFor 1000 [.ref 0, .int (nI q)] (wC td tv tn tc tm te qd qv en hv cz r1 r2 r3 r4 a8 a9 a10 a11 ic al cs on) (fun r w => r = some (.int (nI (lsR F q 40 1))) ∧ w = (wC td tv tn tc tm te qd qv en hv cz r1 r2 r3 r4 a8 a9 a10 a11 ic al cs on)) := by
  show tg_G _ _ _ _ _ _ _ [.ref 0, .int (nI q), .null] [] _
  unfold wC
  refine tg_go bX0_leastSupportFor_0 ?_
  simp only [ti_istore, ti_push, tg_s1, tg_cl, List.getElem?_cons_zero, List.getElem?_cons_succ, List.set_cons_zero, List.set_cons_succ, true_and]
  exact kX0_leastSupportFor_l hf hB hq 40 1 (by omega) (by omega) ⟨rfl, rfl⟩
theorem kX0_settles {q k : Nat} (hd : d ≤ 4) (hq : q < 2 ^ d) (hk : k < d) : tg_Ct l mX0_settles 1000 [.ref 0, .int (nI q), .int (nI k)] (wC td tv tn tc tm te qd qv en hv cz r1 r2 r3 r4 a8 a9 a10 a11 ic al cs on) (fun r w => r = some (.int (bZ (decide (on q = on (q ||| 2 ^ k))))) ∧ w = (wC td tv tn tc tm te qd qv en hv cz r1 r2 r3 r4 a8 a9 a10 a11 ic al cs on)) := by
  have h16 := pow2 hd
  have ho := or_lt16 (s := q) (f := k) (by omega) (by omega)
  show tg_G _ _ _ _ _ _ _ [.ref 0, .int (nI q), .int (nI k), .null] [] _
  unfold wC
  refine tg_go bX0_settles_0 ?_
  simp only [ti_iload, ti_ior, ti_ishl, ti_istore, ti_push, tg_s1, tg_cl, List.getElem?_cons_zero, List.getElem?_cons_succ, List.set_cons_zero, List.set_cons_succ, true_and]
  rw [show (1 : Int32) = nI 1 from rfl, nI_shl (by omega) (sh4 (by omega)), nI_or, Nat.one_mul]
  refine g_if_lt (tgt := 39) dX0_settles_7 rfl (fun h7 => ?_) (fun h7 => ?_)
  · exact absurd h7 (nI_pos (by omega))
  · refine tg_go bX0_settles_10 ?_
    simp only [ti_iload, List.getElem?_cons_zero, List.getElem?_cons_succ, true_and]
    refine g_if_lt (tgt := 39) dX0_settles_11 rfl (fun h11 => ?_) (fun h11 => ?_)
    · exact absurd h11 (nI_pos (by omega))
    · refine tg_go bX0_settles_14 ?_
      simp only [ti_iload, ti_push, List.getElem?_cons_zero, List.getElem?_cons_succ, true_and]
      refine g_icmp_ge (tgt := 39) dX0_settles_17 rfl (fun h17 => ?_) (fun h17 => ?_)
      · rw [fa_lit, lI_le (by omega) (by omega)] at h17; omega
      · refine tg_go bX0_settles_20 ?_
        simp only [ti_aload, ti_getf, ti_iald, ti_iload, List.getElem?_cons_zero, List.getElem?_cons_succ, true_and]
        rw [nI_clamp (by omega), nI_clamp (by omega)]
        refine ⟨vp_in_nI (by omega) (by omega), vp_in_nI (by omega) (by omega), ?_⟩
        refine g_icmp_ne (tgt := 39) dX0_settles_32 rfl (fun h32 => ?_) (fun h32 => ?_)
        · refine tg_go bX0_settles_39 ?_
          simp only [ti_push, List.getElem?_cons_zero, List.getElem?_cons_succ, true_and]
          refine g_zret dX0_settles_40 rfl (by first | exact Or.inl rfl | exact Or.inr rfl | assumption) ?_
          exact ⟨by rw [decide_eq_false h32]; rfl, rfl⟩
        · refine tg_go bX0_settles_35 ?_
          simp only [ti_push, List.getElem?_cons_zero, List.getElem?_cons_succ, true_and]
          refine g_goto (tgt := 40) dX0_settles_36 rfl ?_
          refine g_zret dX0_settles_40 rfl (by first | exact Or.inl rfl | exact Or.inr rfl | assumption) ?_
          exact ⟨by rw [decide_eq_true h32]; rfl, rfl⟩
theorem kyC_in (on : Nat → Int32) (n : Nat) : ∀ q, kyC on n q = -1 ∨ ∃ j, j < q ∧ kyC on n q = nI j
  | 0 => Or.inl rfl
  | q + 1 => by
    rw [kyC]
    split
    · exact Or.inr ⟨q, by omega, rfl⟩
    · rcases kyC_in on n q with h | ⟨j, h1, h2⟩
      · exact Or.inl h
      · exact Or.inr ⟨j, by omega, h2⟩
theorem kX0_leastKey_l (hd : d ≤ 4) (hK : K (some (.int (kyC on n (2 ^ d)))) (wC (nI d) tv (nI n) tc tm te qd qv en hv cz r1 r2 r3 r4 a8 a9 a10 a11 ic al cs on)) : ∀ (m q : Nat) (x3 : Value), 2 ^ d - q < m → q ≤ 2 ^ d → tg_G l mX0_leastKey 1000 K 0 0 4 [.ref 0, .int (kyC on n q), .int (nI q), x3] [] (wC (nI d) tv (nI n) tc tm te qd qv en hv cz r1 r2 r3 r4 a8 a9 a10 a11 ic al cs on) := by
  have h16 := pow2 hd
  intro m
  induction m with
  | zero => intro q x3 h; omega
  | succ m ih =>
    intro q x3 hm hq
    unfold wC at ih hK ⊢
    refine tg_go bX0_leastKey_4 ?_
    simp only [ti_aload, ti_getf, ti_iload, ti_ishl, ti_push, List.getElem?_cons_zero, List.getElem?_cons_succ, true_and]
    rw [shl1 hd]
    refine g_icmp_ge (tgt := 67) dX0_leastKey_14 rfl (fun h14 => ?_) (fun h14 => ?_)
    · rw [lI_le (by omega) (by omega)] at h14
      obtain rfl : q = 2 ^ d := by omega
      refine tg_go bX0_leastKey_67 ?_
      simp only [ti_iload, List.getElem?_cons_zero, List.getElem?_cons_succ, true_and]
      refine g_iret dX0_leastKey_68 rfl ?_
      exact hK
    · rw [lI_le (by omega) (by omega)] at h14
      have tail : ∀ b : Bool, (b = true ↔ (kyC on n q = -1 ∨ bcI (nI q) < bcI (kyC on n q))) → tg_G l mX0_leastKey 1000 K 0 0 38 [.ref 0, .int (kyC on n q), .int (nI q), x3] [.int (bZ b)] (wC (nI d) tv (nI n) tc tm te qd qv en hv cz r1 r2 r3 r4 a8 a9 a10 a11 ic al cs on) := by
        intro b hb
        have h2 := ih (q + 1) (.int (bZ b)) (by omega) (by omega)
        rw [kyC] at h2
        unfold wC
        refine tg_go bX0_leastKey_38 ?_
        simp only [ti_istore, ti_iload, tg_s1, tg_cl, List.getElem?_cons_zero, List.getElem?_cons_succ, List.set_cons_zero, List.set_cons_succ]
        have step : ∀ z : Int32, z = (if (kyC on n q = -1 ∨ bcI (nI q) < bcI (kyC on n q)) ∧ on q = nI n then nI q else kyC on n q) → tg_G l mX0_leastKey 1000 K 0 0 61 [.ref 0, .int z, .int (nI q), .int (bZ b)] [] (wC (nI d) tv (nI n) tc tm te qd qv en hv cz r1 r2 r3 r4 a8 a9 a10 a11 ic al cs on) := by
          intro z hz
          rw [← hz] at h2
          unfold wC
          refine tg_go bX0_leastKey_61 ?_
          simp only [ti_iinc, tg_s1, tg_cl, List.getElem?_cons_zero, List.getElem?_cons_succ, List.set_cons_zero, List.set_cons_succ]
          rw [nI_1]
          exact g_goto (tgt := 4) dX0_leastKey_64 rfl h2
        unfold wC at step
        refine g_if_eq (tgt := 61) dX0_leastKey_40 rfl (fun h40 => ?_) (fun h40 => ?_)
        · exact step _ (by rw [if_neg]; rintro ⟨q1, -⟩; rw [bZ_0 h40] at hb; exact absurd (hb.mpr q1) (by decide))
        · refine tg_go bX0_leastKey_43 ?_
          simp only [ti_aload, ti_getf, ti_iload, ti_iald, List.getElem?_cons_zero, List.getElem?_cons_succ, true_and]
          rw [nI_clamp (by omega)]
          refine ⟨vp_in_nI (by omega) (by omega), ?_⟩
          refine g_icmp_ne (tgt := 61) dX0_leastKey_56 rfl (fun h56 => ?_) (fun h56 => ?_)
          · exact step _ (by rw [if_neg]; exact fun z => h56 z.2)
          · refine tg_go bX0_leastKey_59 ?_
            simp only [ti_iload, ti_istore, tg_s1, tg_cl, List.getElem?_cons_zero, List.getElem?_cons_succ, List.set_cons_zero, List.set_cons_succ]
            exact step _ (by rw [if_pos]; exact ⟨hb.mp (bZ_n h40), h56⟩)
      unfold wC at tail
      refine tg_go bX0_leastKey_17 ?_
      simp only [ti_iload, ti_push, List.getElem?_cons_zero, List.getElem?_cons_succ, true_and]
      refine g_icmp_eq (tgt := 33) dX0_leastKey_19 rfl (fun h19 => ?_) (fun h19 => ?_)
      · refine tg_go bX0_leastKey_33 ?_
        simp only [ti_push, List.getElem?_cons_zero, List.getElem?_cons_succ, true_and]
        refine g_goto (tgt := 38) dX0_leastKey_34 rfl ?_
        exact tail true ⟨fun _ => Or.inl h19, fun _ => rfl⟩
      · refine tg_go bX0_leastKey_22 ?_
        simp only [ti_iload, List.getElem?_cons_zero, List.getElem?_cons_succ, true_and]
        refine tg_cP vX0_leastKey_23 (kJ6_bitCount) rfl rfl (Nat.le_of_ble_eq_true rfl) (Nat.le_of_ble_eq_true rfl) ?_
        refine tg_go bX0_leastKey_26 ?_
        simp only [ti_iload, List.getElem?_cons_zero, List.getElem?_cons_succ, true_and]
        refine tg_cP vX0_leastKey_27 (kJ6_bitCount) rfl rfl (Nat.le_of_ble_eq_true rfl) (Nat.le_of_ble_eq_true rfl) ?_
        refine g_icmp_ge (tgt := 37) dX0_leastKey_30 rfl (fun h30 => ?_) (fun h30 => ?_)
        · refine tg_go bX0_leastKey_37 ?_
          simp only [ti_push, List.getElem?_cons_zero, List.getElem?_cons_succ, true_and]
          exact tail false ⟨fun z => absurd z (by decide), fun z => z.elim (fun z => absurd z h19) (fun z => absurd z (Int32.not_lt.mpr h30))⟩
        · refine tg_go bX0_leastKey_33 ?_
          simp only [ti_push, List.getElem?_cons_zero, List.getElem?_cons_succ, true_and]
          refine g_goto (tgt := 38) dX0_leastKey_34 rfl ?_
          exact tail true ⟨fun _ => Or.inr (Int32.not_le.mp h30), fun _ => rfl⟩
theorem kX0_leastKey (hd : d ≤ 4) : tg_Ct l mX0_leastKey 1000 [.ref 0] (wC (nI d) tv (nI n) tc tm te qd qv en hv cz r1 r2 r3 r4 a8 a9 a10 a11 ic al cs on) (fun r w => r = some (.int (kyC on n (2 ^ d))) ∧ w = (wC (nI d) tv (nI n) tc tm te qd qv en hv cz r1 r2 r3 r4 a8 a9 a10 a11 ic al cs on)) := by
  show tg_G _ _ _ _ _ _ _ [.ref 0, .null, .null, .null] [] _
  unfold wC
  refine tg_go bX0_leastKey_0 ?_
  simp only [ti_istore, ti_push, tg_s1, tg_cl, List.getElem?_cons_zero, List.getElem?_cons_succ, List.set_cons_zero, List.set_cons_succ, true_and]
  exact kX0_leastKey_l hd ⟨rfl, rfl⟩ (2 ^ d + 1) 0 .null (Nat.lt_succ_of_le (Nat.sub_le _ _)) (Nat.zero_le _)
end CELLS3
