/-! THE CLASS: Cells: which entries have a value; how many cells there are -/
theorem mk_top {p : Nat → Bool} {i : Nat} (hi : i < 64) (hp : p i = true) : lN (mkN p i) ||| lN (2 ^ i) = lN (mkN p (i + 1)) := by
  apply mk_ext
  intro j hj
  rw [Int64.toBitVec_or, BitVec.getLsbD_or, mk_bit hj, lN_bit hj, Nat.testBit_two_pow]
  by_cases q : j < i
  · rw [decide_eq_true q, decide_eq_true (show j < i + 1 by omega), decide_eq_false (show ¬ i = j by omega), Bool.or_false]
  · rw [decide_eq_false q, Bool.false_and, Bool.false_or]
    by_cases e : i = j
    · subst e
      rw [decide_eq_true rfl, decide_eq_true (show i < i + 1 by omega), hp]
      rfl
    · rw [decide_eq_false e, decide_eq_false (show ¬ j < i + 1 by omega)]
      rfl
theorem mk_skip {p : Nat → Bool} {i : Nat} (hp : p i = false) : mkN p (i + 1) = mkN p i := by
  rw [mkN, hp]
  simp
/-- the first i entries are laid, and of the next its last t figures -/
def hvP (hv : Nat → Int64) (d : Nat) (c : Nat → Nat) (i t : Nat) : Prop := ∀ k, k < d → ∀ f, 1 ≤ f → f ≤ 6 → hv (k * 6 + f - 1) = lN (mkN (fun j => decide (dg (d - 1 - k) (c j) = f)) (if d - 1 - k < t then i + 1 else i))
theorem hvP_step {hv : Nat → Int64} {d i t : Nat} {c : Nat → Nat} (h : hvP hv d c i t) (hi : i < 64) (ht : t < d) (h1 : 1 ≤ dg t (c i)) : hvP (vp_updL hv ((d - 1 - t) * 6 + dg t (c i) - 1) (hv ((d - 1 - t) * 6 + dg t (c i) - 1) ||| lN (2 ^ i))) d c i (t + 1) := by
  have h7 := dg_lt t (c i)
  intro k hk f hf1 hf6
  by_cases e : k = d - 1 - t
  · subst e
    have et : d - 1 - (d - 1 - t) = t := by omega
    have h0 := h (d - 1 - t) hk f hf1 hf6
    rw [et, if_neg (by omega)] at h0
    rw [et, if_pos (by omega)]
    by_cases q : f = dg t (c i)
    · subst q
      rw [pk_uLs, h0, mk_top hi (by simp)]
    · rw [pk_uLn (by omega), h0, mk_skip (by simp; omega)]
  · rw [pk_uLn (by omega), h k hk f hf1 hf6]
    by_cases q : d - 1 - k < t
    · rw [if_pos q, if_pos (by omega)]
    · rw [if_neg q, if_neg (by omega)]
theorem hvP_next {hv : Nat → Int64} {d i : Nat} {c : Nat → Nat} (h : hvP hv d c i d) : hvP hv d c (i + 1) 0 := fun k hk f h1 h6 => by
  rw [h k hk f h1 h6, if_pos (by omega), if_neg (by omega)]
section HAVING
variable {l : tg_Ln} {K : Option Value → List va_E → Prop} {tv tc tm en a8 a10 ic al cs on : Nat → Int32} {a9 a11 : Nat → Int64} {td tn te qd qv cz : Int32} {r1 r2 r3 r4 : Nat} {d n s : Nat} {v c : Nat → Nat}
theorem kX0_fH_3 {i : Nat} (hd : d ≤ 4) (hn : n ≤ 40) (hi : i < n) (hc : cOK d n c) : ∀ (r t : Nat) (hv : Nat → Int64) (x4 : Value), r + t = d → hvP hv d c i t → (∀ hv' x2 x3 x4, hvP hv' d c i d → tg_G l mX0_findHaving 1000 K 0 0 100 [.ref 0, .int (nI i), x2, x3, x4] [] (wC (nI d) tv (nI n) tc tm te qd qv en hv' cz r1 r2 r3 r4 a8 a9 a10 a11 ic al cs on)) → tg_G l mX0_findHaving 1000 K 0 0 54 [.ref 0, .int (nI i), .int (nI (c i / 7 ^ t)), .int (nI r - 1), x4] [] (wC (nI d) tv (nI n) tc tm te qd qv en hv cz r1 r2 r3 r4 a8 a9 a10 a11 ic al cs on) := by
  have hp7 := pow7 hd
  have hci := hc i hi
  intro r
  induction r with
  | zero =>
    intro t hv x4 hrt hP hK
    obtain rfl : t = d := by omega
    unfold wC at hK ⊢
    refine tg_go bX0_findHaving_54 ?_
    simp only [ti_iload, List.getElem?_cons_zero, List.getElem?_cons_succ, true_and]
    refine g_if_lt (tgt := 100) dX0_findHaving_55 rfl (fun h55 => ?_) (fun h55 => ?_)
    · exact hK _ _ _ _ hP
    · exact absurd (by decide) h55
  | succ r ih =>
    intro t hv x4 hrt hP hK
    have hat : c i / 7 ^ t < 2 ^ 31 := Nat.lt_of_le_of_lt (Nat.div_le_self _ _) (by omega)
    have edg : c i / 7 ^ t % 7 = dg t (c i) := rfl
    have hdg := dg_lt t (c i)
    have hdg1 := hci.2 t (by omega)
    have ediv : c i / 7 ^ t / 7 = c i / 7 ^ (t + 1) := by rw [Nat.div_div_eq_div_mul, ← Nat.pow_succ]
    have hP2 := hvP_step hP (by omega) (by omega) hdg1
    rw [show d - 1 - t = r by omega] at hP2
    unfold wC at ih hK ⊢
    rw [show nI (r + 1) - 1 = nI r from nI_pred r]
    refine tg_go bX0_findHaving_54 ?_
    simp only [ti_iload, List.getElem?_cons_zero, List.getElem?_cons_succ, true_and]
    refine g_if_lt (tgt := 100) dX0_findHaving_55 rfl (fun h55 => ?_) (fun h55 => ?_)
    · exact absurd h55 (nI_pos (by omega))
    · refine tg_go bX0_findHaving_58 ?_
      simp only [ti_iload, ti_irem, ti_istore, ti_push, tg_s1, tg_cl, List.getElem?_cons_zero, List.getElem?_cons_succ, List.set_cons_zero, List.set_cons_succ, true_and]
      rw [rem7 hat, edg]
      refine ⟨ne7, ?_⟩
      refine g_if_le (tgt := 89) dX0_findHaving_66 rfl (fun h66 => ?_) (fun h66 => ?_)
      · rw [fa_lit, lI_le (by omega) (by omega)] at h66; omega
      · refine tg_go bX0_findHaving_69 ?_
        simp only [ti_aload, ti_dup2, ti_getf, ti_iadd, ti_iload, ti_imul, ti_isub, ti_lald, ti_last, ti_lor, ti_lshl, ti_push, Value.category, List.getElem?_cons_zero, List.getElem?_cons_succ, List.set_cons_zero, List.set_cons_succ, true_and]
        rw [show nI r * 6 = nI (r * 6) from pk_mul r 6, nI_add, show nI (r * 6 + dg t (c i)) - 1 = nI (r * 6 + dg t (c i) - 1) from pk_sub (a := r * 6 + dg t (c i)) (b := 1) (by omega), nI_clamp (by omega), one_shl (by omega)]
        refine ⟨vp_in_nI (by omega) (by omega), vp_in_nI (by omega) (by omega), ?_⟩
        refine tg_go bX0_findHaving_89 ?_
        simp only [ti_idiv, ti_iinc, ti_iload, ti_istore, ti_push, tg_s1, tg_cl, List.getElem?_cons_zero, List.getElem?_cons_succ, List.set_cons_zero, List.set_cons_succ, true_and]
        rw [div7 hat, ediv]
        refine ⟨ne7, ?_⟩
        refine g_goto (tgt := 54) dX0_findHaving_97 rfl ?_
        have h2 := ih (t + 1) _ (.int (nI (dg t (c i)))) (by omega) hP2 hK
        rw [show nI r - 1 = nI r + -1 from by rw [Int32.sub_eq_add_neg]] at h2
        exact h2
theorem kX0_fH_2 (hd : d ≤ 4) (hn : n ≤ 40) (hc : cOK d n c) (ht : ∀ i, i < n → tc i = nI (c i)) : ∀ (m i : Nat) (hv : Nat → Int64) (x2 x3 x4 : Value), n - i < m → i ≤ n → hvP hv d c i 0 → (∀ hv', hvP hv' d c n 0 → K none (wC (nI d) tv (nI n) tc tm te qd qv en hv' cz r1 r2 r3 r4 a8 a9 a10 a11 ic al cs on)) → tg_G l mX0_findHaving 1000 K 0 0 23 [.ref 0, .int (nI i), x2, x3, x4] [] (wC (nI d) tv (nI n) tc tm te qd qv en hv cz r1 r2 r3 r4 a8 a9 a10 a11 ic al cs on) := by
  intro m
  induction m with
  | zero => intro i hv x2 x3 x4 h; omega
  | succ m ih =>
    intro i hv x2 x3 x4 hm hi hP hK
    unfold wC at ih hK ⊢
    refine tg_go bX0_findHaving_23 ?_
    simp only [ti_aload, ti_getf, ti_iload, List.getElem?_cons_zero, List.getElem?_cons_succ, true_and]
    refine g_icmp_ge (tgt := 106) dX0_findHaving_31 rfl (fun h31 => ?_) (fun h31 => ?_)
    · rw [lI_le (by omega) (by omega)] at h31
      obtain rfl : i = n := by omega
      refine g_vret dX0_findHaving_106 rfl ?_
      exact hK _ hP
    · rw [lI_le (by omega) (by omega)] at h31
      refine tg_go bX0_findHaving_34 ?_
      simp only [ti_aload, ti_getf, ti_iald, ti_iload, ti_istore, ti_isub, ti_push, tg_s1, tg_cl, List.getElem?_cons_zero, List.getElem?_cons_succ, List.set_cons_zero, List.set_cons_succ, true_and]
      rw [nI_clamp (by omega), ht i (by omega)]
      refine ⟨vp_in_nI (by omega) (by omega), ?_⟩
      have h2 := kX0_fH_3 (l := l) (K := K) (tv := tv) (tc := tc) (tm := tm) (te := te) (qd := qd) (qv := qv) (en := en) (cz := cz) (r1 := r1) (r2 := r2) (r3 := r3) (r4 := r4) (a8 := a8) (a9 := a9) (a10 := a10) (a11 := a11) (ic := ic) (al := al) (cs := cs) (on := on) hd hn (show i < n by omega) hc d 0 hv x4 (by omega) hP (fun hv' y2 y3 y4 hP' => by
        unfold wC
        refine tg_go bX0_findHaving_100 ?_
        simp only [ti_iinc, tg_s1, tg_cl, List.getElem?_cons_zero, List.getElem?_cons_succ, List.set_cons_zero, List.set_cons_succ]
        rw [nI_1]
        exact g_goto (tgt := 23) dX0_findHaving_103 rfl (ih (i + 1) hv' y2 y3 y4 (by omega) (by omega) (hvP_next hP') hK))
      rw [Nat.pow_zero, Nat.div_one] at h2
      exact h2
theorem kX0_fH_1 (hd : d ≤ 4) (hn : n ≤ 40) (hc : cOK d n c) (ht : ∀ i, i < n → tc i = nI (c i)) : ∀ (m k : Nat) (hv : Nat → Int64), 24 - k < m → k ≤ 24 → (∀ j, j < k → hv j = 0) → (∀ hv', hvP hv' d c n 0 → K none (wC (nI d) tv (nI n) tc tm te qd qv en hv' cz r1 r2 r3 r4 a8 a9 a10 a11 ic al cs on)) → tg_G l mX0_findHaving 1000 K 0 0 2 [.ref 0, .int (nI k), .null, .null, .null] [] (wC (nI d) tv (nI n) tc tm te qd qv en hv cz r1 r2 r3 r4 a8 a9 a10 a11 ic al cs on) := by
  intro m
  induction m with
  | zero => intro k hv h; omega
  | succ m ih =>
    intro k hv hm hk hz hK
    unfold wC at ih hK ⊢
    refine tg_go bX0_findHaving_2 ?_
    simp only [ti_iload, ti_push, List.getElem?_cons_zero, List.getElem?_cons_succ, true_and]
    refine g_icmp_ge (tgt := 21) dX0_findHaving_5 rfl (fun h5 => ?_) (fun h5 => ?_)
    · rw [fa_lit, lI_le (by omega) (by omega)] at h5
      obtain rfl : k = 24 := by omega
      refine tg_go bX0_findHaving_21 ?_
      simp only [ti_istore, ti_push, tg_s1, tg_cl, List.getElem?_cons_zero, List.getElem?_cons_succ, List.set_cons_zero, List.set_cons_succ, true_and]
      exact kX0_fH_2 hd hn hc ht (n + 1) 0 hv .null .null .null (by omega) (by omega) (fun k hk f h1 h6 => by rw [hz _ (by omega), if_neg (by omega)]; rfl) hK
    · rw [fa_lit, lI_le (by omega) (by omega)] at h5
      refine tg_go bX0_findHaving_8 ?_
      simp only [ti_aload, ti_getf, ti_iinc, ti_iload, ti_last, ti_push, tg_s1, tg_cl, List.getElem?_cons_zero, List.getElem?_cons_succ, List.set_cons_zero, List.set_cons_succ, true_and]
      rw [nI_1, nI_clamp (by omega)]
      refine ⟨vp_in_nI (by omega) (by omega), ?_⟩
      refine g_goto (tgt := 2) dX0_findHaving_18 rfl ?_
      refine ih (k + 1) _ (by omega) (by omega) (fun j hj => ?_) hK
      by_cases e : j = k
      · rw [e, pk_uLs]
      · rw [pk_uLn e]; exact hz j (by omega)
theorem kX0_findHaving {hv : Nat → Int64} (hd : d ≤ 4) (hn : n ≤ 40) (hc : cOK d n c) (ht : ∀ i, i < n → tc i = nI (c i)) : tg_Ct l mX0_findHaving 1000 [.ref 0] (wC (nI d) tv (nI n) tc tm te qd qv en hv cz r1 r2 r3 r4 a8 a9 a10 a11 ic al cs on) (fun r w => r = none ∧ ∃ hv', hvOK hv' d n c ∧ w = (wC (nI d) tv (nI n) tc tm te qd qv en hv' cz r1 r2 r3 r4 a8 a9 a10 a11 ic al cs on)) := by
  show tg_G _ _ _ _ _ _ _ [.ref 0, .null, .null, .null, .null] [] _
  unfold wC
  refine tg_go bX0_findHaving_0 ?_
  simp only [ti_istore, ti_push, tg_s1, tg_cl, List.getElem?_cons_zero, List.getElem?_cons_succ, List.set_cons_zero, List.set_cons_succ, true_and]
  exact kX0_fH_1 hd hn hc ht 25 0 hv (by omega) (by omega) (fun j hj => by omega) (fun hv' h => ⟨rfl, hv', fun k hk f h1 h6 => by rw [h k hk f h1 h6, if_neg (by omega)], rfl⟩)
end HAVING
/-! how many cells -/
def sg (F : Nat → Nat) : Nat → Nat
  | 0 => 0
  | n + 1 => sg F n + F n
theorem sg_add (F G : Nat → Nat) : ∀ n, sg (fun i => F i + G i) n = sg F n + sg G n
  | 0 => rfl
  | n + 1 => by rw [sg, sg, sg, sg_add F G n]; omega
theorem sg_le {F G : Nat → Nat} : ∀ {n}, (∀ i, i < n → F i ≤ G i) → sg F n ≤ sg G n
  | 0, _ => Nat.le_refl _
  | n + 1, h => by
    have := sg_le (n := n) (fun i hi => h i (by omega))
    have := h n (by omega)
    rw [sg, sg]
    omega
theorem sg_congr {F G : Nat → Nat} : ∀ {n}, (∀ i, i < n → F i = G i) → sg F n = sg G n
  | 0, _ => rfl
  | n + 1, h => by rw [sg, sg, sg_congr (fun i hi => h i (by omega)), h n (by omega)]
theorem sg_const (B : Nat) : ∀ n, sg (fun _ => B) n = n * B
  | 0 => by simp [sg]
  | n + 1 => by rw [sg, sg_const B n, Nat.succ_mul]
theorem sg_zero : ∀ n, sg (fun _ => 0) n = 0
  | 0 => rfl
  | n + 1 => by rw [sg, sg_zero n]
theorem gMany_sg (p : Nat → Bool) : ∀ n, gMany p n = sg (fun i => if p i = true then 1 else 0) n
  | 0 => rfl
  | n + 1 => by rw [gMany, sg, gMany_sg p n]
theorem sg_swap (P : Nat → Nat → Bool) (n : Nat) : ∀ A, sg (fun a => gMany (P a) n) A = sg (fun i => gMany (fun a => P a i) A) n
  | 0 => by simp only [sg, gMany]; rw [sg_zero]
  | A + 1 => by
    rw [sg, sg_swap P n A, gMany_sg, ← sg_add]
    rfl
theorem covR_two (k e : Nat) : ∀ A, gMany (fun a => covR (k + 1) a e) (7 * A) ≤ 2 * gMany (fun a => covR k a (e / 7)) A
  | 0 => Nat.zero_le _
  | A + 1 => by
    have ih := covR_two k e A
    have q : ∀ f, f < 7 → covR (k + 1) (7 * A + f) e = ((decide (f = 0) || decide (f = e % 7)) && covR k A (e / 7)) := fun f hf => by
      rw [covR, show (7 * A + f) % 7 = f by omega, show (7 * A + f) / 7 = A by omega]
    have he := Nat.mod_lt e (show 0 < 7 by decide)
    rw [show 7 * (A + 1) = 7 * A + 6 + 1 by omega, gMany, gMany, gMany, gMany, gMany, gMany, gMany, gMany, q 6 (by omega), q 5 (by omega), q 4 (by omega), q 3 (by omega), q 2 (by omega), q 1 (by omega), show covR (k + 1) (7 * A) e = _ from q 0 (by omega)]
    generalize e % 7 = g at he
    cases covR k A (e / 7) with
    | false => simp; omega
    | true =>
      rcases (by omega : g = 0 ∨ g = 1 ∨ g = 2 ∨ g = 3 ∨ g = 4 ∨ g = 5 ∨ g = 6) with rfl | rfl | rfl | rfl | rfl | rfl | rfl <;> simp <;> omega
theorem covR_cnt : ∀ k e, gMany (fun a => covR k a e) (7 ^ k) ≤ 2 ^ k
  | 0, e => by simp [gMany, covR]
  | k + 1, e => by
    have h := covR_two k e (7 ^ k)
    have ih := covR_cnt k (e / 7)
    rw [Nat.pow_succ', Nat.pow_succ']
    omega
/-- the cells of the first k dimensions that have entries -/
def pcv (d : Nat) (c : Nat → Nat) (k a : Nat) : Nat → Bool := fun i => covR k a (c i / 7 ^ (d - k))
def neK (d n : Nat) (c : Nat → Nat) (k a : Nat) : Bool := decide (0 < gMany (pcv d c k a) n)
theorem neK_cnt {d n : Nat} {c : Nat → Nat} (k : Nat) : gMany (neK d n c k) (7 ^ k) ≤ n * 2 ^ k := by
  have h1 : gMany (neK d n c k) (7 ^ k) ≤ sg (fun a => gMany (pcv d c k a) n) (7 ^ k) := by
    rw [gMany_sg]
    refine sg_le (fun a ha => ?_)
    split
    · rename_i h
      have := of_decide_eq_true h
      omega
    · omega
  have h2 := sg_swap (fun a i => pcv d c k a i) n (7 ^ k)
  have h3 : sg (fun i => gMany (fun a => pcv d c k a i) (7 ^ k)) n ≤ sg (fun _ => 2 ^ k) n := sg_le (fun i hi => covR_cnt k _)
  rw [sg_const] at h3
  have h4 : sg (fun a => gMany (pcv d c k a) n) (7 ^ k) = sg (fun a => gMany (fun i => pcv d c k a i) n) (7 ^ k) := rfl
  omega
