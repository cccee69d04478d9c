/-! THE REFERENCE (CubeClosuresModel): its world, and the contracts of its small methods -/
theorem fa_lit (n : Nat) : (OfNat.ofNat n : Int32) = nI (OfNat.ofNat n) := rfl
theorem rem7 {a : Nat} (h : a < 2 ^ 31) : tg_rem (nI a) 7 = nI (a % 7) := pk_rem h (by decide) (by decide)
theorem div7 {a : Nat} (h : a < 2 ^ 31) : nI a / 7 = nI (a / 7) := pk_div h (by decide) (by decide)
theorem ne7 : ¬ (7 : Int32) = 0 := by decide
theorem lI_le {a b : Nat} (ha : a < 2 ^ 31) (hb : b < 2 ^ 31) : (nI a ≤ nI b) = (a ≤ b) := propext (nI_leI ha hb)
theorem lI_lt {a b : Nat} (ha : a < 2 ^ 31) (hb : b < 2 ^ 31) : (nI a < nI b) = (a < b) := propext (nI_ltI ha hb)
theorem lI_eq {a b : Nat} (ha : a < 2 ^ 31) (hb : b < 2 ^ 31) : (nI a = nI b) = (a = b) := propext (nI_eq ha hb)
/-- the reference's world: what lasts, then what is only worked with -/
def wM (row : Nat → Int32) (dm : Int32) (vals : Nat → Int32) (un : Int32) (kp tx : Nat → Int32) (len : Int32) (sz : Nat → Int32) (it : Nat → Int64) (ask : Int64) (fi be rD rM cl dg nu my su le gr cz vi ov : Int32) (rv ct bm : Nat → Int32) : List va_E :=
  [.inr (8, [.ref 1, .int dm, .ref 2, .int un, .ref 3, .ref 4, .int len, .ref 5, .ref 6, .long ask, .int fi, .int be, .int rD, .ref 7, .int rM, .int cl, .int dg, .int nu, .ref 8, .ref 9, .ref 10, .int my, .int su, .int le, .int gr, .int cz, .int vi, .ref 11, .ref 12, .int ov]),
   .inl (0, 984, .inl row), .inl (0, 4, .inl vals), .inl (1, 2, .inl kp), .inl (0, 200, .inl tx), .inl (0, 3, .inl sz), .inl (3, 36, .inr (.inl it)), .inl (0, 4, .inl rv), .inl (0, 5, .inl (fun j => ([116, 97, 98, 108, 101] : List Int32).getD j 0)), .inl (0, 7, .inl (fun j => ([115, 117, 112, 112, 111, 114, 116] : List Int32).getD j 0)), .inl (0, 3, .inl (fun j => ([114, 111, 119] : List Int32).getD j 0)), .inl (0, 2401, .inl ct), .inl (0, 42, .inl bm)]
section REF1
variable {l : tg_Ln} {K : Option Value → List va_E → Prop} {row vals kp tx sz rv ct bm : Nat → Int32} {dm un len fi be rD rM cl dg nu my su le gr cz vi ov : Int32} {it : Nat → Int64} {ask : Int64}
/-! codes(): how many codes there are -/
theorem kX9_codes_l {d : Nat} (hd : d ≤ 4) (hK : K (some (.int (nI (7 ^ d)))) (wM row (nI d) vals un kp tx len sz it ask fi be rD rM cl dg nu my su le gr cz vi ov rv ct bm)) : ∀ (m k : Nat), d - k < m → k ≤ d → tg_G l mX9_codes 1000 K 0 0 4 [.ref 0, .int (nI (7 ^ k)), .int (nI k)] [] (wM row (nI d) vals un kp tx len sz it ask fi be rD rM cl dg nu my su le gr cz vi ov rv ct bm) := by
  intro m
  induction m with
  | zero => intro k h; omega
  | succ m ih =>
    intro k hm hk
    have hp : 7 ^ k ≤ 7 ^ 4 := Nat.pow_le_pow_right (by decide) (by omega)
    unfold wM at ih ⊢
    refine tg_go bX9_codes_4 ?_
    simp only [ti_aload, ti_getf, ti_iload, List.getElem?_cons_zero, List.getElem?_cons_succ, true_and]
    refine g_icmp_ge (tgt := 23) dX9_codes_9 rfl (fun h9 => ?_) (fun h9 => ?_)
    · rw [lI_le (by omega) (by omega)] at h9
      obtain rfl : k = d := by omega
      refine tg_go bX9_codes_23 ?_
      simp only [ti_iload, List.getElem?_cons_zero, List.getElem?_cons_succ, true_and]
      refine g_iret dX9_codes_24 rfl ?_
      exact hK
    · rw [lI_le (by omega) (by omega)] at h9
      refine tg_go bX9_codes_12 ?_
      simp only [ti_iinc, ti_iload, ti_imul, ti_istore, ti_push, tg_s1, tg_cl, List.getElem?_cons_zero, List.getElem?_cons_succ, List.set_cons_zero, List.set_cons_succ, true_and]
      refine g_goto (tgt := 4) dX9_codes_20 rfl ?_
      have e : nI (7 ^ k) * 7 = nI (7 ^ (k + 1)) := pk_mul (7 ^ k) 7
      rw [e, nI_1]
      exact ih (k + 1) (by omega) (by omega)
theorem kX9_codes {d : Nat} (hd : d ≤ 4) : tg_Ct l mX9_codes 1000 [.ref 0] (wM row (nI d) vals un kp tx len sz it ask fi be rD rM cl dg nu my su le gr cz vi ov rv ct bm) (fun r w => r = some (.int (nI (7 ^ d))) ∧ w = (wM row (nI d) vals un kp tx len sz it ask fi be rD rM cl dg nu my su le gr cz vi ov rv ct bm)) := by
  have h := kX9_codes_l (l := l) (K := fun r w => r = some (.int (nI (7 ^ d))) ∧ w = (wM row (nI d) vals un kp tx len sz it ask fi be rD rM cl dg nu my su le gr cz vi ov rv ct bm)) hd ⟨rfl, rfl⟩ (d + 1) 0 (by omega) (by omega)
  unfold wM at h ⊢
  show tg_G _ _ _ _ _ _ _ [.ref 0, .null, .null] [] _
  refine tg_go bX9_codes_0 ?_
  simp only [ti_istore, ti_push, tg_s1, tg_cl, List.getElem?_cons_zero, List.getElem?_cons_succ, List.set_cons_zero, List.set_cons_succ, true_and]
  exact h
/-! figure(code, k) -/
def figN (d c k : Nat) : Nat := c / 7 ^ (d - 1 - k) % 7
theorem kX9_figure_l {d : Nat} {x y : Int32} (hd : d ≤ 4) : ∀ (m k c : Nat), d - k < m → k ≤ d → c < 2 ^ 31 → K (some (.int (nI (c / 7 ^ (d - k) % 7)))) (wM row (nI d) vals un kp tx len sz it ask fi be rD rM cl dg nu my su le gr cz vi ov rv ct bm) → tg_G l mX9_figure 1000 K 0 0 7 [.ref 0, .int x, .int y, .int (nI c), .int (nI k)] [] (wM row (nI d) vals un kp tx len sz it ask fi be rD rM cl dg nu my su le gr cz vi ov rv ct bm) := by
  intro m
  induction m with
  | zero => intro k c h; omega
  | succ m ih =>
    intro k c hm hk hc hK
    unfold wM at ih hK ⊢
    refine tg_go bX9_figure_7 ?_
    simp only [ti_aload, ti_getf, ti_iload, List.getElem?_cons_zero, List.getElem?_cons_succ, true_and]
    refine g_icmp_ge (tgt := 27) dX9_figure_13 rfl (fun h13 => ?_) (fun h13 => ?_)
    · rw [lI_le (by omega) (by omega)] at h13
      obtain rfl : k = d := by omega
      refine tg_go bX9_figure_27 ?_
      simp only [ti_iload, ti_irem, ti_push, List.getElem?_cons_zero, List.getElem?_cons_succ, true_and]
      rw [rem7 hc]
      refine ⟨ne7, ?_⟩
      refine g_iret dX9_figure_31 rfl ?_
      rw [Nat.sub_self, Nat.pow_zero, Nat.div_one] at hK
      exact hK
    · rw [lI_le (by omega) (by omega)] at h13
      refine tg_go bX9_figure_16 ?_
      simp only [ti_idiv, ti_iinc, ti_iload, ti_istore, ti_push, tg_s1, tg_cl, List.getElem?_cons_zero, List.getElem?_cons_succ, List.set_cons_zero, List.set_cons_succ, true_and]
      rw [div7 hc, nI_1]
      refine ⟨ne7, ?_⟩
      refine g_goto (tgt := 7) dX9_figure_24 rfl ?_
      refine ih (k + 1) (c / 7) (by omega) (by omega) (by omega) ?_
      rw [Nat.div_div_eq_div_mul, ← Nat.pow_succ', show (d - (k + 1)).succ = d - k by omega]
      exact hK
theorem kX9_figure {d c k : Nat} (hd : d ≤ 4) (hc : c < 2 ^ 31) (hk : k < d) : tg_Ct l mX9_figure 1000 [.ref 0, .int (nI c), .int (nI k)] (wM row (nI d) vals un kp tx len sz it ask fi be rD rM cl dg nu my su le gr cz vi ov rv ct bm) (fun r w => r = some (.int (nI (figN d c k))) ∧ w = (wM row (nI d) vals un kp tx len sz it ask fi be rD rM cl dg nu my su le gr cz vi ov rv ct bm)) := by
  have h := kX9_figure_l (l := l) (row := row) (vals := vals) (un := un) (kp := kp) (tx := tx) (len := len) (sz := sz) (it := it) (ask := ask) (fi := fi) (be := be) (rD := rD) (rM := rM) (cl := cl) (dg := dg) (nu := nu) (my := my) (su := su) (le := le) (gr := gr) (cz := cz) (vi := vi) (ov := ov) (rv := rv) (ct := ct) (bm := bm) (x := nI c) (y := nI k) (K := fun r w => r = some (.int (nI (figN d c k))) ∧ w = (wM row (nI d) vals un kp tx len sz it ask fi be rD rM cl dg nu my su le gr cz vi ov rv ct bm)) hd (d + 1) (k + 1) c (by omega) (by omega) hc ⟨by unfold figN; rw [show d - 1 - k = d - (k + 1) by omega], rfl⟩
  unfold wM at h ⊢
  show tg_G _ _ _ _ _ _ _ [.ref 0, .int (nI c), .int (nI k), .null, .null] [] _
  refine tg_go bX9_figure_0 ?_
  simp only [ti_iadd, ti_iload, ti_istore, ti_push, tg_s1, tg_cl, List.getElem?_cons_zero, List.getElem?_cons_succ, List.set_cons_zero, List.set_cons_succ, true_and]
  rw [nI_1]
  exact h
/-! covers(cell, code) -/
def covR : Nat → Nat → Nat → Bool
  | 0, _, _ => true
  | d + 1, a, b => (decide (a % 7 = 0) || decide (a % 7 = b % 7)) && covR d (a / 7) (b / 7)
theorem kX9_covers_l {d : Nat} {x y : Int32} (hd : d ≤ 4) : ∀ (m k a b : Nat) (is : Bool), d - k < m → k ≤ d → a < 2 ^ 31 → b < 2 ^ 31 → K (some (.int (bZ (is && covR (d - k) a b)))) (wM row (nI d) vals un kp tx len sz it ask fi be rD rM cl dg nu my su le gr cz vi ov rv ct bm) → tg_G l mX9_covers 1000 K 0 0 11 [.ref 0, .int x, .int y, .int (nI a), .int (nI b), .int (bZ is), .int (nI k)] [] (wM row (nI d) vals un kp tx len sz it ask fi be rD rM cl dg nu my su le gr cz vi ov rv ct bm) := by
  intro m
  induction m with
  | zero => intro k a b is h; omega
  | succ m ih =>
    intro k a b is hm hk ha hb hK
    unfold wM at ih hK ⊢
    refine tg_go bX9_covers_11 ?_
    simp only [ti_aload, ti_getf, ti_iload, List.getElem?_cons_zero, List.getElem?_cons_succ, true_and]
    refine g_icmp_ge (tgt := 69) dX9_covers_17 rfl (fun h17 => ?_) (fun h17 => ?_)
    · rw [lI_le (by omega) (by omega)] at h17
      obtain rfl : k = d := by omega
      refine tg_go bX9_covers_69 ?_
      simp only [ti_iload, List.getElem?_cons_zero, List.getElem?_cons_succ, true_and]
      refine g_zret dX9_covers_71 rfl (bZ_01 _) ?_
      rw [Nat.sub_self, covR, Bool.and_true] at hK
      exact hK
    · rw [lI_le (by omega) (by omega)] at h17
      refine tg_go bX9_covers_20 ?_
      simp only [ti_iload, List.getElem?_cons_zero, List.getElem?_cons_succ, true_and]
      refine g_cut1 49 (fun z => z = bZ (is && (decide (a % 7 = 0) || decide (a % 7 = b % 7)))) (fun J49 => ?_) (fun z hz => ?_)
      · refine g_if_eq (tgt := 48) dX9_covers_22 rfl (fun h22 => ?_) (fun h22 => ?_)
        · refine tg_go bX9_covers_48 ?_
          simp only [ti_push, List.getElem?_cons_zero, List.getElem?_cons_succ, true_and]
          exact J49 _ (by rw [bZ_0 h22]; rfl)
        · refine tg_go bX9_covers_25 ?_
          simp only [ti_iload, ti_irem, ti_push, List.getElem?_cons_zero, List.getElem?_cons_succ, true_and]
          rw [rem7 ha]
          refine ⟨ne7, ?_⟩
          refine g_if_eq (tgt := 44) dX9_covers_29 rfl (fun h29 => ?_) (fun h29 => ?_)
          · refine tg_go bX9_covers_44 ?_
            simp only [ti_push, List.getElem?_cons_zero, List.getElem?_cons_succ, true_and]
            refine g_goto (tgt := 49) dX9_covers_45 rfl ?_
            exact J49 _ (by
              rw [show (0 : Int32) = nI 0 from rfl, lI_eq (by omega) (by omega)] at h29
              rw [bZ_n h22, h29]; rfl)
          · refine tg_go bX9_covers_32 ?_
            simp only [ti_iload, ti_irem, ti_push, List.getElem?_cons_zero, List.getElem?_cons_succ, true_and]
            rw [rem7 ha, rem7 hb]
            refine ⟨ne7, ne7, ?_⟩
            refine g_icmp_ne (tgt := 48) dX9_covers_41 rfl (fun h41 => ?_) (fun h41 => ?_)
            · refine tg_go bX9_covers_48 ?_
              simp only [ti_push, List.getElem?_cons_zero, List.getElem?_cons_succ, true_and]
              exact J49 _ (by
                rw [show (0 : Int32) = nI 0 from rfl, lI_eq (by omega) (by omega)] at h29
                rw [lI_eq (by omega) (by omega)] at h41
                simp [bZ_n h22, h29, h41, bZ])
            · refine tg_go bX9_covers_44 ?_
              simp only [ti_push, List.getElem?_cons_zero, List.getElem?_cons_succ, true_and]
              refine g_goto (tgt := 49) dX9_covers_45 rfl ?_
              exact J49 _ (by
                rw [lI_eq (by omega) (by omega)] at h41
                simp [bZ_n h22, h41, bZ])
      subst hz
      refine tg_go bX9_covers_49 ?_
      simp only [ti_idiv, ti_iinc, ti_iload, ti_istore, ti_push, tg_s1, tg_cl, List.getElem?_cons_zero, List.getElem?_cons_succ, List.set_cons_zero, List.set_cons_succ, true_and]
      rw [div7 ha, div7 hb, nI_1]
      refine ⟨ne7, ne7, ?_⟩
      refine g_goto (tgt := 11) dX9_covers_66 rfl ?_
      refine ih (k + 1) (a / 7) (b / 7) _ (by omega) (by omega) (by omega) (by omega) ?_
      rw [show d - k = (d - (k + 1)) + 1 by omega, covR, ← Bool.and_assoc] at hK
      exact hK
theorem kX9_covers {d a b : Nat} (hd : d ≤ 4) (ha : a < 2 ^ 31) (hb : b < 2 ^ 31) : tg_Ct l mX9_covers 1000 [.ref 0, .int (nI a), .int (nI b)] (wM row (nI d) vals un kp tx len sz it ask fi be rD rM cl dg nu my su le gr cz vi ov rv ct bm) (fun r w => r = some (.int (bZ (covR d a b))) ∧ w = (wM row (nI d) vals un kp tx len sz it ask fi be rD rM cl dg nu my su le gr cz vi ov rv ct bm)) := by
  have h := kX9_covers_l (l := l) (row := row) (vals := vals) (un := un) (kp := kp) (tx := tx) (len := len) (sz := sz) (it := it) (ask := ask) (fi := fi) (be := be) (rD := rD) (rM := rM) (cl := cl) (dg := dg) (nu := nu) (my := my) (su := su) (le := le) (gr := gr) (cz := cz) (vi := vi) (ov := ov) (rv := rv) (ct := ct) (bm := bm) (x := nI a) (y := nI b) (K := fun r w => r = some (.int (bZ (covR d a b))) ∧ w = (wM row (nI d) vals un kp tx len sz it ask fi be rD rM cl dg nu my su le gr cz vi ov rv ct bm)) hd (d + 1) 0 a b true (by omega) (by omega) ha hb ⟨by rw [Nat.sub_zero, Bool.true_and], rfl⟩
  unfold wM at h ⊢
  show tg_G _ _ _ _ _ _ _ [.ref 0, .int (nI a), .int (nI b), .null, .null, .null, .null] [] _
  refine tg_go bX9_covers_0 ?_
  simp only [ti_iload, ti_istore, ti_push, tg_s1, tg_cl, List.getElem?_cons_zero, List.getElem?_cons_succ, List.set_cons_zero, List.set_cons_succ, true_and]
  exact h
/-! common(a, b) -/
def comR : Nat → Nat → Nat → Nat
  | 0, _, _ => 0
  | d + 1, x, y => (if x % 7 = y % 7 then x % 7 else 0) + 7 * comR d (x / 7) (y / 7)
theorem kX9_common_l {d : Nat} {u v : Int32} (hd : d ≤ 4) : ∀ (m k x y acc p : Nat), d - k < m → k ≤ d → x < 2 ^ 31 → y < 2 ^ 31 → K (some (.int (nI (acc + p * comR (d - k) x y)))) (wM row (nI d) vals un kp tx len sz it ask fi be rD rM cl dg nu my su le gr cz vi ov rv ct bm) → tg_G l mX9_common 1000 K 0 0 14 [.ref 0, .int u, .int v, .int (nI acc), .int (nI p), .int (nI x), .int (nI y), .int (nI k)] [] (wM row (nI d) vals un kp tx len sz it ask fi be rD rM cl dg nu my su le gr cz vi ov rv ct bm) := by
  intro m
  induction m with
  | zero => intro k x y acc p h; omega
  | succ m ih =>
    intro k x y acc p hm hk hx hy hK
    unfold wM at ih hK ⊢
    refine tg_go bX9_common_14 ?_
    simp only [ti_aload, ti_getf, ti_iload, List.getElem?_cons_zero, List.getElem?_cons_succ, true_and]
    refine g_icmp_ge (tgt := 78) dX9_common_20 rfl (fun h20 => ?_) (fun h20 => ?_)
    · rw [lI_le (by omega) (by omega)] at h20
      obtain rfl : k = d := by omega
      refine tg_go bX9_common_78 ?_
      simp only [ti_iload, List.getElem?_cons_zero, List.getElem?_cons_succ, true_and]
      refine g_iret dX9_common_79 rfl ?_
      rw [Nat.sub_self, comR, Nat.mul_zero, Nat.add_zero] at hK
      exact hK
    · rw [lI_le (by omega) (by omega)] at h20
      refine tg_go bX9_common_23 ?_
      simp only [ti_iload, ti_irem, ti_push, List.getElem?_cons_zero, List.getElem?_cons_succ, true_and]
      rw [rem7 hx, rem7 hy]
      refine ⟨ne7, ne7, ?_⟩
      refine g_cut2 49 (fun z => z = nI ((if x % 7 = y % 7 then x % 7 else 0) * p)) (fun J49 => ?_) (fun z hz => ?_)
      · refine g_icmp_ne (tgt := 48) dX9_common_34 rfl (fun h34 => ?_) (fun h34 => ?_)
        · refine tg_go bX9_common_48 ?_
          simp only [ti_push, List.getElem?_cons_zero, List.getElem?_cons_succ, true_and]
          exact J49 _ (by
            rw [lI_eq (by omega) (by omega)] at h34
            rw [if_neg h34, Nat.zero_mul]; rfl)
        · refine tg_go bX9_common_37 ?_
          simp only [ti_iload, ti_imul, ti_irem, ti_push, List.getElem?_cons_zero, List.getElem?_cons_succ, true_and]
          rw [rem7 hx]
          refine ⟨ne7, ?_⟩
          refine g_goto (tgt := 49) dX9_common_45 rfl ?_
          exact J49 _ (by
            rw [lI_eq (by omega) (by omega)] at h34
            rw [if_pos h34]; exact pk_mul _ _)
      subst hz
      refine tg_go bX9_common_49 ?_
      simp only [ti_iadd, ti_idiv, ti_iinc, ti_iload, ti_imul, ti_istore, ti_push, tg_s1, tg_cl, List.getElem?_cons_zero, List.getElem?_cons_succ, List.set_cons_zero, List.set_cons_succ, true_and]
      rw [div7 hx, div7 hy, nI_1, nI_add, show nI p * 7 = nI (p * 7) from pk_mul p 7]
      refine ⟨ne7, ne7, ?_⟩
      refine g_goto (tgt := 14) dX9_common_75 rfl ?_
      refine ih (k + 1) (x / 7) (y / 7) _ _ (by omega) (by omega) (by omega) (by omega) ?_
      rw [show d - k = (d - (k + 1)) + 1 by omega, comR, Nat.mul_add] at hK
      rw [Nat.add_assoc, Nat.mul_comm (if x % 7 = y % 7 then x % 7 else 0) p, Nat.mul_assoc]
      exact hK
theorem kX9_common {d a b : Nat} (hd : d ≤ 4) (ha : a < 2 ^ 31) (hb : b < 2 ^ 31) : tg_Ct l mX9_common 1000 [.ref 0, .int (nI a), .int (nI b)] (wM row (nI d) vals un kp tx len sz it ask fi be rD rM cl dg nu my su le gr cz vi ov rv ct bm) (fun r w => r = some (.int (nI (comR d a b))) ∧ w = (wM row (nI d) vals un kp tx len sz it ask fi be rD rM cl dg nu my su le gr cz vi ov rv ct bm)) := by
  have h := kX9_common_l (l := l) (row := row) (vals := vals) (un := un) (kp := kp) (tx := tx) (len := len) (sz := sz) (it := it) (ask := ask) (fi := fi) (be := be) (rD := rD) (rM := rM) (cl := cl) (dg := dg) (nu := nu) (my := my) (su := su) (le := le) (gr := gr) (cz := cz) (vi := vi) (ov := ov) (rv := rv) (ct := ct) (bm := bm) (u := nI a) (v := nI b) (K := fun r w => r = some (.int (nI (comR d a b))) ∧ w = (wM row (nI d) vals un kp tx len sz it ask fi be rD rM cl dg nu my su le gr cz vi ov rv ct bm)) hd (d + 1) 0 a b 0 1 (by omega) (by omega) ha hb ⟨by rw [Nat.sub_zero, Nat.zero_add, Nat.one_mul], rfl⟩
  unfold wM at h ⊢
  show tg_G _ _ _ _ _ _ _ [.ref 0, .int (nI a), .int (nI b), .null, .null, .null, .null, .null] [] _
  refine tg_go bX9_common_0 ?_
  simp only [ti_iload, ti_istore, ti_push, tg_s1, tg_cl, List.getElem?_cons_zero, List.getElem?_cons_succ, List.set_cons_zero, List.set_cons_succ, true_and]
  exact h
end REF1
