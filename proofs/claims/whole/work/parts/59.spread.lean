/-! THE CLASS: Cells: the list of cells is spread by a dimension -/
def wCf (td : Int32) (tv : Nat → Int32) (tn : Int32) (tc tm : Nat → Int32) (te : Int32) (qd qv : Int32) (en : Nat → Int32) (hv : Nat → Int64) (cz : Int32) (cd : Nat → Int32) (cv : Nat → Int64) (oc : Nat → Int32) (ov : Nat → Int64) (ic al cs on : Nat → Int32) : List va_E := wC td tv tn tc tm te qd qv en hv cz 8 9 10 11 cd cv oc ov ic al cs on
def wCt (td : Int32) (tv : Nat → Int32) (tn : Int32) (tc tm : Nat → Int32) (te : Int32) (qd qv : Int32) (en : Nat → Int32) (hv : Nat → Int64) (cz : Int32) (cd : Nat → Int32) (cv : Nat → Int64) (oc : Nat → Int32) (ov : Nat → Int64) (ic al cs on : Nat → Int32) : List va_E := wC td tv tn tc tm te qd qv en hv cz 10 11 8 9 oc ov cd cv ic al cs on
def lsO (p : Nat → Bool) (A : Nat) (M : Nat → Nat) (cd : Nat → Int32) (cv : Nat → Int64) : Prop := ∀ a, a < A → p a = true → cd (gMany p a) = nI a ∧ cv (gMany p a) = lN (M a)
theorem gMany_mono {p : Nat → Bool} {a : Nat} : ∀ m, gMany p a ≤ gMany p (a + m)
  | 0 => Nat.le_refl _
  | m + 1 => by
    have := gMany_mono (p := p) (a := a) m
    show _ ≤ gMany p (a + m + 1)
    rw [gMany]
    omega
theorem gMany_lt {p : Nat → Bool} {a A : Nat} (hp : p a = true) (h : a < A) : gMany p a < gMany p A := by
  have h1 := gMany_mono (p := p) (a := a + 1) (A - a - 1)
  rw [show a + 1 + (A - a - 1) = A by omega, gMany, if_pos hp] at h1
  omega
theorem gMany_le2 {p : Nat → Bool} {a A : Nat} (h : a ≤ A) : gMany p a ≤ gMany p A := by
  have h1 := gMany_mono (p := p) (a := a) (A - a)
  rwa [show a + (A - a) = A by omega] at h1
theorem gMany_skip {p : Nat → Bool} {a : Nat} : ∀ m, (∀ b, a ≤ b → b < a + m → p b = false) → gMany p (a + m) = gMany p a
  | 0, _ => rfl
  | m + 1, h => by
    show gMany p (a + m + 1) = _
    rw [gMany, gMany_skip m (fun b h1 h2 => h b h1 (by omega)), h (a + m) (by omega) (by omega)]
    simp
theorem lsO_skip {p : Nat → Bool} {A m : Nat} {M : Nat → Nat} {cd : Nat → Int32} {cv : Nat → Int64} (h : lsO p A M cd cv) (hf : ∀ b, A ≤ b → b < A + m → p b = false) : lsO p (A + m) M cd cv := fun a ha hp => by
  by_cases q : a < A
  · exact h a q hp
  · rw [hf a (by omega) ha] at hp
    cases hp
theorem lsO_put {p : Nat → Bool} {A : Nat} {M : Nat → Nat} {cd : Nat → Int32} {cv : Nat → Int64} (h : lsO p A M cd cv) : lsO p (A + 1) M (upd cd (gMany p A) (nI A)) (vp_updL cv (gMany p A) (lN (M A))) := fun a ha hp => by
  by_cases q : a < A
  · have h1 := gMany_lt hp q
    rw [pk_un (by omega), pk_uLn (by omega)]
    exact h a q hp
  · obtain rfl : a = A := by omega
    rw [pk_us, pk_uLs]
    exact ⟨rfl, rfl⟩
theorem pcv_s {d k : Nat} {c : Nat → Nat} (hk : k < d) (a f i : Nat) (hf : f < 7) : pcv d c (k + 1) (7 * a + f) i = ((decide (f = 0) || decide (f = dg (d - 1 - k) (c i))) && pcv d c k a i) := by
  unfold pcv
  rw [covR, show (7 * a + f) % 7 = f by omega, show (7 * a + f) / 7 = a by omega, Nat.div_div_eq_div_mul, ← Nat.pow_succ, show (d - (k + 1)).succ = d - k by omega]
  unfold dg
  rw [show d - (k + 1) = d - 1 - k by omega]
theorem neK_f {d n k a f : Nat} {c : Nat → Nat} (hk : k < d) (hf : f < 7) (h : neK d n c k a = false) : neK d n c (k + 1) (7 * a + f) = false := by
  have h1 : gMany (pcv d c k a) n = 0 := by
    have := of_decide_eq_false h
    omega
  refine decide_eq_false ?_
  have h2 : gMany (pcv d c (k + 1) (7 * a + f)) n = 0 := (gMany_0 n).mpr (fun i hi => by
    rw [pcv_s hk a f i hf, (gMany_0 n).mp h1 i hi, Bool.and_false])
  omega
theorem neK_v {d n k a f : Nat} {v c : Nat → Nat} (hk : k < d) (hf : f < 7) (hv : ∀ i, i < n → dg (d - 1 - k) (c i) ≤ v k) (h : v k < f) : neK d n c (k + 1) (7 * a + f) = false := by
  refine decide_eq_false ?_
  have h2 : gMany (pcv d c (k + 1) (7 * a + f)) n = 0 := (gMany_0 n).mpr (fun i hi => by
    have := hv i hi
    rw [pcv_s hk a f i hf, decide_eq_false (by omega), decide_eq_false (by omega)]
    rfl)
  omega
theorem neK_mk {d n k a : Nat} {c : Nat → Nat} (hn : n ≤ 40) : (lN (mkN (pcv d c k a) n) = 0) = (neK d n c k a = false) := by
  rw [mk_zero hn, ← gMany_0]
  unfold neK
  rw [decide_eq_false_iff_not]
  exact propext (by omega)
section SPREAD
variable {l : tg_Ln} {K : Option Value → List va_E → Prop} {tv tc tm en ic al cs on : Nat → Int32} {hv : Nat → Int64} {td tn te qd qv cz : Int32} {d n s : Nat} {v c : Nat → Nat} {cd : Nat → Int32} {cv : Nat → Int64}
theorem kX0_sp_3f {k a f : Nat} {oc : Nat → Int32} {ov : Nat → Int64} (hn : n ≤ 40) (hf6 : f ≤ 6) (ha3 : a < 7 ^ 4) (hj : gMany (neK d n c k) a < 640) (hsp : gMany (neK d n c (k + 1)) (7 * a + f) ≤ 640) (hsp2 : neK d n c (k + 1) (7 * a + f) = true → gMany (neK d n c (k + 1)) (7 * a + f) < 640) (hcda : cd (gMany (neK d n c k) a) = nI a) (h1 : neK d n c (k + 1) (7 * a + f) = false → tg_G l mX0_spreadBy 1000 K 0 0 15 [.ref 0, .int (nI k), .int (nI (gMany (neK d n c (k + 1)) (7 * a + f))), .int (nI (gMany (neK d n c k) a)), .int (nI (f + 1)), .long (lN (mkN (pcv d c (k + 1) (7 * a + f)) n)), .null] [] (wCf td tv tn tc tm te qd qv en hv cz cd cv oc ov ic al cs on)) (h2 : neK d n c (k + 1) (7 * a + f) = true → tg_G l mX0_spreadBy 1000 K 0 0 15 [.ref 0, .int (nI k), .int (nI (gMany (neK d n c (k + 1)) (7 * a + f) + 1)), .int (nI (gMany (neK d n c k) a)), .int (nI (f + 1)), .long (lN (mkN (pcv d c (k + 1) (7 * a + f)) n)), .null] [] (wCf td tv tn tc tm te qd qv en hv cz cd cv (upd oc (gMany (neK d n c (k + 1)) (7 * a + f)) (nI (7 * a + f))) (vp_updL ov (gMany (neK d n c (k + 1)) (7 * a + f)) (lN (mkN (pcv d c (k + 1) (7 * a + f)) n))) ic al cs on)) (x5 x6 : Value) : tg_G l mX0_spreadBy 1000 K 0 0 57 [.ref 0, .int (nI k), .int (nI (gMany (neK d n c (k + 1)) (7 * a + f))), .int (nI (gMany (neK d n c k) a)), .int (nI f), x5, x6] [.long (lN (mkN (pcv d c (k + 1) (7 * a + f)) n))] (wCf td tv tn tc tm te qd qv en hv cz cd cv oc ov ic al cs on) := by
  unfold wCf wC at h1 h2 ⊢
  refine tg_go bX0_spreadBy_57 ?_
  simp only [ti_lcmp, ti_lload, ti_lstore, ti_push, tg_s2, tg_cl, List.getElem?_cons_zero, List.getElem?_cons_succ, List.set_cons_zero, List.set_cons_succ, true_and]
  refine g_if_eq (tgt := 102) dX0_spreadBy_63 rfl (fun h63 => ?_) (fun h63 => ?_)
  · rw [cmp_eq0, neK_mk hn] at h63
    refine tg_go bX0_spreadBy_102 ?_
    simp only [ti_iinc, tg_s1, tg_cl, List.getElem?_cons_zero, List.getElem?_cons_succ, List.set_cons_zero, List.set_cons_succ, true_and]
    rw [nI_1]
    refine g_goto (tgt := 15) dX0_spreadBy_105 rfl ?_
    exact h1 h63
  · rw [cmp_eq0, neK_mk hn] at h63
    have h63 := eq_true_of_ne_false h63
    have hlt1 := hsp2 h63
    refine tg_go bX0_spreadBy_66 ?_
    simp only [ti_iload, ti_push, List.getElem?_cons_zero, List.getElem?_cons_succ, true_and]
    refine g_icmp_ge (tgt := 102) dX0_spreadBy_70 rfl (fun h70 => ?_) (fun h70 => ?_)
    · rw [fa_lit, lI_le (by omega) (by omega)] at h70; omega
    · refine tg_go bX0_spreadBy_73 ?_
      simp only [ti_aload, ti_getf, ti_iadd, ti_iald, ti_iast, ti_iinc, ti_iload, ti_imul, ti_last, ti_lload, ti_push, tg_s1, tg_cl, List.getElem?_cons_zero, List.getElem?_cons_succ, List.set_cons_zero, List.set_cons_succ, true_and]
      rw [nI_clamp (by omega), nI_clamp (by omega), hcda, show nI a * 7 = nI (a * 7) from pk_mul a 7, nI_add, show a * 7 + f = 7 * a + f by omega, nI_1]
      refine ⟨vp_in_nI (by omega) (by omega), vp_in_nI (by omega) (by omega), vp_in_nI (by omega) (by omega), ?_⟩
      refine tg_go bX0_spreadBy_102 ?_
      simp only [ti_iinc, tg_s1, tg_cl, List.getElem?_cons_zero, List.getElem?_cons_succ, List.set_cons_zero, List.set_cons_succ, true_and]
      rw [nI_1]
      refine g_goto (tgt := 15) dX0_spreadBy_105 rfl ?_
      exact h2 h63
theorem kX0_sp_3t {k a f : Nat} {oc : Nat → Int32} {ov : Nat → Int64} (hn : n ≤ 40) (hf6 : f ≤ 6) (ha3 : a < 7 ^ 4) (hj : gMany (neK d n c k) a < 640) (hsp : gMany (neK d n c (k + 1)) (7 * a + f) ≤ 640) (hsp2 : neK d n c (k + 1) (7 * a + f) = true → gMany (neK d n c (k + 1)) (7 * a + f) < 640) (hcda : cd (gMany (neK d n c k) a) = nI a) (h1 : neK d n c (k + 1) (7 * a + f) = false → tg_G l mX0_spreadBy 1000 K 0 0 15 [.ref 0, .int (nI k), .int (nI (gMany (neK d n c (k + 1)) (7 * a + f))), .int (nI (gMany (neK d n c k) a)), .int (nI (f + 1)), .long (lN (mkN (pcv d c (k + 1) (7 * a + f)) n)), .null] [] (wCt td tv tn tc tm te qd qv en hv cz cd cv oc ov ic al cs on)) (h2 : neK d n c (k + 1) (7 * a + f) = true → tg_G l mX0_spreadBy 1000 K 0 0 15 [.ref 0, .int (nI k), .int (nI (gMany (neK d n c (k + 1)) (7 * a + f) + 1)), .int (nI (gMany (neK d n c k) a)), .int (nI (f + 1)), .long (lN (mkN (pcv d c (k + 1) (7 * a + f)) n)), .null] [] (wCt td tv tn tc tm te qd qv en hv cz cd cv (upd oc (gMany (neK d n c (k + 1)) (7 * a + f)) (nI (7 * a + f))) (vp_updL ov (gMany (neK d n c (k + 1)) (7 * a + f)) (lN (mkN (pcv d c (k + 1) (7 * a + f)) n))) ic al cs on)) (x5 x6 : Value) : tg_G l mX0_spreadBy 1000 K 0 0 57 [.ref 0, .int (nI k), .int (nI (gMany (neK d n c (k + 1)) (7 * a + f))), .int (nI (gMany (neK d n c k) a)), .int (nI f), x5, x6] [.long (lN (mkN (pcv d c (k + 1) (7 * a + f)) n))] (wCt td tv tn tc tm te qd qv en hv cz cd cv oc ov ic al cs on) := by
  unfold wCt wC at h1 h2 ⊢
  refine tg_go bX0_spreadBy_57 ?_
  simp only [ti_lcmp, ti_lload, ti_lstore, ti_push, tg_s2, tg_cl, List.getElem?_cons_zero, List.getElem?_cons_succ, List.set_cons_zero, List.set_cons_succ, true_and]
  refine g_if_eq (tgt := 102) dX0_spreadBy_63 rfl (fun h63 => ?_) (fun h63 => ?_)
  · rw [cmp_eq0, neK_mk hn] at h63
    refine tg_go bX0_spreadBy_102 ?_
    simp only [ti_iinc, tg_s1, tg_cl, List.getElem?_cons_zero, List.getElem?_cons_succ, List.set_cons_zero, List.set_cons_succ, true_and]
    rw [nI_1]
    refine g_goto (tgt := 15) dX0_spreadBy_105 rfl ?_
    exact h1 h63
  · rw [cmp_eq0, neK_mk hn] at h63
    have h63 := eq_true_of_ne_false h63
    have hlt1 := hsp2 h63
    refine tg_go bX0_spreadBy_66 ?_
    simp only [ti_iload, ti_push, List.getElem?_cons_zero, List.getElem?_cons_succ, true_and]
    refine g_icmp_ge (tgt := 102) dX0_spreadBy_70 rfl (fun h70 => ?_) (fun h70 => ?_)
    · rw [fa_lit, lI_le (by omega) (by omega)] at h70; omega
    · refine tg_go bX0_spreadBy_73 ?_
      simp only [ti_aload, ti_getf, ti_iadd, ti_iald, ti_iast, ti_iinc, ti_iload, ti_imul, ti_last, ti_lload, ti_push, tg_s1, tg_cl, List.getElem?_cons_zero, List.getElem?_cons_succ, List.set_cons_zero, List.set_cons_succ, true_and]
      rw [nI_clamp (by omega), nI_clamp (by omega), hcda, show nI a * 7 = nI (a * 7) from pk_mul a 7, nI_add, show a * 7 + f = 7 * a + f by omega, nI_1]
      refine ⟨vp_in_nI (by omega) (by omega), vp_in_nI (by omega) (by omega), vp_in_nI (by omega) (by omega), ?_⟩
      refine tg_go bX0_spreadBy_102 ?_
      simp only [ti_iinc, tg_s1, tg_cl, List.getElem?_cons_zero, List.getElem?_cons_succ, List.set_cons_zero, List.set_cons_succ, true_and]
      rw [nI_1]
      refine g_goto (tgt := 15) dX0_spreadBy_105 rfl ?_
      exact h2 h63
end SPREAD
