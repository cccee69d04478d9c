/-! tables, as class and reference have them; clauses done by both -/
def vOK (d : Nat) (v : Nat → Nat) : Prop := 1 ≤ d ∧ d ≤ 4 ∧ ∀ k, k < d → 1 ≤ v k ∧ v k ≤ 6
def eOK (d : Nat) (v : Nat → Nat) (n : Nat) (c : Nat → Nat) (u : Nat → Int32) (s : Nat) : Prop := n ≤ 40 ∧ (1 ≤ s ∧ s ≤ 9) ∧ (∀ i, i < n → c i < 7 ^ d ∧ ∀ k, k < d → 1 ≤ figN d (c i) k ∧ figN d (c i) k ≤ v k) ∧ ∀ i, i < n → -99 ≤ (u i).toInt ∧ (u i).toInt ≤ 99
/-- the class's table -/
def tC (td : Int32) (tv : Nat → Int32) (tn : Int32) (tc tm : Nat → Int32) (te : Int32) (d : Nat) (v : Nat → Nat) (n : Nat) (c : Nat → Nat) (u : Nat → Int32) (s : Nat) : Prop := td = nI d ∧ (∀ k, k < d → tv k = nI (v k)) ∧ tn = nI n ∧ (∀ i, i < n → tc i = nI (c i)) ∧ (∀ i, i < n → tm i = u i) ∧ te = nI s
/-- class and reference have the same table -/
def mat (td : Int32) (tv : Nat → Int32) (tn : Int32) (tc tm : Nat → Int32) (te dm : Int32) (vals row : Nat → Int32) (d : Nat) (v : Nat → Nat) (n : Nat) (c : Nat → Nat) (u : Nat → Int32) (s : Nat) : Prop := tC td tv tn tc tm te d v n c u s ∧ dm = nI d ∧ (∀ k, k < d → vals k = nI (v k)) ∧ tbR row d 0 n s c u ∧ vOK d v ∧ eOK d v n c u s
theorem tIns_lt {f : Nat → Int32} {p n j : Nat} {x : Int32} (h : j < p) : tIns f p n x j = f j := by
  unfold tIns
  rw [pk_un (by omega), pk_cpy_out (by omega)]
theorem tIns_at {f : Nat → Int32} {p n : Nat} {x : Int32} : tIns f p n x p = x := pk_us
theorem tIns_gt {f : Nat → Int32} {p n j : Nat} {x : Int32} (h : p < j) (h2 : j ≤ n) : tIns f p n x j = f (j - 1) := by
  unfold tIns
  rw [pk_un (by omega), pk_cpy_in (by omega) (by omega)]
  congr 1
  omega
theorem tDel_lt {f : Nat → Int32} {p n j : Nat} (h : j < p) : tDel f p n j = f j := by
  unfold tDel
  rw [pk_cpy_out (by omega)]
theorem tDel_ge {f : Nat → Int32} {p n j : Nat} (h : p ≤ j) (h2 : j + 1 < n) : tDel f p n j = f (j + 1) := by
  unfold tDel
  rw [pk_cpy_in (by omega) (by omega)]
  congr 1
  omega
theorem tab_rel {tx : Nat → Int32} {L : Nat} : ∀ (m k f b : Nat) (nv rv : Nat → Int32), m + k = 4 → (∀ j, j < k → nv j = rv j) → (tabR tx L (m + 2) k f b rv).2.1 = (tabC tx L m k f b nv).1 ∧ (tabR tx L (m + 2) k f b rv).2.2.1 = (tabC tx L m k f b nv).2.1 ∧ (tabR tx L (m + 2) k f b rv).2.2.2.1 = (tabC tx L m k f b nv).2.2.1 ∧ (∀ j, j < (tabC tx L m k f b nv).1 → (tabC tx L m k f b nv).2.2.2 j = (tabR tx L (m + 2) k f b rv).2.2.2.2 j) ∧ (tabR tx L (m + 2) k f b rv).1 = (decide (¬ (tabC tx L m k f b nv).1 = 0) && endB tx L (tabC tx L m k f b nv).2.1)
  | 0, k, f, b, nv, rv, hk, he => by
    obtain rfl : k = 4 := by omega
    rw [tabR, tabC]
    by_cases h : endB tx L f = false
    · rw [if_pos (Or.inr h), if_neg (by decide)]
      exact ⟨rfl, rfl, rfl, he, by simp [h]⟩
    · rw [if_neg (by rintro (h1 | h1); exact absurd h1 (by decide); exact h h1)]
      exact ⟨rfl, rfl, rfl, he, by simp at h; simp [h]⟩
  | m + 1, k, f, b, nv, rv, hk, he => by
    rw [tabR, tabC]
    cases hx : numR tx L f b 1 6 with
    | none =>
      by_cases h : k = 0 ∨ endB tx L f = false
      · rw [if_pos h, if_pos (by omega)]
        refine ⟨rfl, rfl, rfl, he, ?_⟩
        rcases h with h | h <;> simp [h]
      · rw [if_neg h]
        refine ⟨rfl, rfl, rfl, he, ?_⟩
        have h1 : ¬ k = 0 := fun q => h (Or.inl q)
        have h2 : endB tx L f = true := eq_true_of_ne_false (fun q => h (Or.inr q))
        simp [h1, h2]
    | some x =>
      have hE : endB tx L f = false := by
        unfold numR at hx
        split at hx
        · rename_i hc
          unfold endB
          rw [decide_eq_false hc.1.1, Bool.false_or]
          refine decide_eq_false fun q => ?_
          have h2 := hc.1.2.1
          rw [q] at h2
          exact absurd h2 (by decide)
        · cases hx
      rw [if_pos (Or.inr hE), if_pos (by omega)]
      exact tab_rel m (k + 1) (tkF tx L b) (tkB tx L (tkF tx L b)) (upd nv k (nI x)) (upd rv k (nI x)) (by omega) (fun j hj => by
        by_cases e : j = k
        · subst e; rw [pk_us, pk_us]
        · rw [pk_un e, pk_un e]; exact he j (by omega))
theorem rowR_congr {tx : Nat → Int32} {L : Nat} {rv rw' : Nat → Int32} : ∀ (m k f b c : Nat), (∀ j, k ≤ j → j < k + m → rv j = rw' j) → rowR tx L rv m k f b c = rowR tx L rw' m k f b c
  | 0, k, f, b, c, h => rfl
  | m + 1, k, f, b, c, h => by
    rw [rowR, rowR, h k (Nat.le_refl _) (by omega)]
    cases numR tx L f b 0 ((rw' k).toInt.toNat - 1) with
    | none => rfl
    | some x => exact rowR_congr m (k + 1) _ _ _ (fun j h1 h2 => h j (by omega) (by omega))
theorem rowQ_congr {tx : Nat → Int32} {L D f b : Nat} {rv rw' : Nat → Int32} (h : ∀ j, j < D → rv j = rw' j) : rowQ tx L D f b rv = rowQ tx L D f b rw' := by
  unfold rowQ
  rw [rowR_congr D 0 f b 0 (fun j _ h2 => h j (by omega))]
theorem rowR_ok {tx : Nat → Int32} {L : Nat} {rv : Nat → Int32} {v : Nat → Nat} : ∀ (m k f b c : Nat), (∀ j, j < k + m → rv j = nI (v j) ∧ 1 ≤ v j ∧ v j ≤ 6) → (c < 7 ^ k ∧ ∀ j, j < k → 1 ≤ figN k c j ∧ figN k c j ≤ v j) → (rowR tx L rv m k f b c).1 = true → (rowR tx L rv m k f b c).2.2.2 < 7 ^ (k + m) ∧ ∀ j, j < k + m → 1 ≤ figN (k + m) (rowR tx L rv m k f b c).2.2.2 j ∧ figN (k + m) (rowR tx L rv m k f b c).2.2.2 j ≤ v j
  | 0, k, f, b, c, hv, hc, h => hc
  | m + 1, k, f, b, c, hv, hc, h => by
    obtain ⟨e, h1, h6⟩ := hv k (by omega)
    have e2 : (rv k).toInt.toNat = v k := by rw [e, nI_toInt (by omega)]; omega
    rw [rowR, e2] at h ⊢
    cases hx : numR tx L f b 0 (v k - 1) with
    | none => rw [hx] at h; cases h
    | some x =>
      rw [hx] at h
      have hxx := numR_in hx
      have key := rowR_ok m (k + 1) (tkF tx L b) (tkB tx L (tkF tx L b)) (7 * c + x + 1) (fun j hj => hv j (by omega)) ⟨by rw [Nat.pow_succ]; omega, fun j hj => by
        have ed : (7 * c + x + 1) / 7 = c := by omega
        have em : (7 * c + x + 1) % 7 = x + 1 := by omega
        by_cases q : j = k
        · subst q; rw [figN_last, em]; omega
        · rw [figN_div _ _ _ (by omega), ed]; exact hc.2 j (by omega)⟩ h
      rw [show k + (m + 1) = k + 1 + m by omega]
      exact key
section CLR
variable {tx rv vals row : Nat → Int32} {L f b D N : Nat} {dm : Int32}
theorem clR_no (h : wdH tx f b = -1 ∨ (wdH tx f b = 2 ∧ N = 40)) : clR tx L f b D N rv = (false, f, b, D, rv, N) := by unfold clR; rw [if_pos h]
theorem clR_tab (h : wdH tx f b = 0) : clR tx L f b D N rv = (match tabR tx L 6 0 (tkF tx L b) (tkB tx L (tkF tx L b)) rv with
    | (true, k, f2, b2, rv2) => (true, f2, b2, k, rv2, 0)
    | (false, _, f2, b2, rv2) => (false, f2, b2, D, rv2, N)) := by
  unfold clR
  rw [h, if_neg (by rintro (q | ⟨q, -⟩) <;> exact absurd q (by decide)), if_pos rfl]
  rfl
theorem clR_sup (h : wdH tx f b = 1) : clR tx L f b D N rv = (match numR tx L (tkF tx L b) (tkB tx L (tkF tx L b)) 1 9 with
    | some _ => (true, tkF tx L (tkB tx L (tkF tx L b)), tkB tx L (tkF tx L (tkB tx L (tkF tx L b))), D, rv, N)
    | none => (false, tkF tx L b, tkB tx L (tkF tx L b), D, rv, N)) := by
  unfold clR
  rw [h, if_neg (by rintro (q | ⟨q, -⟩) <;> exact absurd q (by decide)), if_neg (by decide), if_pos rfl]
  rfl
theorem clR_row (h : wdH tx f b = 2) (hN : ¬ N = 40) : clR tx L f b D N rv = (match rowQ tx L D (tkF tx L b) (tkB tx L (tkF tx L b)) rv with
    | (true, f2, b2, _, _) => (true, f2, b2, D, rv, N + 1)
    | (false, f2, b2, _, _) => (false, f2, b2, D, rv, N)) := by
  unfold clR
  rw [h, if_neg (by rintro (q | ⟨-, q⟩); exact absurd q (by decide); exact hN q), if_neg (by decide), if_neg (by decide)]
  rfl
theorem clE_tab (h : wdH tx f b = 0) : clE tx L f b D N rv dm vals row = (match tabR tx L 6 0 (tkF tx L b) (tkB tx L (tkF tx L b)) rv with
    | (_, k, _, _, rv2) => (nI k, vLo vals rv2 k 4, upd (upd row 0 0) 1 1)) := by
  unfold clE
  rw [if_pos h]
theorem clE_sup (h : wdH tx f b = 1) : clE tx L f b D N rv dm vals row = (dm, vals, upd row 1 (nI ((numR tx L (tkF tx L b) (tkB tx L (tkF tx L b)) 1 9).getD 0))) := by
  unfold clE
  rw [h, if_neg (by decide), if_pos rfl]
theorem clE_row (h : wdH tx f b = 2) : clE tx L f b D N rv dm vals row = (match rowQ tx L D (tkF tx L b) (tkB tx L (tkF tx L b)) rv with
    | (_, _, _, c, x) => (dm, vals, rPut row 0 N (nI c) (nI x))) := by
  unfold clE
  rw [h, if_neg (by decide), if_neg (by decide)]
end CLR
theorem semi_tok {tx : Nat → Int32} {L f : Nat} (h : f < L) : wordB tx f (tkB tx L f) (tg_sb.getD 3 []) = decide (tx f = 59) := by
  by_cases e : tx f = 59
  · have hb : tkB tx L f = f + 1 := by
      unfold tkB
      rw [if_pos h, e, if_neg (by decide), if_neg (by decide)]
    rw [hb, decide_eq_true e]
    unfold wordB
    rw [show (tg_sb.getD 3 []).length = 1 from rfl, decide_eq_true (by omega), Bool.true_and, allB, allB, Bool.true_and]
    exact decide_eq_true e
  · rw [decide_eq_false e]
    unfold wordB
    rw [show (tg_sb.getD 3 []).length = 1 from rfl, allB, allB, Bool.true_and]
    rw [show decide (tx (f + 0) = (tg_sb.getD 3 []).getD 0 0) = false from decide_eq_false e, Bool.and_false]
/-- what a clause of the class is, beside the reference's -/
def dcK (tx : Nat → Int32) (L f b D N : Nat) (rv : Nat → Int32) (dm : Int32) (vals row : Nat → Int32) (dn : Int32) (r : Option Value) (w : List va_E) : Prop := ∃ (f2 b2 : Nat) (td : Int32) (tv : Nat → Int32) (tn : Int32) (tc tm : Nat → Int32) (te : Int32) (nv : Nat → Int32), f2 ≤ L ∧ b2 = tkB tx L f2 ∧ w = wK tx (nI L) (nI f2) (nI b2) dn td tv tn tc tm te nv ∧ (clR tx L f b D N rv).2.1 = f2 ∧ ((r = some (.int 0) ∧ (clR tx L f b D N rv).1 = false) ∨ (r = some (.int 1) ∧ (clR tx L f b D N rv).1 = false ∧ ¬ f2 = L ∧ ¬ tx f2 = 59) ∨ (r = some (.int 1) ∧ (clR tx L f b D N rv).1 = true ∧ (clR tx L f b D N rv).2.2.1 = b2 ∧ ∃ v c u s, mat td tv tn tc tm te (clE tx L f b D N rv dm vals row).1 (clE tx L f b D N rv dm vals row).2.1 (clE tx L f b D N rv dm vals row).2.2 (clR tx L f b D N rv).2.2.2.1 v (clR tx L f b D N rv).2.2.2.2.2 c u s ∧ ∀ j, j < (clR tx L f b D N rv).2.2.2.1 → (clR tx L f b D N rv).2.2.2.2.1 j = nI (v j)))
section DCK
variable {tx rv vals row tv tc tm nv : Nat → Int32} {L f b D N s : Nat} {dm td tn te dn : Int32} {v c : Nat → Nat} {u : Nat → Int32}
theorem dc_sup (hb : b ≤ L) (hm : mat td tv tn tc tm te dm vals row D v N c u s) (hrv : ∀ j, j < D → rv j = nI (v j)) (hw : wdH tx f b = 1) {x : Nat} (hx : numR tx L (tkF tx L b) (tkB tx L (tkF tx L b)) 1 9 = some x) : dcK tx L f b D N rv dm vals row dn (some (.int 1)) (wK tx (nI L) (nI (tkF tx L (tkB tx L (tkF tx L b)))) (nI (tkB tx L (tkF tx L (tkB tx L (tkF tx L b))))) dn td tv tn tc tm (nI x) nv) := by
  have hbb := tkB_in (tx := tx) (tkF_le (tx := tx) hb)
  have hxx := numR_in hx
  refine ⟨_, _, _, _, _, _, _, _, _, tkF_le (tx := tx) hbb.2.1, rfl, rfl, ?_, ?_⟩
  · rw [clR_sup hw, hx]
  · rw [clR_sup hw, clE_sup hw, hx]
    refine Or.inr (Or.inr ⟨rfl, rfl, rfl, v, c, u, x, ?_, hrv⟩)
    show mat td tv tn tc tm (nI x) dm vals (upd row 1 (nI x)) D v N c u x
    obtain ⟨⟨h1, h2, h3, h4, h5, h6⟩, h7, h8, ⟨t1, t2, t3, t4, t5, t6, t7, t8⟩, h10, e1, e2, e3, e4⟩ := hm
    exact ⟨⟨h1, h2, h3, h4, h5, rfl⟩, h7, h8, ⟨by rw [pk_un (by omega)]; exact t1, pk_us, fun i hi => by rw [pk_un (by omega)]; exact t3 i hi, fun i hi => by rw [pk_un (by omega)]; exact t4 i hi, t5, t6, by omega, t8⟩, h10, e1, ⟨by omega, by omega⟩, e3, e4⟩
theorem dc_row (hb : b ≤ L) (hm : mat td tv tn tc tm te dm vals row D v N c u s) (hrv : ∀ j, j < D → rv j = nI (v j)) (hw : wdH tx f b = 2) (hN : ¬ N = 40) {f2 b2 cc x : Nat} (hx : rowQ tx L D (tkF tx L b) (tkB tx L (tkF tx L b)) tv = (true, f2, b2, cc, x)) : dcK tx L f b D N rv dm vals row dn (some (.int 1)) (wK tx (nI L) (nI f2) (nI b2) dn td tv (nI (N + 1)) (tIns tc N N (nI cc)) (tIns tm N N (nI x)) te nv) := by
  obtain ⟨⟨h1, h2, h3, h4, h5, h6⟩, h7, h8, ht, h10, e1, e2, e3, e4⟩ := hm
  have hrq : rowQ tx L D (tkF tx L b) (tkB tx L (tkF tx L b)) rv = (true, f2, b2, cc, x) := by
    rw [← hx]
    exact rowQ_congr (fun j hj => by rw [hrv j hj, h2 j hj])
  have hf := tkF_le (tx := tx) hb
  have hbb := tkB_in (tx := tx) hf
  have hq := hx
  unfold rowQ at hq
  have hin := rowR_b (tx := tx) (rv := tv) D 0 (tkF tx L b) (tkB tx L (tkF tx L b)) 0 hf rfl
  have hok := rowR_ok (tx := tx) (L := L) (rv := tv) (v := v) D 0 (tkF tx L b) (tkB tx L (tkF tx L b)) 0 (fun j hj => ⟨h2 j (by omega), h10.2.2 j (by omega)⟩) ⟨by decide, fun j hj => by omega⟩
  generalize hR : rowR tx L tv D 0 (tkF tx L b) (tkB tx L (tkF tx L b)) 0 = R at hin hok hq
  obtain ⟨ok, f1, b1, c1⟩ := R
  cases ok with
  | false => simp only at hq; cases hq
  | true =>
    simp only at hin hok hq
    cases hn : numR tx L f1 b1 0 99 with
    | none => rw [hn] at hq; cases hq
    | some y =>
      rw [hn] at hq
      have hy := numR_in hn
      simp only [Prod.mk.injEq, true_and] at hq
      obtain ⟨rfl, rfl, rfl, rfl⟩ := hq
      obtain ⟨k1, k2⟩ := hok trivial
      rw [Nat.zero_add] at k1 k2
      have hb1 := tkB_in (tx := tx) hin.1
      rw [← hin.2] at hb1
      refine ⟨_, _, _, _, _, _, _, _, _, tkF_le (tx := tx) hb1.2.1, rfl, rfl, ?_, ?_⟩
      · rw [clR_row hw hN, hrq]
      · rw [clR_row hw hN, clE_row hw, hrq]
        refine Or.inr (Or.inr ⟨rfl, rfl, rfl, v, exC c N c1, exC u N (nI y), s, ?_, hrv⟩)
        show mat td tv (nI (N + 1)) (tIns tc N N (nI c1)) (tIns tm N N (nI y)) te dm vals (rPut row 0 N (nI c1) (nI y)) D v (N + 1) (exC c N c1) (exC u N (nI y)) s
        exact ⟨⟨h1, h2, rfl, fun i hi => by
            unfold exC
            by_cases q : i = N
            · subst q; rw [if_pos rfl]; exact tIns_at
            · rw [if_neg q, tIns_lt (by omega)]; exact h4 i (by omega), fun i hi => by
            unfold exC
            by_cases q : i = N
            · subst q; rw [if_pos rfl]; exact tIns_at
            · rw [if_neg q, tIns_lt (by omega)]; exact h5 i (by omega), h6⟩, h7, h8, tbR_put ht (by omega) k1, h10, by omega, e2, fun i hi => by
            unfold exC
            by_cases q : i = N
            · rw [if_pos q]; exact ⟨k1, k2⟩
            · rw [if_neg q]; exact e3 i (by omega), fun i hi => by
            unfold exC
            by_cases q : i = N
            · rw [if_pos q, nI_toInt (by omega)]; omega
            · rw [if_neg q]; exact e4 i (by omega)⟩
theorem dc_tab (hb : b ≤ L) (hm : mat td tv tn tc tm te dm vals row D v N c u s) (hw : wdH tx f b = 0) {k f2 b2 : Nat} {nv2 : Nat → Int32} (hT : tabC tx L 4 0 (tkF tx L b) (tkB tx L (tkF tx L b)) nv = (k, f2, b2, nv2)) (hk : ¬ k = 0) : dcK tx L f b D N rv dm vals row dn (some (.int 1)) (wK tx (nI L) (nI f2) (nI b2) dn (nI k) nv2 0 tc tm 1 nv2) := by
  have hf := tkF_le (tx := tx) hb
  have hbb := tkB_in (tx := tx) hf
  have hin := tabC_in (tx := tx) 4 0 (tkF tx L b) (tkB tx L (tkF tx L b)) nv hf rfl
  have hr := tab_rel (tx := tx) (L := L) 4 0 (tkF tx L b) (tkB tx L (tkF tx L b)) nv rv rfl (fun j hj => by omega)
  have hi2 := tabR_in (tx := tx) (L := L) 6 0 (tkF tx L b) (tkB tx L (tkF tx L b)) rv hbb.1 hbb.2.1 (by omega) (fun j hj => by omega)
  rw [hT] at hin hr
  have hcl := clR_tab (tx := tx) (L := L) (D := D) (N := N) (rv := rv) hw
  have hce := clE_tab (tx := tx) (L := L) (D := D) (N := N) (rv := rv) (dm := dm) (vals := vals) (row := row) hw
  rw [show (4 + 2) = 6 from rfl] at hr
  generalize tabR tx L 6 0 (tkF tx L b) (tkB tx L (tkF tx L b)) rv = R at hr hcl hce hi2
  obtain ⟨ok, kR, fR, bR, rvR⟩ := R
  simp only at hr hin hcl hce hi2
  obtain ⟨rfl, rfl, rfl, hr4, hr5⟩ := hr
  refine ⟨_, _, _, _, _, _, _, _, _, hin.1, hin.2.1, rfl, ?_, ?_⟩
  · rw [hcl]; cases ok <;> rfl
  · rw [decide_eq_true hk, Bool.true_and] at hr5
    cases ok with
    | false =>
      rw [hcl]
      refine Or.inr (Or.inl ⟨rfl, rfl, ?_, ?_⟩)
      · intro q
        unfold endB at hr5
        rw [decide_eq_true q] at hr5
        cases hr5
      · intro q
        unfold endB at hr5
        rw [decide_eq_true q, Bool.or_true] at hr5
        cases hr5
    | true =>
      rw [hcl, hce]
      have hval : ∀ j, j < kR → ∃ x, 1 ≤ x ∧ x ≤ 6 ∧ rvR j = nI x := hi2.2.2.2
      have hv2 : ∀ j, ∃ x, j < kR → 1 ≤ x ∧ x ≤ 6 ∧ rvR j = nI x := fun j => by
        by_cases q : j < kR
        · obtain ⟨x, hx⟩ := hval j q
          exact ⟨x, fun _ => hx⟩
        · exact ⟨0, fun h => absurd h q⟩
      obtain ⟨v2, hv2⟩ := Classical.axiomOfChoice hv2
      refine Or.inr (Or.inr ⟨rfl, rfl, rfl, v2, c, u, 1, ?_, fun j hj => (hv2 j hj).2.2⟩)
      show mat (nI kR) nv2 0 tc tm 1 (nI kR) (vLo vals rvR kR 4) (upd (upd row 0 0) 1 1) kR v2 0 c u 1
      exact ⟨⟨rfl, fun j hj => by rw [hr4 j hj]; exact (hv2 j hj).2.2, rfl, fun i hi => by omega, fun i hi => by omega, rfl⟩, rfl, fun j hj => by
        unfold vLo
        rw [if_pos (by omega), if_pos hj]
        exact (hv2 j hj).2.2, ⟨by rw [pk_un (by omega)]; exact pk_us, pk_us, fun i hi => by omega, fun i hi => by omega, fun i hi => by omega, by omega, by omega, by omega⟩, ⟨by omega, by omega, fun j hj => ⟨(hv2 j hj).1, (hv2 j hj).2.1⟩⟩, by omega, ⟨by omega, by omega⟩, fun i hi => by omega, fun i hi => by omega⟩
end DCK
