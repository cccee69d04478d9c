/-! THE MATHEMATICS: one entry more, one less -/
theorem gClo_congr {d : Nat} {p p' : Nat → Bool} {c c' : Nat → Nat} : ∀ n, (∀ i, i < n → p i = p' i) → (∀ i, i < n → c i = c' i) → gClo d p c n = gClo d p' c' n
  | 0, _, _ => rfl
  | n + 1, h1, h2 => by rw [gClo, gClo, gClo_congr n (fun i hi => h1 i (by omega)) (fun i hi => h2 i (by omega)), h1 n (by omega), h2 n (by omega)]
theorem smD_congr {f g : Nat → Nat} : ∀ T, (∀ t, t < T → f t = g t) → smD f T = smD g T
  | 0, _ => rfl
  | T + 1, h => by rw [smD, smD, smD_congr T (fun t ht => h t (by omega)), h T (by omega)]
theorem su_gMany {r : Nat → Bool} {F : Nat → Nat} : ∀ k, (∀ q, q < k → F q = if r q = true then 1 else 0) → suN F 0 k = gMany r k
  | 0, _ => rfl
  | k + 1, h => by rw [suN, gMany, su_gMany k (fun q hq => h q (by omega)), Nat.zero_add, h k (by omega)]
/-- cells that cover a code, by sets of dimensions -/
theorem re_idx {d e : Nat} (he : ∀ t, t < d → 1 ≤ dg t e) {p : Nat → Bool} (hp : ∀ a, a < 7 ^ d → p a = true → covR d a e = true) : gMany p (7 ^ d) = gMany (fun q => p (prQ d q e)) (2 ^ d) := by
  have h1 : suN (fun q => gMany (fun b => p b && decide (dmB d b d = q)) (7 ^ d)) 0 (2 ^ d) = gMany p (7 ^ d) := by
    rw [su_part (p := p) (f := fun b => dmB d b d)]
    refine gMany_congr (fun b hb => ?_)
    have := dmB_2 (d := d) (a := b)
    rw [decide_eq_true (by omega), Bool.and_true]
  rw [← h1]
  refine su_gMany _ (fun q hq => ?_)
  have h2 : gMany (fun b => p b && decide (dmB d b d = q)) (7 ^ d) = gMany (fun b => p (prQ d q e) && decide (prQ d q e = b)) (7 ^ d) := by
    refine gMany_congr (fun b hb => ?_)
    rw [Bool.eq_iff_iff, Bool.and_eq_true, Bool.and_eq_true, decide_eq_true_eq, decide_eq_true_eq]
    constructor
    · rintro ⟨a1, a2⟩
      have := prQ_of hb (hp b hb a1)
      rw [a2] at this
      exact ⟨by rw [← this]; exact a1, this.symm⟩
    · rintro ⟨a1, rfl⟩
      exact ⟨a1, prQ_dm hq he⟩
  rw [h2]
  cases hpw : p (prQ d q e) with
  | false =>
    rw [if_neg (by decide)]
    exact (gMany_0 _).mpr (fun b hb => rfl)
  | true =>
    simp only [Bool.true_and]
    rw [gMany_one, if_pos prQ_lt, if_pos trivial]
section MORE
variable {d n s e : Nat} {v c : Nat → Nat} {u u' : Nat → Int32}
theorem ex_many (a : Nat) : gMany (cvP d (exC c n e) a) (n + 1) = gMany (cvP d c a) n + if covR d a e = true then 1 else 0 := by
  rw [gMany]
  congr 1
  · refine gMany_congr (fun i hi => ?_)
    unfold cvP exC
    rw [if_neg (by omega)]
  · unfold cvP exC
    rw [if_pos rfl]
theorem ex_out {a : Nat} (h : covR d a e = false) : cuB d (n + 1) s (exC c n e) a = cuB d n s c a := by
  have h1 : cvP d (exC c n e) a n = false := by
    unfold cvP exC
    rw [if_pos rfl]
    exact h
  have h2 : gMany (cvP d (exC c n e) a) (n + 1) = gMany (cvP d c a) n := by rw [ex_many, h, if_neg (by decide)]; rfl
  unfold cuB clD
  rw [h2, gClo, h1, if_neg (by decide), gClo_congr (p' := cvP d c a) (c' := c) n (fun i hi => by unfold cvP exC; rw [if_neg (by omega)]) (fun i hi => by unfold exC; rw [if_neg (by omega)])]
theorem ex_in (hE' : eOK d v (n + 1) (exC c n e) u' s) {a : Nat} (h : covR d a e = true) : cuB d (n + 1) s (exC c n e) a = (decide (s ≤ gMany (cvP d c a) n + 1) && decide (smD (shF c n (cvP d c a) e) d = a)) := by
  have h1 : cvP d (exC c n e) a n = true := by
    unfold cvP exC
    rw [if_pos rfl]
    exact h
  have hcn : exC c n e n = e := by unfold exC; rw [if_pos rfl]
  have h2 := sh_gClo (p := cvP d (exC c n e) a) (cOK_of hE') (i := n) (by omega) h1
  rw [hcn] at h2
  have h3 : smD (shF (exC c n e) (n + 1) (cvP d (exC c n e) a) e) d = smD (shF c n (cvP d c a) e) d := by
    refine smD_congr d (fun t ht => ?_)
    unfold shF
    have e1 : alB (exC c n e) (n + 1) (cvP d (exC c n e) a) t (dg t e) = alB c n (cvP d c a) t (dg t e) := by
      unfold alB
      rw [allB, hcn, decide_eq_true rfl, Bool.or_true, Bool.and_true]
      refine allB_congr n (fun i hi => ?_)
      unfold cvP exC
      rw [if_neg (by omega)]
    rw [e1]
  unfold cuB clD
  rw [ex_many, h, if_pos rfl, h2, h3, Bool.and_comm]
  congr 1
  exact decide_eq_decide.mpr ⟨fun q => Option.some.inj q, fun q => by rw [q]⟩
theorem sh_self (hE : eOK d v n c u s) (he : ∀ t, t < d → 1 ≤ dg t e) {a : Nat} (ha : a < 7 ^ d) (h : covR d a e = true) (hg : gClo d (cvP d c a) c n = some a) : smD (shF c n (cvP d c a) e) d = a := by
  obtain ⟨-, -, h2⟩ := gClo_is n a (cOK_of hE) hg
  rw [covR_iff] at h
  refine dg_ext d _ _ (smD_lt shF_lt d) ha (fun t ht => ?_)
  rw [smD_dg shF_lt d t ht]
  unfold shF
  have h1 := he t ht
  have h3 := h2 t ht (dg t e) h1
  rw [← alB_iff] at h3
  by_cases hal : alB c n (cvP d c a) t (dg t e) = true
  · rw [if_pos ⟨by omega, hal⟩]
    exact (h3.mpr hal).symm
  · rw [if_neg (fun z => hal z.2)]
    rcases h t ht with q | q
    · exact q.symm
    · exact absurd (h3.mp q) hal
theorem more_eq (hE : eOK d v n c u s) (hE' : eOK d v (n + 1) (exC c n e) u' s) : gMany (fun a => inCu d v (n + 1) (exC c n e) s a && !inCu d v n c s a) (7 ^ d) = gMany (gnB d n s c e) (2 ^ d) ∧ gMany (inCu d v (n + 1) (exC c n e) s) (7 ^ d) = gMany (inCu d v n c s) (7 ^ d) + gMany (gnB d n s c e) (2 ^ d) := by
  have hen : exC c n e n = e := by unfold exC; rw [if_pos rfl]
  have he : ∀ t, t < d → 1 ≤ dg t e := fun t ht => by
    have := (cOK_of hE' n (by omega)).2 t ht
    rw [hen] at this
    exact this
  have hiii : ∀ a, a < 7 ^ d → inCu d v n c s a = true → inCu d v (n + 1) (exC c n e) s a = true := fun a ha h => by
    rw [inCu_eq hE] at h
    rw [inCu_eq hE']
    cases hcov : covR d a e with
    | false => rw [ex_out hcov]; exact h
    | true =>
      rw [ex_in hE' hcov]
      unfold cuB clD at h
      rw [Bool.and_eq_true, decide_eq_true_eq, decide_eq_true_eq] at h
      rw [decide_eq_true (by omega), decide_eq_true (sh_self hE he ha hcov h.1)]
      rfl
  have h1 : gMany (fun a => inCu d v (n + 1) (exC c n e) s a && !inCu d v n c s a) (7 ^ d) = gMany (gnB d n s c e) (2 ^ d) := by
    rw [re_idx he (p := fun a => inCu d v (n + 1) (exC c n e) s a && !inCu d v n c s a) (fun a ha h => by
      cases hcov : covR d a e with
      | true => rfl
      | false =>
        rw [inCu_eq hE', inCu_eq hE, ex_out hcov, Bool.and_not_self] at h
        cases h)]
    refine gMany_congr (fun q hq => ?_)
    rw [inCu_eq hE', inCu_eq hE, ex_in hE' prQ_cov]
    unfold gnB inQ cuB clD
    rw [Bool.and_comm (decide (gClo d (cvP d c (prQ d q e)) c n = some (prQ d q e)))]
    rfl
  refine ⟨h1, ?_⟩
  rw [← h1]
  refine gMany_split _ (fun a ha => ?_)
  cases h2 : inCu d v n c s a with
  | true => rw [hiii a ha h2]; rfl
  | false => cases inCu d v (n + 1) (exC c n e) s a <;> rfl
end MORE
section LESS
variable {d n s e : Nat} {v c : Nat → Nat} {u u' : Nat → Int32}
def skp (e i : Nat) : Nat := if i < e then i else i + 1
theorem del_skp {α : Type} {c : Nat → α} {i : Nat} : delC c e i = c (skp e i) := by
  unfold delC skp
  by_cases h : i < e
  · rw [if_pos h, if_pos h]
  · rw [if_neg h, if_neg h]
theorem del_many {p : Nat → Bool} : ∀ m, gMany (fun i => p (skp e i)) (e + m) = gMany (fun i => p i && !decide (i = e)) (e + 1 + m)
  | 0 => by
    rw [Nat.add_zero, Nat.add_zero, gMany, decide_eq_true rfl, Bool.not_true, Bool.and_false, if_neg (by decide), Nat.add_zero]
    refine gMany_congr (fun i hi => ?_)
    unfold skp
    rw [if_pos hi, decide_eq_false (by omega), Bool.not_false, Bool.and_true]
  | m + 1 => by
    rw [show e + (m + 1) = e + m + 1 by omega, show e + 1 + (m + 1) = e + 1 + m + 1 by omega, gMany, gMany, del_many m]
    congr 1
    have e1 : skp e (e + m) = e + 1 + m := by unfold skp; rw [if_neg (by omega)]; omega
    show (if p (skp e (e + m)) = true then 1 else 0) = (if (p (e + 1 + m) && !decide (e + 1 + m = e)) = true then 1 else 0)
    rw [e1, decide_eq_false (show ¬ e + 1 + m = e by omega), Bool.not_false, Bool.and_true]
theorem del_clo (hE : eOK d v n c u s) (hE' : eOK d v (n - 1) (delC c e) u' s) (he : e < n) (a : Nat) : gClo d (cvP d (delC c e) a) (delC c e) (n - 1) = gClo d (fun i => cvP d c a i && !decide (i = e)) c n := by
  have hiff : ∀ x, isClo d (cvP d (delC c e) a) (delC c e) (n - 1) x ↔ isClo d (fun i => cvP d c a i && !decide (i = e)) c n x := by
    intro x
    have key : ∀ Q : Nat → Prop, (∀ i, i < n - 1 → cvP d (delC c e) a i = true → Q (skp e i)) ↔ (∀ i, i < n → (cvP d c a i && !decide (i = e)) = true → Q i) := by
      intro Q
      constructor
      · intro h i hi hp
        rw [Bool.and_eq_true, Bool.not_eq_true', decide_eq_false_iff_not] at hp
        by_cases q : i < e
        · have h1 := h i (by omega) (by unfold cvP; rw [del_skp]; unfold skp; rw [if_pos q]; exact hp.1)
          unfold skp at h1
          rw [if_pos q] at h1
          exact h1
        · have e1 : skp e (i - 1) = i := by unfold skp; rw [if_neg (by omega)]; omega
          have h1 := h (i - 1) (by omega) (by unfold cvP; rw [del_skp, e1]; exact hp.1)
          rw [e1] at h1
          exact h1
      · intro h i hi hp
        refine h (skp e i) (by unfold skp; split <;> omega) ?_
        rw [Bool.and_eq_true, Bool.not_eq_true', decide_eq_false_iff_not]
        refine ⟨?_, by unfold skp; split <;> omega⟩
        unfold cvP at hp
        rw [del_skp] at hp
        exact hp
    unfold isClo
    have hex : (∃ i, i < n - 1 ∧ cvP d (delC c e) a i = true) ↔ (∃ i, i < n ∧ (cvP d c a i && !decide (i = e)) = true) := by
      have := not_congr (key (fun _ => False))
      constructor
      · rintro ⟨i, h1, h2⟩
        exact Classical.byContradiction fun z => (key (fun _ => False)).mpr (fun j hj hp => z ⟨j, hj, hp⟩) i h1 h2
      · rintro ⟨i, h1, h2⟩
        exact Classical.byContradiction fun z => (key (fun _ => False)).mp (fun j hj hp => z ⟨j, hj, hp⟩) i h1 h2
    rw [hex]
    refine and_congr Iff.rfl (and_congr Iff.rfl (forall_congr' fun t => forall_congr' fun _ => forall_congr' fun f => forall_congr' fun _ => ?_))
    have h2 := key (fun i => dg t (c i) = f)
    have h3 : (∀ i, i < n - 1 → cvP d (delC c e) a i = true → dg t (delC c e i) = f) ↔ (∀ i, i < n - 1 → cvP d (delC c e) a i = true → dg t (c (skp e i)) = f) := by
      constructor
      · intro h i hi hp; rw [← del_skp (c := c)]; exact h i hi hp
      · intro h i hi hp; rw [del_skp]; exact h i hi hp
    rw [h3, h2]
  have hc := cOK_of hE
  have hc' := cOK_of hE'
  cases h1 : gClo d (cvP d (delC c e) a) (delC c e) (n - 1) with
  | some x => exact ((gClo_iff hc).mpr ((hiff x).mp ((gClo_iff hc').mp h1))).symm
  | none =>
    cases h2 : gClo d (fun i => cvP d c a i && !decide (i = e)) c n with
    | none => rfl
    | some x =>
      have := (gClo_iff hc').mpr ((hiff x).mpr ((gClo_iff hc).mp h2))
      rw [h1] at this
      cases this
theorem del_cu (hE : eOK d v n c u s) (hE' : eOK d v (n - 1) (delC c e) u' s) (he : e < n) (a : Nat) : cuB d (n - 1) s (delC c e) a = inQ d n s c a (fun i => cvP d c a i && !decide (i = e)) := by
  have h1 : gMany (cvP d (delC c e) a) (n - 1) = gMany (fun i => cvP d c a i && !decide (i = e)) n := by
    have h := del_many (e := e) (p := cvP d c a) (n - 1 - e)
    rw [show e + (n - 1 - e) = n - 1 by omega, show e + 1 + (n - 1 - e) = n by omega] at h
    rw [← h]
    refine gMany_congr (fun i hi => ?_)
    unfold cvP
    rw [del_skp]
  unfold cuB clD inQ
  rw [h1, del_clo hE hE' he, Bool.and_comm]
theorem in_cu (a : Nat) : inQ d n s c a (cvP d c a) = cuB d n s c a := by
  unfold cuB clD inQ
  rw [Bool.and_comm]
theorem less_eq (hE : eOK d v n c u s) (hE' : eOK d v (n - 1) (delC c e) u' s) (he : e < n) : gMany (fun a => inCu d v n c s a && !inCu d v (n - 1) (delC c e) s a) (7 ^ d) = gMany (lsB d n s c e) (2 ^ d) ∧ gMany (inCu d v n c s) (7 ^ d) = gMany (inCu d v (n - 1) (delC c e) s) (7 ^ d) + gMany (lsB d n s c e) (2 ^ d) := by
  have hc := cOK_of hE
  have hce := (hc e he).2
  have hout : ∀ a, covR d a (c e) = false → inCu d v (n - 1) (delC c e) s a = inCu d v n c s a := fun a h => by
    rw [inCu_eq hE', inCu_eq hE, del_cu hE hE' he, ← in_cu]
    have e1 : ∀ i, i < n → (cvP d c a i && !decide (i = e)) = cvP d c a i := fun i hi => by
      by_cases q : i = e
      · subst q
        rw [show cvP d c a i = false from h]; rfl
      · rw [decide_eq_false q, Bool.not_false, Bool.and_true]
    unfold inQ
    rw [gMany_congr e1, gClo_congr n e1 (fun _ _ => rfl)]
  have hiii : ∀ a, inCu d v (n - 1) (delC c e) s a = true → inCu d v n c s a = true := fun a h => by
    cases hcov : covR d a (c e) with
    | false => rw [← hout a hcov]; exact h
    | true =>
      rw [inCu_eq hE', del_cu hE hE' he] at h
      rw [inCu_eq hE, ← in_cu]
      unfold inQ at h ⊢
      rw [Bool.and_eq_true, decide_eq_true_eq, decide_eq_true_eq] at h ⊢
      obtain ⟨h1, h2⟩ := h
      have hle := (gMany_imp (p := fun i => cvP d c a i && !decide (i = e)) (q := cvP d c a) n (fun i hi hp => by rw [Bool.and_eq_true] at hp; exact hp.1)).1
      refine ⟨by omega, ?_⟩
      obtain ⟨g1, ⟨i, hi, hp⟩, g3⟩ := (gClo_iff hc).mp h2
      refine (gClo_iff hc).mpr ⟨g1, ⟨e, he, hcov⟩, fun t ht f hf => ?_⟩
      rw [g3 t ht f hf]
      rw [covR_iff] at hcov
      constructor
      · intro hall j hj hpj
        by_cases q : j = e
        · subst q
          have hdg := (g3 t ht f hf).mpr hall
          rcases hcov t ht with z | z
          · omega
          · rw [← z]; exact hdg
        · exact hall j hj (by show (cvP d c a j && !decide (j = e)) = true; rw [hpj, decide_eq_false q]; rfl)
      · intro hall j hj hpj
        rw [Bool.and_eq_true] at hpj
        exact hall j hj hpj.1
  have h1 : gMany (fun a => inCu d v n c s a && !inCu d v (n - 1) (delC c e) s a) (7 ^ d) = gMany (lsB d n s c e) (2 ^ d) := by
    rw [re_idx hce (p := fun a => inCu d v n c s a && !inCu d v (n - 1) (delC c e) s a) (fun a ha h => by
      cases hcov : covR d a (c e) with
      | true => rfl
      | false =>
        rw [hout a hcov, Bool.and_not_self] at h
        cases h)]
    refine gMany_congr (fun q hq => ?_)
    rw [inCu_eq hE', inCu_eq hE, del_cu hE hE' he, ← in_cu]
    rfl
  refine ⟨h1, ?_⟩
  rw [← h1]
  refine gMany_split _ (fun a ha => ?_)
  cases h2 : inCu d v (n - 1) (delC c e) s a with
  | true => rw [hiii a h2]; rfl
  | false => cases inCu d v n c s a <;> rfl
end LESS
