/-! THE REFERENCE: cells and what they gather -/
theorem comR_lt : ∀ (d x y : Nat), comR d x y < 7 ^ d
  | 0, _, _ => by simp [comR]
  | d + 1, x, y => by
    have h := comR_lt d (x / 7) (y / 7)
    rw [comR, Nat.pow_succ]
    split <;> omega
def gMany (p : Nat → Bool) : Nat → Nat
  | 0 => 0
  | n + 1 => gMany p n + (if p n = true then 1 else 0)
def gSum (p : Nat → Bool) (u : Nat → Int32) : Nat → Int32
  | 0 => 0
  | n + 1 => if p n = true then gSum p u n + u n else gSum p u n
def gMin (p : Nat → Bool) (u : Nat → Int32) : Nat → Int32
  | 0 => 999999
  | n + 1 => if p n = true then (if u n < gMin p u n then u n else gMin p u n) else gMin p u n
def gMax (p : Nat → Bool) (u : Nat → Int32) : Nat → Int32
  | 0 => -999999
  | n + 1 => if p n = true then (if gMax p u n < u n then u n else gMax p u n) else gMax p u n
def gClo (d : Nat) (p : Nat → Bool) (c : Nat → Nat) : Nat → Option Nat
  | 0 => none
  | n + 1 => if p n = true then (match gClo d p c n with
    | none => some (c n)
    | some x => some (comR d x (c n))) else gClo d p c n
def oI : Option Nat → Int32
  | none => -1
  | some x => nI x
theorem gMany_le (p : Nat → Bool) : ∀ n, gMany p n ≤ n
  | 0 => Nat.le_refl 0
  | n + 1 => by
    have := gMany_le p n
    rw [gMany]
    split <;> omega
theorem gClo_lt {d : Nat} {p : Nat → Bool} {c : Nat → Nat} : ∀ (n : Nat), (∀ i, i < n → c i < 7 ^ d) → ∀ x, gClo d p c n = some x → x < 7 ^ d
  | 0, _, x, h => by simp [gClo] at h
  | n + 1, hc, x, h => by
    have ih := gClo_lt (p := p) n (fun i hi => hc i (by omega))
    rw [gClo] at h
    split at h
    · split at h
      · cases h
        exact hc n (by omega)
      · cases h
        exact comR_lt _ _ _
    · exact ih x h
section REF3
variable {l : tg_Ln} {K : Option Value → List va_E → Prop} {row vals kp tx sz rv ct bm : Nat → Int32} {dm un len fi be rD rM cl dg nu my su le gr cz vi ov : Int32} {it : Nat → Int64} {ask : Int64}
theorem kX9_common' {d a b : Nat} {p q : Int32} (hd : d ≤ 4) (hp : p = nI a) (hq : q = nI b) (ha : a < 2 ^ 31) (hb : b < 2 ^ 31) : tg_Ct l mX9_common 1000 [.ref 0, .int p, .int q] (wM row (nI d) vals un kp tx len sz it ask fi be rD rM cl dg nu my su le gr cz vi ov rv ct bm) (fun r w => r = some (.int (nI (comR d a b))) ∧ w = (wM row (nI d) vals un kp tx len sz it ask fi be rD rM cl dg nu my su le gr cz vi ov rv ct bm)) := by
  subst hp hq
  exact kX9_common hd ha hb
theorem kX9_gather_l {d B n a : Nat} {c : Nat → Nat} {u : Nat → Int32} (hd : d ≤ 4) (hB : B + 82 ≤ 984) (hn : n ≤ 40) (hr : row B = nI n) (hc : ∀ i, i < n → row (B + 2 + i) = nI (c i)) (hu : ∀ i, i < n → row (B + 42 + i) = u i) (hl : ∀ i, i < n → c i < 7 ^ d) (ha : a < 2 ^ 31)
    (hK : K none (wM row (nI d) vals un kp tx len sz it ask fi be rD rM cl dg nu (nI (gMany (fun i => covR d a (c i)) n)) (gSum (fun i => covR d a (c i)) u n) (gMin (fun i => covR d a (c i)) u n) (gMax (fun i => covR d a (c i)) u n) (oI (gClo d (fun i => covR d a (c i)) c n)) vi ov rv ct bm)) :
    ∀ (m i : Nat) (x4 x5 : Value), n - i < m → i ≤ n → tg_G l mX9_gather 1000 K 0 0 29 [.ref 0, .int (nI B), .int (nI a), .int (nI i), x4, x5] [] (wM row (nI d) vals un kp tx len sz it ask fi be rD rM cl dg nu (nI (gMany (fun i => covR d a (c i)) i)) (gSum (fun i => covR d a (c i)) u i) (gMin (fun i => covR d a (c i)) u i) (gMax (fun i => covR d a (c i)) u i) (oI (gClo d (fun i => covR d a (c i)) c i)) vi ov rv ct bm) := by
  have hp7 : 7 ^ d ≤ 7 ^ 4 := Nat.pow_le_pow_right (by decide) hd
  intro m
  induction m with
  | zero => intro i x4 x5 h; omega
  | succ m ih =>
    intro i x4 x5 hm hi
    have e0 : nI B + 0 = nI B := by rw [fa_lit, nI_add, Nat.add_zero]
    have e1 : nI B + 2 + nI i = nI (B + 2 + i) := by rw [fa_lit, nI_add, nI_add]
    have e2 : nI B + 42 + nI i = nI (B + 42 + i) := by rw [fa_lit, nI_add, nI_add]
    unfold wM at ih hK ⊢
    refine tg_go bX9_gather_29 ?_
    simp only [ti_aload, ti_getf, ti_iadd, ti_iald, ti_iload, ti_push, List.getElem?_cons_zero, List.getElem?_cons_succ, true_and]
    rw [e0, nI_clamp (show B < 2 ^ 31 by omega), hr]
    refine ⟨vp_in_nI (by omega) (by omega), ?_⟩
    refine g_icmp_ge (tgt := 174) dX9_gather_38 rfl (fun h38 => ?_) (fun h38 => ?_)
    · rw [lI_le (by omega) (by omega)] at h38
      obtain rfl : i = n := by omega
      refine g_vret dX9_gather_174 rfl ?_
      exact hK
    · rw [lI_le (by omega) (by omega)] at h38
      have hci := hc i (by omega)
      have hui := hu i (by omega)
      have hli := hl i (by omega)
      refine tg_go bX9_gather_41 ?_
      simp only [ti_aload, ti_getf, ti_iadd, ti_iald, ti_iload, ti_istore, ti_push, tg_s1, tg_cl, List.getElem?_cons_zero, List.getElem?_cons_succ, List.set_cons_zero, List.set_cons_succ, true_and]
      rw [e1, nI_clamp (show B + 2 + i < 2 ^ 31 by omega), hci]
      refine ⟨vp_in_nI (by omega) (by omega), ?_⟩
      refine tg_cW vX9_gather_57 (kX9_covers hd ha (show c i < 2 ^ 31 by omega)) rfl rfl rfl rfl (Nat.le_of_ble_eq_true rfl) (Nat.le_of_ble_eq_true rfl) (Nat.le_of_ble_eq_true rfl) rfl ?_
      unfold wM
      refine g_if_eq (tgt := 168) dX9_gather_60 rfl (fun h60 => ?_) (fun h60 => ?_)
      · have hp := bZ_0 h60
        refine tg_go bX9_gather_168 ?_
        simp only [ti_iinc, tg_s1, tg_cl, List.getElem?_cons_zero, List.getElem?_cons_succ, List.set_cons_zero, List.set_cons_succ, true_and]
        rw [nI_1]
        refine g_goto (tgt := 29) dX9_gather_171 rfl ?_
        have h2 := ih (i + 1) (.int (nI (c i))) x5 (by omega) (by omega)
        rw [gMany, gSum, gMin, gMax, gClo] at h2
        simp only [hp, Bool.false_eq_true, if_false, Nat.add_zero] at h2
        exact h2
      · have hp := bZ_n h60
        refine tg_go bX9_gather_63 ?_
        simp only [ti_aload, ti_dup, ti_getf, ti_iadd, ti_iald, ti_iload, ti_istore, ti_push, ti_putfI, tg_s1, tg_cl, Value.category, List.getElem?_cons_zero, List.getElem?_cons_succ, List.set_cons_zero, List.set_cons_succ, true_and]
        rw [e2, nI_clamp (show B + 42 + i < 2 ^ 31 by omega), hui]
        refine ⟨vp_in_nI (by omega) (by omega), ?_⟩
        refine g_cut2 116 (fun z => z = if u i < gMin (fun i => covR d a (c i)) u i then u i else gMin (fun i => covR d a (c i)) u i) (fun J116 => ?_) (fun z hz => ?_)
        · refine g_icmp_ge (tgt := 112) dX9_gather_104 rfl (fun h104 => ?_) (fun h104 => ?_)
          · refine tg_go bX9_gather_112 ?_
            simp only [ti_aload, ti_getf, List.getElem?_cons_zero, List.getElem?_cons_succ, true_and]
            exact J116 _ (by rw [if_neg (Int32.not_lt.mpr h104)])
          · refine tg_go bX9_gather_107 ?_
            simp only [ti_iload, List.getElem?_cons_zero, List.getElem?_cons_succ, true_and]
            refine g_goto (tgt := 116) dX9_gather_109 rfl ?_
            exact J116 _ (by rw [if_pos (Int32.not_le.mp h104)])
        subst hz
        refine tg_go bX9_gather_116 ?_
        simp only [ti_aload, ti_getf, ti_iload, ti_putfI, List.getElem?_cons_zero, List.getElem?_cons_succ, List.set_cons_zero, List.set_cons_succ, true_and]
        refine g_cut2 138 (fun z => z = if gMax (fun i => covR d a (c i)) u i < u i then u i else gMax (fun i => covR d a (c i)) u i) (fun J138 => ?_) (fun z hz => ?_)
        · refine g_icmp_le (tgt := 134) dX9_gather_126 rfl (fun h126 => ?_) (fun h126 => ?_)
          · refine tg_go bX9_gather_134 ?_
            simp only [ti_aload, ti_getf, List.getElem?_cons_zero, List.getElem?_cons_succ, true_and]
            exact J138 _ (by rw [if_neg (Int32.not_lt.mpr h126)])
          · refine tg_go bX9_gather_129 ?_
            simp only [ti_iload, List.getElem?_cons_zero, List.getElem?_cons_succ, true_and]
            refine g_goto (tgt := 138) dX9_gather_131 rfl ?_
            exact J138 _ (by rw [if_pos (Int32.not_le.mp h126)])
        subst hz
        refine tg_go bX9_gather_138 ?_
        simp only [ti_aload, ti_getf, ti_push, ti_putfI, List.getElem?_cons_zero, List.getElem?_cons_succ, List.set_cons_zero, List.set_cons_succ, true_and]
        refine g_cut2 165 (fun z => z = oI (gClo d (fun i => covR d a (c i)) c (i + 1))) (fun J165 => ?_) (fun z hz => ?_)
        · refine g_icmp_ne (tgt := 155) dX9_gather_147 rfl (fun h147 => ?_) (fun h147 => ?_)
          · obtain ⟨x, hq⟩ : ∃ x, gClo d (fun i => covR d a (c i)) c i = some x := by
              cases hq : gClo d (fun i => covR d a (c i)) c i with
              | none => rw [hq] at h147; exact absurd rfl h147
              | some x => exact ⟨x, rfl⟩
            have hx := gClo_lt i (fun j hj => hl j (by omega)) x hq
            refine tg_go bX9_gather_155 ?_
            simp only [ti_aload, ti_getf, ti_iload, List.getElem?_cons_zero, List.getElem?_cons_succ, true_and]
            refine tg_cW vX9_gather_162 (kX9_common' (a := x) hd (by rw [hq]; rfl) rfl (show x < 2 ^ 31 by omega) (show c i < 2 ^ 31 by omega)) rfl rfl rfl rfl (Nat.le_of_ble_eq_true rfl) (Nat.le_of_ble_eq_true rfl) (Nat.le_of_ble_eq_true rfl) rfl ?_
            unfold wM
            exact J165 _ (by rw [gClo, if_pos hp, hq]; rfl)
          · refine tg_go bX9_gather_150 ?_
            simp only [ti_iload, List.getElem?_cons_zero, List.getElem?_cons_succ, true_and]
            refine g_goto (tgt := 165) dX9_gather_152 rfl ?_
            exact J165 _ (by
              cases hq : gClo d (fun i => covR d a (c i)) c i with
              | none => rw [gClo, if_pos hp, hq]; rfl
              | some x =>
                rw [hq] at h147
                have hx := gClo_lt i (fun j hj => hl j (by omega)) x hq
                exact absurd h147 (fun q => by
                  have q2 : nI x = -1 := q
                  have := nI_pos (n := x) (by omega)
                  rw [q2] at this
                  exact this (by decide)))
        subst hz
        refine tg_go bX9_gather_165 ?_
        simp only [ti_putfI, List.getElem?_cons_zero, List.getElem?_cons_succ, List.set_cons_zero, List.set_cons_succ, true_and]
        refine tg_go bX9_gather_168 ?_
        simp only [ti_iinc, tg_s1, tg_cl, List.getElem?_cons_zero, List.getElem?_cons_succ, List.set_cons_zero, List.set_cons_succ, true_and]
        rw [nI_1]
        refine g_goto (tgt := 29) dX9_gather_171 rfl ?_
        have h2 := ih (i + 1) (.int (nI (c i))) (.int (u i)) (by omega) (by omega)
        rw [gMany, gSum, gMin, gMax] at h2
        simp only [hp, if_true] at h2
        rw [← nI_1 (gMany (fun i => covR d a (c i)) i)] at h2
        exact h2
theorem kX9_gather {d B n a : Nat} {c : Nat → Nat} {u : Nat → Int32} (hd : d ≤ 4) (hB : B + 82 ≤ 984) (hn : n ≤ 40) (hr : row B = nI n) (hc : ∀ i, i < n → row (B + 2 + i) = nI (c i)) (hu : ∀ i, i < n → row (B + 42 + i) = u i) (hl : ∀ i, i < n → c i < 7 ^ d) (ha : a < 2 ^ 31) : tg_Ct l mX9_gather 1000 [.ref 0, .int (nI B), .int (nI a)] (wM row (nI d) vals un kp tx len sz it ask fi be rD rM cl dg nu my su le gr cz vi ov rv ct bm) (fun r w => r = none ∧ w = (wM row (nI d) vals un kp tx len sz it ask fi be rD rM cl dg nu (nI (gMany (fun i => covR d a (c i)) n)) (gSum (fun i => covR d a (c i)) u n) (gMin (fun i => covR d a (c i)) u n) (gMax (fun i => covR d a (c i)) u n) (oI (gClo d (fun i => covR d a (c i)) c n)) vi ov rv ct bm)) := by
  show tg_G _ _ _ _ _ _ _ [.ref 0, .int (nI B), .int (nI a), .null, .null, .null] [] _
  unfold wM
  refine tg_go bX9_gather_0 ?_
  simp only [ti_aload, ti_istore, ti_push, ti_putfI, tg_s1, tg_cl, List.getElem?_cons_zero, List.getElem?_cons_succ, List.set_cons_zero, List.set_cons_succ, true_and]
  exact kX9_gather_l hd hB hn hr hc hu hl ha ⟨rfl, rfl⟩ (n + 1) 0 .null .null (by omega) (by omega)
end REF3
