/-! THE REFERENCE: rows of the table -/
theorem cpy_step {row : Nat → Int32} {F T k : Nat} (h : F + k < T ∨ T + k ≤ F + k) : upd (va_cpy row row F T k) (T + k) (va_cpy row row F T k (F + k)) = va_cpy row row F T (k + 1) := by
  funext j
  have e : va_cpy row row F T k (F + k) = row (F + k) := by
    unfold va_cpy
    split
    · rename_i q
      congr 1
      omega
    · rfl
  rw [e]
  unfold upd va_cpy
  by_cases hj : j = T + k
  · subst hj
    rw [if_pos rfl, if_pos (by omega)]
    congr 1
    omega
  · rw [if_neg hj]
    by_cases h2 : T ≤ j ∧ j < T + k
    · rw [if_pos h2, if_pos (by omega)]
    · rw [if_neg h2, if_neg (by omega)]
theorem cpy_0 {row : Nat → Int32} {F T : Nat} : va_cpy row row F T 0 = row := by
  funext j
  unfold va_cpy
  rw [if_neg (by omega)]
section REF2
variable {l : tg_Ln} {K : Option Value → List va_E → Prop} {row vals kp tx sz rv ct bm : Nat → Int32} {dm un len fi be rD rM cl dg nu my su le gr cz vi ov : Int32} {it : Nat → Int64} {ask : Int64}
theorem kX9_copyRow_l {F T : Nat} (hF : F + 82 ≤ 984) (hT : T + 82 ≤ 984) (hd : F + 82 ≤ T ∨ T + 82 ≤ F) (hK : K none (wM (va_cpy row row F T 82) dm vals un kp tx len sz it ask fi be rD rM cl dg nu my su le gr cz vi ov rv ct bm)) : ∀ (m k : Nat), 82 - k < m → k ≤ 82 → tg_G l mX9_copyRow 1000 K 0 0 2 [.ref 0, .int (nI F), .int (nI T), .int (nI k)] [] (wM (va_cpy row row F T k) dm vals un kp tx len sz it ask fi be rD rM cl dg nu my su le gr cz vi ov rv ct bm) := by
  intro m
  induction m with
  | zero => intro k h; omega
  | succ m ih =>
    intro k hm hk
    unfold wM at ih hK ⊢
    refine tg_go bX9_copyRow_2 ?_
    simp only [ti_iload, ti_push, List.getElem?_cons_zero, List.getElem?_cons_succ, true_and]
    refine g_icmp_ge (tgt := 30) dX9_copyRow_5 rfl (fun h5 => ?_) (fun h5 => ?_)
    · rw [fa_lit, lI_le (by omega) (by omega)] at h5
      obtain rfl : k = 82 := by omega
      refine g_vret dX9_copyRow_30 rfl ?_
      exact hK
    · rw [fa_lit, lI_le (by omega) (by omega)] at h5
      refine tg_go bX9_copyRow_8 ?_
      simp only [ti_aload, ti_getf, ti_iadd, ti_iald, ti_iast, ti_iinc, ti_iload, tg_s1, tg_cl, List.getElem?_cons_zero, List.getElem?_cons_succ, List.set_cons_zero, List.set_cons_succ, true_and]
      rw [nI_add, nI_add, nI_1, nI_clamp (by omega), nI_clamp (by omega), cpy_step (by omega)]
      refine ⟨vp_in_nI (by omega) (by omega), vp_in_nI (by omega) (by omega), ?_⟩
      refine g_goto (tgt := 2) dX9_copyRow_27 rfl ?_
      exact ih (k + 1) (by omega) (by omega)
theorem kX9_copyRow {F T : Nat} (hF : F + 82 ≤ 984) (hT : T + 82 ≤ 984) (hd : F + 82 ≤ T ∨ T + 82 ≤ F) : tg_Ct l mX9_copyRow 1000 [.ref 0, .int (nI F), .int (nI T)] (wM row dm vals un kp tx len sz it ask fi be rD rM cl dg nu my su le gr cz vi ov rv ct bm) (fun r w => r = none ∧ w = (wM (va_cpy row row F T 82) dm vals un kp tx len sz it ask fi be rD rM cl dg nu my su le gr cz vi ov rv ct bm)) := by
  show tg_G _ _ _ _ _ _ _ [.ref 0, .int (nI F), .int (nI T), .null] [] _
  unfold wM
  refine tg_go bX9_copyRow_0 ?_
  simp only [ti_istore, ti_push, tg_s1, tg_cl, List.getElem?_cons_zero, List.getElem?_cons_succ, List.set_cons_zero, List.set_cons_succ, true_and]
  have h := kX9_copyRow_l (l := l) (K := fun r w => r = none ∧ w = (wM (va_cpy row row F T 82) dm vals un kp tx len sz it ask fi be rD rM cl dg nu my su le gr cz vi ov rv ct bm)) hF hT hd ⟨rfl, rfl⟩ 83 0 (by omega) (by omega)
  rw [cpy_0] at h
  exact h
/-! put(base, code, measure) -/
def rPut (row : Nat → Int32) (B n : Nat) (c u : Int32) : Nat → Int32 := upd (upd (upd row (B + 2 + n) c) (B + 42 + n) u) B (nI (n + 1))
theorem kX9_put {B n : Nat} {c u : Int32} (hB : B + 82 ≤ 984) (hn : n < 40) (hr : row B = nI n) : tg_Ct l mX9_put 1000 [.ref 0, .int (nI B), .int c, .int u] (wM row dm vals un kp tx len sz it ask fi be rD rM cl dg nu my su le gr cz vi ov rv ct bm) (fun r w => r = none ∧ w = (wM (rPut row B n c u) dm vals un kp tx len sz it ask fi be rD rM cl dg nu my su le gr cz vi ov rv ct bm)) := by
  show tg_G _ _ _ _ _ _ _ [.ref 0, .int (nI B), .int c, .int u, .null] [] _
  unfold wM
  refine tg_go bX9_put_0 ?_
  simp only [ti_aload, ti_dup2, ti_getf, ti_iadd, ti_iald, ti_iast, ti_iload, ti_istore, ti_push, tg_s1, tg_cl, Value.category, List.getElem?_cons_zero, List.getElem?_cons_succ, List.set_cons_zero, List.set_cons_succ, true_and]
  have e0 : nI B + 0 = nI B := by rw [fa_lit, nI_add, Nat.add_zero]
  have e1 : nI B + 2 + nI n = nI (B + 2 + n) := by rw [fa_lit, nI_add, nI_add]
  have e2 : nI B + 42 + nI n = nI (B + 42 + n) := by rw [fa_lit, nI_add, nI_add]
  have e3 : upd (upd row (B + 2 + n) c) (B + 42 + n) u B = nI n := by rw [pk_un (by omega), pk_un (by omega), hr]
  rw [e0, nI_clamp (show B < 2 ^ 31 by omega), hr, e1, e2, nI_clamp (show B + 2 + n < 2 ^ 31 by omega), nI_clamp (show B + 42 + n < 2 ^ 31 by omega), e3, nI_1]
  refine ⟨vp_in_nI (by omega) (by omega), vp_in_nI (by omega) (by omega), vp_in_nI (by omega) (by omega), vp_in_nI (by omega) (by omega), vp_in_nI (by omega) (by omega), ?_⟩
  refine g_vret dX9_put_47 rfl ?_
  exact ⟨rfl, rfl⟩
/-! takeOut(base, entry) -/
def rTk (row : Nat → Int32) (B n e k : Nat) : Nat → Int32 := fun j => if j = B then nI n else if B + 2 + e ≤ j ∧ j < B + 2 + k then row (j + 1) else if B + 42 + e ≤ j ∧ j < B + 42 + k then row (j + 1) else row j
def rTake (row : Nat → Int32) (B n e : Nat) : Nat → Int32 := rTk row B (n - 1) e (n - 1)
theorem rTk_0 {row : Nat → Int32} {B n e : Nat} : upd row B (nI n) = rTk row B n e e := by
  funext j
  unfold upd rTk
  by_cases h : j = B
  · rw [if_pos h, if_pos h]
  · rw [if_neg h, if_neg h, if_neg (by omega), if_neg (by omega)]
theorem rTk_step {row : Nat → Int32} {B n e k : Nat} (h1 : e ≤ k) (h2 : k < 39) : upd (upd (rTk row B n e k) (B + 2 + k) (rTk row B n e k (B + 2 + k + 1))) (B + 42 + k) (upd (rTk row B n e k) (B + 2 + k) (rTk row B n e k (B + 2 + k + 1)) (B + 42 + k + 1)) = rTk row B n e (k + 1) := by
  have a1 : rTk row B n e k (B + 2 + k + 1) = row (B + 2 + k + 1) := by
    unfold rTk
    rw [if_neg (by omega), if_neg (by omega), if_neg (by omega)]
  have a2 : rTk row B n e k (B + 42 + k + 1) = row (B + 42 + k + 1) := by
    unfold rTk
    rw [if_neg (by omega), if_neg (by omega), if_neg (by omega)]
  rw [pk_un (by omega), a1, a2]
  funext j
  unfold upd rTk
  by_cases h3 : j = B + 42 + k
  · subst h3
    rw [if_pos rfl, if_neg (by omega), if_neg (by omega), if_pos (by omega)]
  · rw [if_neg h3]
    by_cases h4 : j = B + 2 + k
    · subst h4
      rw [if_pos rfl, if_neg (by omega), if_pos (by omega)]
    · rw [if_neg h4]
      by_cases h5 : j = B
      · rw [if_pos h5, if_pos h5]
      · rw [if_neg h5, if_neg h5]
        by_cases h6 : B + 2 + e ≤ j ∧ j < B + 2 + k
        · rw [if_pos h6, if_pos (by omega)]
        · rw [if_neg h6, if_neg (show ¬ (B + 2 + e ≤ j ∧ j < B + 2 + (k + 1)) by omega)]
          by_cases h7 : B + 42 + e ≤ j ∧ j < B + 42 + k
          · rw [if_pos h7, if_pos (by omega)]
          · rw [if_neg h7, if_neg (by omega)]
theorem kX9_takeOut_l {B n e : Nat} {x : Int32} (hB : B + 82 ≤ 984) (hn : n < 40) (hK : K none (wM (rTk row B n e n) dm vals un kp tx len sz it ask fi be rD rM cl dg nu my su le gr cz vi ov rv ct bm)) : ∀ (m k : Nat), n - k < m → k ≤ n → e ≤ k → tg_G l mX9_takeOut 1000 K 0 0 14 [.ref 0, .int (nI B), .int x, .int (nI k)] [] (wM (rTk row B n e k) dm vals un kp tx len sz it ask fi be rD rM cl dg nu my su le gr cz vi ov rv ct bm) := by
  intro m
  induction m with
  | zero => intro k h; omega
  | succ m ih =>
    intro k hm hk he
    have e0 : nI B + 0 = nI B := by rw [fa_lit, nI_add, Nat.add_zero]
    have e1 : nI B + 2 + nI k = nI (B + 2 + k) := by rw [fa_lit, nI_add, nI_add]
    have e2 : nI B + 42 + nI k = nI (B + 42 + k) := by rw [fa_lit, nI_add, nI_add]
    have e3 : rTk row B n e k B = nI n := by unfold rTk; rw [if_pos rfl]
    unfold wM at ih hK ⊢
    refine tg_go bX9_takeOut_14 ?_
    simp only [ti_aload, ti_getf, ti_iadd, ti_iald, ti_iload, ti_push, List.getElem?_cons_zero, List.getElem?_cons_succ, true_and]
    rw [e0, nI_clamp (show B < 2 ^ 31 by omega), e3]
    refine ⟨vp_in_nI (by omega) (by omega), ?_⟩
    refine g_icmp_ge (tgt := 78) dX9_takeOut_23 rfl (fun h23 => ?_) (fun h23 => ?_)
    · rw [lI_le (by omega) (by omega)] at h23
      obtain rfl : k = n := by omega
      refine g_vret dX9_takeOut_78 rfl ?_
      exact hK
    · rw [lI_le (by omega) (by omega)] at h23
      refine tg_go bX9_takeOut_26 ?_
      simp only [ti_aload, ti_getf, ti_iadd, ti_iald, ti_iast, ti_iinc, ti_iload, ti_push, tg_s1, tg_cl, List.getElem?_cons_zero, List.getElem?_cons_succ, List.set_cons_zero, List.set_cons_succ, true_and]
      rw [e1, e2, nI_1, nI_1, nI_1, nI_clamp (show B + 2 + k < 2 ^ 31 by omega), nI_clamp (show B + 42 + k < 2 ^ 31 by omega), nI_clamp (show B + 2 + k + 1 < 2 ^ 31 by omega), nI_clamp (show B + 42 + k + 1 < 2 ^ 31 by omega), rTk_step he (by omega)]
      refine ⟨vp_in_nI (by omega) (by omega), vp_in_nI (by omega) (by omega), vp_in_nI (by omega) (by omega), vp_in_nI (by omega) (by omega), ?_⟩
      refine g_goto (tgt := 14) dX9_takeOut_75 rfl ?_
      exact ih (k + 1) (by omega) (by omega) (by omega)
theorem kX9_takeOut {B n e : Nat} (hB : B + 82 ≤ 984) (hn : n ≤ 40) (hr : row B = nI n) (he : e < n) : tg_Ct l mX9_takeOut 1000 [.ref 0, .int (nI B), .int (nI e)] (wM row dm vals un kp tx len sz it ask fi be rD rM cl dg nu my su le gr cz vi ov rv ct bm) (fun r w => r = none ∧ w = (wM (rTake row B n e) dm vals un kp tx len sz it ask fi be rD rM cl dg nu my su le gr cz vi ov rv ct bm)) := by
  show tg_G _ _ _ _ _ _ _ [.ref 0, .int (nI B), .int (nI e), .null] [] _
  unfold wM
  refine tg_go bX9_takeOut_0 ?_
  simp only [ti_aload, ti_dup2, ti_getf, ti_iadd, ti_iald, ti_iast, ti_iload, ti_istore, ti_isub, ti_push, tg_s1, tg_cl, Value.category, List.getElem?_cons_zero, List.getElem?_cons_succ, List.set_cons_zero, List.set_cons_succ, true_and]
  have e0 : nI B + 0 = nI B := by rw [fa_lit, nI_add, Nat.add_zero]
  rw [e0, nI_clamp (show B < 2 ^ 31 by omega), hr, show nI n - 1 = nI (n - 1) from pk_sub (a := n) (b := 1) (by omega), rTk_0 (e := e)]
  refine ⟨vp_in_nI (by omega) (by omega), vp_in_nI (by omega) (by omega), ?_⟩
  exact kX9_takeOut_l hB (by omega) ⟨rfl, rfl⟩ (n + 1) e (by omega) (by omega) (by omega)
/-! keepPast() -/
def rShift (row : Nat → Int32) (u : Nat) : Nat → Int32 := if u = 8 then va_cpy row row 164 82 574 else row
def uShift (u : Nat) : Nat := if u = 8 then 7 else u
def rKeep (row : Nat → Int32) (u : Nat) : Nat → Int32 := va_cpy (rShift row u) (rShift row u) 0 (82 + 82 * uShift u) 82
theorem kX9_keepPast_l {P : Nat → Nat → Prop} {u : Nat} (hu : u ≤ 8) (hK : tg_G l mX9_keepPast 1000 K 0 0 43 [.ref 0, .int (nI 574)] [] (wM (va_cpy row row 164 82 574) dm vals (nI 8) kp tx len sz it ask fi be rD rM cl dg nu my su le gr cz vi ov rv ct bm)) : ∀ (m k : Nat), 574 - k < m → k ≤ 574 → tg_G l mX9_keepPast 1000 K 0 0 2 [.ref 0, .int (nI k)] [] (wM (va_cpy row row 164 82 k) dm vals (nI 8) kp tx len sz it ask fi be rD rM cl dg nu my su le gr cz vi ov rv ct bm) := by
  intro m
  induction m with
  | zero => intro k h; omega
  | succ m ih =>
    intro k hm hk
    unfold wM at ih hK ⊢
    refine tg_go bX9_keepPast_2 ?_
    simp only [ti_iload, ti_push, List.getElem?_cons_zero, List.getElem?_cons_succ, true_and]
    refine g_icmp_ge (tgt := 43) dX9_keepPast_6 rfl (fun h6 => ?_) (fun h6 => ?_)
    · rw [fa_lit, lI_le (by omega) (by omega)] at h6
      obtain rfl : k = 574 := by omega
      exact hK
    · rw [fa_lit, lI_le (by omega) (by omega)] at h6
      refine tg_go bX9_keepPast_9 ?_
      simp only [ti_aload, ti_getf, ti_push, List.getElem?_cons_zero, List.getElem?_cons_succ, true_and]
      refine g_icmp_ne (tgt := 43) dX9_keepPast_15 rfl (fun h15 => ?_) (fun h15 => ?_)
      · exact absurd rfl h15
      · refine tg_go bX9_keepPast_18 ?_
        simp only [ti_aload, ti_getf, ti_iadd, ti_iald, ti_iast, ti_iinc, ti_iload, ti_push, tg_s1, tg_cl, List.getElem?_cons_zero, List.getElem?_cons_succ, List.set_cons_zero, List.set_cons_succ, true_and]
        rw [show (82 : Int32) + nI k = nI (82 + k) from nI_add 82 k, show (164 : Int32) + nI k = nI (164 + k) from nI_add 164 k, nI_1, nI_clamp (by omega), nI_clamp (by omega), cpy_step (by omega)]
        refine ⟨vp_in_nI (by omega) (by omega), vp_in_nI (by omega) (by omega), ?_⟩
        refine g_goto (tgt := 2) dX9_keepPast_40 rfl ?_
        exact ih (k + 1) (by omega) (by omega)
theorem kX9_keepPast_e {u : Nat} {x : Int32} (hu : u ≤ 8) (row' : Nat → Int32) (hK : K none (wM (va_cpy row' row' 0 (82 + 82 * uShift u) 82) dm vals (nI (uShift u + 1)) kp tx len sz it ask fi be rD rM cl dg nu my su le gr cz vi ov rv ct bm)) : tg_G l mX9_keepPast 1000 K 0 0 43 [.ref 0, .int x] [] (wM row' dm vals (nI u) kp tx len sz it ask fi be rD rM cl dg nu my su le gr cz vi ov rv ct bm) := by
  have hs : uShift u ≤ 7 := by unfold uShift; split <;> omega
  unfold wM at hK ⊢
  refine tg_go bX9_keepPast_43 ?_
  simp only [ti_aload, ti_dup, ti_getf, ti_push, Value.category, List.getElem?_cons_zero, List.getElem?_cons_succ, true_and]
  refine g_cut2 62 (fun z => z = nI (u - uShift u)) (fun J62 => ?_) (fun z hz => ?_)
  · refine g_icmp_ne (tgt := 61) dX9_keepPast_54 rfl (fun h54 => ?_) (fun h54 => ?_)
    · refine tg_go bX9_keepPast_61 ?_
      simp only [ti_push, List.getElem?_cons_zero, List.getElem?_cons_succ, true_and]
      exact J62 _ (by
        rw [fa_lit, lI_eq (by omega) (by omega)] at h54
        unfold uShift; rw [if_neg h54, Nat.sub_self]; rfl)
    · refine tg_go bX9_keepPast_57 ?_
      simp only [ti_push, List.getElem?_cons_zero, List.getElem?_cons_succ, true_and]
      refine g_goto (tgt := 62) dX9_keepPast_58 rfl ?_
      exact J62 _ (by
        rw [fa_lit, lI_eq (by omega) (by omega)] at h54
        subst h54; rfl)
  subst hz
  refine tg_go bX9_keepPast_62 ?_
  simp only [ti_aload, ti_getf, ti_iadd, ti_imul, ti_isub, ti_push, ti_putfI, List.getElem?_cons_zero, List.getElem?_cons_succ, List.set_cons_zero, List.set_cons_succ, true_and]
  rw [pk_sub (by omega), show u - (u - uShift u) = uShift u by unfold uShift; split <;> omega, show (82 : Int32) * nI (uShift u) = nI (82 * uShift u) from pk_mul 82 _, show (82 : Int32) + nI (82 * uShift u) = nI (82 + 82 * uShift u) from nI_add 82 _]
  refine tg_cWv vX9_keepPast_78 (kX9_copyRow (F := 0) (T := 82 + 82 * uShift u) (by omega) (by omega) (by omega)) rfl rfl rfl rfl (Nat.le_of_ble_eq_true rfl) (Nat.le_of_ble_eq_true rfl) (Nat.le_of_ble_eq_true rfl) rfl ?_
  unfold wM
  refine tg_go bX9_keepPast_81 ?_
  simp only [ti_aload, ti_dup, ti_getf, ti_iadd, ti_push, ti_putfI, Value.category, List.getElem?_cons_zero, List.getElem?_cons_succ, List.set_cons_zero, List.set_cons_succ, true_and]
  rw [nI_1]
  refine g_vret dX9_keepPast_91 rfl ?_
  exact hK
theorem kX9_keepPast {u : Nat} (hu : u ≤ 8) : tg_Ct l mX9_keepPast 1000 [.ref 0] (wM row dm vals (nI u) kp tx len sz it ask fi be rD rM cl dg nu my su le gr cz vi ov rv ct bm) (fun r w => r = none ∧ w = (wM (rKeep row u) dm vals (nI (uShift u + 1)) kp tx len sz it ask fi be rD rM cl dg nu my su le gr cz vi ov rv ct bm)) := by
  by_cases h8 : u = 8
  · subst h8
    show tg_G _ _ _ _ _ _ _ [.ref 0, .null] [] _
    unfold wM
    refine tg_go bX9_keepPast_0 ?_
    simp only [ti_istore, ti_push, tg_s1, tg_cl, List.getElem?_cons_zero, List.getElem?_cons_succ, List.set_cons_zero, List.set_cons_succ, true_and]
    have h := kX9_keepPast_l (l := l) (P := fun _ _ => True) (K := fun r w => r = none ∧ w = (wM (rKeep row 8) dm vals (nI (uShift 8 + 1)) kp tx len sz it ask fi be rD rM cl dg nu my su le gr cz vi ov rv ct bm)) (u := 8) (by omega) (kX9_keepPast_e (u := 8) (by omega) (va_cpy row row 164 82 574) ⟨rfl, rfl⟩) 575 0 (by omega) (by omega)
    rw [cpy_0] at h
    exact h
  · have e1 : rShift row u = row := by unfold rShift; rw [if_neg h8]
    show tg_G _ _ _ _ _ _ _ [.ref 0, .null] [] _
    unfold wM
    refine tg_go bX9_keepPast_0 ?_
    simp only [ti_istore, ti_push, tg_s1, tg_cl, List.getElem?_cons_zero, List.getElem?_cons_succ, List.set_cons_zero, List.set_cons_succ, true_and]
    refine tg_go bX9_keepPast_2 ?_
    simp only [ti_iload, ti_push, List.getElem?_cons_zero, List.getElem?_cons_succ]
    refine g_icmp_ge (tgt := 43) dX9_keepPast_6 rfl (fun h6 => absurd h6 (by decide)) (fun h6 => ?_)
    refine tg_go bX9_keepPast_9 ?_
    simp only [ti_aload, ti_getf, ti_push, List.getElem?_cons_zero, List.getElem?_cons_succ, true_and]
    refine g_icmp_ne (tgt := 43) dX9_keepPast_15 rfl (fun h15 => ?_) (fun h15 => ?_)
    · refine kX9_keepPast_e hu row ⟨rfl, ?_⟩
      unfold rKeep
      rw [e1]
      rfl
    · rw [fa_lit, lI_eq (by omega) (by omega)] at h15
      exact absurd h15 h8
end REF2
