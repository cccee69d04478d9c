/-! THE CLASS: Text -/
def wX (tx : Nat → Int32) (len ts tb : Int32) : List va_E := [.inr (6, [.ref 1, .int len, .int ts, .int tb]), .inl (2, 200, .inl tx)]
theorem sb_len : ∀ i, i < 4 → tg_sl.getD i 0 = (tg_sb.getD i []).length := by
  intro i hi
  rcases (show i = 0 ∨ i = 1 ∨ i = 2 ∨ i = 3 by omega) with rfl | rfl | rfl | rfl <;> rfl
section TEXT
variable {l : tg_Ln} {K : Option Value → List va_E → Prop} {tx : Nat → Int32} {len ts tb : Int32} {L f b n i : Nat}
theorem kX7_append_t {x : Int32} (hn : n < 200) (hx : vp_nar .char x = x) : tg_Ct l mX7_append 1000 [.ref 0, .int x] (wX tx (nI n) ts tb) (fun r w => r = some (.int 1) ∧ w = (wX (upd tx n x) (nI (n + 1)) ts tb)) := by
  show tg_G _ _ _ _ _ _ _ [.ref 0, .int x] [] _
  unfold wX
  refine tg_go bX7_append_0 ?_
  simp only [ti_aload, ti_getf, ti_push, List.getElem?_cons_zero, List.getElem?_cons_succ, true_and]
  refine g_icmp_lt (tgt := 12) dX7_append_7 rfl (fun h7 => ?_) (fun h7 => ?_)
  · refine tg_go bX7_append_12 ?_
    simp only [ti_aload, ti_cast, ti_dup, ti_getf, ti_iadd, ti_iload, ti_push, ti_putfI, Value.category, List.getElem?_cons_zero, List.getElem?_cons_succ, List.set_cons_zero, List.set_cons_succ, true_and]
    rw [nI_1, nI_clamp (by omega)]
    refine ⟨vp_in_nI (by omega) (by omega), hx, ?_⟩
    refine g_zret dX7_append_33 rfl (by first | exact Or.inl rfl | exact Or.inr rfl | assumption) ?_
    exact ⟨rfl, rfl⟩
  · rw [fa_lit, lI_lt (by omega) (by omega)] at h7; omega
theorem kX7_append_f {x : Int32} : tg_Ct l mX7_append 1000 [.ref 0, .int x] (wX tx (nI 200) ts tb) (fun r w => r = some (.int 0) ∧ w = (wX tx (nI 200) ts tb)) := by
  show tg_G _ _ _ _ _ _ _ [.ref 0, .int x] [] _
  unfold wX
  refine tg_go bX7_append_0 ?_
  simp only [ti_aload, ti_getf, ti_push, List.getElem?_cons_zero, List.getElem?_cons_succ, true_and]
  refine g_icmp_lt (tgt := 12) dX7_append_7 rfl (fun h7 => ?_) (fun h7 => ?_)
  · exact absurd h7 (by decide)
  · refine tg_go bX7_append_10 ?_
    simp only [ti_push, List.getElem?_cons_zero, List.getElem?_cons_succ, true_and]
    refine g_zret dX7_append_11 rfl (by first | exact Or.inl rfl | exact Or.inr rfl | assumption) ?_
    exact ⟨rfl, rfl⟩
theorem kX7_rewind : tg_Ct l mX7_rewind 1000 [.ref 0] (wX tx len ts tb) (fun r w => r = none ∧ w = (wX tx len ts 0)) := by
  show tg_G _ _ _ _ _ _ _ [.ref 0] [] _
  unfold wX
  refine tg_go bX7_rewind_0 ?_
  simp only [ti_aload, ti_push, ti_putfI, List.getElem?_cons_zero, List.getElem?_cons_succ, List.set_cons_zero, List.set_cons_succ, true_and]
  refine g_vret dX7_rewind_5 rfl ?_
  exact ⟨rfl, rfl⟩
theorem kX7_nt_1 (hL : L ≤ 200) {f0 : Nat} (hK : tg_G l mX7_toNextToken 1000 K 0 0 46 [.ref 0] [] (wX tx (nI L) (nI f0) tb)) : ∀ (m q : Nat), L - q < m → q ≤ L → whl (fun q => decide (tx q = 32)) L 200 q = f0 → tg_G l mX7_toNextToken 1000 K 0 0 8 [.ref 0] [] (wX tx (nI L) (nI q) tb) := by
  intro m
  induction m with
  | zero => intro q h; omega
  | succ m ih =>
    intro q hm hq hw
    unfold wX at ih hK ⊢
    refine tg_go bX7_toNextToken_8 ?_
    simp only [ti_aload, ti_getf, List.getElem?_cons_zero, List.getElem?_cons_succ, true_and]
    refine g_icmp_ge (tgt := 46) dX7_toNextToken_16 rfl (fun h16 => ?_) (fun h16 => ?_)
    · rw [lI_le (by omega) (by omega)] at h16
      rw [whl_end _ _ _ (fun z => absurd z.1 (by omega))] at hw
      subst hw
      exact hK
    · rw [lI_le (by omega) (by omega)] at h16
      refine tg_go bX7_toNextToken_19 ?_
      simp only [ti_aload, ti_cald, ti_getf, ti_push, List.getElem?_cons_zero, List.getElem?_cons_succ, true_and]
      rw [nI_clamp (by omega)]
      refine ⟨vp_in_nI (by omega) (by omega), ?_⟩
      refine g_icmp_ne (tgt := 46) dX7_toNextToken_30 rfl (fun h30 => ?_) (fun h30 => ?_)
      · rw [whl_end _ _ _ (fun z => h30 (of_decide_eq_true z.2))] at hw
        subst hw
        exact hK
      · rw [whl_one _ _ _ hL ⟨by omega, decide_eq_true h30⟩] at hw
        refine tg_go bX7_toNextToken_33 ?_
        simp only [ti_aload, ti_dup, ti_getf, ti_iadd, ti_push, ti_putfI, Value.category, List.getElem?_cons_zero, List.getElem?_cons_succ, List.set_cons_zero, List.set_cons_succ, true_and]
        rw [nI_1]
        refine g_goto (tgt := 8) dX7_toNextToken_43 rfl ?_
        exact ih (q + 1) (by omega) (by omega) hw
theorem kX7_nt_2 (hL : L ≤ 200) {b0 : Nat} (hK : K none (wX tx (nI L) ts (nI b0))) : ∀ (m q : Nat), L - q < m → q ≤ L → whl (fun q => isLt (tx q)) L 200 q = b0 → tg_G l mX7_toNextToken 1000 K 0 0 91 [.ref 0] [] (wX tx (nI L) ts (nI q)) := by
  intro m
  induction m with
  | zero => intro q h; omega
  | succ m ih =>
    intro q hm hq hw
    unfold wX at ih hK ⊢
    refine tg_go bX7_toNextToken_91 ?_
    simp only [ti_aload, ti_getf, List.getElem?_cons_zero, List.getElem?_cons_succ, true_and]
    refine g_icmp_ge (tgt := 184) dX7_toNextToken_99 rfl (fun h99 => ?_) (fun h99 => ?_)
    · rw [lI_le (by omega) (by omega)] at h99
      rw [whl_end _ _ _ (fun z => absurd z.1 (by omega))] at hw
      subst hw
      refine g_vret dX7_toNextToken_184 rfl ?_
      exact hK
    · rw [lI_le (by omega) (by omega)] at h99
      refine tg_go bX7_toNextToken_102 ?_
      simp only [ti_aload, ti_cald, ti_getf, List.getElem?_cons_zero, List.getElem?_cons_succ, true_and]
      rw [nI_clamp (by omega)]
      refine ⟨vp_in_nI (by omega) (by omega), ?_⟩
      refine tg_cP vX7_toNextToken_111 (kX7_isSmall) rfl rfl (Nat.le_of_ble_eq_true rfl) (Nat.le_of_ble_eq_true rfl) ?_
      refine g_if_eq (tgt := 184) dX7_toNextToken_114 rfl (fun h114 => ?_) (fun h114 => ?_)
      · have h3 : isLt (tx q) = false := bZ_0 h114
        rw [whl_end _ _ _ (fun z => by rw [h3] at z; exact absurd z.2 (by decide))] at hw
        subst hw
        refine g_vret dX7_toNextToken_184 rfl ?_
        exact hK
      · have h3 : isLt (tx q) = true := bZ_n h114
        rw [whl_one _ _ _ hL ⟨by omega, h3⟩] at hw
        refine tg_go bX7_toNextToken_117 ?_
        simp only [ti_aload, ti_dup, ti_getf, ti_iadd, ti_push, ti_putfI, Value.category, List.getElem?_cons_zero, List.getElem?_cons_succ, List.set_cons_zero, List.set_cons_succ, true_and]
        rw [nI_1]
        refine g_goto (tgt := 91) dX7_toNextToken_127 rfl ?_
        exact ih (q + 1) (by omega) (by omega) hw
theorem kX7_nt_3 (hL : L ≤ 200) {b0 : Nat} (hK : K none (wX tx (nI L) ts (nI b0))) : ∀ (m q : Nat), L - q < m → q ≤ L → whl (fun q => isDg (tx q)) L 200 q = b0 → tg_G l mX7_toNextToken 1000 K 0 0 145 [.ref 0] [] (wX tx (nI L) ts (nI q)) := by
  intro m
  induction m with
  | zero => intro q h; omega
  | succ m ih =>
    intro q hm hq hw
    unfold wX at ih hK ⊢
    refine tg_go bX7_toNextToken_145 ?_
    simp only [ti_aload, ti_getf, List.getElem?_cons_zero, List.getElem?_cons_succ, true_and]
    refine g_icmp_ge (tgt := 184) dX7_toNextToken_153 rfl (fun h153 => ?_) (fun h153 => ?_)
    · rw [lI_le (by omega) (by omega)] at h153
      rw [whl_end _ _ _ (fun z => absurd z.1 (by omega))] at hw
      subst hw
      refine g_vret dX7_toNextToken_184 rfl ?_
      exact hK
    · rw [lI_le (by omega) (by omega)] at h153
      refine tg_go bX7_toNextToken_156 ?_
      simp only [ti_aload, ti_cald, ti_getf, List.getElem?_cons_zero, List.getElem?_cons_succ, true_and]
      rw [nI_clamp (by omega)]
      refine ⟨vp_in_nI (by omega) (by omega), ?_⟩
      refine tg_cP vX7_toNextToken_165 (kX7_isDigit) rfl rfl (Nat.le_of_ble_eq_true rfl) (Nat.le_of_ble_eq_true rfl) ?_
      refine g_if_eq (tgt := 184) dX7_toNextToken_168 rfl (fun h168 => ?_) (fun h168 => ?_)
      · have h3 : isDg (tx q) = false := bZ_0 h168
        rw [whl_end _ _ _ (fun z => by rw [h3] at z; exact absurd z.2 (by decide))] at hw
        subst hw
        refine g_vret dX7_toNextToken_184 rfl ?_
        exact hK
      · have h3 : isDg (tx q) = true := bZ_n h168
        rw [whl_one _ _ _ hL ⟨by omega, h3⟩] at hw
        refine tg_go bX7_toNextToken_171 ?_
        simp only [ti_aload, ti_dup, ti_getf, ti_iadd, ti_push, ti_putfI, Value.category, List.getElem?_cons_zero, List.getElem?_cons_succ, List.set_cons_zero, List.set_cons_succ, true_and]
        rw [nI_1]
        refine g_goto (tgt := 145) dX7_toNextToken_181 rfl ?_
        exact ih (q + 1) (by omega) (by omega) hw
theorem kX7_nt_4 {q : Nat} (hL : L ≤ 200) (hq : q ≤ L) (hK : K none (wX tx (nI L) (nI q) (nI (tkB tx L q)))) : tg_G l mX7_toNextToken 1000 K 0 0 46 [.ref 0] [] (wX tx (nI L) (nI q) tb) := by
  unfold tkB at hK
  unfold wX at hK ⊢
  refine tg_go bX7_toNextToken_46 ?_
  simp only [ti_aload, ti_getf, ti_putfI, List.getElem?_cons_zero, List.getElem?_cons_succ, List.set_cons_zero, List.set_cons_succ, true_and]
  refine g_icmp_lt (tgt := 66) dX7_toNextToken_62 rfl (fun h62 => ?_) (fun h62 => ?_)
  · rw [lI_lt (by omega) (by omega)] at h62
    rw [if_pos h62] at hK
    refine tg_go bX7_toNextToken_66 ?_
    simp only [ti_aload, ti_cald, ti_dup, ti_getf, ti_iadd, ti_push, ti_putfI, Value.category, List.getElem?_cons_zero, List.getElem?_cons_succ, List.set_cons_zero, List.set_cons_succ, true_and]
    rw [nI_1, nI_clamp (by omega)]
    refine ⟨vp_in_nI (by omega) (by omega), ?_⟩
    refine tg_cP vX7_toNextToken_85 (kX7_isSmall) rfl rfl (Nat.le_of_ble_eq_true rfl) (Nat.le_of_ble_eq_true rfl) ?_
    refine g_if_eq (tgt := 130) dX7_toNextToken_88 rfl (fun h88 => ?_) (fun h88 => ?_)
    · have h3 : isLt (tx q) = false := bZ_0 h88
      rw [h3, if_neg (by decide)] at hK
      refine tg_go bX7_toNextToken_130 ?_
      simp only [ti_aload, ti_cald, ti_getf, List.getElem?_cons_zero, List.getElem?_cons_succ, true_and]
      rw [nI_clamp (by omega)]
      refine ⟨vp_in_nI (by omega) (by omega), ?_⟩
      refine tg_cP vX7_toNextToken_139 (kX7_isDigit) rfl rfl (Nat.le_of_ble_eq_true rfl) (Nat.le_of_ble_eq_true rfl) ?_
      refine g_if_eq (tgt := 184) dX7_toNextToken_142 rfl (fun h142 => ?_) (fun h142 => ?_)
      · have h4 : isDg (tx q) = false := bZ_0 h142
        rw [h4, if_neg (by decide)] at hK
        refine g_vret dX7_toNextToken_184 rfl ?_
        exact hK
      · have h4 : isDg (tx q) = true := bZ_n h142
        rw [if_pos h4] at hK
        exact kX7_nt_3 hL hK (L + 1) (q + 1) (by omega) (by omega) rfl
    · have h3 : isLt (tx q) = true := bZ_n h88
      rw [if_pos h3] at hK
      exact kX7_nt_2 hL hK (L + 1) (q + 1) (by omega) (by omega) rfl
  · rw [lI_lt (by omega) (by omega)] at h62
    rw [if_neg h62] at hK
    refine g_vret dX7_toNextToken_65 rfl ?_
    exact hK
theorem kX7_toNextToken (hL : L ≤ 200) (hb : b ≤ L) : tg_Ct l mX7_toNextToken 1000 [.ref 0] (wX tx (nI L) ts (nI b)) (fun r w => r = none ∧ w = (wX tx (nI L) (nI (tkF tx L b)) (nI (tkB tx L (tkF tx L b))))) := by
  have hf := tkF_le (tx := tx) hb
  show tg_G _ _ _ _ _ _ _ [.ref 0] [] _
  unfold wX
  refine tg_go bX7_toNextToken_0 ?_
  simp only [ti_aload, ti_getf, ti_putfI, List.getElem?_cons_zero, List.getElem?_cons_succ, List.set_cons_zero, List.set_cons_succ, true_and]
  exact kX7_nt_1 hL (f0 := tkF tx L b) (kX7_nt_4 hL hf ⟨rfl, rfl⟩) (L + 1) b (by omega) hb rfl
theorem kX7_isAtEnd (hL : L ≤ 200) (hf : f ≤ L) : tg_Ct l mX7_isAtEnd 1000 [.ref 0] (wX tx (nI L) (nI f) tb) (fun r w => r = some (.int (bZ (decide (f = L)))) ∧ w = (wX tx (nI L) (nI f) tb)) := by
  refine tg_gen (fun K0 hK0 => ?_)
  show tg_G _ _ _ _ _ _ _ [.ref 0] [] _
  unfold wX
  refine tg_go bX7_isAtEnd_0 ?_
  simp only [ti_aload, ti_getf, List.getElem?_cons_zero, List.getElem?_cons_succ, true_and]
  refine g_icmp_lt (tgt := 15) dX7_isAtEnd_8 rfl (fun h8 => ?_) (fun h8 => ?_)
  · rw [lI_lt (by omega) (by omega)] at h8
    refine tg_go bX7_isAtEnd_15 ?_
    simp only [ti_push, List.getElem?_cons_zero, List.getElem?_cons_succ, true_and]
    refine g_zret dX7_isAtEnd_16 rfl (by first | exact Or.inl rfl | exact Or.inr rfl | assumption) ?_
    exact hK0 _ _ ⟨by rw [decide_eq_false (by omega)]; rfl, rfl⟩
  · rw [lI_lt (by omega) (by omega)] at h8
    refine tg_go bX7_isAtEnd_11 ?_
    simp only [ti_push, List.getElem?_cons_zero, List.getElem?_cons_succ, true_and]
    refine g_goto (tgt := 16) dX7_isAtEnd_12 rfl ?_
    refine g_zret dX7_isAtEnd_16 rfl (by first | exact Or.inl rfl | exact Or.inr rfl | assumption) ?_
    exact hK0 _ _ ⟨by rw [decide_eq_true (by omega)]; rfl, rfl⟩
theorem kX7_isToken_l (hi : i < 4) (hL : L ≤ 200) (hbL : b ≤ L) (hfb : f + tg_sl.getD i 0 = b) (hK : K (some (.int (bZ (allB (fun k => decide (tx (f + k) = (tg_sb.getD i []).getD k 0)) (tg_sl.getD i 0))))) (wX tx (nI L) (nI f) tb)) : ∀ (m k : Nat), tg_sl.getD i 0 - k < m → k ≤ tg_sl.getD i 0 → allB (fun k => decide (tx (f + k) = (tg_sb.getD i []).getD k 0)) k = true → tg_G l mX7_isToken 1000 K 0 0 20 [.ref 0, .ref (1010 + i), .int (nI k)] [] (wX tx (nI L) (nI f) tb) := by
  intro m
  induction m with
  | zero => intro q h; omega
  | succ m ih =>
    intro k hm hk ha
    have h7 := sl_7 i hi
    unfold wX at ih hK ⊢
    refine tg_go bX7_isToken_20 ?_
    simp only [ti_aload, ti_iload, List.getElem?_cons_zero, List.getElem?_cons_succ, true_and]
    refine tg_callStr vX7_isToken_22 rfl hi (kJ0_length hi) (As := []) rfl (Nat.le_of_ble_eq_true rfl) (Nat.le_of_ble_eq_true rfl) rfl ?_
    refine g_icmp_ge (tgt := 68) dX7_isToken_25 rfl (fun h25 => ?_) (fun h25 => ?_)
    · rw [lI_le (by omega) (by omega)] at h25
      obtain rfl : k = tg_sl.getD i 0 := by omega
      rw [ha] at hK
      refine tg_go bX7_isToken_68 ?_
      simp only [ti_push, List.getElem?_cons_zero, List.getElem?_cons_succ, true_and]
      refine g_zret dX7_isToken_69 rfl (by first | exact Or.inl rfl | exact Or.inr rfl | assumption) ?_
      exact hK
    · rw [lI_le (by omega) (by omega)] at h25
      refine tg_go bX7_isToken_28 ?_
      simp only [ti_aload, ti_getf, ti_iadd, ti_iload, List.getElem?_cons_zero, List.getElem?_cons_succ, true_and]
      rw [nI_add]
      refine g_icmp_ge (tgt := 68) dX7_isToken_38 rfl (fun h38 => ?_) (fun h38 => ?_)
      · rw [lI_le (by omega) (by omega)] at h38; omega
      · refine tg_go bX7_isToken_41 ?_
        simp only [ti_aload, ti_cald, ti_getf, ti_iadd, ti_iload, List.getElem?_cons_zero, List.getElem?_cons_succ, true_and]
        rw [nI_add, nI_clamp (by omega)]
        refine ⟨vp_in_nI (by omega) (by omega), ?_⟩
        refine tg_callStr vX7_isToken_54 rfl hi (kJ0_charAt (j := k) hi (by omega)) (As := [.int (nI k)]) rfl (Nat.le_of_ble_eq_true rfl) (Nat.le_of_ble_eq_true rfl) rfl ?_
        refine g_icmp_eq (tgt := 62) dX7_isToken_57 rfl (fun h57 => ?_) (fun h57 => ?_)
        · refine tg_go bX7_isToken_62 ?_
          simp only [ti_iinc, tg_s1, tg_cl, List.getElem?_cons_zero, List.getElem?_cons_succ, List.set_cons_zero, List.set_cons_succ, true_and]
          rw [nI_1]
          refine g_goto (tgt := 20) dX7_isToken_65 rfl ?_
          exact ih (k + 1) (by omega) (by omega) (by rw [allB, ha, Bool.true_and]; exact decide_eq_true h57)
        · have hm := allB_mono (p := fun k => decide (tx (f + k) = (tg_sb.getD i []).getD k 0)) (n := k + 1) (tg_sl.getD i 0 - (k + 1)) (by rw [allB, ha, Bool.true_and]; exact decide_eq_false h57)
          rw [show k + 1 + (tg_sl.getD i 0 - (k + 1)) = tg_sl.getD i 0 by omega] at hm
          rw [hm] at hK
          refine tg_go bX7_isToken_60 ?_
          simp only [ti_push, List.getElem?_cons_zero, List.getElem?_cons_succ, true_and]
          refine g_zret dX7_isToken_61 rfl (by first | exact Or.inl rfl | exact Or.inr rfl | assumption) ?_
          exact hK
theorem kX7_isToken (hi : i < 4) (hL : L ≤ 200) (hb : f ≤ b) (hbL : b ≤ L) : tg_Ct l mX7_isToken 1000 [.ref 0, .ref (1010 + i)] (wX tx (nI L) (nI f) (nI b)) (fun r w => r = some (.int (bZ (wordB tx f b (tg_sb.getD i [])))) ∧ w = (wX tx (nI L) (nI f) (nI b))) := by
  refine tg_gen (fun K0 hK0 => ?_)
  have h7 := sl_7 i hi
  unfold wordB at hK0
  rw [← sb_len i hi] at hK0
  show tg_G _ _ _ _ _ _ _ [.ref 0, .ref (1010 + i), .null] [] _
  unfold wX
  refine tg_go bX7_isToken_0 ?_
  simp only [ti_aload, ti_getf, ti_isub, List.getElem?_cons_zero, List.getElem?_cons_succ, true_and]
  rw [pk_sub hb]
  refine tg_callStr vX7_isToken_10 rfl hi (kJ0_length hi) (As := []) rfl (Nat.le_of_ble_eq_true rfl) (Nat.le_of_ble_eq_true rfl) rfl ?_
  refine g_icmp_eq (tgt := 18) dX7_isToken_13 rfl (fun h13 => ?_) (fun h13 => ?_)
  · rw [lI_eq (by omega) (by omega)] at h13
    rw [decide_eq_true h13, Bool.true_and] at hK0
    refine tg_go bX7_isToken_18 ?_
    simp only [ti_istore, ti_push, tg_s1, tg_cl, List.getElem?_cons_zero, List.getElem?_cons_succ, List.set_cons_zero, List.set_cons_succ, true_and]
    exact kX7_isToken_l hi hL hbL (by omega) (hK0 _ _ ⟨rfl, rfl⟩) (tg_sl.getD i 0 + 1) 0 (by omega) (by omega) rfl
  · rw [lI_eq (by omega) (by omega)] at h13
    rw [decide_eq_false h13, Bool.false_and] at hK0
    refine tg_go bX7_isToken_16 ?_
    simp only [ti_push, List.getElem?_cons_zero, List.getElem?_cons_succ, true_and]
    refine g_zret dX7_isToken_17 rfl (by first | exact Or.inl rfl | exact Or.inr rfl | assumption) ?_
    exact hK0 _ _ ⟨rfl, rfl⟩
theorem kX7_nw_e {lo hi : Nat} {x : Int32} (hL : L ≤ 200) (hbL : b ≤ L) (hlo : lo < 2 ^ 31) (hhi : hi < 2 ^ 31) (hK : K (some (.int (if (lo : Int) ≤ x.toInt ∧ x.toInt ≤ hi then x else -1))) (wX tx (nI L) ts (nI b))) : tg_G l mX7_numberWithin 1000 K 0 0 45 [.ref 0, .int (nI lo), .int (nI hi), .int x, .int (nI b)] [] (wX tx (nI L) ts (nI b)) := by
  unfold wX at hK ⊢
  refine tg_go bX7_numberWithin_45 ?_
  simp only [ti_aload, ti_getf, ti_iload, List.getElem?_cons_zero, List.getElem?_cons_succ, true_and]
  refine g_icmp_ge (tgt := 85) dX7_numberWithin_51 rfl (fun h51 => ?_) (fun h51 => ?_)
  · refine tg_go bX7_numberWithin_85 ?_
    simp only [ti_iload, List.getElem?_cons_zero, List.getElem?_cons_succ, true_and]
    refine g_icmp_lt (tgt := 99) dX7_numberWithin_87 rfl (fun h87 => ?_) (fun h87 => ?_)
    · rw [Int32.lt_iff_toInt_lt, nI_toInt hlo] at h87
      rw [if_neg (by omega)] at hK
      refine tg_go bX7_numberWithin_99 ?_
      simp only [ti_push, List.getElem?_cons_zero, List.getElem?_cons_succ, true_and]
      refine g_iret dX7_numberWithin_100 rfl ?_
      exact hK
    · rw [Int32.lt_iff_toInt_lt, nI_toInt hlo] at h87
      refine tg_go bX7_numberWithin_90 ?_
      simp only [ti_iload, List.getElem?_cons_zero, List.getElem?_cons_succ, true_and]
      refine g_icmp_gt (tgt := 99) dX7_numberWithin_92 rfl (fun h92 => ?_) (fun h92 => ?_)
      · rw [Int32.lt_iff_toInt_lt, nI_toInt hhi] at h92
        rw [if_neg (by omega)] at hK
        refine tg_go bX7_numberWithin_99 ?_
        simp only [ti_push, List.getElem?_cons_zero, List.getElem?_cons_succ, true_and]
        refine g_iret dX7_numberWithin_100 rfl ?_
        exact hK
      · rw [Int32.lt_iff_toInt_lt, nI_toInt hhi] at h92
        rw [if_pos (by omega)] at hK
        refine tg_go bX7_numberWithin_95 ?_
        simp only [ti_iload, List.getElem?_cons_zero, List.getElem?_cons_succ, true_and]
        refine g_goto (tgt := 100) dX7_numberWithin_96 rfl ?_
        refine g_iret dX7_numberWithin_100 rfl ?_
        exact hK
  · exact absurd (Int32.le_refl _) h51
theorem kX7_nw_s {x1 x2 x : Int32} {j : Nat} (hL : L ≤ 200) (hbL : b ≤ L) (hj : j < b) (h : tg_G l mX7_numberWithin 1000 K 0 0 45 [.ref 0, .int x1, .int x2, .int (x * 10 + tx j - 48), .int (nI (j + 1))] [] (wX tx (nI L) ts (nI b))) : tg_G l mX7_numberWithin 1000 K 0 0 45 [.ref 0, .int x1, .int x2, .int x, .int (nI j)] [] (wX tx (nI L) ts (nI b)) := by
  unfold wX at h ⊢
  refine tg_go bX7_numberWithin_45 ?_
  simp only [ti_aload, ti_getf, ti_iload, List.getElem?_cons_zero, List.getElem?_cons_succ, true_and]
  refine g_icmp_ge (tgt := 85) dX7_numberWithin_51 rfl (fun h51 => ?_) (fun h51 => ?_)
  · rw [lI_le (by omega) (by omega)] at h51; omega
  · refine tg_go bX7_numberWithin_54 ?_
    simp only [ti_aload, ti_getf, ti_iload, List.getElem?_cons_zero, List.getElem?_cons_succ, true_and]
    refine g_icmp_ge (tgt := 85) dX7_numberWithin_60 rfl (fun h60 => ?_) (fun h60 => ?_)
    · rw [lI_le (by omega) (by omega)] at h60; omega
    · refine tg_go bX7_numberWithin_63 ?_
      simp only [ti_aload, ti_cald, ti_getf, ti_iadd, ti_iinc, ti_iload, ti_imul, ti_istore, ti_isub, ti_push, tg_s1, tg_cl, List.getElem?_cons_zero, List.getElem?_cons_succ, List.set_cons_zero, List.set_cons_succ, true_and]
      rw [nI_1, nI_clamp (by omega)]
      refine ⟨vp_in_nI (by omega) (by omega), ?_⟩
      refine g_goto (tgt := 45) dX7_numberWithin_82 rfl ?_
      exact h
theorem numR_I {lo hi : Nat} : oI (numR tx L f b lo hi) = if (¬ f = L ∧ isDg (tx f) = true ∧ b - f ≤ 2) ∧ (lo : Int) ≤ (numV tx f b).toInt ∧ (numV tx f b).toInt ≤ hi then numV tx f b else -1 := by
  unfold numR
  split
  · rename_i h
    exact (x_of (n := 2 ^ 31) (by omega) (by have := Int32.toInt_lt (numV tx f b); omega)).1.symm
  · rfl
theorem kX7_numberWithin {lo hi : Nat} (hL : L ≤ 200) (hb : b = tkB tx L f) (hf : f ≤ L) (hlo : lo < 2 ^ 31) (hhi : hi < 2 ^ 31) : tg_Ct l mX7_numberWithin 1000 [.ref 0, .int (nI lo), .int (nI hi)] (wX tx (nI L) (nI f) (nI b)) (fun r w => r = some (.int (oI (numR tx L f b lo hi))) ∧ w = (wX tx (nI L) (nI f) (nI b))) := by
  refine tg_gen (fun K0 hK0 => ?_)
  have hbb := tkB_in (tx := tx) hf
  rw [← hb] at hbb
  clear hb
  rw [numR_I] at hK0
  show tg_G _ _ _ _ _ _ _ [.ref 0, .int (nI lo), .int (nI hi), .null, .null] [] _
  unfold wX
  refine tg_go bX7_numberWithin_0 ?_
  simp only [ti_aload, List.getElem?_cons_zero, List.getElem?_cons_succ, true_and]
  refine tg_cW vX7_numberWithin_1 (kX7_isAtEnd hL hf) rfl rfl rfl rfl (Nat.le_of_ble_eq_true rfl) (Nat.le_of_ble_eq_true rfl) (Nat.le_of_ble_eq_true rfl) rfl ?_
  unfold wX
  refine g_if_ne (tgt := 35) dX7_numberWithin_4 rfl (fun h4 => ?_) (fun h4 => ?_)
  · have h3 : f = L := of_decide_eq_true (bZ_n h4)
    rw [if_neg (fun z => z.1.1 h3)] at hK0
    refine tg_go bX7_numberWithin_35 ?_
    simp only [ti_push, List.getElem?_cons_zero, List.getElem?_cons_succ, true_and]
    refine g_iret dX7_numberWithin_36 rfl ?_
    exact hK0 _ _ ⟨rfl, rfl⟩
  · have h3 : ¬ f = L := of_decide_eq_false (bZ_0 h4)
    refine tg_go bX7_numberWithin_7 ?_
    simp only [ti_aload, ti_cald, ti_getf, List.getElem?_cons_zero, List.getElem?_cons_succ, true_and]
    rw [nI_clamp (by omega)]
    refine ⟨vp_in_nI (by omega) (by omega), ?_⟩
    refine tg_cP vX7_numberWithin_16 (kX7_isDigit) rfl rfl (Nat.le_of_ble_eq_true rfl) (Nat.le_of_ble_eq_true rfl) ?_
    refine g_if_eq (tgt := 35) dX7_numberWithin_19 rfl (fun h19 => ?_) (fun h19 => ?_)
    · have h5 : isDg (tx f) = false := bZ_0 h19
      rw [if_neg (fun z => by rw [h5] at z; exact absurd z.1.2.1 (by decide))] at hK0
      refine tg_go bX7_numberWithin_35 ?_
      simp only [ti_push, List.getElem?_cons_zero, List.getElem?_cons_succ, true_and]
      refine g_iret dX7_numberWithin_36 rfl ?_
      exact hK0 _ _ ⟨rfl, rfl⟩
    · have h5 : isDg (tx f) = true := bZ_n h19
      refine tg_go bX7_numberWithin_22 ?_
      simp only [ti_aload, ti_getf, ti_isub, ti_push, List.getElem?_cons_zero, List.getElem?_cons_succ, true_and]
      rw [pk_sub hbb.1]
      refine g_icmp_le (tgt := 37) dX7_numberWithin_32 rfl (fun h32 => ?_) (fun h32 => ?_)
      · rw [fa_lit, lI_le (by omega) (by omega)] at h32
        refine tg_go bX7_numberWithin_37 ?_
        simp only [ti_aload, ti_getf, ti_istore, ti_push, tg_s1, tg_cl, List.getElem?_cons_zero, List.getElem?_cons_succ, List.set_cons_zero, List.set_cons_succ, true_and]
        have hfb := hbb.2.2 (by omega)
        refine kX7_nw_s hL hbb.2.1 hfb ?_
        have e0 : (0 : Int32) * 10 + tx f - 48 = tx f - 48 := by rw [Int32.zero_mul, Int32.zero_add]
        rw [e0]
        by_cases h2 : b - f = 2
        · refine kX7_nw_s hL hbb.2.1 (by omega) ?_
          have e2 : f + 1 + 1 = b := by omega
          have e3 : numV tx f b = (tx f - 48) * 10 + tx (f + 1) - 48 := by unfold numV; rw [if_pos h2, Int32.mul_comm]
          rw [e2, ← e3]
          refine kX7_nw_e hL hbb.2.1 hlo hhi (hK0 _ _ ⟨?_, rfl⟩)
          by_cases hc : (lo : Int) ≤ (numV tx f b).toInt ∧ (numV tx f b).toInt ≤ hi
          · rw [if_pos hc, if_pos ⟨⟨h3, h5, h32⟩, hc⟩]
          · rw [if_neg hc, if_neg (fun z => hc z.2)]
        · have e2 : f + 1 = b := by omega
          have e3 : numV tx f b = tx f - 48 := by unfold numV; rw [if_neg h2]
          rw [e2, ← e3]
          refine kX7_nw_e hL hbb.2.1 hlo hhi (hK0 _ _ ⟨?_, rfl⟩)
          by_cases hc : (lo : Int) ≤ (numV tx f b).toInt ∧ (numV tx f b).toInt ≤ hi
          · rw [if_pos hc, if_pos ⟨⟨h3, h5, h32⟩, hc⟩]
          · rw [if_neg hc, if_neg (fun z => hc z.2)]
      · rw [fa_lit, lI_le (by omega) (by omega)] at h32
        rw [if_neg (fun z => h32 z.1.2.2)] at hK0
        refine tg_go bX7_numberWithin_35 ?_
        simp only [ti_push, List.getElem?_cons_zero, List.getElem?_cons_succ, true_and]
        refine g_iret dX7_numberWithin_36 rfl ?_
        exact hK0 _ _ ⟨rfl, rfl⟩
end TEXT
