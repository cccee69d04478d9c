/-! THE REFERENCE: the text's tokens -/
def isDg (x : Int32) : Bool := decide (48 ≤ x) && decide (x ≤ 57)
def isLt (x : Int32) : Bool := decide (97 ≤ x) && decide (x ≤ 122)
/-- on from q, while p holds and the end isn't reached -/
def whl (p : Nat → Bool) (L : Nat) : Nat → Nat → Nat
  | 0, q => q
  | f + 1, q => if q < L ∧ p q = true then whl p L f (q + 1) else q
theorem whl_ge (p : Nat → Bool) (L : Nat) : ∀ f q, q ≤ whl p L f q
  | 0, q => Nat.le_refl q
  | f + 1, q => by
    rw [whl]
    split
    · exact Nat.le_trans (Nat.le_succ q) (whl_ge p L f (q + 1))
    · exact Nat.le_refl q
theorem whl_le (p : Nat → Bool) (L : Nat) : ∀ f q, q ≤ L → whl p L f q ≤ L
  | 0, q, h => h
  | f + 1, q, h => by
    rw [whl]
    split
    · rename_i h2
      exact whl_le p L f (q + 1) h2.1
    · exact h
/-- enough is enough -/
theorem whl_more (p : Nat → Bool) (L : Nat) : ∀ f q, L - q ≤ f → whl p L (f + 1) q = whl p L f q
  | 0, q, h => by
    show (if q < L ∧ p q = true then whl p L 0 (q + 1) else q) = q
    rw [if_neg (by omega)]
  | f + 1, q, h => by
    rw [whl]
    conv => rhs; rw [whl]
    split
    · rename_i h2
      exact whl_more p L f (q + 1) (by omega)
    · rfl
theorem whl_one (p : Nat → Bool) (L q : Nat) (hL : L ≤ 200) (h : q < L ∧ p q = true) : whl p L 200 q = whl p L 200 (q + 1) := by
  rw [whl, if_pos h]
  exact (whl_more p L 199 (q + 1) (by omega)).symm
theorem whl_end (p : Nat → Bool) (L q : Nat) (h : ¬ (q < L ∧ p q = true)) : whl p L 200 q = q := by
  rw [whl, if_neg h]
def tkF (tx : Nat → Int32) (L b : Nat) : Nat := whl (fun q => decide (tx q = 32)) L 200 b
def tkB (tx : Nat → Int32) (L f : Nat) : Nat := if f < L then (if isLt (tx f) = true then whl (fun q => isLt (tx q)) L 200 (f + 1) else if isDg (tx f) = true then whl (fun q => isDg (tx q)) L 200 (f + 1) else f + 1) else f
theorem tkF_le {tx : Nat → Int32} {L b : Nat} (h : b ≤ L) : tkF tx L b ≤ L := whl_le _ _ _ _ h
theorem tkB_in {tx : Nat → Int32} {L f : Nat} (h : f ≤ L) : f ≤ tkB tx L f ∧ tkB tx L f ≤ L ∧ (f < L → f < tkB tx L f) := by
  unfold tkB
  split
  · rename_i hf
    split
    · have h1 := whl_ge (fun q => isLt (tx q)) L 200 (f + 1)
      have h2 := whl_le (fun q => isLt (tx q)) L 200 (f + 1) hf
      omega
    · split
      · have h1 := whl_ge (fun q => isDg (tx q)) L 200 (f + 1)
        have h2 := whl_le (fun q => isDg (tx q)) L 200 (f + 1) hf
        omega
      · omega
  · omega
section REFC
variable {l : tg_Ln} {K : Option Value → List va_E → Prop} {row vals kp tx sz rv ct bm : Nat → Int32} {dm un len fi be rD rM cl dg nu my su le gr cz vi ov : Int32} {it : Nat → Int64} {ask : Int64} {L : Nat}
theorem kX9_nt_1 (hL : L ≤ 200) {f0 : Nat} (hK : tg_G l mX9_nextToken 1000 K 0 0 46 [.ref 0] [] (wM row dm vals un kp tx (nI L) sz it ask (nI f0) be rD rM cl dg nu my su le gr cz vi ov rv ct bm)) : ∀ (m q : Nat), L - q < m → q ≤ L → whl (fun q => decide (tx q = 32)) L 200 q = f0 → tg_G l mX9_nextToken 1000 K 0 0 8 [.ref 0] [] (wM row dm vals un kp tx (nI L) sz it ask (nI q) be rD rM cl dg nu my su le gr cz vi ov rv ct bm) := by
  intro m
  induction m with
  | zero => intro q h; omega
  | succ m ih =>
    intro q hm hq hw
    unfold wM at ih hK ⊢
    refine tg_go bX9_nextToken_8 ?_
    simp only [ti_aload, ti_getf, List.getElem?_cons_zero, List.getElem?_cons_succ, true_and]
    refine g_icmp_ge (tgt := 46) dX9_nextToken_16 rfl (fun h16 => ?_) (fun h16 => ?_)
    · rw [lI_le (by omega) (by omega)] at h16
      rw [whl_end _ _ _ (fun z => absurd z.1 (by omega))] at hw
      subst hw
      exact hK
    · rw [lI_le (by omega) (by omega)] at h16
      refine tg_go bX9_nextToken_19 ?_
      simp only [ti_aload, ti_getf, ti_iald, ti_push, List.getElem?_cons_zero, List.getElem?_cons_succ, true_and]
      rw [nI_clamp (by omega)]
      refine ⟨vp_in_nI (by omega) (by omega), ?_⟩
      refine g_icmp_ne (tgt := 46) dX9_nextToken_30 rfl (fun h30 => ?_) (fun h30 => ?_)
      · rw [whl_end _ _ _ (fun z => h30 (of_decide_eq_true z.2))] at hw
        subst hw
        exact hK
      · rw [whl_one _ _ _ hL ⟨by omega, decide_eq_true h30⟩] at hw
        refine tg_go bX9_nextToken_33 ?_
        simp only [ti_aload, ti_dup, ti_getf, ti_iadd, ti_push, ti_putfI, Value.category, List.getElem?_cons_zero, List.getElem?_cons_succ, List.set_cons_zero, List.set_cons_succ, true_and]
        rw [nI_1]
        refine g_goto (tgt := 8) dX9_nextToken_43 rfl ?_
        exact ih (q + 1) (by omega) (by omega) hw
theorem kX9_nt_2 (hL : L ≤ 200) {b0 : Nat} (hK : K none (wM row dm vals un kp tx (nI L) sz it ask fi (nI b0) rD rM cl dg nu my su le gr cz vi ov rv ct bm)) : ∀ (m q : Nat), L - q < m → q ≤ L → whl (fun q => isLt (tx q)) L 200 q = b0 → tg_G l mX9_nextToken 1000 K 0 0 100 [.ref 0] [] (wM row dm vals un kp tx (nI L) sz it ask fi (nI q) rD rM cl dg nu my su le gr cz vi ov rv ct bm) := by
  intro m
  induction m with
  | zero => intro q h; omega
  | succ m ih =>
    intro q hm hq hw
    unfold wM at ih hK ⊢
    refine tg_go bX9_nextToken_100 ?_
    simp only [ti_aload, ti_getf, List.getElem?_cons_zero, List.getElem?_cons_succ, true_and]
    refine g_icmp_ge (tgt := 204) dX9_nextToken_108 rfl (fun h108 => ?_) (fun h108 => ?_)
    · rw [lI_le (by omega) (by omega)] at h108
      rw [whl_end _ _ _ (fun z => absurd z.1 (by omega))] at hw
      subst hw
      refine g_vret dX9_nextToken_204 rfl ?_
      exact hK
    · rw [lI_le (by omega) (by omega)] at h108
      refine tg_go bX9_nextToken_111 ?_
      simp only [ti_aload, ti_getf, ti_iald, List.getElem?_cons_zero, List.getElem?_cons_succ, true_and]
      rw [nI_clamp (by omega)]
      refine ⟨vp_in_nI (by omega) (by omega), ?_⟩
      refine tg_cP vX9_nextToken_120 (kX9_isLetter) rfl rfl (Nat.le_of_ble_eq_true rfl) (Nat.le_of_ble_eq_true rfl) ?_
      refine g_if_eq (tgt := 204) dX9_nextToken_123 rfl (fun h123 => ?_) (fun h123 => ?_)
      · have h3 : isLt (tx q) = false := bZ_0 h123
        rw [whl_end _ _ _ (fun z => by rw [h3] at z; exact absurd z.2 (by decide))] at hw
        subst hw
        refine g_vret dX9_nextToken_204 rfl ?_
        exact hK
      · have h3 : isLt (tx q) = true := bZ_n h123
        rw [whl_one _ _ _ hL ⟨by omega, h3⟩] at hw
        refine tg_go bX9_nextToken_126 ?_
        simp only [ti_aload, ti_dup, ti_getf, ti_iadd, ti_push, ti_putfI, Value.category, List.getElem?_cons_zero, List.getElem?_cons_succ, List.set_cons_zero, List.set_cons_succ, true_and]
        rw [nI_1]
        refine g_goto (tgt := 100) dX9_nextToken_136 rfl ?_
        exact ih (q + 1) (by omega) (by omega) hw
theorem kX9_nt_3 (hL : L ≤ 200) {b0 : Nat} (hK : K none (wM row dm vals un kp tx (nI L) sz it ask fi (nI b0) rD rM cl dg nu my su le gr cz vi ov rv ct bm)) : ∀ (m q : Nat), L - q < m → q ≤ L → whl (fun q => isDg (tx q)) L 200 q = b0 → tg_G l mX9_nextToken 1000 K 0 0 165 [.ref 0] [] (wM row dm vals un kp tx (nI L) sz it ask fi (nI q) rD rM cl dg nu my su le gr cz vi ov rv ct bm) := by
  intro m
  induction m with
  | zero => intro q h; omega
  | succ m ih =>
    intro q hm hq hw
    unfold wM at ih hK ⊢
    refine tg_go bX9_nextToken_165 ?_
    simp only [ti_aload, ti_getf, List.getElem?_cons_zero, List.getElem?_cons_succ, true_and]
    refine g_icmp_ge (tgt := 204) dX9_nextToken_173 rfl (fun h173 => ?_) (fun h173 => ?_)
    · rw [lI_le (by omega) (by omega)] at h173
      rw [whl_end _ _ _ (fun z => absurd z.1 (by omega))] at hw
      subst hw
      refine g_vret dX9_nextToken_204 rfl ?_
      exact hK
    · rw [lI_le (by omega) (by omega)] at h173
      refine tg_go bX9_nextToken_176 ?_
      simp only [ti_aload, ti_getf, ti_iald, List.getElem?_cons_zero, List.getElem?_cons_succ, true_and]
      rw [nI_clamp (by omega)]
      refine ⟨vp_in_nI (by omega) (by omega), ?_⟩
      refine tg_cP vX9_nextToken_185 (kX9_isDigit) rfl rfl (Nat.le_of_ble_eq_true rfl) (Nat.le_of_ble_eq_true rfl) ?_
      refine g_if_eq (tgt := 204) dX9_nextToken_188 rfl (fun h188 => ?_) (fun h188 => ?_)
      · have h3 : isDg (tx q) = false := bZ_0 h188
        rw [whl_end _ _ _ (fun z => by rw [h3] at z; exact absurd z.2 (by decide))] at hw
        subst hw
        refine g_vret dX9_nextToken_204 rfl ?_
        exact hK
      · have h3 : isDg (tx q) = true := bZ_n h188
        rw [whl_one _ _ _ hL ⟨by omega, h3⟩] at hw
        refine tg_go bX9_nextToken_191 ?_
        simp only [ti_aload, ti_dup, ti_getf, ti_iadd, ti_push, ti_putfI, Value.category, List.getElem?_cons_zero, List.getElem?_cons_succ, List.set_cons_zero, List.set_cons_succ, true_and]
        rw [nI_1]
        refine g_goto (tgt := 165) dX9_nextToken_201 rfl ?_
        exact ih (q + 1) (by omega) (by omega) hw
theorem kX9_nextToken {b : Nat} (hL : L ≤ 200) (hb : b ≤ L) : tg_Ct l mX9_nextToken 1000 [.ref 0] (wM row dm vals un kp tx (nI L) sz it ask fi (nI b) rD rM cl dg nu my su le gr cz vi ov rv ct bm) (fun r w => r = none ∧ w = (wM row dm vals un kp tx (nI L) sz it ask (nI (tkF tx L b)) (nI (tkB tx L (tkF tx L b))) rD rM cl dg nu my su le gr cz vi ov rv ct bm)) := by
  have hf := tkF_le (tx := tx) hb
  have hbb := tkB_in (tx := tx) hf
  show tg_G _ _ _ _ _ _ _ [.ref 0] [] _
  unfold wM
  refine tg_go bX9_nextToken_0 ?_
  simp only [ti_aload, ti_getf, ti_putfI, List.getElem?_cons_zero, List.getElem?_cons_succ, List.set_cons_zero, List.set_cons_succ, true_and]
  refine kX9_nt_1 hL (f0 := tkF tx L b) ?_ (L + 1) b (by omega) hb rfl
  generalize hq : tkF tx L b = q at hf hbb ⊢
  unfold wM
  refine tg_go bX9_nextToken_46 ?_
  simp only [ti_aload, ti_getf, List.getElem?_cons_zero, List.getElem?_cons_succ, true_and]
  by_cases hlt : q < L
  · refine g_icmp_ge (tgt := 67) dX9_nextToken_55 rfl (fun h55 => ?_) (fun h55 => ?_)
    · rw [lI_le (by omega) (by omega)] at h55; omega
    refine tg_go bX9_nextToken_58 ?_
    simp only [ti_aload, ti_getf, ti_push, ti_iadd, List.getElem?_cons_zero, List.getElem?_cons_succ, true_and]
    rw [nI_1]
    refine g_goto (tgt := 71) dX9_nextToken_64 rfl ?_
    refine tg_go bX9_nextToken_71 ?_
    simp only [ti_aload, ti_getf, ti_putfI, List.getElem?_cons_zero, List.getElem?_cons_succ, List.set_cons_zero, List.set_cons_succ, true_and]
    refine g_icmp_ge (tgt := 139) dX9_nextToken_82 rfl (fun h82 => ?_) (fun h82 => ?_)
    · rw [lI_le (by omega) (by omega)] at h82; omega
    refine tg_go bX9_nextToken_85 ?_
    simp only [ti_aload, ti_getf, ti_iald, List.getElem?_cons_zero, List.getElem?_cons_succ, true_and]
    rw [nI_clamp (by omega)]
    refine ⟨vp_in_nI (by omega) (by omega), ?_⟩
    refine tg_cP vX9_nextToken_94 (kX9_isLetter) rfl rfl (Nat.le_of_ble_eq_true rfl) (Nat.le_of_ble_eq_true rfl) ?_
    refine g_if_eq (tgt := 139) dX9_nextToken_97 rfl (fun h97 => ?_) (fun h97 => ?_)
    · have h3 : isLt (tx q) = false := bZ_0 h97
      refine tg_go bX9_nextToken_139 ?_
      simp only [ti_aload, ti_getf, List.getElem?_cons_zero, List.getElem?_cons_succ, true_and]
      refine g_icmp_ge (tgt := 204) dX9_nextToken_147 rfl (fun h147 => ?_) (fun h147 => ?_)
      · rw [lI_le (by omega) (by omega)] at h147; omega
      refine tg_go bX9_nextToken_150 ?_
      simp only [ti_aload, ti_getf, ti_iald, List.getElem?_cons_zero, List.getElem?_cons_succ, true_and]
      rw [nI_clamp (by omega)]
      refine ⟨vp_in_nI (by omega) (by omega), ?_⟩
      refine tg_cP vX9_nextToken_159 (kX9_isDigit) rfl rfl (Nat.le_of_ble_eq_true rfl) (Nat.le_of_ble_eq_true rfl) ?_
      refine g_if_eq (tgt := 204) dX9_nextToken_162 rfl (fun h162 => ?_) (fun h162 => ?_)
      · have h4 : isDg (tx q) = false := bZ_0 h162
        refine g_vret dX9_nextToken_204 rfl ⟨rfl, ?_⟩
        unfold tkB
        rw [if_pos hlt, if_neg (by rw [h3]; decide), if_neg (by rw [h4]; decide)]
      · have h4 : isDg (tx q) = true := bZ_n h162
        refine kX9_nt_3 hL (b0 := tkB tx L q) ⟨rfl, rfl⟩ (L + 1) (q + 1) (by omega) (by omega) ?_
        unfold tkB
        rw [if_pos hlt, if_neg (by rw [h3]; decide), if_pos h4]
    · have h3 : isLt (tx q) = true := bZ_n h97
      refine kX9_nt_2 hL (b0 := tkB tx L q) ⟨rfl, rfl⟩ (L + 1) (q + 1) (by omega) (by omega) ?_
      unfold tkB
      rw [if_pos hlt, if_pos h3]
  · have hqL : tkB tx L q = q := by unfold tkB; rw [if_neg hlt]
    rw [hqL]
    refine g_icmp_ge (tgt := 67) dX9_nextToken_55 rfl (fun h55 => ?_) (fun h55 => ?_)
    · refine tg_go bX9_nextToken_67 ?_
      simp only [ti_aload, ti_getf, List.getElem?_cons_zero, List.getElem?_cons_succ, true_and]
      refine tg_go bX9_nextToken_71 ?_
      simp only [ti_aload, ti_getf, ti_putfI, List.getElem?_cons_zero, List.getElem?_cons_succ, List.set_cons_zero, List.set_cons_succ, true_and]
      refine g_icmp_ge (tgt := 139) dX9_nextToken_82 rfl (fun h82 => ?_) (fun h82 => ?_)
      · refine tg_go bX9_nextToken_139 ?_
        simp only [ti_aload, ti_getf, List.getElem?_cons_zero, List.getElem?_cons_succ, true_and]
        refine g_icmp_ge (tgt := 204) dX9_nextToken_147 rfl (fun h147 => ?_) (fun h147 => ?_)
        · exact g_vret dX9_nextToken_204 rfl ⟨rfl, rfl⟩
        · rw [lI_le (by omega) (by omega)] at h147; omega
      · rw [lI_le (by omega) (by omega)] at h82; omega
    · rw [lI_le (by omega) (by omega)] at h55; omega
/-! words -/
def wTab : List Int32 := [116, 97, 98, 108, 101]
def wSup : List Int32 := [115, 117, 112, 112, 111, 114, 116]
def wRow : List Int32 := [114, 111, 119]
def wordB (tx : Nat → Int32) (f b : Nat) (ws : List Int32) : Bool := decide (b - f = ws.length) && allB (fun k => decide (tx (f + k) = ws.getD k 0)) ws.length
end REFC
