/-! THE REFERENCE: keys and rules -/
def hasB (st : Int32) (k : Nat) : Bool := decide ((st >>> (nI k &&& 31)) &&& 1 = 1)
def alk (d : Nat) (c : Nat → Nat) (st : Int32) (i j : Nat) : Bool := allB (fun k => !hasB st k || decide (figN d (c i) k = figN d (c j) k)) d
def keyB (d n : Nat) (c : Nat → Nat) (st : Int32) : Bool := allB (fun i => allB (fun j => !alk d c st i j) i) n
def b4 (s : Int32) : Int32 := (s &&& 1) + ((s >>> ((1 : Int32) &&& 31)) &&& 1) + ((s >>> ((2 : Int32) &&& 31)) &&& 1) + ((s >>> ((3 : Int32) &&& 31)) &&& 1)
def keyF (d n : Nat) (c : Nat → Nat) : Nat → Int32
  | 0 => -1
  | q + 1 => if keyB d n c (nI q) = true ∧ (keyF d n c q = -1 ∨ b4 (nI q) < b4 (keyF d n c q)) then nI q else keyF d n c q
def rulB (d n : Nat) (c : Nat → Nat) (st : Int32) (k : Nat) : Bool := allB (fun i => allB (fun j => !alk d c st i j || alk d c ((1 : Int32) <<< (nI k &&& 31)) i j) i) n
theorem shl1 {d : Nat} (hd : d ≤ 4) : (1 : Int32) <<< (nI d &&& 31) = nI (2 ^ d) := by
  rcases (show d = 0 ∨ d = 1 ∨ d = 2 ∨ d = 3 ∨ d = 4 by omega) with rfl | rfl | rfl | rfl | rfl <;> decide
theorem pow2 {d : Nat} (hd : d ≤ 4) : 2 ^ d ≤ 16 := Nat.le_trans (Nat.pow_le_pow_right (by decide) hd) (by decide)
section REFB
variable {l : tg_Ln} {K : Option Value → List va_E → Prop} {row vals kp tx sz rv ct bm : Nat → Int32} {dm un len fi be rD rM cl dg nu my su le gr cz vi ov : Int32} {it : Nat → Int64} {ask : Int64} {d B n s : Nat} {c v : Nat → Nat} {u : Nat → Int32}
theorem kX9_areAlike_l {st : Int32} {i j : Nat} (hd : d ≤ 4) (ht : tbR row d 0 n s c u) (hi : i < n) (hj : j < n) (hK : K (some (.int (bZ (alk d c st i j)))) (wM row (nI d) vals un kp tx len sz it ask fi be rD rM cl dg nu my su le gr cz vi ov rv ct bm)) : ∀ (m k : Nat), d - k < m → k ≤ d → tg_G l mX9_areAlike 1000 K 0 0 6 [.ref 0, .int st, .int (nI i), .int (nI j), .int (bZ (allB (fun k => !hasB st k || decide (figN d (c i) k = figN d (c j) k)) k)), .int (nI k)] [] (wM row (nI d) vals un kp tx len sz it ask fi be rD rM cl dg nu my su le gr cz vi ov rv ct bm) := by
  have hp7 := pow7 hd
  have hn := ht.2.2.2.2.2.1
  have hci := ht.2.2.1 i hi
  have hcj := ht.2.2.1 j hj
  have hli := ht.2.2.2.2.1 i hi
  have hlj := ht.2.2.2.2.1 j hj
  rw [Nat.zero_add] at hci hcj
  intro m
  induction m with
  | zero => intro k h; omega
  | succ m ih =>
    intro k hm hk
    have f1 := figN_lt d (c i) k
    have f2 := figN_lt d (c j) k
    unfold wM at ih hK ⊢
    refine tg_go bX9_areAlike_6 ?_
    simp only [ti_aload, ti_getf, ti_iload, List.getElem?_cons_zero, List.getElem?_cons_succ, true_and]
    refine g_icmp_ge (tgt := 73) dX9_areAlike_12 rfl (fun h12 => ?_) (fun h12 => ?_)
    · rw [lI_le (by omega) (by omega)] at h12
      obtain rfl : k = d := by omega
      refine tg_go bX9_areAlike_73 ?_
      simp only [ti_iload, List.getElem?_cons_zero, List.getElem?_cons_succ, true_and]
      refine g_zret dX9_areAlike_75 rfl (bZ_01 _) ?_
      exact hK
    · rw [lI_le (by omega) (by omega)] at h12
      refine tg_go bX9_areAlike_15 ?_
      simp only [ti_iload, List.getElem?_cons_zero, List.getElem?_cons_succ, true_and]
      refine g_cut1 65 (fun z => z = bZ (allB (fun k => !hasB st k || decide (figN d (c i) k = figN d (c j) k)) k && (!hasB st k || decide (figN d (c i) k = figN d (c j) k)))) (fun J65 => ?_) (fun z hz => ?_)
      · refine g_if_eq (tgt := 64) dX9_areAlike_17 rfl (fun h17 => ?_) (fun h17 => ?_)
        · refine tg_go bX9_areAlike_64 ?_
          simp only [ti_push, List.getElem?_cons_zero, List.getElem?_cons_succ, true_and]
          exact J65 _ (by rw [bZ_0 h17]; rfl)
        · refine tg_go bX9_areAlike_20 ?_
          simp only [ti_iload, List.getElem?_cons_zero, List.getElem?_cons_succ, true_and]
          refine tg_cP vX9_areAlike_23 (kX9_has) rfl rfl (Nat.le_of_ble_eq_true rfl) (Nat.le_of_ble_eq_true rfl) ?_
          refine g_if_eq (tgt := 60) dX9_areAlike_26 rfl (fun h26 => ?_) (fun h26 => ?_)
          · have hh : hasB st k = false := bZ_0 h26
            refine tg_go bX9_areAlike_60 ?_
            simp only [ti_push, List.getElem?_cons_zero, List.getElem?_cons_succ, true_and]
            refine g_goto (tgt := 65) dX9_areAlike_61 rfl ?_
            exact J65 _ (by rw [bZ_n h17, hh]; rfl)
          · have hh : hasB st k = true := bZ_n h26
            refine tg_go bX9_areAlike_29 ?_
            simp only [ti_aload, ti_getf, ti_iadd, ti_iald, ti_iload, ti_push, List.getElem?_cons_zero, List.getElem?_cons_succ, true_and]
            rw [show (2 : Int32) + nI i = nI (2 + i) from nI_add 2 _, nI_clamp (by omega), hci]
            refine ⟨vp_in_nI (by omega) (by omega), ?_⟩
            refine tg_cW vX9_areAlike_40 (kX9_figure hd (show c i < 2 ^ 31 by omega) (show k < d by omega)) rfl rfl rfl rfl (Nat.le_of_ble_eq_true rfl) (Nat.le_of_ble_eq_true rfl) (Nat.le_of_ble_eq_true rfl) rfl ?_
            unfold wM
            refine tg_go bX9_areAlike_43 ?_
            simp only [ti_aload, ti_getf, ti_iadd, ti_iald, ti_iload, ti_push, List.getElem?_cons_zero, List.getElem?_cons_succ, true_and]
            rw [show (2 : Int32) + nI j = nI (2 + j) from nI_add 2 _, nI_clamp (by omega), hcj]
            refine ⟨vp_in_nI (by omega) (by omega), ?_⟩
            refine tg_cW vX9_areAlike_54 (kX9_figure hd (show c j < 2 ^ 31 by omega) (show k < d by omega)) rfl rfl rfl rfl (Nat.le_of_ble_eq_true rfl) (Nat.le_of_ble_eq_true rfl) (Nat.le_of_ble_eq_true rfl) rfl ?_
            unfold wM
            refine g_icmp_ne (tgt := 64) dX9_areAlike_57 rfl (fun h57 => ?_) (fun h57 => ?_)
            · rw [lI_eq (by omega) (by omega)] at h57
              refine tg_go bX9_areAlike_64 ?_
              simp only [ti_push, List.getElem?_cons_zero, List.getElem?_cons_succ, true_and]
              exact J65 _ (by rw [bZ_n h17, hh, decide_eq_false h57]; rfl)
            · rw [lI_eq (by omega) (by omega)] at h57
              refine tg_go bX9_areAlike_60 ?_
              simp only [ti_push, List.getElem?_cons_zero, List.getElem?_cons_succ, true_and]
              refine g_goto (tgt := 65) dX9_areAlike_61 rfl ?_
              exact J65 _ (by rw [bZ_n h17, hh, decide_eq_true h57]; rfl)
      subst hz
      refine tg_go bX9_areAlike_65 ?_
      simp only [ti_iinc, ti_istore, tg_s1, tg_cl, List.getElem?_cons_zero, List.getElem?_cons_succ, List.set_cons_zero, List.set_cons_succ, true_and]
      rw [nI_1]
      refine g_goto (tgt := 6) dX9_areAlike_70 rfl ?_
      exact ih (k + 1) (by omega) (by omega)
theorem kX9_areAlike {st : Int32} {i j : Nat} (hd : d ≤ 4) (ht : tbR row d 0 n s c u) (hi : i < n) (hj : j < n) : tg_Ct l mX9_areAlike 1000 [.ref 0, .int st, .int (nI i), .int (nI j)] (wM row (nI d) vals un kp tx len sz it ask fi be rD rM cl dg nu my su le gr cz vi ov rv ct bm) (fun r w => r = some (.int (bZ (alk d c st i j))) ∧ w = (wM row (nI d) vals un kp tx len sz it ask fi be rD rM cl dg nu my su le gr cz vi ov rv ct bm)) := by
  show tg_G _ _ _ _ _ _ _ [.ref 0, .int st, .int (nI i), .int (nI j), .null, .null] [] _
  unfold wM
  refine tg_go bX9_areAlike_0 ?_
  simp only [ti_istore, ti_push, tg_s1, tg_cl, List.getElem?_cons_zero, List.getElem?_cons_succ, List.set_cons_zero, List.set_cons_succ, true_and]
  exact kX9_areAlike_l hd ht hi hj ⟨rfl, rfl⟩ (d + 1) 0 (by omega) (by omega)
theorem kX9_isKey_2 {st : Int32} {i : Nat} {X : Bool} (hd : d ≤ 4) (ht : tbR row d 0 n s c u) (hi : i < n) (hK : ∀ x4, tg_G l mX9_isKey 1000 K 0 0 50 [.ref 0, .int st, .int (bZ (X && allB (fun j => !alk d c st i j) i)), .int (nI i), x4] [] (wM row (nI d) vals un kp tx len sz it ask fi be rD rM cl dg nu my su le gr cz vi ov rv ct bm)) : ∀ (m j : Nat), i - j < m → j ≤ i → tg_G l mX9_isKey 1000 K 0 0 17 [.ref 0, .int st, .int (bZ (X && allB (fun j => !alk d c st i j) j)), .int (nI i), .int (nI j)] [] (wM row (nI d) vals un kp tx len sz it ask fi be rD rM cl dg nu my su le gr cz vi ov rv ct bm) := by
  have hn := ht.2.2.2.2.2.1
  intro m
  induction m with
  | zero => intro j h; omega
  | succ m ih =>
    intro j hm hj
    unfold wM at ih hK ⊢
    refine tg_go bX9_isKey_17 ?_
    simp only [ti_iload, List.getElem?_cons_zero, List.getElem?_cons_succ, true_and]
    refine g_icmp_ge (tgt := 50) dX9_isKey_20 rfl (fun h20 => ?_) (fun h20 => ?_)
    · rw [lI_le (by omega) (by omega)] at h20
      obtain rfl : j = i := by omega
      exact hK _
    · rw [lI_le (by omega) (by omega)] at h20
      refine tg_go bX9_isKey_23 ?_
      simp only [ti_iload, List.getElem?_cons_zero, List.getElem?_cons_succ, true_and]
      refine g_if_eq (tgt := 50) dX9_isKey_24 rfl (fun h24 => ?_) (fun h24 => ?_)
      · have h2 := hK (.int (nI j))
        have e : (X && allB (fun j => !alk d c st i j) i) = false := by
          have h3 := bZ_0 h24
          cases hX : X with
          | false => rfl
          | true =>
            rw [hX, Bool.true_and] at h3
            have h4 := allB_mono (i - j) h3
            rw [show j + (i - j) = i by omega] at h4
            rw [h4]; rfl
        rw [e] at h2
        rw [bZ_0 h24]
        exact h2
      · refine tg_go bX9_isKey_27 ?_
        simp only [ti_aload, ti_iload, List.getElem?_cons_zero, List.getElem?_cons_succ, true_and]
        refine tg_cW vX9_isKey_32 (kX9_areAlike hd ht hi (show j < n by omega)) rfl rfl rfl rfl (Nat.le_of_ble_eq_true rfl) (Nat.le_of_ble_eq_true rfl) (Nat.le_of_ble_eq_true rfl) rfl ?_
        unfold wM
        refine g_cut1 43 (fun z => z = bZ (!alk d c st i j)) (fun J43 => ?_) (fun z hz => ?_)
        · refine g_if_ne (tgt := 42) dX9_isKey_35 rfl (fun h35 => ?_) (fun h35 => ?_)
          · refine tg_go bX9_isKey_42 ?_
            simp only [ti_push, List.getElem?_cons_zero, List.getElem?_cons_succ, true_and]
            exact J43 _ (by rw [bZ_n h35]; rfl)
          · refine tg_go bX9_isKey_38 ?_
            simp only [ti_push, List.getElem?_cons_zero, List.getElem?_cons_succ, true_and]
            refine g_goto (tgt := 43) dX9_isKey_39 rfl ?_
            exact J43 _ (by rw [bZ_0 h35]; rfl)
        subst hz
        refine tg_go bX9_isKey_43 ?_
        simp only [ti_iinc, ti_istore, tg_s1, tg_cl, List.getElem?_cons_zero, List.getElem?_cons_succ, List.set_cons_zero, List.set_cons_succ, true_and]
        rw [nI_1]
        refine g_goto (tgt := 17) dX9_isKey_47 rfl ?_
        have h2 := ih (j + 1) (by omega) (by omega)
        rw [allB, ← Bool.and_assoc, bZ_n h24, Bool.true_and] at h2
        exact h2
theorem kX9_isKey_1 {st : Int32} (hd : d ≤ 4) (ht : tbR row d 0 n s c u) (hK : K (some (.int (bZ (keyB d n c st)))) (wM row (nI d) vals un kp tx len sz it ask fi be rD rM cl dg nu my su le gr cz vi ov rv ct bm)) : ∀ (m i : Nat) (x4 : Value), n - i < m → i ≤ n → tg_G l mX9_isKey 1000 K 0 0 4 [.ref 0, .int st, .int (bZ (allB (fun i => allB (fun j => !alk d c st i j) i) i)), .int (nI i), x4] [] (wM row (nI d) vals un kp tx len sz it ask fi be rD rM cl dg nu my su le gr cz vi ov rv ct bm) := by
  have hn := ht.2.2.2.2.2.1
  intro m
  induction m with
  | zero => intro i x4 h; omega
  | succ m ih =>
    intro i x4 hm hi
    unfold wM at ih hK ⊢
    refine tg_go bX9_isKey_4 ?_
    simp only [ti_aload, ti_getf, ti_iald, ti_iload, ti_push, List.getElem?_cons_zero, List.getElem?_cons_succ, true_and]
    rw [sb_cl0, ht.1]
    refine ⟨vp_in_nI (n := 0) (by decide) (by decide), ?_⟩
    refine g_icmp_ge (tgt := 56) dX9_isKey_11 rfl (fun h11 => ?_) (fun h11 => ?_)
    · rw [lI_le (by omega) (by omega)] at h11
      obtain rfl : i = n := by omega
      refine tg_go bX9_isKey_56 ?_
      simp only [ti_iload, List.getElem?_cons_zero, List.getElem?_cons_succ, true_and]
      refine g_zret dX9_isKey_57 rfl (bZ_01 _) ?_
      exact hK
    · rw [lI_le (by omega) (by omega)] at h11
      refine tg_go bX9_isKey_14 ?_
      simp only [ti_istore, ti_push, tg_s1, tg_cl, List.getElem?_cons_zero, List.getElem?_cons_succ, List.set_cons_zero, List.set_cons_succ, true_and]
      have h2 := kX9_isKey_2 (l := l) (K := K) (row := row) (vals := vals) (un := un) (kp := kp) (tx := tx) (len := len) (sz := sz) (it := it) (ask := ask) (fi := fi) (be := be) (rD := rD) (rM := rM) (cl := cl) (dg := dg) (nu := nu) (my := my) (su := su) (le := le) (gr := gr) (cz := cz) (vi := vi) (ov := ov) (rv := rv) (ct := ct) (bm := bm) (st := st) (i := i) (X := allB (fun i => allB (fun j => !alk d c st i j) i) i) hd ht (show i < n by omega) (fun x4' => by
        unfold wM
        refine tg_go bX9_isKey_50 ?_
        simp only [ti_iinc, tg_s1, tg_cl, List.getElem?_cons_zero, List.getElem?_cons_succ, List.set_cons_zero, List.set_cons_succ]
        rw [nI_1]
        refine g_goto (tgt := 4) dX9_isKey_53 rfl ?_
        exact ih (i + 1) _ (by omega) (by omega)) (i + 1) 0 (by omega) (by omega)
      rw [show allB (fun j => !alk d c st i j) 0 = true from rfl, Bool.and_true] at h2
      exact h2
theorem kX9_isKey {st : Int32} (hd : d ≤ 4) (ht : tbR row d 0 n s c u) : tg_Ct l mX9_isKey 1000 [.ref 0, .int st] (wM row (nI d) vals un kp tx len sz it ask fi be rD rM cl dg nu my su le gr cz vi ov rv ct bm) (fun r w => r = some (.int (bZ (keyB d n c st))) ∧ w = (wM row (nI d) vals un kp tx len sz it ask fi be rD rM cl dg nu my su le gr cz vi ov rv ct bm)) := by
  show tg_G _ _ _ _ _ _ _ [.ref 0, .int st, .null, .null, .null] [] _
  unfold wM
  refine tg_go bX9_isKey_0 ?_
  simp only [ti_istore, ti_push, tg_s1, tg_cl, List.getElem?_cons_zero, List.getElem?_cons_succ, List.set_cons_zero, List.set_cons_succ, true_and]
  exact kX9_isKey_1 hd ht ⟨rfl, rfl⟩ (n + 1) 0 .null (by omega) (by omega)
theorem kX9_key_l (hd : d ≤ 4) (ht : tbR row d 0 n s c u) (hK : K (some (.int (keyF d n c (2 ^ d)))) (wM row (nI d) vals un kp tx len sz it ask fi be rD rM cl dg nu my su le gr cz vi ov rv ct bm)) : ∀ (m q : Nat), 2 ^ d - q < m → q ≤ 2 ^ d → tg_G l mX9_key 1000 K 0 0 4 [.ref 0, .int (keyF d n c q), .int (nI q)] [] (wM row (nI d) vals un kp tx len sz it ask fi be rD rM cl dg nu my su le gr cz vi ov rv ct bm) := by
  have hp2 := pow2 hd
  intro m
  induction m with
  | zero => intro q h; omega
  | succ m ih =>
    intro q hm hq
    unfold wM at ih hK ⊢
    refine tg_go bX9_key_4 ?_
    simp only [ti_aload, ti_getf, ti_iload, ti_ishl, ti_push, List.getElem?_cons_zero, List.getElem?_cons_succ, true_and]
    rw [shl1 hd]
    refine g_icmp_ge (tgt := 46) dX9_key_11 rfl (fun h11 => ?_) (fun h11 => ?_)
    · rw [lI_le (by omega) (by omega)] at h11
      obtain rfl : q = 2 ^ d := by omega
      refine tg_go bX9_key_46 ?_
      simp only [ti_iload, List.getElem?_cons_zero, List.getElem?_cons_succ, true_and]
      refine g_iret dX9_key_47 rfl ?_
      exact hK
    · rw [lI_le (by omega) (by omega)] at h11
      refine tg_go bX9_key_14 ?_
      simp only [ti_aload, ti_iload, List.getElem?_cons_zero, List.getElem?_cons_succ, true_and]
      refine tg_cW vX9_key_16 (kX9_isKey hd ht) rfl rfl rfl rfl (Nat.le_of_ble_eq_true rfl) (Nat.le_of_ble_eq_true rfl) (Nat.le_of_ble_eq_true rfl) rfl ?_
      unfold wM
      refine g_if_eq (tgt := 40) dX9_key_19 rfl (fun h19 => ?_) (fun h19 => ?_)
      · refine tg_go bX9_key_40 ?_
        simp only [ti_iinc, tg_s1, tg_cl, List.getElem?_cons_zero, List.getElem?_cons_succ, List.set_cons_zero, List.set_cons_succ, true_and]
        rw [nI_1]
        refine g_goto (tgt := 4) dX9_key_43 rfl ?_
        have h2 := ih (q + 1) (by omega) (by omega)
        rw [keyF, if_neg (fun z => by rw [bZ_0 h19] at z; exact absurd z.1 (by decide))] at h2
        exact h2
      · refine tg_go bX9_key_22 ?_
        simp only [ti_iload, ti_push, List.getElem?_cons_zero, List.getElem?_cons_succ, true_and]
        refine g_icmp_eq (tgt := 38) dX9_key_24 rfl (fun h24 => ?_) (fun h24 => ?_)
        · refine tg_go bX9_key_38 ?_
          simp only [ti_iload, ti_istore, tg_s1, tg_cl, List.getElem?_cons_zero, List.getElem?_cons_succ, List.set_cons_zero, List.set_cons_succ, true_and]
          skip
          refine tg_go bX9_key_40 ?_
          simp only [ti_iinc, tg_s1, tg_cl, List.getElem?_cons_zero, List.getElem?_cons_succ, List.set_cons_zero, List.set_cons_succ, true_and]
          rw [nI_1]
          refine g_goto (tgt := 4) dX9_key_43 rfl ?_
          have h2 := ih (q + 1) (by omega) (by omega)
          rw [keyF, if_pos ⟨bZ_n h19, Or.inl h24⟩] at h2
          exact h2
        · refine tg_go bX9_key_27 ?_
          simp only [ti_iload, List.getElem?_cons_zero, List.getElem?_cons_succ, true_and]
          refine tg_cP vX9_key_28 (kX9_bits4) rfl rfl (Nat.le_of_ble_eq_true rfl) (Nat.le_of_ble_eq_true rfl) ?_
          refine tg_go bX9_key_31 ?_
          simp only [ti_iload, List.getElem?_cons_zero, List.getElem?_cons_succ, true_and]
          refine tg_cP vX9_key_32 (kX9_bits4) rfl rfl (Nat.le_of_ble_eq_true rfl) (Nat.le_of_ble_eq_true rfl) ?_
          refine g_icmp_ge (tgt := 40) dX9_key_35 rfl (fun h35 => ?_) (fun h35 => ?_)
          · refine tg_go bX9_key_40 ?_
            simp only [ti_iinc, tg_s1, tg_cl, List.getElem?_cons_zero, List.getElem?_cons_succ, List.set_cons_zero, List.set_cons_succ, true_and]
            rw [nI_1]
            refine g_goto (tgt := 4) dX9_key_43 rfl ?_
            have h2 := ih (q + 1) (by omega) (by omega)
            rw [keyF, if_neg (fun z => z.2.elim h24 (fun z => absurd z (Int32.not_lt.mpr h35)))] at h2
            exact h2
          · refine tg_go bX9_key_38 ?_
            simp only [ti_iload, ti_istore, tg_s1, tg_cl, List.getElem?_cons_zero, List.getElem?_cons_succ, List.set_cons_zero, List.set_cons_succ, true_and]
            skip
            refine tg_go bX9_key_40 ?_
            simp only [ti_iinc, tg_s1, tg_cl, List.getElem?_cons_zero, List.getElem?_cons_succ, List.set_cons_zero, List.set_cons_succ, true_and]
            rw [nI_1]
            refine g_goto (tgt := 4) dX9_key_43 rfl ?_
            have h2 := ih (q + 1) (by omega) (by omega)
            rw [keyF, if_pos ⟨bZ_n h19, Or.inr (Int32.not_le.mp h35)⟩] at h2
            exact h2
theorem kX9_key (hd : d ≤ 4) (ht : tbR row d 0 n s c u) : tg_Ct l mX9_key 1000 [.ref 0] (wM row (nI d) vals un kp tx len sz it ask fi be rD rM cl dg nu my su le gr cz vi ov rv ct bm) (fun r w => r = some (.int (keyF d n c (2 ^ d))) ∧ (sM row (nI d) vals un kp tx len sz it ask) w) := by
  show tg_G _ _ _ _ _ _ _ [.ref 0, .null, .null] [] _
  unfold wM
  refine tg_go bX9_key_0 ?_
  simp only [ti_istore, ti_push, tg_s1, tg_cl, List.getElem?_cons_zero, List.getElem?_cons_succ, List.set_cons_zero, List.set_cons_succ, true_and]
  exact kX9_key_l hd ht ⟨rfl, sM_mk⟩ (2 ^ d + 1) 0 (Nat.lt_succ_of_le (Nat.sub_le _ _)) (Nat.zero_le _)
theorem kX9_rule_2 {st : Int32} {i k : Nat} {X : Bool} (hd : d ≤ 4) (ht : tbR row d 0 n s c u) (hi : i < n) (hK : ∀ x5, tg_G l mX9_rule 1000 K 0 0 105 [.ref 0, .int st, .int (nI k), .int (bZ (X && allB (fun j => !alk d c st i j || alk d c ((1 : Int32) <<< (nI k &&& 31)) i j) i)), .int (nI i), x5] [] (wM row (nI d) vals un kp tx len sz it ask fi be rD rM cl dg nu my su le gr cz vi ov rv ct bm)) : ∀ (m j : Nat), i - j < m → j ≤ i → tg_G l mX9_rule 1000 K 0 0 56 [.ref 0, .int st, .int (nI k), .int (bZ (X && allB (fun j => !alk d c st i j || alk d c ((1 : Int32) <<< (nI k &&& 31)) i j) j)), .int (nI i), .int (nI j)] [] (wM row (nI d) vals un kp tx len sz it ask fi be rD rM cl dg nu my su le gr cz vi ov rv ct bm) := by
  have hn := ht.2.2.2.2.2.1
  intro m
  induction m with
  | zero => intro j h; omega
  | succ m ih =>
    intro j hm hj
    unfold wM at ih hK ⊢
    refine tg_go bX9_rule_56 ?_
    simp only [ti_iload, List.getElem?_cons_zero, List.getElem?_cons_succ, true_and]
    refine g_icmp_ge (tgt := 105) dX9_rule_60 rfl (fun h60 => ?_) (fun h60 => ?_)
    · rw [lI_le (by omega) (by omega)] at h60
      obtain rfl : j = i := by omega
      exact hK _
    · rw [lI_le (by omega) (by omega)] at h60
      refine tg_go bX9_rule_63 ?_
      simp only [ti_iload, List.getElem?_cons_zero, List.getElem?_cons_succ, true_and]
      refine g_if_eq (tgt := 105) dX9_rule_64 rfl (fun h64 => ?_) (fun h64 => ?_)
      · have h2 := hK (.int (nI j))
        have e : (X && allB (fun j => !alk d c st i j || alk d c ((1 : Int32) <<< (nI k &&& 31)) i j) i) = false := by
          have h3 := bZ_0 h64
          cases hX : X with
          | false => rfl
          | true =>
            rw [hX, Bool.true_and] at h3
            have h4 := allB_mono (i - j) h3
            rw [show j + (i - j) = i by omega] at h4
            rw [h4]; rfl
        rw [e] at h2
        rw [bZ_0 h64]
        exact h2
      · refine tg_go bX9_rule_67 ?_
        simp only [ti_aload, ti_iload, List.getElem?_cons_zero, List.getElem?_cons_succ, true_and]
        refine tg_cW vX9_rule_73 (kX9_areAlike hd ht hi (show j < n by omega)) rfl rfl rfl rfl (Nat.le_of_ble_eq_true rfl) (Nat.le_of_ble_eq_true rfl) (Nat.le_of_ble_eq_true rfl) rfl ?_
        unfold wM
        refine g_cut1 98 (fun z => z = bZ (!alk d c st i j || alk d c ((1 : Int32) <<< (nI k &&& 31)) i j)) (fun J98 => ?_) (fun z hz => ?_)
        · refine g_if_eq (tgt := 93) dX9_rule_76 rfl (fun h76 => ?_) (fun h76 => ?_)
          · refine tg_go bX9_rule_93 ?_
            simp only [ti_push, List.getElem?_cons_zero, List.getElem?_cons_succ, true_and]
            refine g_goto (tgt := 98) dX9_rule_94 rfl ?_
            exact J98 _ (by rw [bZ_0 h76]; rfl)
          · refine tg_go bX9_rule_79 ?_
            simp only [ti_aload, ti_iload, ti_ishl, ti_push, List.getElem?_cons_zero, List.getElem?_cons_succ, true_and]
            refine tg_cW vX9_rule_87 (kX9_areAlike hd ht hi (show j < n by omega)) rfl rfl rfl rfl (Nat.le_of_ble_eq_true rfl) (Nat.le_of_ble_eq_true rfl) (Nat.le_of_ble_eq_true rfl) rfl ?_
            unfold wM
            refine g_if_eq (tgt := 97) dX9_rule_90 rfl (fun h90 => ?_) (fun h90 => ?_)
            · refine tg_go bX9_rule_97 ?_
              simp only [ti_push, List.getElem?_cons_zero, List.getElem?_cons_succ, true_and]
              exact J98 _ (by rw [bZ_n h76, bZ_0 h90]; rfl)
            · refine tg_go bX9_rule_93 ?_
              simp only [ti_push, List.getElem?_cons_zero, List.getElem?_cons_succ, true_and]
              refine g_goto (tgt := 98) dX9_rule_94 rfl ?_
              exact J98 _ (by rw [bZ_n h76, bZ_n h90]; rfl)
        subst hz
        refine tg_go bX9_rule_98 ?_
        simp only [ti_iinc, ti_istore, tg_s1, tg_cl, List.getElem?_cons_zero, List.getElem?_cons_succ, List.set_cons_zero, List.set_cons_succ, true_and]
        rw [nI_1]
        refine g_goto (tgt := 56) dX9_rule_102 rfl ?_
        have h2 := ih (j + 1) (by omega) (by omega)
        rw [allB, ← Bool.and_assoc, bZ_n h64, Bool.true_and] at h2
        exact h2
theorem kX9_rule_1 {st : Int32} {k : Nat} (hd : d ≤ 4) (ht : tbR row d 0 n s c u) (hK : K (some (.int (bZ (rulB d n c st k)))) (wM row (nI d) vals un kp tx len sz it ask fi be rD rM cl dg nu my su le gr cz vi ov rv ct bm)) : ∀ (m i : Nat) (x5 : Value), n - i < m → i ≤ n → tg_G l mX9_rule 1000 K 0 0 42 [.ref 0, .int st, .int (nI k), .int (bZ (allB (fun i => allB (fun j => !alk d c st i j || alk d c ((1 : Int32) <<< (nI k &&& 31)) i j) i) i)), .int (nI i), x5] [] (wM row (nI d) vals un kp tx len sz it ask fi be rD rM cl dg nu my su le gr cz vi ov rv ct bm) := by
  have hn := ht.2.2.2.2.2.1
  intro m
  induction m with
  | zero => intro i x5 h; omega
  | succ m ih =>
    intro i x5 hm hi
    unfold wM at ih hK ⊢
    refine tg_go bX9_rule_42 ?_
    simp only [ti_aload, ti_getf, ti_iald, ti_iload, ti_push, List.getElem?_cons_zero, List.getElem?_cons_succ, true_and]
    rw [sb_cl0, ht.1]
    refine ⟨vp_in_nI (n := 0) (by decide) (by decide), ?_⟩
    refine g_icmp_ge (tgt := 111) dX9_rule_50 rfl (fun h50 => ?_) (fun h50 => ?_)
    · rw [lI_le (by omega) (by omega)] at h50
      obtain rfl : i = n := by omega
      refine tg_go bX9_rule_111 ?_
      simp only [ti_iload, List.getElem?_cons_zero, List.getElem?_cons_succ, true_and]
      refine g_if_eq (tgt := 119) dX9_rule_112 rfl (fun h112 => ?_) (fun h112 => ?_)
      · refine tg_go bX9_rule_119 ?_
        simp only [ti_push, List.getElem?_cons_zero, List.getElem?_cons_succ, true_and]
        refine g_iret dX9_rule_120 rfl ?_
        have h3 : rulB d i c st k = false := bZ_0 h112
        rw [h3] at hK
        exact hK
      · refine tg_go bX9_rule_115 ?_
        simp only [ti_push, List.getElem?_cons_zero, List.getElem?_cons_succ, true_and]
        refine g_goto (tgt := 120) dX9_rule_116 rfl ?_
        refine g_iret dX9_rule_120 rfl ?_
        have h3 : rulB d i c st k = true := bZ_n h112
        rw [h3] at hK
        exact hK
    · rw [lI_le (by omega) (by omega)] at h50
      refine tg_go bX9_rule_53 ?_
      simp only [ti_istore, ti_push, tg_s1, tg_cl, List.getElem?_cons_zero, List.getElem?_cons_succ, List.set_cons_zero, List.set_cons_succ, true_and]
      have h2 := kX9_rule_2 (l := l) (K := K) (row := row) (vals := vals) (un := un) (kp := kp) (tx := tx) (len := len) (sz := sz) (it := it) (ask := ask) (fi := fi) (be := be) (rD := rD) (rM := rM) (cl := cl) (dg := dg) (nu := nu) (my := my) (su := su) (le := le) (gr := gr) (cz := cz) (vi := vi) (ov := ov) (rv := rv) (ct := ct) (bm := bm) (st := st) (i := i) (k := k) (X := allB (fun i => allB (fun j => !alk d c st i j || alk d c ((1 : Int32) <<< (nI k &&& 31)) i j) i) i) hd ht (show i < n by omega) (fun x5' => by
        unfold wM
        refine tg_go bX9_rule_105 ?_
        simp only [ti_iinc, tg_s1, tg_cl, List.getElem?_cons_zero, List.getElem?_cons_succ, List.set_cons_zero, List.set_cons_succ]
        rw [nI_1]
        refine g_goto (tgt := 42) dX9_rule_108 rfl ?_
        exact ih (i + 1) _ (by omega) (by omega)) (i + 1) 0 (by omega) (by omega)
      rw [show allB (fun j => !alk d c st i j || alk d c ((1 : Int32) <<< (nI k &&& 31)) i j) 0 = true from rfl, Bool.and_true] at h2
      exact h2
theorem kX9_rule {x y : Int32} (hd : d ≤ 4) (ht : tbR row d 0 n s c u) : tg_Ct l mX9_rule 1000 [.ref 0, .int x, .int y] (wM row (nI d) vals un kp tx len sz it ask fi be rD rM cl dg nu my su le gr cz vi ov rv ct bm) (fun r w => ((¬ ((0 ≤ x.toInt ∧ x.toInt < (2 ^ d : Nat)) ∧ (0 ≤ y.toInt ∧ y.toInt < d)) ∧ r = some (.int (-3))) ∨ (((0 ≤ x.toInt ∧ x.toInt < (2 ^ d : Nat)) ∧ (0 ≤ y.toInt ∧ y.toInt < d)) ∧ r = some (.int (bZ (rulB d n c x y.toInt.toNat))))) ∧ (sM row (nI d) vals un kp tx len sz it ask) w) := by
  have hp2 := pow2 hd
  show tg_G _ _ _ _ _ _ _ [.ref 0, .int x, .int y, .null, .null, .null] [] _
  unfold wM
  refine tg_go bX9_rule_0 ?_
  simp only [ti_aload, ti_getf, ti_i2l, ti_iload, ti_ishl, ti_isub, ti_push, List.getElem?_cons_zero, List.getElem?_cons_succ, true_and]
  rw [shl1 hd]
  refine tg_cP vX9_rule_12 (kX9_in) rfl rfl (Nat.le_of_ble_eq_true rfl) (Nat.le_of_ble_eq_true rfl) ?_
  rw [show (decide ((0 : Int64) ≤ x.toInt64) && decide (x.toInt64 ≤ (nI (2 ^ d) - 1).toInt64)) = (decide (0 ≤ x) && decide (x ≤ nI (2 ^ d) - 1)) from w_in x 0 (nI (2 ^ d) - 1), in_lt (by omega)]
  refine g_if_eq (tgt := 34) dX9_rule_15 rfl (fun h15 => ?_) (fun h15 => ?_)
  · have hx := of_decide_eq_false (bZ_0 h15)
    refine tg_go bX9_rule_34 ?_
    simp only [ti_push, List.getElem?_cons_zero, List.getElem?_cons_succ, true_and]
    refine g_iret dX9_rule_36 rfl ?_
    exact ⟨Or.inl ⟨fun q => hx q.1, rfl⟩, sM_mk⟩
  · have hx := of_decide_eq_true (bZ_n h15)
    refine tg_go bX9_rule_18 ?_
    simp only [ti_aload, ti_getf, ti_i2l, ti_iload, ti_isub, ti_push, List.getElem?_cons_zero, List.getElem?_cons_succ, true_and]
    refine tg_cP vX9_rule_28 (kX9_in) rfl rfl (Nat.le_of_ble_eq_true rfl) (Nat.le_of_ble_eq_true rfl) ?_
    rw [show (decide ((0 : Int64) ≤ y.toInt64) && decide (y.toInt64 ≤ (nI d - 1).toInt64)) = (decide (0 ≤ y) && decide (y ≤ nI d - 1)) from w_in y 0 (nI d - 1), in_lt (by omega)]
    refine g_if_ne (tgt := 37) dX9_rule_31 rfl (fun h31 => ?_) (fun h31 => ?_)
    · have hy := of_decide_eq_true (bZ_n h31)
      obtain ⟨e1, e2⟩ := x_of hy.1 hy.2
      generalize hcc : y.toInt.toNat = k at e1 e2 ⊢
      subst e1
      refine tg_go bX9_rule_37 ?_
      simp only [ti_istore, ti_push, tg_s1, tg_cl, List.getElem?_cons_zero, List.getElem?_cons_succ, List.set_cons_zero, List.set_cons_succ, true_and]
      exact kX9_rule_1 hd ht ⟨Or.inr ⟨⟨hx, hy⟩, rfl⟩, sM_mk⟩ (n + 1) 0 .null (by omega) (by omega)
    · have hy := of_decide_eq_false (bZ_0 h31)
      refine tg_go bX9_rule_34 ?_
      simp only [ti_push, List.getElem?_cons_zero, List.getElem?_cons_succ, true_and]
      refine g_iret dX9_rule_36 rfl ?_
      exact ⟨Or.inl ⟨fun q => hy q.2, rfl⟩, sM_mk⟩
end REFB
