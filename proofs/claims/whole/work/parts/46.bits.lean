/-! numbers as bits -/
theorem nI_and (a b : Nat) : nI a &&& nI b = nI (a &&& b) := by
  apply Int32.toBitVec_inj.mp
  show BitVec.ofNat 32 a &&& BitVec.ofNat 32 b = BitVec.ofNat 32 (a &&& b)
  rw [BitVec.ofNat_and]
theorem nI_or (a b : Nat) : nI a ||| nI b = nI (a ||| b) := by
  apply Int32.toBitVec_inj.mp
  show BitVec.ofNat 32 a ||| BitVec.ofNat 32 b = BitVec.ofNat 32 (a ||| b)
  rw [BitVec.ofNat_or]
theorem and31 {f : Nat} (h : f < 32) : nI f &&& 31 = nI f := by
  rw [pk_andN (n := f) (by omega) 5 (by decide)]
  rw [Nat.mod_eq_of_lt (by omega)]
theorem smod32 {f : Nat} (h : f < 32) : ((nI f).toBitVec.smod 32).toNat = f := by
  have : ∀ f : Fin 32, ((nI f.val).toBitVec.smod 32).toNat = f.val := by decide
  exact this ⟨f, h⟩
theorem nI_shr {s f : Nat} (hs : s < 2 ^ 31) (hf : f < 32) : nI s >>> (nI f &&& 31) = nI (s / 2 ^ f) := by
  rw [and31 hf]
  exact pk_shrN hs _ f (smod32 hf)
theorem nI_shl {s f : Nat} (hf : f < 32) (h : s * 2 ^ f < 2 ^ 32) : nI s <<< (nI f &&& 31) = nI (s * 2 ^ f) := by
  rw [and31 hf]
  exact pk_shlN _ f (smod32 hf) h
/-- bit f of a number -/
def btN (s f : Nat) : Bool := decide (s / 2 ^ f % 2 = 1)
theorem nI_bit {s f : Nat} (hs : s < 2 ^ 31) (hf : f < 32) : ((nI s >>> (nI f &&& 31)) &&& 1 = 0) = (btN s f = false) := by
  have h2 : s / 2 ^ f < 2 ^ 31 := Nat.lt_of_le_of_lt (Nat.div_le_self _ _) hs
  rw [nI_shr hs hf, pk_andN (by omega) 1 (by decide), fa_lit, lI_eq (by omega) (by omega)]
  unfold btN
  rw [decide_eq_false_iff_not]
  exact propext (by omega)
/-- a number without its bit f -/
def clB (b f : Nat) : Nat := if btN b f = true then b - 2 ^ f else b
theorem clB_lt {b f : Nat} (h : b < 16) : clB b f < 16 := by
  unfold clB
  split
  · exact Nat.lt_of_le_of_lt (Nat.sub_le _ _) h
  · exact h
theorem nI_clB {b f : Nat} (hb : b < 16) (hf : f < 10) : nI b &&& (((1 : Int32) <<< (nI f &&& 31)) ^^^ (-1)) = nI (clB b f) := by
  have : ∀ (b : Fin 16) (f : Fin 10), nI b.val &&& (((1 : Int32) <<< (nI f.val &&& 31)) ^^^ (-1)) = nI (clB b.val f.val) := by decide +kernel
  exact this ⟨b, hb⟩ ⟨f, hf⟩
/-- one set within another -/
def sbN (a b : Nat) : Bool := decide (a &&& b = a)
theorem nI_sub {a b : Nat} (ha : a < 16) (hb : b < 16) : (nI a &&& (nI b ^^^ (-1)) = 0) = (sbN a b = true) := by
  have : ∀ (a : Fin 16) (b : Fin 16), decide (nI a.val &&& (nI b.val ^^^ (-1)) = 0) = sbN a.val b.val := by decide +kernel
  have h := this ⟨a, ha⟩ ⟨b, hb⟩
  rw [← h]
  simp
/-! THE CLASS: Parting -/
def wQ (qd qv : Int32) (en : Nat → Int32) : List va_E := [.inr (3, [.int qd, .int qv, .ref 1]), .inl (0, 16, .inl en)]
/-- what is gone on with in the sets within b, ahead of k -/
def wkI (en : Nat → Int32) (b : Nat) (acc : Int32) : Nat → Int32
  | 0 => acc
  | k + 1 => if sbN k b = true then wkI en b acc k + en k else wkI en b acc k
def wkP (en : Nat → Int32) : Nat → Nat → Nat → Int32 → Int32
  | 0, _, _, acc => acc
  | r + 1, b, o, acc => wkP en r (clB b (o % 10)) (o / 10) (wkI en (clB b (o % 10)) acc 16)
def ordC (d : Nat) : Nat → Nat → Nat → Bool
  | 0, o, _ => decide (o = 0)
  | r + 1, o, s => decide (o % 10 < d) && (!(btN s (o % 10)) && ordC d r (o / 10) (s ||| 2 ^ (o % 10)))
section PART
variable {l : tg_Ln} {K : Option Value → List va_E → Prop} {en : Nat → Int32} {qd qv : Int32} {d : Nat}
theorem kX4_startWith_l {x y : Int32} : ∀ (m k : Nat) (en : Nat → Int32), 16 - k < m → k ≤ 16 → (∀ j, j < k → en j = 0) → (∀ en', en' 0 = y → (∀ j, j < 16 → j ≠ 0 → en' j = 0) → K none (wQ qd qv en')) → tg_G l mX4_startWith 1000 K 0 0 12 [.ref 0, .int x, .int y, .int (nI k)] [] (wQ qd qv en) := by
  intro m
  induction m with
  | zero => intro k en h; omega
  | succ m ih =>
    intro k en hm hk hz hK
    unfold wQ at ih hK ⊢
    refine tg_go bX4_startWith_12 ?_
    simp only [ti_iload, ti_push, List.getElem?_cons_zero, List.getElem?_cons_succ, true_and]
    refine g_icmp_ge (tgt := 31) dX4_startWith_15 rfl (fun h15 => ?_) (fun h15 => ?_)
    · rw [fa_lit, lI_le (by omega) (by omega)] at h15
      obtain rfl : k = 16 := by omega
      refine tg_go bX4_startWith_31 ?_
      simp only [ti_aload, ti_getf, ti_iast, ti_iload, ti_push, List.getElem?_cons_zero, List.getElem?_cons_succ, List.set_cons_zero, List.set_cons_succ, true_and]
      rw [sb_cl0]
      refine ⟨vp_in_nI (n := 0) (by omega) (by omega), ?_⟩
      refine g_vret dX4_startWith_38 rfl ?_
      exact hK _ pk_us (fun j h1 h2 => by rw [pk_un h2]; exact hz j h1)
    · rw [fa_lit, lI_le (by omega) (by omega)] at h15
      refine tg_go bX4_startWith_18 ?_
      simp only [ti_aload, ti_getf, ti_iast, ti_iinc, ti_iload, ti_push, tg_s1, tg_cl, List.getElem?_cons_zero, List.getElem?_cons_succ, List.set_cons_zero, List.set_cons_succ, true_and]
      rw [nI_1, nI_clamp (by omega)]
      refine ⟨vp_in_nI (by omega) (by omega), ?_⟩
      refine g_goto (tgt := 12) dX4_startWith_28 rfl ?_
      refine ih (k + 1) _ (by omega) (by omega) (fun j hj => ?_) hK
      by_cases e : j = k
      · rw [e, pk_us]
      · rw [pk_un e]; exact hz j (by omega)
theorem kX4_startWith {x y : Int32} : tg_Ct l mX4_startWith 1000 [.ref 0, .int x, .int y] (wQ qd qv en) (fun r w => r = none ∧ ∃ en', en' 0 = y ∧ (∀ j, j < 16 → j ≠ 0 → en' j = 0) ∧ w = wQ x 0 en') := by
  show tg_G _ _ _ _ _ _ _ [.ref 0, .int x, .int y, .null] [] _
  unfold wQ
  refine tg_go bX4_startWith_0 ?_
  simp only [ti_aload, ti_iload, ti_istore, ti_push, ti_putfI, tg_s1, tg_cl, List.getElem?_cons_zero, List.getElem?_cons_succ, List.set_cons_zero, List.set_cons_succ, true_and]
  exact kX4_startWith_l 17 0 en (by omega) (by omega) (fun j hj => by omega) (fun en' h1 h2 => ⟨rfl, en', h1, h2, rfl⟩)
theorem kX4_goInto {s : Nat} {y : Int32} (hs : s < 16) : tg_Ct l mX4_goInto 1000 [.ref 0, .int (nI s), .int y] (wQ qd qv en) (fun r w => r = none ∧ w = wQ qd (qv + 1) (upd en s (en s + y))) := by
  show tg_G _ _ _ _ _ _ _ [.ref 0, .int (nI s), .int y] [] _
  unfold wQ
  refine tg_go bX4_goInto_0 ?_
  simp only [ti_iload, List.getElem?_cons_zero, List.getElem?_cons_succ, true_and]
  refine g_if_lt (tgt := 30) dX4_goInto_1 rfl (fun h1 => ?_) (fun h1 => ?_)
  · exact absurd h1 (nI_pos (by omega))
  · refine tg_go bX4_goInto_4 ?_
    simp only [ti_iload, ti_push, List.getElem?_cons_zero, List.getElem?_cons_succ, true_and]
    refine g_icmp_ge (tgt := 30) dX4_goInto_7 rfl (fun h7 => ?_) (fun h7 => ?_)
    · rw [fa_lit, lI_le (by omega) (by omega)] at h7; omega
    · refine tg_go bX4_goInto_10 ?_
      simp only [ti_aload, ti_dup, ti_dup2, ti_getf, ti_iadd, ti_iald, ti_iast, ti_iload, ti_push, ti_putfI, Value.category, List.getElem?_cons_zero, List.getElem?_cons_succ, List.set_cons_zero, List.set_cons_succ, true_and]
      rw [nI_clamp (by omega)]
      refine ⟨vp_in_nI (by omega) (by omega), vp_in_nI (by omega) (by omega), ?_⟩
      refine g_vret dX4_goInto_30 rfl ?_
      exact ⟨rfl, rfl⟩
theorem kX4_workBy_2 {x1 x4 x5 acc : Int32} {b : Nat} (hb : b < 16) (hK : tg_G l mX4_workBy 1000 K 0 0 81 [.ref 0, .int x1, .int (wkI en b acc 16), .int (nI b), .int x4, .int x5, .int (nI 16)] [] (wQ qd qv en)) : ∀ (m k : Nat), 16 - k < m → k ≤ 16 → tg_G l mX4_workBy 1000 K 0 0 49 [.ref 0, .int x1, .int (wkI en b acc k), .int (nI b), .int x4, .int x5, .int (nI k)] [] (wQ qd qv en) := by
  intro m
  induction m with
  | zero => intro k h; omega
  | succ m ih =>
    intro k hm hk
    unfold wQ at ih hK ⊢
    refine tg_go bX4_workBy_49 ?_
    simp only [ti_iload, ti_push, List.getElem?_cons_zero, List.getElem?_cons_succ, true_and]
    refine g_icmp_ge (tgt := 81) dX4_workBy_53 rfl (fun h53 => ?_) (fun h53 => ?_)
    · rw [fa_lit, lI_le (by omega) (by omega)] at h53
      obtain rfl : k = 16 := by omega
      exact hK
    · rw [fa_lit, lI_le (by omega) (by omega)] at h53
      refine tg_go bX4_workBy_56 ?_
      simp only [ti_iand, ti_iload, ti_ixor, ti_push, List.getElem?_cons_zero, List.getElem?_cons_succ, true_and]
      refine g_if_ne (tgt := 75) dX4_workBy_62 rfl (fun h62 => ?_) (fun h62 => ?_)
      · rw [nI_sub (by omega) hb] at h62
        refine tg_go bX4_workBy_75 ?_
        simp only [ti_iinc, tg_s1, tg_cl, List.getElem?_cons_zero, List.getElem?_cons_succ, List.set_cons_zero, List.set_cons_succ, true_and]
        rw [nI_1]
        refine g_goto (tgt := 49) dX4_workBy_78 rfl ?_
        have h2 := ih (k + 1) (by omega) (by omega)
        rw [wkI, if_neg h62] at h2
        exact h2
      · rw [nI_sub (by omega) hb] at h62
        refine tg_go bX4_workBy_65 ?_
        simp only [ti_aload, ti_getf, ti_iadd, ti_iald, ti_iload, ti_istore, tg_s1, tg_cl, List.getElem?_cons_zero, List.getElem?_cons_succ, List.set_cons_zero, List.set_cons_succ, true_and]
        rw [nI_clamp (by omega)]
        refine ⟨vp_in_nI (by omega) (by omega), ?_⟩
        refine tg_go bX4_workBy_75 ?_
        simp only [ti_iinc, tg_s1, tg_cl, List.getElem?_cons_zero, List.getElem?_cons_succ, List.set_cons_zero, List.set_cons_succ, true_and]
        rw [nI_1]
        refine g_goto (tgt := 49) dX4_workBy_78 rfl ?_
        have h2 := ih (k + 1) (by omega) (by omega)
        rw [wkI, if_pos h62] at h2
        exact h2
theorem kX4_workBy_1 {x1 : Int32} : ∀ (r b o : Nat) (acc : Int32) (x6 : Value), r ≤ 4 → b < 16 → o < 2 ^ 31 → K (some (.int (wkP en r b o acc))) (wQ qd qv en) → tg_G l mX4_workBy 1000 K 0 0 22 [.ref 0, .int x1, .int acc, .int (nI b), .int (nI o), .int (nI r - 1), x6] [] (wQ qd qv en) := by
  intro r
  induction r with
  | zero =>
    intro b o acc x6 hr hb ho hK
    rw [wkP] at hK
    unfold wQ at hK ⊢
    refine tg_go bX4_workBy_22 ?_
    simp only [ti_iload, List.getElem?_cons_zero, List.getElem?_cons_succ, true_and]
    refine g_if_lt (tgt := 87) dX4_workBy_24 rfl (fun h24 => ?_) (fun h24 => ?_)
    · refine tg_go bX4_workBy_87 ?_
      simp only [ti_iload, List.getElem?_cons_zero, List.getElem?_cons_succ, true_and]
      refine g_iret dX4_workBy_88 rfl ?_
      exact hK
    · exact absurd (by decide) h24
  | succ r ih =>
    intro b o acc x6 hr hb ho hK
    rw [wkP] at hK
    rw [show nI (r + 1) - 1 = nI r from nI_pred r]
    unfold wQ at ih hK ⊢
    refine tg_go bX4_workBy_22 ?_
    simp only [ti_iload, List.getElem?_cons_zero, List.getElem?_cons_succ, true_and]
    refine g_if_lt (tgt := 87) dX4_workBy_24 rfl (fun h24 => ?_) (fun h24 => ?_)
    · exact absurd h24 (nI_pos (by omega))
    · refine tg_go bX4_workBy_27 ?_
      simp only [ti_iand, ti_idiv, ti_iload, ti_irem, ti_ishl, ti_istore, ti_ixor, ti_push, tg_s1, tg_cl, List.getElem?_cons_zero, List.getElem?_cons_succ, List.set_cons_zero, List.set_cons_succ, true_and]
      rw [rem10 ho, div10 ho, nI_clB hb (by omega)]
      refine ⟨ne10, ne10, ?_⟩
      refine kX4_workBy_2 (acc := acc) (clB_lt hb) ?_ 17 0 (by omega) (by omega)
      unfold wQ
      refine tg_go bX4_workBy_81 ?_
      simp only [ti_iinc, tg_s1, tg_cl, List.getElem?_cons_zero, List.getElem?_cons_succ, List.set_cons_zero, List.set_cons_succ]
      refine g_goto (tgt := 22) dX4_workBy_84 rfl ?_
      have h2 := ih (clB b (o % 10)) (o / 10) _ (.int (nI 16)) (by omega) (clB_lt hb) (by omega) hK
      rw [show nI r - 1 = nI r + -1 from by rw [Int32.sub_eq_add_neg]] at h2
      exact h2
theorem kX4_workBy {o : Nat} (hd : d ≤ 4) (ho : o < 2 ^ 31) : tg_Ct l mX4_workBy 1000 [.ref 0, .int (nI o)] (wQ (nI d) qv en) (fun r w => r = some (.int (wkP en d (2 ^ d - 1) o 0)) ∧ w = wQ (nI d) qv en) := by
  have h16 : 2 ^ d ≤ 16 := Nat.le_trans (Nat.pow_le_pow_right (by decide) hd) (by decide)
  have h1 : 1 ≤ 2 ^ d := Nat.one_le_two_pow
  show tg_G _ _ _ _ _ _ _ [.ref 0, .int (nI o), .null, .null, .null, .null, .null] [] _
  unfold wQ
  refine tg_go bX4_workBy_0 ?_
  simp only [ti_aload, ti_getf, ti_iload, ti_ishl, ti_istore, ti_isub, ti_push, tg_s1, tg_cl, List.getElem?_cons_zero, List.getElem?_cons_succ, List.set_cons_zero, List.set_cons_succ, true_and]
  rw [show (1 : Int32) = nI 1 from rfl, nI_shl (by omega) (by omega), Nat.one_mul, pk_sub h1]
  exact kX4_workBy_1 d (2 ^ d - 1) o 0 .null hd (by omega) ho ⟨rfl, rfl⟩
end PART
