/-! THE MATHEMATICS: parting -/
theorem sg_comm (X : Nat → Nat → Nat) (A : Nat) : ∀ Q, sg (fun q => sg (fun a => X q a) A) Q = sg (fun a => sg (fun q => X q a) Q) A
  | 0 => (sg_zero A).symm
  | Q + 1 => by
    rw [sg, sg_comm X A Q, ← sg_add]
    rfl
theorem sg_pick (f : Nat → Nat) (x : Nat) : ∀ k, sg (fun q => if q = x then f q else 0) k = if x < k then f x else 0
  | 0 => by rw [sg, if_neg (by omega)]
  | k + 1 => by
    rw [sg, sg_pick f x k]
    by_cases h : k = x
    · subst h
      rw [if_neg (by omega), if_pos rfl, if_pos (by omega), Nat.zero_add]
    · rw [if_neg h, Nat.add_zero]
      by_cases h2 : x < k
      · rw [if_pos h2, if_pos (by omega)]
      · rw [if_neg h2, if_neg (by omega)]
theorem wkI_N {en : Nat → Int32} {E : Nat → Nat} {b : Nat} {acc : Int32} : ∀ k, (∀ q, q < k → en q = nI (E q)) → wkI en b acc k = acc + nI (sg (fun q => if sbN q b = true then E q else 0) k)
  | 0, _ => by rw [wkI, sg]; exact (Int32.add_zero acc).symm
  | k + 1, h => by
    rw [wkI, sg, wkI_N k (fun q hq => h q (by omega))]
    by_cases hs : sbN k b = true
    · rw [if_pos hs, if_pos hs, h k (by omega), Int32.add_assoc, nI_add]
    · rw [if_neg hs, if_neg hs, Nat.add_zero]
def wkS (E : Nat → Nat) : Nat → Nat → Nat → Nat
  | 0, _, _ => 0
  | r + 1, b, o => sg (fun q => if sbN q (clB b (o % 10)) = true then E q else 0) 16 + wkS E r (clB b (o % 10)) (o / 10)
theorem wkP_N {en : Nat → Int32} {E : Nat → Nat} (h : ∀ q, q < 16 → en q = nI (E q)) : ∀ (r b o : Nat) (acc : Int32), wkP en r b o acc = acc + nI (wkS E r b o)
  | 0, b, o, acc => by rw [wkP, wkS]; exact (Int32.add_zero acc).symm
  | r + 1, b, o, acc => by rw [wkP, wkS, wkP_N h r, wkI_N 16 h, Int32.add_assoc, nI_add]
/-- how many places from the last on a set is wholly ahead of -/
def cntP (m : Nat) : Nat → Nat → Nat → Nat
  | 0, _, _ => 0
  | r + 1, b, o => (if sbN m (clB b (o % 10)) = true then 1 else 0) + cntP m r (clB b (o % 10)) (o / 10)
theorem cntP_le (m : Nat) : ∀ r b o, cntP m r b o ≤ r
  | 0, _, _ => Nat.le_refl _
  | r + 1, b, o => by
    have := cntP_le m r (clB b (o % 10)) (o / 10)
    rw [cntP]
    split <;> omega
section PARTM
variable {d n s : Nat} {v c : Nat → Nat} {u : Nat → Int32}
theorem en_sum (hd : d ≤ 4) (A b : Nat) : sg (fun q => if sbN q b = true then enF d n s c A q else 0) 16 = n + sg (fun a => if goB d n s c a = true ∧ sbN (dmB d a d) b = true then gMany (cvP d c a) n else 0) A := by
  have e1 : ∀ q, (if sbN q b = true then enF d n s c A q else 0) = (if q = 0 then n else 0) + sg (fun a => if sbN q b = true ∧ (goB d n s c a = true ∧ dmB d a d = q) then gMany (cvP d c a) n else 0) A := fun q => by
    unfold enF
    by_cases hs : sbN q b = true
    · rw [if_pos hs]
      congr 1
      refine sg_congr (fun a _ => ?_)
      by_cases h : goB d n s c a = true ∧ dmB d a d = q
      · rw [if_pos h, if_pos ⟨hs, h⟩]
      · rw [if_neg h, if_neg (fun z => h z.2)]
    · have h0 : ¬ q = 0 := fun e => hs (by rw [e]; unfold sbN; exact decide_eq_true (Nat.zero_and b))
      rw [if_neg hs, if_neg h0, Nat.zero_add]
      have : sg (fun a => if sbN q b = true ∧ (goB d n s c a = true ∧ dmB d a d = q) then gMany (cvP d c a) n else 0) A = sg (fun _ => 0) A := sg_congr (fun a _ => if_neg (fun z => hs z.1))
      rw [this, sg_zero]
  rw [sg_congr (fun q _ => e1 q), sg_add, sg_pick (fun _ => n) 0 16, if_pos (by omega), sg_comm (fun q a => if sbN q b = true ∧ (goB d n s c a = true ∧ dmB d a d = q) then gMany (cvP d c a) n else 0)]
  congr 1
  refine sg_congr (fun a _ => ?_)
  have e2 : ∀ q, (if sbN q b = true ∧ (goB d n s c a = true ∧ dmB d a d = q) then gMany (cvP d c a) n else 0) = (if q = dmB d a d then (if goB d n s c a = true ∧ sbN q b = true then gMany (cvP d c a) n else 0) else 0) := fun q => by
    by_cases h1 : q = dmB d a d
    · rw [if_pos h1]
      by_cases h2 : goB d n s c a = true ∧ sbN q b = true
      · rw [if_pos h2, if_pos ⟨h2.2, h2.1, h1.symm⟩]
      · rw [if_neg h2, if_neg (fun z => h2 ⟨z.2.1, z.1⟩)]
    · rw [if_neg h1, if_neg (fun z => h1 z.2.2.symm)]
  rw [sg_congr (fun q _ => e2 q), sg_pick (fun q => if goB d n s c a = true ∧ sbN q b = true then gMany (cvP d c a) n else 0), if_pos (dmB_lt hd a d)]
theorem wkS_eq (hd : d ≤ 4) (A : Nat) : ∀ r b o, wkS (enF d n s c A) r b o = n * r + sg (fun a => if goB d n s c a = true then gMany (cvP d c a) n * cntP (dmB d a d) r b o else 0) A
  | 0, b, o => by
    rw [wkS]
    have : sg (fun a => if goB d n s c a = true then gMany (cvP d c a) n * cntP (dmB d a d) 0 b o else 0) A = sg (fun _ => 0) A := sg_congr (fun a _ => by split <;> rfl)
    rw [this, sg_zero, Nat.mul_zero]
  | r + 1, b, o => by
    rw [wkS, en_sum hd, wkS_eq hd A r]
    have : sg (fun a => if goB d n s c a = true then gMany (cvP d c a) n * cntP (dmB d a d) (r + 1) b o else 0) A = sg (fun a => (if goB d n s c a = true ∧ sbN (dmB d a d) (clB b (o % 10)) = true then gMany (cvP d c a) n else 0) + (if goB d n s c a = true then gMany (cvP d c a) n * cntP (dmB d a d) r (clB b (o % 10)) (o / 10) else 0)) A := by
      refine sg_congr (fun a _ => ?_)
      rw [cntP]
      by_cases h1 : goB d n s c a = true
      · rw [if_pos h1, if_pos h1]
        by_cases h2 : sbN (dmB d a d) (clB b (o % 10)) = true
        · rw [if_pos h2, if_pos ⟨h1, h2⟩, Nat.mul_add, Nat.mul_one]
        · rw [if_neg h2, if_neg (fun z => h2 z.2), Nat.zero_add, Nat.zero_add]
      · rw [if_neg h1, if_neg h1, if_neg (fun z => h1 z.1)]
    rw [this, sg_add, Nat.mul_add, Nat.mul_one]
    omega
/-- from which place on, by the set of dimensions -/
def frmM (d o m : Nat) : Nat → Int32
  | 0 => 0
  | k + 1 => if frmM d o m k < (if m.testBit k = true then plR k d o (-1) + 1 else 0) then (if m.testBit k = true then plR k d o (-1) + 1 else 0) else frmM d o m k
theorem frm_M (o a : Nat) : ∀ k, k ≤ d → frm d o a k = frmM d o (dmB d a d) k
  | 0, _ => rfl
  | k + 1, h => by
    have e : (if 0 < figN d a k then plR k d o (-1) + 1 else 0) = (if (dmB d a d).testBit k = true then plR k d o (-1) + 1 else 0) := by
      rw [dmB_tb d a d (Nat.le_refl _), figN_dg]
      by_cases h1 : 0 < dg (d - 1 - k) a
      · rw [if_pos h1, if_pos (decide_eq_true ⟨by omega, h1⟩)]
      · rw [if_neg h1, if_neg (by rw [decide_eq_false (fun z => h1 z.2)]; decide)]
    rw [frm, frmM, frm_M o a k (by omega), e]
def chkP (d o : Nat) : Bool := !ordC d d o 0 || allB (fun m => decide (nI d - frmM d o m d = nI (cntP m d (2 ^ d - 1) o))) (2 ^ d)
theorem chkP_4 : ∀ a b c e : Fin 10, chkP 4 (a.val + 10 * (b.val + 10 * (c.val + 10 * e.val))) = true := by decide +kernel
theorem chkP_3 : ∀ a b c : Fin 10, chkP 3 (a.val + 10 * (b.val + 10 * c.val)) = true := by decide +kernel
theorem chkP_2 : ∀ a b : Fin 10, chkP 2 (a.val + 10 * b.val) = true := by decide +kernel
theorem chkP_1 : ∀ a : Fin 10, chkP 1 a.val = true := by decide +kernel
theorem chkP_all {o : Nat} (h1 : 1 ≤ d) (h4 : d ≤ 4) (ho : o < 10 ^ d) : chkP d o = true := by
  rcases (show d = 1 ∨ d = 2 ∨ d = 3 ∨ d = 4 by omega) with rfl | rfl | rfl | rfl
  · exact chkP_1 ⟨o, by omega⟩
  · have := chkP_2 ⟨o % 10, by omega⟩ ⟨o / 10, by omega⟩
    simp only at this
    rw [show o % 10 + 10 * (o / 10) = o by omega] at this
    exact this
  · have := chkP_3 ⟨o % 10, by omega⟩ ⟨o / 10 % 10, by omega⟩ ⟨o / 100, by omega⟩
    simp only at this
    rw [show o % 10 + 10 * (o / 10 % 10 + 10 * (o / 100)) = o by omega] at this
    exact this
  · have := chkP_4 ⟨o % 10, by omega⟩ ⟨o / 10 % 10, by omega⟩ ⟨o / 100 % 10, by omega⟩ ⟨o / 1000, by omega⟩
    simp only at this
    rw [show o % 10 + 10 * (o / 10 % 10 + 10 * (o / 100 % 10 + 10 * (o / 1000))) = o by omega] at this
    exact this
theorem frm_cnt {o a : Nat} (h1 : 1 ≤ d) (h4 : d ≤ 4) (ho : o < 10 ^ d) (hc : ordC d d o 0 = true) : nI d - frm d o a d = nI (cntP (dmB d a d) d (2 ^ d - 1) o) := by
  have h := chkP_all (d := d) h1 h4 ho
  unfold chkP at h
  rw [hc, Bool.not_true, Bool.false_or, allB_true] at h
  rw [frm_M o a d (Nat.le_refl _)]
  exact of_decide_eq_true (h (dmB d a d) dmB_2)
theorem go_enou {a : Nat} (h : ¬ a = 0) : goB d n s c a = enou d n s c a := by
  unfold goB neD enou
  rw [decide_eq_false h, Bool.not_false, Bool.true_and]
  by_cases h1 : 0 < gMany (cvP d c a) n
  · rw [decide_eq_true h1, Bool.true_and]
    by_cases h2 : s ≤ gMany (cvP d c a) n
    · rw [decide_eq_true h2, decide_eq_true (show 0 < gMany (cvP d c a) n ∧ s ≤ gMany (cvP d c a) n from ⟨h1, h2⟩)]
    · rw [decide_eq_false h2, decide_eq_false (show ¬ (0 < gMany (cvP d c a) n ∧ s ≤ gMany (cvP d c a) n) from fun z => h2 z.2)]
  · rw [decide_eq_false h1, Bool.false_and, decide_eq_false (fun z => h1 z.1)]
theorem go_0 : goB d n s c 0 = false := by
  unfold goB
  rw [decide_eq_true rfl, Bool.not_true, Bool.false_and, Bool.and_false]
def wkT (d n s o : Nat) (c : Nat → Nat) (A : Nat) : Nat := n * d + sg (fun a => if goB d n s c a = true then gMany (cvP d c a) n * cntP (dmB d a d) d (2 ^ d - 1) o else 0) A
theorem wkA_N {o : Nat} (h1 : 1 ≤ d) (h4 : d ≤ 4) (ho : o < 10 ^ d) (hc : ordC d d o 0 = true) : ∀ A, wkA d n s o c A = nI (wkT d n s o c A)
  | 0 => by rw [wkA, wkT, sg, Nat.add_zero]; exact pk_mul n d
  | a + 1 => by
    rw [wkA]
    by_cases h0 : a = 0
    · subst h0
      rw [if_pos rfl, wkT, sg, sg, go_0, if_neg (by decide)]
      exact pk_mul n d
    · rw [if_neg h0, wkA_N h1 h4 ho hc a, frm_cnt h1 h4 ho hc, ← go_enou h0, pk_mul, nI_add]
      unfold wkT
      rw [sg]
      by_cases hg : goB d n s c a = true
      · rw [if_pos hg, if_pos hg, Nat.add_assoc]
      · rw [if_neg hg, if_neg hg, Nat.add_zero]
theorem part_eq {en : Nat → Int32} {o : Nat} (h1 : 1 ≤ d) (h4 : d ≤ 4) (hen : ∀ q, q < 16 → en q = nI (enF d n s c (7 ^ d) q)) (ho : o < 10 ^ d) (hc : ordC d d o 0 = true) : wkP en d (2 ^ d - 1) o 0 = wkA d n s o c (7 ^ d) := by
  rw [wkP_N hen, wkA_N h1 h4 ho hc, wkS_eq h4, Int32.zero_add]
  rfl
theorem vi_eq : ∀ A, viA d n s c A = gMany (goB d n s c) A
  | 0 => rfl
  | a + 1 => by
    rw [viA, gMany]
    by_cases h0 : a = 0
    · subst h0
      rw [if_pos rfl, go_0, if_neg (by decide)]
      rfl
    · rw [if_neg h0, vi_eq a, ← go_enou h0]
      by_cases hg : goB d n s c a = true
      · rw [if_pos hg, if_pos hg]
      · rw [if_neg hg, if_neg hg, Nat.add_zero]
theorem wkT_le (hd : d ≤ 4) (hn : n ≤ 40) (o : Nat) : wkT d n s o c (7 ^ d) ≤ 2720 := by
  have h1 : sg (fun a => if goB d n s c a = true then gMany (cvP d c a) n * cntP (dmB d a d) d (2 ^ d - 1) o else 0) (7 ^ d) ≤ sg (fun a => gMany (cvP d c a) n + (gMany (cvP d c a) n + (gMany (cvP d c a) n + gMany (cvP d c a) n))) (7 ^ d) := by
    refine sg_le (fun a _ => ?_)
    split
    · have h2 := cntP_le (dmB d a d) d (2 ^ d - 1) o
      have h3 : gMany (cvP d c a) n * cntP (dmB d a d) d (2 ^ d - 1) o ≤ gMany (cvP d c a) n * 4 := Nat.mul_le_mul_left _ (by omega)
      omega
    · omega
  have h2 : sg (fun a => gMany (cvP d c a) n) (7 ^ d) ≤ n * 2 ^ d := by
    have h6 := sg_swap (fun a i => cvP d c a i) n (7 ^ d)
    have h7 : sg (fun i => gMany (fun a => cvP d c a i) (7 ^ d)) n ≤ sg (fun _ => 2 ^ d) n := sg_le (fun i _ => covR_cnt d (c i))
    rw [sg_const] at h7
    exact Nat.le_trans (Nat.le_of_eq h6) h7
  have h3 := pow2 hd
  have h4 : n * 2 ^ d ≤ 40 * 16 := Nat.mul_le_mul hn h3
  have h5 : n * d ≤ 40 * 4 := Nat.mul_le_mul hn hd
  rw [sg_add, sg_add, sg_add] at h1
  unfold wkT
  omega
end PARTM
/-! the best order -/
def foB (F : Nat → Int32) (acc : Int32 × Int32) (o : Nat) : Int32 × Int32 := if F o < acc.2 then (nI o, F o) else acc
theorem foB_congr {F F' : Nat → Int32} (l : List Nat) : ∀ (acc : Int32 × Int32), (∀ o, o ∈ l → F o = F' o) → l.foldl (foB F) acc = l.foldl (foB F') acc := by
  induction l with
  | nil => intro acc _; rw [List.foldl_nil, List.foldl_nil]
  | cons o l ih =>
    intro acc h
    have e : foB F acc o = foB F' acc o := by unfold foB; rw [h o List.mem_cons_self]
    rw [List.foldl_cons, List.foldl_cons, e]
    exact ih _ (fun x hx => h x (List.mem_cons_of_mem _ hx))
theorem foB_in {F : Nat → Int32} (l : List Nat) : ∀ (acc : Int32 × Int32), l.foldl (foB F) acc = acc ∨ ∃ o, o ∈ l ∧ l.foldl (foB F) acc = (nI o, F o) := by
  induction l with
  | nil => intro acc; exact Or.inl List.foldl_nil
  | cons o l ih =>
    intro acc
    rw [List.foldl_cons]
    rcases ih (foB F acc o) with h | ⟨x, hx, h⟩
    · rw [h]
      unfold foB
      split
      · exact Or.inr ⟨o, List.mem_cons_self, rfl⟩
      · exact Or.inl rfl
    · exact Or.inr ⟨x, List.mem_cons_of_mem _ hx, h⟩
/-- the class's step: the first order is taken whatever its work is -/
def foN (F : Nat → Int32) (acc : Int32 × Int32) (o : Nat) : Int32 × Int32 := if acc.1 = -1 ∨ F o < acc.2 then (nI o, F o) else acc
theorem foN_B {F F' : Nat → Int32} (l : List Nat) : ∀ (acc : Int32 × Int32), acc.1 ≠ -1 → (∀ x ∈ l, x < 10000) → (∀ x ∈ l, F x = F' x) → l.foldl (foN F) acc = l.foldl (foB F') acc := by
  induction l with
  | nil => intro acc _ _ _; rw [List.foldl_nil, List.foldl_nil]
  | cons o l ih =>
    intro acc ha hl hF
    have e : foN F acc o = foB F' acc o := by
      unfold foN foB
      rw [hF o List.mem_cons_self]
      by_cases h : F' o < acc.2
      · rw [if_pos h, if_pos (Or.inr h)]
      · rw [if_neg h, if_neg (fun q => q.elim ha h)]
    have hb : (foB F' acc o).1 ≠ -1 := by
      unfold foB
      split
      · exact nI_ne1 (Nat.lt_trans (hl o List.mem_cons_self) (by decide))
      · exact ha
    rw [List.foldl_cons, List.foldl_cons, e]
    exact ih _ hb (fun x hx => hl x (List.mem_cons_of_mem _ hx)) (fun x hx => hF x (List.mem_cons_of_mem _ hx))
theorem foN_eq {F F' : Nat → Int32} (o : Nat) (l : List Nat) (hl : ∀ x ∈ o :: l, x < 10000) (hF : ∀ x ∈ o :: l, F x = F' x) : (o :: l).foldl (foN F) (-1, 0) = l.foldl (foB F') (nI o, F' o) := by
  have e : foN F (-1, 0) o = (nI o, F' o) := by
    unfold foN
    rw [if_pos (Or.inl rfl), hF o List.mem_cons_self]
  rw [List.foldl_cons, e]
  exact foN_B l _ (nI_ne1 (Nat.lt_trans (hl o List.mem_cons_self) (by decide))) (fun x hx => hl x (List.mem_cons_of_mem _ hx)) (fun x hx => hF x (List.mem_cons_of_mem _ hx))
section BESTM
variable {d n s : Nat} {v c : Nat → Nat} {u : Nat → Int32}
theorem ord_C {o : Nat} (hd : d ≤ 4) (ho : o < 2 ^ 31) : orderOK d (nI o) = ordC d d o 0 := by
  rw [← ordX_eq hd]
  unfold ordX
  rw [nI_toInt ho, decide_eq_true (by omega), Bool.true_and, Int.toNat_natCast]
theorem bst_fold (hd : d ≤ 4) : ∀ N, N ≤ 3211 → bst d n s c N = ((List.range N).filter (fun o => ordC d d o 0)).foldl (foB (fun o => wkA d n s o c (7 ^ d))) (-1, 999999)
  | 0, _ => rfl
  | N + 1, h => by
    rw [bst, bst_fold hd N (by omega), List.range_succ, List.filter_append, List.foldl_append, ord_C hd (by omega)]
    cases hc : ordC d d N 0 with
    | true => simp [hc, foB]
    | false => simp [hc]
theorem bsC_fold (en : Nat → Int32) : ∀ i, bsC en d i = ((List.range i).map (ordN d)).foldl (foN (fun o => wkP en d (2 ^ d - 1) o 0)) (-1, 0)
  | 0 => rfl
  | i + 1 => by
    rw [bsC, bsC_fold en i, List.range_succ, List.map_append, List.foldl_append]
    rfl
theorem ords_1 : (List.range (tg_ol 0).length).map (ordN 1) = (List.range 3211).filter (fun o => ordC 1 1 o 0) := by decide +kernel
theorem ords_2 : (List.range (tg_ol 1).length).map (ordN 2) = (List.range 3211).filter (fun o => ordC 2 2 o 0) := by decide +kernel
theorem ords_3 : (List.range (tg_ol 2).length).map (ordN 3) = (List.range 3211).filter (fun o => ordC 3 3 o 0) := by decide +kernel
theorem ords_4 : (List.range (tg_ol 3).length).map (ordN 4) = (List.range 3211).filter (fun o => ordC 4 4 o 0) := by decide +kernel
theorem ords_all (h1 : 1 ≤ d) (h4 : d ≤ 4) : (List.range (tg_ol (d - 1)).length).map (ordN d) = (List.range 3211).filter (fun o => ordC d d o 0) := by
  rcases (show d = 1 ∨ d = 2 ∨ d = 3 ∨ d = 4 by omega) with rfl | rfl | rfl | rfl
  · exact ords_1
  · exact ords_2
  · exact ords_3
  · exact ords_4
theorem ords_ne (h1 : 1 ≤ d) (h4 : d ≤ 4) : (List.range (tg_ol (d - 1)).length).map (ordN d) ≠ [] := by
  rcases (show d = 1 ∨ d = 2 ∨ d = 3 ∨ d = 4 by omega) with rfl | rfl | rfl | rfl <;> decide
theorem best_eq {en : Nat → Int32} (h1 : 1 ≤ d) (h4 : d ≤ 4) (hn : n ≤ 40) (hen : ∀ q, q < 16 → en q = nI (enF d n s c (7 ^ d) q)) : (bsC en d (tg_ol (d - 1)).length).1 = (bst d n s c 3211).1 ∧ wkP en d (2 ^ d - 1) (bsC en d (tg_ol (d - 1)).length).1.toInt.toNat 0 = (bst d n s c 3211).2 := by
  have hval : ∀ o ∈ (List.range 3211).filter (fun o => ordC d d o 0), o < 10 ^ d ∧ o < 3211 ∧ ordC d d o 0 = true := fun o ho => by
    have h := List.mem_filter.mp ho
    refine ⟨?_, List.mem_range.mp h.1, h.2⟩
    rcases Nat.lt_or_ge o (10 ^ d) with q | q
    · exact q
    · have := ordC_big d d o 0 q
      rw [h.2] at this
      cases this
  rw [bsC_fold, bst_fold h4 3211 (Nat.le_refl _), ords_all h1 h4]
  have hne := ords_ne (d := d) h1 h4
  rw [ords_all h1 h4] at hne
  generalize hl : (List.range 3211).filter (fun o => ordC d d o 0) = l at hval hne
  cases l with
  | nil => exact absurd rfl hne
  | cons o l =>
    have hv0 := hval o List.mem_cons_self
    have hle := wkT_le (s := s) (c := c) h4 hn o
    have hW : wkA d n s o c (7 ^ d) = nI (wkT d n s o c (7 ^ d)) := wkA_N h1 h4 hv0.1 hv0.2.2 _
    have e2 : foB (fun o => wkA d n s o c (7 ^ d)) (-1, 999999) o = (nI o, wkA d n s o c (7 ^ d)) := by
      unfold foB
      rw [if_pos]
      show wkA d n s o c (7 ^ d) < 999999
      rw [hW, xlt, nI_toInt (by omega)]
      have : (999999 : Int32).toInt = 999999 := by decide
      omega
    rw [foN_eq (F' := fun o => wkA d n s o c (7 ^ d)) o l (fun x hx => by have := (hval x hx).2.1; omega) (fun x hx => part_eq h1 h4 hen (hval x hx).1 (hval x hx).2.2), List.foldl_cons, e2]
    refine ⟨rfl, ?_⟩
    obtain ⟨x, hx, hf⟩ : ∃ x, x ∈ o :: l ∧ l.foldl (foB (fun o => wkA d n s o c (7 ^ d))) (nI o, wkA d n s o c (7 ^ d)) = (nI x, wkA d n s x c (7 ^ d)) := by
      rcases foB_in (F := fun o => wkA d n s o c (7 ^ d)) l (nI o, wkA d n s o c (7 ^ d)) with h | ⟨x, hx, h⟩
      · exact ⟨o, List.mem_cons_self, h⟩
      · exact ⟨x, List.mem_cons_of_mem _ hx, h⟩
    have hvx := hval x hx
    rw [hf]
    show wkP en d (2 ^ d - 1) (nI x).toInt.toNat 0 = wkA d n s x c (7 ^ d)
    rw [nI_toInt (by omega), Int.toNat_natCast]
    exact part_eq h1 h4 hen hvx.1 hvx.2.2
end BESTM
