/-! THE CLASS: tables copied, started anew -/
def wT2 (td : Int32) (tv : Nat → Int32) (tn : Int32) (tc tm : Nat → Int32) (te : Int32) (od : Int32) (ov : Nat → Int32) (on : Int32) (oc om : Nat → Int32) (oe : Int32) : List va_E := [.inr (5, [.int td, .ref 1, .int tn, .ref 2, .ref 3, .int te]), .inl (0, 4, .inl tv), .inl (0, 40, .inl tc), .inl (0, 40, .inl tm), .inr (5, [.int od, .ref 5, .int on, .ref 6, .ref 7, .int oe]), .inl (0, 4, .inl ov), .inl (0, 40, .inl oc), .inl (0, 40, .inl om)]
def wTv (td : Int32) (tv : Nat → Int32) (tn : Int32) (tc tm : Nat → Int32) (te : Int32) (nv : Nat → Int32) : List va_E := [.inr (5, [.int td, .ref 1, .int tn, .ref 2, .ref 3, .int te]), .inl (0, 4, .inl tv), .inl (0, 40, .inl tc), .inl (0, 40, .inl tm), .inl (0, 4, .inl nv)]
theorem cpy_all {f g : Nat → Int32} {n : Nat} : ∀ j, j < n → va_cpy f g 0 0 n j = f j := fun j h => by
  rw [pk_cpy_in (Nat.zero_le _) (by omega)]
  congr 1
  omega
section TAB3
variable {l : tg_Ln} {K : Option Value → List va_E → Prop} {tv tc tm ov oc om nv : Nat → Int32} {td tn te od on oe : Int32} {d n : Nat} {v : Nat → Nat}
theorem kX6_startWith {x : Int32} : tg_Ct l mX6_startWith 1000 [.ref 0, .int x, .ref 4] (wTv td tv tn tc tm te nv) (fun r w => r = none ∧ w = wTv x nv 0 tc tm 1 nv) := by
  show tg_G _ _ _ _ _ _ _ [.ref 0, .int x, .ref 4] [] _
  unfold wTv
  refine tg_go bX6_startWith_0 ?_
  simp only [ti_acopy, ti_aload, ti_getf, ti_iload, ti_push, ti_putfI, List.getElem?_cons_zero, List.getElem?_cons_succ, List.set_cons_zero, List.set_cons_succ, true_and, List.map_nil, List.map_cons, List.sum_nil, List.sum_cons, Value.category, Nat.reduceAdd, Nat.reduceLeDiff, and_self, and_true]
  rw [sb_cl0, show (4 : Int32).toNatClampNeg = 4 by decide]
  refine ⟨by decide, ?_⟩
  refine tg_arr 1 nv rfl cpy_all ?_
  simp only [List.set_cons_zero, List.set_cons_succ]
  refine g_vret dX6_startWith_26 rfl ?_
  exact ⟨rfl, rfl⟩
theorem kX6_copyFrom : tg_Ct l mX6_copyFrom 1000 [.ref 0, .ref 4] (wT2 td tv tn tc tm te od ov on oc om oe) (fun r w => r = none ∧ w = wT2 od ov on oc om oe od ov on oc om oe) := by
  show tg_G _ _ _ _ _ _ _ [.ref 0, .ref 4] [] _
  unfold wT2
  refine tg_go bX6_copyFrom_0 ?_
  simp only [ti_acopy, ti_aload, ti_getf, ti_push, ti_putfI, List.getElem?_cons_zero, List.getElem?_cons_succ, List.set_cons_zero, List.set_cons_succ, true_and, List.map_nil, List.map_cons, List.sum_nil, List.sum_cons, Value.category, Nat.reduceAdd, Nat.reduceLeDiff, and_self, and_true]
  rw [sb_cl0, show (4 : Int32).toNatClampNeg = 4 by decide, show (40 : Int32).toNatClampNeg = 40 by decide]
  refine ⟨by decide, by decide, by decide, ?_⟩
  refine tg_arr 1 ov rfl cpy_all ?_
  refine tg_arr 2 oc rfl cpy_all ?_
  refine tg_arr 3 om rfl cpy_all ?_
  simp only [List.set_cons_zero, List.set_cons_succ]
  refine g_vret dX6_copyFrom_68 rfl ?_
  exact ⟨rfl, rfl⟩
end TAB3
