/-! constructors: clauses, cells, the reference, the class -/
def kp1 : Nat → Option Nat := va_up (fun _ => none) 0 (some 31)
theorem kp1_lt {n : Nat} (h : 31 < n) : ∀ j k, kp1 j = some k → k < n ∨ 1000 ≤ k := by
  intro j k hk
  unfold kp1 va_up at hk
  split at hk
  · cases hk; exact Or.inl h
  · cases hk
theorem kpF_lt {n : Nat} (h : 35 < n) : ∀ j k, kpF j = some k → k < n ∨ 1000 ≤ k := by
  intro j k hk
  unfold kpF at hk
  split at hk
  · cases hk; exact Or.inl (by omega)
  · split at hk
    · cases hk; exact Or.inl h
    · cases hk
theorem rowF_lt : ∀ j k, rowF j = some k → k < 6 ∨ 1000 ≤ k := by
  intro j k hk
  unfold rowF at hk
  split at hk
  · cases hk; exact Or.inl (by omega)
  · cases hk
theorem kp_eq : va_up kp1 1 (some 35) = kpF := by
  funext j
  unfold kp1 kpF va_up
  by_cases h1 : j = 1
  · rw [if_pos h1, if_neg (by omega), if_pos h1]
  · rw [if_neg h1]
    by_cases h0 : j = 0
    · rw [if_pos h0, if_pos h0]
    · rw [if_neg h0, if_neg h0, if_neg h1]
theorem row_sh : (fun j => Option.map (tg_sh 40 41) (rowF j)) = fun j => (rowF j).map (tg_rn iL) := by
  funext j
  unfold rowF
  by_cases h : j < 3
  · rw [if_pos h]
    rcases (show j = 0 ∨ j = 1 ∨ j = 2 by omega) with rfl | rfl | rfl <;> rfl
  · rw [if_neg h]; rfl
def in40 : Nat → Int32 := upd (upd (upd (upd (fun _ => 0) 0 4) 1 4) 2 0) 3 0
section INIT2
variable {l : tg_Ln}
theorem kX1_init : tg_Ct l mX1_init 1 [.ref 0] [.inr (1, [.null, .null, .int 0, .null])] (fun r w => r = none ∧ w = [.inr (1, [.ref 1, .ref 3, .int 0, .ref 7]), .inr (6, [.ref 2, .int 0, .int 0, .int 0]), .inl (2, 200, .inl (fun _ => 0)), .inr (5, [.int 2, .ref 4, .int 0, .ref 5, .ref 6, .int 1]), .inl (0, 4, .inl in4), .inl (0, 40, .inl (fun _ => 0)), .inl (0, 40, .inl (fun _ => 0)), .inl (0, 4, .inl (fun _ => 0))]) := by
  show tg_G _ _ _ _ _ _ _ [.ref 0] [] _
  refine tg_go bX1_init_0 ?_
  simp only [ti_aload, List.getElem?_cons_zero, List.getElem?_cons_succ, true_and]
  refine g_objI dX1_init_1 mlX1_3 (tg_mem 76 (by decide +kernel) rfl) (tg_mem 77 (by decide +kernel) rfl) (Nat.le_of_ble_eq_true rfl) (Nat.le_of_ble_eq_true rfl) (Nat.le_of_ble_eq_true rfl) ?_
  refine tg_go bX1_init_4 ?_
  simp only [ti_aload, List.getElem?_cons_zero, List.getElem?_cons_succ, true_and]
  refine g_new 6 (n := 1) (fs := [.null, .int 0, .int 0, .int 0]) dX1_init_5 clX7 tyX7_ok (tg_mem 84 (by decide +kernel) rfl) (tg_mem 85 (by decide +kernel) rfl) iniX7 (fun j hj => by rcases (show j = 0 ∨ j = 1 ∨ j = 2 ∨ j = 3 by omega) with rfl | rfl | rfl | rfl <;> rfl) (fun ad => rfl) rfl (Nat.le_of_ble_eq_true rfl) (Nat.le_of_ble_eq_true rfl) (by simp [tg_bw, tg_be, tg_bv]) (by simp [tg_bv]) (by simp [tg_bv]) (Nat.le_of_ble_eq_true rfl) (Nat.le_of_ble_eq_true rfl) ?_
  simp only [List.cons_append, List.nil_append]
  refine tg_go bX1_init_8 ?_
  simp only [ti_dup, Value.category, List.getElem?_cons_zero, List.getElem?_cons_succ, true_and]
  refine tg_callI (n := 2) iX1_init_9 kX7_init rfl (Nat.le_of_ble_eq_true rfl) rfl (Nat.le_of_ble_eq_true rfl) (Nat.le_of_ble_eq_true rfl) (by simp [tg_bw, tg_be, tg_bv]) (by simp [tg_bv]) (by simp [tg_bv]) (by simp [tg_bw, tg_be, tg_bv]) (Nat.le_of_ble_eq_true rfl) (Nat.le_of_ble_eq_true rfl) (Nat.le_of_ble_eq_true rfl) ?_
  simp only [List.set_cons_zero, List.set_cons_succ, List.map_cons, List.map_nil, tg_e, tg_v, tg_sh, List.cons_append, List.nil_append]
  try simp only [Nat.reduceEqDiff, Nat.reduceLT, Nat.reduceSub, Nat.reduceAdd, reduceIte, if_true, if_false]
  refine tg_go bX1_init_12 ?_
  simp only [ti_aload, ti_putfR, List.getElem?_cons_zero, List.getElem?_cons_succ, List.set_cons_zero, List.set_cons_succ, true_and]
  refine g_new 5 (n := 3) (fs := [.int 0, .null, .int 0, .null, .null, .int 0]) dX1_init_16 clX6 tyX6_ok (tg_mem 106 (by decide +kernel) rfl) (tg_mem 107 (by decide +kernel) rfl) iniX6 (fun j hj => by rcases (show j = 0 ∨ j = 1 ∨ j = 2 ∨ j = 3 ∨ j = 4 ∨ j = 5 by omega) with rfl | rfl | rfl | rfl | rfl | rfl <;> rfl) (fun ad => rfl) rfl (Nat.le_of_ble_eq_true rfl) (Nat.le_of_ble_eq_true rfl) (by simp [tg_bw, tg_be, tg_bv]) (by simp [tg_bv]) (by simp [tg_bv]) (Nat.le_of_ble_eq_true rfl) (Nat.le_of_ble_eq_true rfl) ?_
  simp only [List.cons_append, List.nil_append]
  refine tg_go bX1_init_19 ?_
  simp only [ti_dup, Value.category, List.getElem?_cons_zero, List.getElem?_cons_succ, true_and]
  refine tg_callI (n := 4) iX1_init_20 kX6_init rfl (Nat.le_of_ble_eq_true rfl) rfl (Nat.le_of_ble_eq_true rfl) (Nat.le_of_ble_eq_true rfl) (by simp [tg_bw, tg_be, tg_bv]) (by simp [tg_bv]) (by simp [tg_bv]) (by simp [tg_bw, tg_be, tg_bv]) (Nat.le_of_ble_eq_true rfl) (Nat.le_of_ble_eq_true rfl) (Nat.le_of_ble_eq_true rfl) ?_
  simp only [List.set_cons_zero, List.set_cons_succ, List.map_cons, List.map_nil, tg_e, tg_v, tg_sh, List.cons_append, List.nil_append]
  try simp only [Nat.reduceEqDiff, Nat.reduceLT, Nat.reduceSub, Nat.reduceAdd, reduceIte, if_true, if_false]
  refine tg_go bX1_init_23 ?_
  simp only [ti_aload, ti_push, ti_putfI, ti_putfR, List.getElem?_cons_zero, List.getElem?_cons_succ, List.set_cons_zero, List.set_cons_succ, true_and]
  refine g_newI 4 (n := 7) dX1_init_33 (by decide) (by decide) (Nat.le_of_ble_eq_true rfl) rfl (Nat.le_of_ble_eq_true rfl) (Nat.le_of_ble_eq_true rfl) (by simp [tg_bw, tg_be, tg_bv]) (by simp [tg_bv]) (by simp [tg_bv]) (Nat.le_of_ble_eq_true rfl) (Nat.le_of_ble_eq_true rfl) ?_
  simp only [List.cons_append, List.nil_append]
  refine tg_go bX1_init_35 ?_
  simp only [ti_putfR, List.getElem?_cons_zero, List.getElem?_cons_succ, List.set_cons_zero, List.set_cons_succ, true_and]
  refine g_vret dX1_init_38 rfl ?_
  exact ⟨rfl, rfl⟩
theorem kX0_init : tg_Ct l mX0_init 1 [.ref 0] [.inr (0, [.null, .null, .null, .int 0, .null, .null, .null, .null, .null, .null, .null, .null])] (fun r w => r = none ∧ w = [.inr (0, [.ref 1, .ref 5, .ref 7, .int 0, .ref 8, .ref 9, .ref 10, .ref 11, .ref 12, .ref 13, .ref 14, .ref 15]), .inr (5, [.int 2, .ref 2, .int 0, .ref 3, .ref 4, .int 1]), .inl (0, 4, .inl in4), .inl (0, 40, .inl (fun _ => 0)), .inl (0, 40, .inl (fun _ => 0)), .inr (3, [.int 0, .int 0, .ref 6]), .inl (0, 16, .inl (fun _ => 0)), .inl (3, 24, .inr (.inl (fun _ => 0))), .inl (0, 640, .inl (fun _ => 0)), .inl (3, 640, .inr (.inl (fun _ => 0))), .inl (0, 640, .inl (fun _ => 0)), .inl (3, 640, .inr (.inl (fun _ => 0))), .inl (1, 640, .inl (fun _ => 0)), .inl (0, 41, .inl (fun _ => 0)), .inl (0, 41, .inl (fun _ => 0)), .inl (0, 16, .inl (fun _ => 0))]) := by
  show tg_G _ _ _ _ _ _ _ [.ref 0] [] _
  refine tg_go bX0_init_0 ?_
  simp only [ti_aload, List.getElem?_cons_zero, List.getElem?_cons_succ, true_and]
  refine g_objI dX0_init_1 mlX0_3 (tg_mem 76 (by decide +kernel) rfl) (tg_mem 77 (by decide +kernel) rfl) (Nat.le_of_ble_eq_true rfl) (Nat.le_of_ble_eq_true rfl) (Nat.le_of_ble_eq_true rfl) ?_
  refine tg_go bX0_init_4 ?_
  simp only [ti_aload, List.getElem?_cons_zero, List.getElem?_cons_succ, true_and]
  refine g_new 5 (n := 1) (fs := [.int 0, .null, .int 0, .null, .null, .int 0]) dX0_init_5 clX6 tyX6_ok (tg_mem 169 (by decide +kernel) rfl) (tg_mem 107 (by decide +kernel) rfl) iniX6 (fun j hj => by rcases (show j = 0 ∨ j = 1 ∨ j = 2 ∨ j = 3 ∨ j = 4 ∨ j = 5 by omega) with rfl | rfl | rfl | rfl | rfl | rfl <;> rfl) (fun ad => rfl) rfl (Nat.le_of_ble_eq_true rfl) (Nat.le_of_ble_eq_true rfl) (by simp [tg_bw, tg_be, tg_bv]) (by simp [tg_bv]) (by simp [tg_bv]) (Nat.le_of_ble_eq_true rfl) (Nat.le_of_ble_eq_true rfl) ?_
  simp only [List.cons_append, List.nil_append]
  refine tg_go bX0_init_8 ?_
  simp only [ti_dup, Value.category, List.getElem?_cons_zero, List.getElem?_cons_succ, true_and]
  refine tg_callI (n := 2) iX0_init_9 kX6_init rfl (Nat.le_of_ble_eq_true rfl) rfl (Nat.le_of_ble_eq_true rfl) (Nat.le_of_ble_eq_true rfl) (by simp [tg_bw, tg_be, tg_bv]) (by simp [tg_bv]) (by simp [tg_bv]) (by simp [tg_bw, tg_be, tg_bv]) (Nat.le_of_ble_eq_true rfl) (Nat.le_of_ble_eq_true rfl) (Nat.le_of_ble_eq_true rfl) ?_
  simp only [List.set_cons_zero, List.set_cons_succ, List.map_cons, List.map_nil, tg_e, tg_v, tg_sh, List.cons_append, List.nil_append]
  try simp only [Nat.reduceEqDiff, Nat.reduceLT, Nat.reduceSub, Nat.reduceAdd, reduceIte, if_true, if_false]
  refine tg_go bX0_init_12 ?_
  simp only [ti_aload, ti_putfR, List.getElem?_cons_zero, List.getElem?_cons_succ, List.set_cons_zero, List.set_cons_succ, true_and]
  refine g_new 3 (n := 5) (fs := [.int 0, .int 0, .null]) dX0_init_16 clX4 tyX4_ok (tg_mem 171 (by decide +kernel) rfl) (tg_mem 172 (by decide +kernel) rfl) iniX4 (fun j hj => by rcases (show j = 0 ∨ j = 1 ∨ j = 2 by omega) with rfl | rfl | rfl <;> rfl) (fun ad => rfl) rfl (Nat.le_of_ble_eq_true rfl) (Nat.le_of_ble_eq_true rfl) (by simp [tg_bw, tg_be, tg_bv]) (by simp [tg_bv]) (by simp [tg_bv]) (Nat.le_of_ble_eq_true rfl) (Nat.le_of_ble_eq_true rfl) ?_
  simp only [List.cons_append, List.nil_append]
  refine tg_go bX0_init_19 ?_
  simp only [ti_dup, Value.category, List.getElem?_cons_zero, List.getElem?_cons_succ, true_and]
  refine tg_callI (n := 6) iX0_init_20 kX4_init rfl (Nat.le_of_ble_eq_true rfl) rfl (Nat.le_of_ble_eq_true rfl) (Nat.le_of_ble_eq_true rfl) (by simp [tg_bw, tg_be, tg_bv]) (by simp [tg_bv]) (by simp [tg_bv]) (by simp [tg_bw, tg_be, tg_bv]) (Nat.le_of_ble_eq_true rfl) (Nat.le_of_ble_eq_true rfl) (Nat.le_of_ble_eq_true rfl) ?_
  simp only [List.set_cons_zero, List.set_cons_succ, List.map_cons, List.map_nil, tg_e, tg_v, tg_sh, List.cons_append, List.nil_append]
  try simp only [Nat.reduceEqDiff, Nat.reduceLT, Nat.reduceSub, Nat.reduceAdd, reduceIte, if_true, if_false]
  refine tg_go bX0_init_23 ?_
  simp only [ti_aload, ti_push, ti_putfR, List.getElem?_cons_zero, List.getElem?_cons_succ, List.set_cons_zero, List.set_cons_succ, true_and]
  refine g_newJ 24 (n := 7) dX0_init_29 (by decide) (by decide) (Nat.le_of_ble_eq_true rfl) rfl (Nat.le_of_ble_eq_true rfl) (Nat.le_of_ble_eq_true rfl) (by simp [tg_bw, tg_be, tg_bv]) (by simp [tg_bv]) (by simp [tg_bv]) (Nat.le_of_ble_eq_true rfl) (Nat.le_of_ble_eq_true rfl) ?_
  simp only [List.cons_append, List.nil_append]
  refine tg_go bX0_init_31 ?_
  simp only [ti_aload, ti_push, ti_putfR, List.getElem?_cons_zero, List.getElem?_cons_succ, List.set_cons_zero, List.set_cons_succ, true_and]
  refine g_newI 640 (n := 8) dX0_init_38 (by decide) (by decide) (Nat.le_of_ble_eq_true rfl) rfl (Nat.le_of_ble_eq_true rfl) (Nat.le_of_ble_eq_true rfl) (by simp [tg_bw, tg_be, tg_bv]) (by simp [tg_bv]) (by simp [tg_bv]) (Nat.le_of_ble_eq_true rfl) (Nat.le_of_ble_eq_true rfl) ?_
  simp only [List.cons_append, List.nil_append]
  refine tg_go bX0_init_40 ?_
  simp only [ti_aload, ti_push, ti_putfR, List.getElem?_cons_zero, List.getElem?_cons_succ, List.set_cons_zero, List.set_cons_succ, true_and]
  refine g_newJ 640 (n := 9) dX0_init_47 (by decide) (by decide) (Nat.le_of_ble_eq_true rfl) rfl (Nat.le_of_ble_eq_true rfl) (Nat.le_of_ble_eq_true rfl) (by simp [tg_bw, tg_be, tg_bv]) (by simp [tg_bv]) (by simp [tg_bv]) (Nat.le_of_ble_eq_true rfl) (Nat.le_of_ble_eq_true rfl) ?_
  simp only [List.cons_append, List.nil_append]
  refine tg_go bX0_init_49 ?_
  simp only [ti_aload, ti_push, ti_putfR, List.getElem?_cons_zero, List.getElem?_cons_succ, List.set_cons_zero, List.set_cons_succ, true_and]
  refine g_newI 640 (n := 10) dX0_init_56 (by decide) (by decide) (Nat.le_of_ble_eq_true rfl) rfl (Nat.le_of_ble_eq_true rfl) (Nat.le_of_ble_eq_true rfl) (by simp [tg_bw, tg_be, tg_bv]) (by simp [tg_bv]) (by simp [tg_bv]) (Nat.le_of_ble_eq_true rfl) (Nat.le_of_ble_eq_true rfl) ?_
  simp only [List.cons_append, List.nil_append]
  refine tg_go bX0_init_58 ?_
  simp only [ti_aload, ti_push, ti_putfR, List.getElem?_cons_zero, List.getElem?_cons_succ, List.set_cons_zero, List.set_cons_succ, true_and]
  refine g_newJ 640 (n := 11) dX0_init_65 (by decide) (by decide) (Nat.le_of_ble_eq_true rfl) rfl (Nat.le_of_ble_eq_true rfl) (Nat.le_of_ble_eq_true rfl) (by simp [tg_bw, tg_be, tg_bv]) (by simp [tg_bv]) (by simp [tg_bv]) (Nat.le_of_ble_eq_true rfl) (Nat.le_of_ble_eq_true rfl) ?_
  simp only [List.cons_append, List.nil_append]
  refine tg_go bX0_init_67 ?_
  simp only [ti_aload, ti_push, ti_putfR, List.getElem?_cons_zero, List.getElem?_cons_succ, List.set_cons_zero, List.set_cons_succ, true_and]
  refine g_newZ 640 (n := 12) dX0_init_74 (by decide) (by decide) (Nat.le_of_ble_eq_true rfl) rfl (Nat.le_of_ble_eq_true rfl) (Nat.le_of_ble_eq_true rfl) (by simp [tg_bw, tg_be, tg_bv]) (by simp [tg_bv]) (by simp [tg_bv]) (Nat.le_of_ble_eq_true rfl) (Nat.le_of_ble_eq_true rfl) ?_
  simp only [List.cons_append, List.nil_append]
  refine tg_go bX0_init_76 ?_
  simp only [ti_aload, ti_push, ti_putfR, List.getElem?_cons_zero, List.getElem?_cons_succ, List.set_cons_zero, List.set_cons_succ, true_and]
  refine g_newI 41 (n := 13) dX0_init_82 (by decide) (by decide) (Nat.le_of_ble_eq_true rfl) rfl (Nat.le_of_ble_eq_true rfl) (Nat.le_of_ble_eq_true rfl) (by simp [tg_bw, tg_be, tg_bv]) (by simp [tg_bv]) (by simp [tg_bv]) (Nat.le_of_ble_eq_true rfl) (Nat.le_of_ble_eq_true rfl) ?_
  simp only [List.cons_append, List.nil_append]
  refine tg_go bX0_init_84 ?_
  simp only [ti_aload, ti_push, ti_putfR, List.getElem?_cons_zero, List.getElem?_cons_succ, List.set_cons_zero, List.set_cons_succ, true_and]
  refine g_newI 41 (n := 14) dX0_init_90 (by decide) (by decide) (Nat.le_of_ble_eq_true rfl) rfl (Nat.le_of_ble_eq_true rfl) (Nat.le_of_ble_eq_true rfl) (by simp [tg_bw, tg_be, tg_bv]) (by simp [tg_bv]) (by simp [tg_bv]) (Nat.le_of_ble_eq_true rfl) (Nat.le_of_ble_eq_true rfl) ?_
  simp only [List.cons_append, List.nil_append]
  refine tg_go bX0_init_92 ?_
  simp only [ti_aload, ti_push, ti_putfR, List.getElem?_cons_zero, List.getElem?_cons_succ, List.set_cons_zero, List.set_cons_succ, true_and]
  refine g_newI 16 (n := 15) dX0_init_98 (by decide) (by decide) (Nat.le_of_ble_eq_true rfl) rfl (Nat.le_of_ble_eq_true rfl) (Nat.le_of_ble_eq_true rfl) (by simp [tg_bw, tg_be, tg_bv]) (by simp [tg_bv]) (by simp [tg_bv]) (Nat.le_of_ble_eq_true rfl) (Nat.le_of_ble_eq_true rfl) ?_
  simp only [List.cons_append, List.nil_append]
  refine tg_go bX0_init_100 ?_
  simp only [ti_putfR, List.getElem?_cons_zero, List.getElem?_cons_succ, List.set_cons_zero, List.set_cons_succ, true_and]
  refine g_vret dX0_init_103 rfl ?_
  exact ⟨rfl, rfl⟩
theorem kX9_init : tg_Ct l mX9_init 1 [.ref 0] [.inr (8, [.null, .int 0, .null, .int 0, .null, .null, .int 0, .null, .null, .long 0, .int 0, .int 0, .int 0, .null, .int 0, .int 0, .int 0, .int 0, .null, .null, .null, .int 0, .int 0, .int 0, .int 0, .int 0, .int 0, .null, .null, .int 0])] (fun r w => r = none ∧ w = wM (upd (fun _ => 0) 1 1) 2 in40 0 (fun _ => 0) (fun _ => 0) 0 in3 (fun _ => 0) 0 0 0 0 0 0 0 0 0 0 0 0 0 0 0 (fun _ => 0) (fun _ => 0) (fun _ => 0)) := by
  refine tg_gen (fun K0 hK0 => ?_)
  show tg_G _ _ _ _ _ _ _ [.ref 0] [] _
  refine tg_go bX9_init_0 ?_
  simp only [ti_aload, List.getElem?_cons_zero, List.getElem?_cons_succ, true_and]
  refine g_objI dX9_init_1 mlX9_1 (tg_mem 76 (by decide +kernel) rfl) (tg_mem 77 (by decide +kernel) rfl) (Nat.le_of_ble_eq_true rfl) (Nat.le_of_ble_eq_true rfl) (Nat.le_of_ble_eq_true rfl) ?_
  refine tg_go bX9_init_4 ?_
  simp only [ti_aload, ti_push, List.getElem?_cons_zero, List.getElem?_cons_succ, true_and]
  refine g_newI 984 (n := 1) dX9_init_8 (by decide) (by decide) (Nat.le_of_ble_eq_true rfl) rfl (Nat.le_of_ble_eq_true rfl) (Nat.le_of_ble_eq_true rfl) (by simp [tg_bw, tg_be, tg_bv]) (by simp [tg_bv]) (by simp [tg_bv]) (Nat.le_of_ble_eq_true rfl) (Nat.le_of_ble_eq_true rfl) ?_
  simp only [List.cons_append, List.nil_append]
  refine tg_go bX9_init_10 ?_
  simp only [ti_aload, ti_push, ti_putfI, ti_putfR, List.getElem?_cons_zero, List.getElem?_cons_succ, List.set_cons_zero, List.set_cons_succ, true_and]
  refine g_newI 4 (n := 2) dX9_init_20 (by decide) (by decide) (Nat.le_of_ble_eq_true rfl) rfl (Nat.le_of_ble_eq_true rfl) (Nat.le_of_ble_eq_true rfl) (by simp [tg_bw, tg_be, tg_bv]) (by simp [tg_bv]) (by simp [tg_bv]) (Nat.le_of_ble_eq_true rfl) (Nat.le_of_ble_eq_true rfl) ?_
  simp only [List.cons_append, List.nil_append]
  refine tg_go bX9_init_22 ?_
  simp only [ti_aload, ti_dup, ti_iast, ti_push, ti_putfR, Value.category, List.getElem?_cons_zero, List.getElem?_cons_succ, List.set_cons_zero, List.set_cons_succ, true_and]
  rw [cl_0, cl_1, show (2 : Int32).toNatClampNeg = 2 by decide, show (3 : Int32).toNatClampNeg = 3 by decide]
  refine ⟨vp_in_nI (n := 0) (by decide) (by decide), vp_in_nI (n := 1) (by decide) (by decide), vp_in_nI (n := 2) (by decide) (by decide), vp_in_nI (n := 3) (by decide) (by decide), ?_⟩
  refine g_newZ 2 (n := 3) dX9_init_43 (by decide) (by decide) (Nat.le_of_ble_eq_true rfl) rfl (Nat.le_of_ble_eq_true rfl) (Nat.le_of_ble_eq_true rfl) (by simp [tg_bw, tg_be, tg_bv]) (by simp [tg_bv]) (by simp [tg_bv]) (Nat.le_of_ble_eq_true rfl) (Nat.le_of_ble_eq_true rfl) ?_
  simp only [List.cons_append, List.nil_append]
  refine tg_go bX9_init_45 ?_
  simp only [ti_aload, ti_push, ti_putfR, List.getElem?_cons_zero, List.getElem?_cons_succ, List.set_cons_zero, List.set_cons_succ, true_and]
  refine g_newI 200 (n := 4) dX9_init_52 (by decide) (by decide) (Nat.le_of_ble_eq_true rfl) rfl (Nat.le_of_ble_eq_true rfl) (Nat.le_of_ble_eq_true rfl) (by simp [tg_bw, tg_be, tg_bv]) (by simp [tg_bv]) (by simp [tg_bv]) (Nat.le_of_ble_eq_true rfl) (Nat.le_of_ble_eq_true rfl) ?_
  simp only [List.cons_append, List.nil_append]
  refine tg_go bX9_init_54 ?_
  simp only [ti_aload, ti_push, ti_putfR, List.getElem?_cons_zero, List.getElem?_cons_succ, List.set_cons_zero, List.set_cons_succ, true_and]
  refine g_newI 3 (n := 5) dX9_init_59 (by decide) (by decide) (Nat.le_of_ble_eq_true rfl) rfl (Nat.le_of_ble_eq_true rfl) (Nat.le_of_ble_eq_true rfl) (by simp [tg_bw, tg_be, tg_bv]) (by simp [tg_bv]) (by simp [tg_bv]) (Nat.le_of_ble_eq_true rfl) (Nat.le_of_ble_eq_true rfl) ?_
  simp only [List.cons_append, List.nil_append]
  refine tg_go bX9_init_61 ?_
  simp only [ti_aload, ti_dup, ti_iast, ti_push, ti_putfR, Value.category, List.getElem?_cons_zero, List.getElem?_cons_succ, List.set_cons_zero, List.set_cons_succ, true_and]
  rw [cl_0, cl_1, show (2 : Int32).toNatClampNeg = 2 by decide]
  refine ⟨vp_in_nI (n := 0) (by decide) (by decide), vp_in_nI (n := 1) (by decide) (by decide), vp_in_nI (n := 2) (by decide) (by decide), ?_⟩
  refine g_newJ 36 (n := 6) dX9_init_79 (by decide) (by decide) (Nat.le_of_ble_eq_true rfl) rfl (Nat.le_of_ble_eq_true rfl) (Nat.le_of_ble_eq_true rfl) (by simp [tg_bw, tg_be, tg_bv]) (by simp [tg_bv]) (by simp [tg_bv]) (Nat.le_of_ble_eq_true rfl) (Nat.le_of_ble_eq_true rfl) ?_
  simp only [List.cons_append, List.nil_append]
  refine tg_go bX9_init_81 ?_
  simp only [ti_aload, ti_push, ti_putfR, List.getElem?_cons_zero, List.getElem?_cons_succ, List.set_cons_zero, List.set_cons_succ, true_and]
  refine g_newI 4 (n := 7) dX9_init_86 (by decide) (by decide) (Nat.le_of_ble_eq_true rfl) rfl (Nat.le_of_ble_eq_true rfl) (Nat.le_of_ble_eq_true rfl) (by simp [tg_bw, tg_be, tg_bv]) (by simp [tg_bv]) (by simp [tg_bv]) (Nat.le_of_ble_eq_true rfl) (Nat.le_of_ble_eq_true rfl) ?_
  simp only [List.cons_append, List.nil_append]
  refine tg_go bX9_init_88 ?_
  simp only [ti_aload, ti_push, ti_putfR, List.getElem?_cons_zero, List.getElem?_cons_succ, List.set_cons_zero, List.set_cons_succ, true_and]
  refine g_newI 5 (n := 8) dX9_init_93 (by decide) (by decide) (Nat.le_of_ble_eq_true rfl) rfl (Nat.le_of_ble_eq_true rfl) (Nat.le_of_ble_eq_true rfl) (by simp [tg_bw, tg_be, tg_bv]) (by simp [tg_bv]) (by simp [tg_bv]) (Nat.le_of_ble_eq_true rfl) (Nat.le_of_ble_eq_true rfl) ?_
  simp only [List.cons_append, List.nil_append]
  refine tg_go bX9_init_95 ?_
  simp only [ti_aload, ti_dup, ti_iast, ti_push, ti_putfR, Value.category, List.getElem?_cons_zero, List.getElem?_cons_succ, List.set_cons_zero, List.set_cons_succ, true_and]
  rw [cl_0, cl_1, show (2 : Int32).toNatClampNeg = 2 by decide, show (3 : Int32).toNatClampNeg = 3 by decide, show (4 : Int32).toNatClampNeg = 4 by decide]
  refine ⟨vp_in_nI (n := 0) (by decide) (by decide), vp_in_nI (n := 1) (by decide) (by decide), vp_in_nI (n := 2) (by decide) (by decide), vp_in_nI (n := 3) (by decide) (by decide), vp_in_nI (n := 4) (by decide) (by decide), ?_⟩
  refine g_newI 7 (n := 9) dX9_init_126 (by decide) (by decide) (Nat.le_of_ble_eq_true rfl) rfl (Nat.le_of_ble_eq_true rfl) (Nat.le_of_ble_eq_true rfl) (by simp [tg_bw, tg_be, tg_bv]) (by simp [tg_bv]) (by simp [tg_bv]) (Nat.le_of_ble_eq_true rfl) (Nat.le_of_ble_eq_true rfl) ?_
  simp only [List.cons_append, List.nil_append]
  refine tg_go bX9_init_128 ?_
  simp only [ti_aload, ti_dup, ti_iast, ti_push, ti_putfR, Value.category, List.getElem?_cons_zero, List.getElem?_cons_succ, List.set_cons_zero, List.set_cons_succ, true_and]
  rw [cl_0, cl_1, show (2 : Int32).toNatClampNeg = 2 by decide, show (3 : Int32).toNatClampNeg = 3 by decide, show (4 : Int32).toNatClampNeg = 4 by decide, show (5 : Int32).toNatClampNeg = 5 by decide, show (6 : Int32).toNatClampNeg = 6 by decide]
  refine ⟨vp_in_nI (n := 0) (by decide) (by decide), vp_in_nI (n := 1) (by decide) (by decide), vp_in_nI (n := 2) (by decide) (by decide), vp_in_nI (n := 3) (by decide) (by decide), vp_in_nI (n := 4) (by decide) (by decide), vp_in_nI (n := 5) (by decide) (by decide), vp_in_nI (n := 6) (by decide) (by decide), ?_⟩
  refine g_newI 3 (n := 10) dX9_init_169 (by decide) (by decide) (Nat.le_of_ble_eq_true rfl) rfl (Nat.le_of_ble_eq_true rfl) (Nat.le_of_ble_eq_true rfl) (by simp [tg_bw, tg_be, tg_bv]) (by simp [tg_bv]) (by simp [tg_bv]) (Nat.le_of_ble_eq_true rfl) (Nat.le_of_ble_eq_true rfl) ?_
  simp only [List.cons_append, List.nil_append]
  refine tg_go bX9_init_171 ?_
  simp only [ti_aload, ti_dup, ti_iast, ti_push, ti_putfR, Value.category, List.getElem?_cons_zero, List.getElem?_cons_succ, List.set_cons_zero, List.set_cons_succ, true_and]
  rw [cl_0, cl_1, show (2 : Int32).toNatClampNeg = 2 by decide]
  refine ⟨vp_in_nI (n := 0) (by decide) (by decide), vp_in_nI (n := 1) (by decide) (by decide), vp_in_nI (n := 2) (by decide) (by decide), ?_⟩
  refine g_newI 2401 (n := 11) dX9_init_193 (by decide) (by decide) (Nat.le_of_ble_eq_true rfl) rfl (Nat.le_of_ble_eq_true rfl) (Nat.le_of_ble_eq_true rfl) (by simp [tg_bw, tg_be, tg_bv]) (by simp [tg_bv]) (by simp [tg_bv]) (Nat.le_of_ble_eq_true rfl) (Nat.le_of_ble_eq_true rfl) ?_
  simp only [List.cons_append, List.nil_append]
  refine tg_go bX9_init_195 ?_
  simp only [ti_aload, ti_push, ti_putfR, List.getElem?_cons_zero, List.getElem?_cons_succ, List.set_cons_zero, List.set_cons_succ, true_and]
  refine g_newI 42 (n := 12) dX9_init_201 (by decide) (by decide) (Nat.le_of_ble_eq_true rfl) rfl (Nat.le_of_ble_eq_true rfl) (Nat.le_of_ble_eq_true rfl) (by simp [tg_bw, tg_be, tg_bv]) (by simp [tg_bv]) (by simp [tg_bv]) (Nat.le_of_ble_eq_true rfl) (Nat.le_of_ble_eq_true rfl) ?_
  simp only [List.cons_append, List.nil_append]
  refine tg_go bX9_init_203 ?_
  simp only [ti_aload, ti_getf, ti_iast, ti_push, ti_putfR, List.getElem?_cons_zero, List.getElem?_cons_succ, List.set_cons_zero, List.set_cons_succ, true_and]
  rw [cl_1]
  refine ⟨vp_in_nI (n := 1) (by decide) (by decide), ?_⟩
  refine tg_arr 8 (fun j => ([116, 97, 98, 108, 101] : List Int32).getD j 0) rfl (fun j hj => by rcases (show j = 0 ∨ j = 1 ∨ j = 2 ∨ j = 3 ∨ j = 4 by omega) with rfl | rfl | rfl | rfl | rfl <;> rfl) ?_
  refine tg_arr 9 (fun j => ([115, 117, 112, 112, 111, 114, 116] : List Int32).getD j 0) rfl (fun j hj => by rcases (show j = 0 ∨ j = 1 ∨ j = 2 ∨ j = 3 ∨ j = 4 ∨ j = 5 ∨ j = 6 by omega) with rfl | rfl | rfl | rfl | rfl | rfl | rfl <;> rfl) ?_
  refine tg_arr 10 (fun j => ([114, 111, 119] : List Int32).getD j 0) rfl (fun j hj => by rcases (show j = 0 ∨ j = 1 ∨ j = 2 by omega) with rfl | rfl | rfl <;> rfl) ?_
  simp only [List.set_cons_zero, List.set_cons_succ]
  refine g_vret dX9_init_213 rfl ?_
  exact hK0 _ _ ⟨rfl, rfl⟩
set_option maxRecDepth 8000 in
theorem kX8_init : tg_Ct l mX8_init 1 [.ref 0] [.inr (7, [.null, .null, .null, .null, .null, .null, .null, .null, .int 0, .long 0])] (fun r w => r = none ∧ w = wA 0 0 0 (fun _ => 0) 0 0 0 2 in4 0 (fun _ => 0) (fun _ => 0) 1 (fun _ => 0) 2 in4 0 (fun _ => 0) (fun _ => 0) 1 0 0 (fun _ => 0) (fun _ => 0) 0 8 9 10 11 (fun _ => 0) (fun _ => 0) (fun _ => 0) (fun _ => 0) (fun _ => 0) (fun _ => 0) (fun _ => 0) (fun _ => 0) 0 0 (fun _ => 0) (fun _ => 0) (fun _ => 0) (fun _ => 0) 2 in4 0 (fun _ => 0) (fun _ => 0) 1 2 in4 0 (fun _ => 0) (fun _ => 0) 1 (fun _ => 0) in3 (fun _ _ => 0)) := by
  refine tg_gen (fun K0 hK0 => ?_)
  show tg_G _ _ _ _ _ _ _ [.ref 0, .null] [] _
  refine tg_go bX8_init_0 ?_
  simp only [ti_aload, List.getElem?_cons_zero, List.getElem?_cons_succ, true_and]
  refine g_objI dX8_init_1 mlX8_3 (tg_mem 76 (by decide +kernel) rfl) (tg_mem 77 (by decide +kernel) rfl) (Nat.le_of_ble_eq_true rfl) (Nat.le_of_ble_eq_true rfl) (Nat.le_of_ble_eq_true rfl) ?_
  refine tg_go bX8_init_4 ?_
  simp only [ti_aload, List.getElem?_cons_zero, List.getElem?_cons_succ, true_and]
  refine g_new 1 (n := 1) (fs := [.null, .null, .int 0, .null]) dX8_init_5 clX1 tyX1_ok (tg_mem 78 (by decide +kernel) rfl) (tg_mem 79 (by decide +kernel) rfl) iniX1 (fun j hj => by rcases (show j = 0 ∨ j = 1 ∨ j = 2 ∨ j = 3 by omega) with rfl | rfl | rfl | rfl <;> rfl) (fun ad => rfl) rfl (Nat.le_of_ble_eq_true rfl) (Nat.le_of_ble_eq_true rfl) (by simp [tg_bw, tg_be, tg_bv] <;> first | exact kp1_lt (by omega) | exact kpF_lt (by omega)) (by simp [tg_bv]) (by simp [tg_bv]) (Nat.le_of_ble_eq_true rfl) (Nat.le_of_ble_eq_true rfl) ?_
  simp only [List.cons_append, List.nil_append]
  refine tg_go bX8_init_8 ?_
  simp only [ti_dup, Value.category, List.getElem?_cons_zero, List.getElem?_cons_succ, true_and]
  refine tg_callI (n := 2) iX8_init_9 kX1_init rfl (Nat.le_of_ble_eq_true rfl) rfl (Nat.le_of_ble_eq_true rfl) (Nat.le_of_ble_eq_true rfl) (by simp [tg_bw, tg_be, tg_bv] <;> first | exact kp1_lt (by omega) | exact kpF_lt (by omega)) (by simp [tg_bv]) (by simp [tg_bv]) (by simp [tg_bw, tg_be, tg_bv]) (Nat.le_of_ble_eq_true rfl) (Nat.le_of_ble_eq_true rfl) (Nat.le_of_ble_eq_true rfl) ?_
  simp only [List.set_cons_zero, List.set_cons_succ, List.map_cons, List.map_nil, tg_e, tg_v, tg_sh, List.cons_append, List.nil_append]
  try simp only [Nat.reduceEqDiff, Nat.reduceLT, Nat.reduceSub, Nat.reduceAdd, reduceIte, if_true, if_false]
  refine tg_go bX8_init_12 ?_
  simp only [ti_aload, ti_getf, ti_putfR, List.getElem?_cons_zero, List.getElem?_cons_succ, List.set_cons_zero, List.set_cons_succ, true_and]
  refine g_new 0 (n := 9) (fs := [.null, .null, .null, .int 0, .null, .null, .null, .null, .null, .null, .null, .null]) dX8_init_27 clX0 tyX0_ok (tg_mem 163 (by decide +kernel) rfl) (tg_mem 164 (by decide +kernel) rfl) iniX0 (fun j hj => by rcases (show j = 0 ∨ j = 1 ∨ j = 2 ∨ j = 3 ∨ j = 4 ∨ j = 5 ∨ j = 6 ∨ j = 7 ∨ j = 8 ∨ j = 9 ∨ j = 10 ∨ j = 11 by omega) with rfl | rfl | rfl | rfl | rfl | rfl | rfl | rfl | rfl | rfl | rfl | rfl <;> rfl) (fun ad => rfl) rfl (Nat.le_of_ble_eq_true rfl) (Nat.le_of_ble_eq_true rfl) (by simp [tg_bw, tg_be, tg_bv] <;> first | exact kp1_lt (by omega) | exact kpF_lt (by omega)) (by simp [tg_bv]) (by simp [tg_bv]) (Nat.le_of_ble_eq_true rfl) (Nat.le_of_ble_eq_true rfl) ?_
  simp only [List.cons_append, List.nil_append]
  refine tg_go bX8_init_30 ?_
  simp only [ti_dup, Value.category, List.getElem?_cons_zero, List.getElem?_cons_succ, true_and]
  refine tg_callI (n := 10) iX8_init_31 kX0_init rfl (Nat.le_of_ble_eq_true rfl) rfl (Nat.le_of_ble_eq_true rfl) (Nat.le_of_ble_eq_true rfl) (by simp [tg_bw, tg_be, tg_bv] <;> first | exact kp1_lt (by omega) | exact kpF_lt (by omega)) (by simp [tg_bv]) (by simp [tg_bv]) (by simp [tg_bw, tg_be, tg_bv]) (Nat.le_of_ble_eq_true rfl) (Nat.le_of_ble_eq_true rfl) (Nat.le_of_ble_eq_true rfl) ?_
  simp only [List.set_cons_zero, List.set_cons_succ, List.map_cons, List.map_nil, tg_e, tg_v, tg_sh, List.cons_append, List.nil_append]
  try simp only [Nat.reduceEqDiff, Nat.reduceLT, Nat.reduceSub, Nat.reduceAdd, reduceIte, if_true, if_false]
  refine tg_go bX8_init_34 ?_
  simp only [ti_aload, ti_getf, ti_putfR, List.getElem?_cons_zero, List.getElem?_cons_succ, List.set_cons_zero, List.set_cons_succ, true_and]
  refine g_new 4 (n := 25) (fs := [.int 0, .int 0, .null, .null, .null, .null]) dX8_init_49 clX5 tyX5_ok (tg_mem 228 (by decide +kernel) rfl) (tg_mem 229 (by decide +kernel) rfl) iniX5 (fun j hj => by rcases (show j = 0 ∨ j = 1 ∨ j = 2 ∨ j = 3 ∨ j = 4 ∨ j = 5 by omega) with rfl | rfl | rfl | rfl | rfl | rfl <;> rfl) (fun ad => rfl) rfl (Nat.le_of_ble_eq_true rfl) (Nat.le_of_ble_eq_true rfl) (by simp [tg_bw, tg_be, tg_bv] <;> first | exact kp1_lt (by omega) | exact kpF_lt (by omega)) (by simp [tg_bv]) (by simp [tg_bv]) (Nat.le_of_ble_eq_true rfl) (Nat.le_of_ble_eq_true rfl) ?_
  simp only [List.cons_append, List.nil_append]
  refine tg_go bX8_init_52 ?_
  simp only [ti_dup, Value.category, List.getElem?_cons_zero, List.getElem?_cons_succ, true_and]
  refine tg_callI (n := 26) iX8_init_53 kX5_init rfl (Nat.le_of_ble_eq_true rfl) rfl (Nat.le_of_ble_eq_true rfl) (Nat.le_of_ble_eq_true rfl) (by simp [tg_bw, tg_be, tg_bv] <;> first | exact kp1_lt (by omega) | exact kpF_lt (by omega)) (by simp [tg_bv]) (by simp [tg_bv]) (by simp [tg_bw, tg_be, tg_bv]) (Nat.le_of_ble_eq_true rfl) (Nat.le_of_ble_eq_true rfl) (Nat.le_of_ble_eq_true rfl) ?_
  simp only [List.set_cons_zero, List.set_cons_succ, List.map_cons, List.map_nil, tg_e, tg_v, tg_sh, List.cons_append, List.nil_append]
  try simp only [Nat.reduceEqDiff, Nat.reduceLT, Nat.reduceSub, Nat.reduceAdd, reduceIte, if_true, if_false]
  refine tg_go bX8_init_56 ?_
  simp only [ti_aload, ti_push, ti_putfR, List.getElem?_cons_zero, List.getElem?_cons_succ, List.set_cons_zero, List.set_cons_succ, true_and]
  refine g_newT 2 (n := 30) dX8_init_61 (tg_mem 254 (by decide +kernel) rfl) (by decide) (by decide) (Nat.le_of_ble_eq_true rfl) rfl (Nat.le_of_ble_eq_true rfl) (Nat.le_of_ble_eq_true rfl) (by simp [tg_bw, tg_be, tg_bv] <;> first | exact kp1_lt (by omega) | exact kpF_lt (by omega)) (by simp [tg_bv]) (by simp [tg_bv]) (Nat.le_of_ble_eq_true rfl) (Nat.le_of_ble_eq_true rfl) ?_
  simp only [List.cons_append, List.nil_append]
  refine tg_go bX8_init_64 ?_
  simp only [ti_istore, ti_push, ti_putfR, tg_s1, tg_cl, List.getElem?_cons_zero, List.getElem?_cons_succ, List.set_cons_zero, List.set_cons_succ, true_and]
  refine tg_go bX8_init_69 ?_
  simp only [ti_iload, ti_push, List.getElem?_cons_zero, List.getElem?_cons_succ, true_and]
  refine g_icmp_ge (tgt := 93) dX8_init_71 rfl (fun h71 => ?_) (fun h71 => ?_)
  · exact absurd h71 (by decide)
  · refine tg_go bX8_init_74 ?_
    simp only [ti_aload, ti_getf, ti_iload, List.getElem?_cons_zero, List.getElem?_cons_succ, true_and]
    refine g_new 5 (n := 31) (fs := [.int 0, .null, .int 0, .null, .null, .int 0]) dX8_init_79 clX6 tyX6_ok (tg_mem 254 (by decide +kernel) rfl) (tg_mem 107 (by decide +kernel) rfl) iniX6 (fun j hj => by rcases (show j = 0 ∨ j = 1 ∨ j = 2 ∨ j = 3 ∨ j = 4 ∨ j = 5 by omega) with rfl | rfl | rfl | rfl | rfl | rfl <;> rfl) (fun ad => rfl) rfl (Nat.le_of_ble_eq_true rfl) (Nat.le_of_ble_eq_true rfl) (by simp [tg_bw, tg_be, tg_bv] <;> first | exact kp1_lt (by omega) | exact kpF_lt (by omega)) (by simp [tg_bv]) (by simp [tg_bv]) (Nat.le_of_ble_eq_true rfl) (Nat.le_of_ble_eq_true rfl) ?_
    simp only [List.cons_append, List.nil_append]
    refine tg_go bX8_init_82 ?_
    simp only [ti_dup, Value.category, List.getElem?_cons_zero, List.getElem?_cons_succ, true_and]
    refine tg_callI (n := 32) iX8_init_83 kX6_init rfl (Nat.le_of_ble_eq_true rfl) rfl (Nat.le_of_ble_eq_true rfl) (Nat.le_of_ble_eq_true rfl) (by simp [tg_bw, tg_be, tg_bv] <;> first | exact kp1_lt (by omega) | exact kpF_lt (by omega)) (by simp [tg_bv]) (by simp [tg_bv]) (by simp [tg_bw, tg_be, tg_bv]) (Nat.le_of_ble_eq_true rfl) (Nat.le_of_ble_eq_true rfl) (Nat.le_of_ble_eq_true rfl) ?_
    simp only [List.set_cons_zero, List.set_cons_succ, List.map_cons, List.map_nil, tg_e, tg_v, tg_sh, List.cons_append, List.nil_append]
    try simp only [Nat.reduceEqDiff, Nat.reduceLT, Nat.reduceSub, Nat.reduceAdd, reduceIte, if_true, if_false]
    refine g_aast dX8_init_86 rfl rfl (vp_in_nI (n := 0) (by decide) (by decide)) ?_
    simp only [List.set_cons_zero, List.set_cons_succ]
    rw [cl_0]
    refine (show tg_G _ _ _ _ _ _ _ _ _ _ from ?_)
    refine tg_go bX8_init_87 ?_
    simp only [ti_iinc, tg_s1, tg_cl, List.getElem?_cons_zero, List.getElem?_cons_succ, List.set_cons_zero, List.set_cons_succ, true_and]
    refine g_goto (tgt := 69) dX8_init_90 rfl ?_
    refine tg_go bX8_init_69 ?_
    simp only [ti_iload, ti_push, List.getElem?_cons_zero, List.getElem?_cons_succ, true_and]
    refine g_icmp_ge (tgt := 93) dX8_init_71 rfl (fun h71 => ?_) (fun h71 => ?_)
    · exact absurd h71 (by decide)
    · refine tg_go bX8_init_74 ?_
      simp only [ti_aload, ti_getf, ti_iload, List.getElem?_cons_zero, List.getElem?_cons_succ, true_and]
      refine g_new 5 (n := 35) (fs := [.int 0, .null, .int 0, .null, .null, .int 0]) dX8_init_79 clX6 tyX6_ok (tg_mem 254 (by decide +kernel) rfl) (tg_mem 107 (by decide +kernel) rfl) iniX6 (fun j hj => by rcases (show j = 0 ∨ j = 1 ∨ j = 2 ∨ j = 3 ∨ j = 4 ∨ j = 5 by omega) with rfl | rfl | rfl | rfl | rfl | rfl <;> rfl) (fun ad => rfl) rfl (Nat.le_of_ble_eq_true rfl) (Nat.le_of_ble_eq_true rfl) (by simp [tg_bw, tg_be, tg_bv] <;> first | exact kp1_lt (by omega) | exact kpF_lt (by omega)) (by simp [tg_bv]) (by simp [tg_bv]) (Nat.le_of_ble_eq_true rfl) (Nat.le_of_ble_eq_true rfl) ?_
      simp only [List.cons_append, List.nil_append]
      refine tg_go bX8_init_82 ?_
      simp only [ti_dup, Value.category, List.getElem?_cons_zero, List.getElem?_cons_succ, true_and]
      refine tg_callI (n := 36) iX8_init_83 kX6_init rfl (Nat.le_of_ble_eq_true rfl) rfl (Nat.le_of_ble_eq_true rfl) (Nat.le_of_ble_eq_true rfl) (by simp [tg_bw, tg_be, tg_bv] <;> first | exact kp1_lt (by omega) | exact kpF_lt (by omega)) (by simp [tg_bv]) (by simp [tg_bv]) (by simp [tg_bw, tg_be, tg_bv]) (Nat.le_of_ble_eq_true rfl) (Nat.le_of_ble_eq_true rfl) (Nat.le_of_ble_eq_true rfl) ?_
      simp only [List.set_cons_zero, List.set_cons_succ, List.map_cons, List.map_nil, tg_e, tg_v, tg_sh, List.cons_append, List.nil_append]
      try simp only [Nat.reduceEqDiff, Nat.reduceLT, Nat.reduceSub, Nat.reduceAdd, reduceIte, if_true, if_false]
      refine g_aast dX8_init_86 rfl rfl (vp_in_nI (n := 1) (by decide) (by decide)) ?_
      simp only [List.set_cons_zero, List.set_cons_succ]
      rw [show ((0 : Int32) + 1).toNatClampNeg = 1 by decide]
      rw [show va_up (va_up (fun _ => none) 0 (some 31)) 1 (some 35) = kpF from kp_eq]
      refine tg_go bX8_init_87 ?_
      simp only [ti_iinc, tg_s1, tg_cl, List.getElem?_cons_zero, List.getElem?_cons_succ, List.set_cons_zero, List.set_cons_succ, true_and]
      refine g_goto (tgt := 69) dX8_init_90 rfl ?_
      refine tg_go bX8_init_69 ?_
      simp only [ti_iload, ti_push, List.getElem?_cons_zero, List.getElem?_cons_succ, true_and]
      refine g_icmp_ge (tgt := 93) dX8_init_71 rfl (fun h71 => ?_) (fun h71 => ?_)
      · skip
        refine tg_go bX8_init_93 ?_
        simp only [ti_aload, ti_push, List.getElem?_cons_zero, List.getElem?_cons_succ, true_and]
        refine g_newZ 2 (n := 39) dX8_init_95 (by decide) (by decide) (Nat.le_of_ble_eq_true rfl) rfl (Nat.le_of_ble_eq_true rfl) (Nat.le_of_ble_eq_true rfl) (by simp [tg_bw, tg_be, tg_bv] <;> first | exact kp1_lt (by omega) | exact kpF_lt (by omega)) (by simp [tg_bv]) (by simp [tg_bv]) (Nat.le_of_ble_eq_true rfl) (Nat.le_of_ble_eq_true rfl) ?_
        simp only [List.cons_append, List.nil_append]
        refine tg_go bX8_init_97 ?_
        simp only [ti_aload, ti_putfR, List.getElem?_cons_zero, List.getElem?_cons_succ, List.set_cons_zero, List.set_cons_succ, true_and]
        refine g_new 2 (n := 40) (fs := [.null, .null]) dX8_init_101 clX3 tyX3_ok (tg_mem 257 (by decide +kernel) rfl) (tg_mem 258 (by decide +kernel) rfl) iniX3 (fun j hj => by rcases (show j = 0 ∨ j = 1 by omega) with rfl | rfl <;> rfl) (fun ad => rfl) rfl (Nat.le_of_ble_eq_true rfl) (Nat.le_of_ble_eq_true rfl) (by simp [tg_bw, tg_be, tg_bv] <;> first | exact kp1_lt (by omega) | exact kpF_lt (by omega)) (by simp [tg_bv]) (by simp [tg_bv]) (Nat.le_of_ble_eq_true rfl) (Nat.le_of_ble_eq_true rfl) ?_
        simp only [List.cons_append, List.nil_append]
        refine tg_go bX8_init_104 ?_
        simp only [ti_dup, Value.category, List.getElem?_cons_zero, List.getElem?_cons_succ, true_and]
        refine tg_callI (n := 41) iX8_init_105 kX3_init rfl (Nat.le_of_ble_eq_true rfl) rfl (Nat.le_of_ble_eq_true rfl) (Nat.le_of_ble_eq_true rfl) (by simp [tg_bw, tg_be, tg_bv] <;> first | exact kp1_lt (by omega) | exact kpF_lt (by omega)) (by simp [tg_bv]) (by simp [tg_bv]) (by simp [tg_bw, tg_be, tg_bv] <;> exact rowF_lt) (Nat.le_of_ble_eq_true rfl) (Nat.le_of_ble_eq_true rfl) (Nat.le_of_ble_eq_true rfl) ?_
        simp only [List.set_cons_zero, List.set_cons_succ, List.map_cons, List.map_nil, tg_e, tg_v, tg_sh, List.cons_append, List.nil_append]
        try simp only [Nat.reduceEqDiff, Nat.reduceLT, Nat.reduceSub, Nat.reduceAdd, reduceIte, if_true, if_false]
        rw [row_sh]
        refine tg_go bX8_init_108 ?_
        simp only [ti_aload, ti_push, ti_putfJ, ti_putfR, ti_putfZ, List.getElem?_cons_zero, List.getElem?_cons_succ, List.set_cons_zero, List.set_cons_succ, true_and]
        refine ⟨Or.inl trivial, ?_⟩
        refine g_vret dX8_init_121 rfl ?_
        exact hK0 _ _ ⟨rfl, rfl⟩
      · exact absurd (by decide) h71
end INIT2
