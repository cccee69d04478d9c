/-! THE CLASS: Past -/
def wH (pz px : Int32) (pk pn pc pm : Nat → Int32) : List va_E := [.inr (4, [.int pz, .int px, .ref 1, .ref 2, .ref 3, .ref 4]), .inl (0, 8, .inl pk), .inl (0, 8, .inl pn), .inl (0, 8, .inl pc), .inl (0, 8, .inl pm)]
def wHT (pz px : Int32) (pk pn pc pm : Nat → Int32) (td : Int32) (tv : Nat → Int32) (tn : Int32) (tc tm : Nat → Int32) (te : Int32) : List va_E := [.inr (4, [.int pz, .int px, .ref 1, .ref 2, .ref 3, .ref 4]), .inl (0, 8, .inl pk), .inl (0, 8, .inl pn), .inl (0, 8, .inl pc), .inl (0, 8, .inl pm), .inr (5, [.int td, .ref 6, .int tn, .ref 7, .ref 8, .int te]), .inl (0, 4, .inl tv), .inl (0, 40, .inl tc), .inl (0, 40, .inl tm)]
def nx8 (p : Nat) : Nat := if p + 1 < 8 then p + 1 else 0
def pv8 (p : Nat) : Nat := if 0 < p then p - 1 else 7
section PAST
variable {l : tg_Ln} {K : Option Value → List va_E → Prop} {pk pn pc pm tv tc tm : Nat → Int32} {pz px td tn te : Int32} {p z n : Nat}
theorem kX5_record {a b c e : Int32} (hp : p < 8) (hz : z ≤ 8) : tg_Ct l mX5_record 1000 [.ref 0, .int a, .int b, .int c, .int e] (wH (nI z) (nI p) pk pn pc pm) (fun r w => r = none ∧ w = wH (nI (min (z + 1) 8)) (nI (nx8 p)) (upd pk p a) (upd pn p b) (upd pc p c) (upd pm p e)) := by
  have emin : (if (8 : Int32) < nI (z + 1) then (8 : Int32) else nI (z + 1)) = nI (min (z + 1) 8) := by
    split
    · rename_i h
      rw [fa_lit, lI_lt (by omega) (by omega)] at h
      rw [Nat.min_eq_right (by omega)]
      rfl
    · rename_i h
      rw [fa_lit, lI_lt (by omega) (by omega)] at h
      rw [Nat.min_eq_left (by omega)]
  refine tg_gen (fun K0 hK0 => ?_)
  show tg_G _ _ _ _ _ _ _ [.ref 0, .int a, .int b, .int c, .int e] [] _
  unfold wH
  refine tg_go bX5_record_0 ?_
  simp only [ti_aload, ti_getf, ti_iadd, ti_iast, ti_iload, ti_push, List.getElem?_cons_zero, List.getElem?_cons_succ, List.set_cons_zero, List.set_cons_succ, true_and]
  rw [nI_clamp (by omega), nI_1]
  refine ⟨vp_in_nI (by omega) (by omega), vp_in_nI (by omega) (by omega), vp_in_nI (by omega) (by omega), vp_in_nI (by omega) (by omega), ?_⟩
  refine g_cut2 63 (fun z => z = nI (nx8 p)) (fun J63 => ?_) (fun z hz => ?_)
  · refine g_icmp_ge (tgt := 62) dX5_record_50 rfl (fun h50 => ?_) (fun h50 => ?_)
    · rw [fa_lit, lI_le (by omega) (by omega)] at h50
      refine tg_go bX5_record_62 ?_
      simp only [ti_push, List.getElem?_cons_zero, List.getElem?_cons_succ, true_and]
      exact J63 _ (by unfold nx8; rw [if_neg (by omega)]; rfl)
    · rw [fa_lit, lI_le (by omega) (by omega)] at h50
      refine tg_go bX5_record_53 ?_
      simp only [ti_aload, ti_getf, ti_iadd, ti_push, List.getElem?_cons_zero, List.getElem?_cons_succ, true_and]
      refine g_goto (tgt := 63) dX5_record_59 rfl ?_
      exact J63 _ (by unfold nx8; rw [if_pos (by omega), nI_1])
  subst hz
  refine tg_go bX5_record_63 ?_
  simp only [ti_aload, ti_getf, ti_iadd, ti_mmin, ti_push, ti_putfI, List.getElem?_cons_zero, List.getElem?_cons_succ, List.set_cons_zero, List.set_cons_succ, true_and, List.map_nil, List.map_cons, List.sum_nil, List.sum_cons, Value.category, Nat.reduceAdd, Nat.reduceLeDiff, and_self, and_true]
  rw [nI_1, emin]
  refine g_vret dX5_record_81 rfl ?_
  exact hK0 _ _ ⟨rfl, rfl⟩
theorem kX5_undo_1 {x1 : Value} (hp : p < 8) (hz : 0 < z) (hz8 : z ≤ 8) (hK : tg_G l mX5_undoLatest 1000 K 0 0 49 [.ref 0, .ref 5] [.int (pk (pv8 p))] (wHT (nI (z - 1)) (nI (pv8 p)) pk pn pc pm td tv tn tc tm te)) : tg_Ct l mX5_undoLatest 1000 [.ref 0, .ref 5] (wHT (nI z) (nI p) pk pn pc pm td tv tn tc tm te) K := by
  have hq : pv8 p < 8 := by unfold pv8; split <;> omega
  show tg_G _ _ _ _ _ _ _ [.ref 0, .ref 5] [] _
  unfold wHT
  refine tg_go bX5_undoLatest_0 ?_
  simp only [ti_aload, ti_getf, List.getElem?_cons_zero, List.getElem?_cons_succ, true_and]
  refine g_if_ne (tgt := 8) dX5_undoLatest_4 rfl (fun h4 => ?_) (fun h4 => ?_)
  · refine tg_go bX5_undoLatest_8 ?_
    simp only [ti_aload, ti_getf, List.getElem?_cons_zero, List.getElem?_cons_succ, true_and]
    refine g_cut1 27 (fun z => z = nI (pv8 p)) (fun J27 => ?_) (fun z hz => ?_)
    · refine g_if_le (tgt := 25) dX5_undoLatest_13 rfl (fun h13 => ?_) (fun h13 => ?_)
      · rw [fa_lit, lI_le (by omega) (by omega)] at h13
        refine tg_go bX5_undoLatest_25 ?_
        simp only [ti_push, List.getElem?_cons_zero, List.getElem?_cons_succ, true_and]
        exact J27 _ (by unfold pv8; rw [if_neg (by omega)]; rfl)
      · rw [fa_lit, lI_le (by omega) (by omega)] at h13
        refine tg_go bX5_undoLatest_16 ?_
        simp only [ti_aload, ti_getf, ti_isub, ti_push, List.getElem?_cons_zero, List.getElem?_cons_succ, true_and]
        refine g_goto (tgt := 27) dX5_undoLatest_22 rfl ?_
        exact J27 _ (by unfold pv8; rw [if_pos (by omega)]; exact pk_sub (a := p) (b := 1) (by omega))
    subst hz
    refine tg_go bX5_undoLatest_27 ?_
    simp only [ti_aload, ti_dup, ti_getf, ti_iald, ti_isub, ti_push, ti_putfI, Value.category, List.getElem?_cons_zero, List.getElem?_cons_succ, List.set_cons_zero, List.set_cons_succ, true_and]
    rw [show nI z - 1 = nI (z - 1) from pk_sub (a := z) (b := 1) hz, nI_clamp (by omega)]
    refine ⟨vp_in_nI (by omega) (by omega), ?_⟩
    unfold wHT at hK
    exact hK
  · rw [fa_lit, lI_eq (by omega) (by omega)] at h4; omega
theorem kX5_undo_add {q : Nat} (hp : p < 8) (hz : 0 < z) (hz8 : z ≤ 8) (hk : pk (pv8 p) = 0) (hq : pn (pv8 p) = nI q) (hqn : q < n) (hn : n ≤ 40) : tg_Ct l mX5_undoLatest 1000 [.ref 0, .ref 5] (wHT (nI z) (nI p) pk pn pc pm td tv (nI n) tc tm te) (fun r w => r = none ∧ w = wHT (nI (z - 1)) (nI (pv8 p)) pk pn pc pm td tv (nI (n - 1)) (tDel tc q n) (tDel tm q n) te) := by
  have hp8 : pv8 p < 8 := by unfold pv8; split <;> omega
  refine kX5_undo_1 (x1 := .null) hp hz hz8 ?_
  rw [hk]
  unfold wHT
  refine g_lookup (off := 27) (tgt := 76) dX5_undoLatest_49 rfl rfl rfl ?_
  refine tg_go bX5_undoLatest_76 ?_
  simp only [ti_aload, ti_getf, ti_iald, List.getElem?_cons_zero, List.getElem?_cons_succ, true_and]
  rw [nI_clamp (by omega), hq]
  refine ⟨vp_in_nI (by omega) (by omega), ?_⟩
  refine tg_cV [5, 6, 7, 8] vX5_undoLatest_86 (kX6_takeOut (td := td) (tv := tv) (te := te) (tc := tc) (tm := tm) hn hqn) rfl rfl rfl rfl rfl (Nat.le_of_ble_eq_true rfl) rfl (Nat.le_of_ble_eq_true rfl) (Nat.le_of_ble_eq_true rfl) (by rintro r w1 ⟨-, rfl⟩; rfl) ?_
  rintro r w1 ⟨rfl, rfl⟩
  simp only [Option.map_some, Option.map_none, Option.toList_some, Option.toList_none, List.cons_append, List.nil_append, tg_v]
  refine (show tg_G _ _ _ _ _ _ _ _ _ (wHT (nI (z - 1)) (nI (pv8 p)) pk pn pc pm td tv (nI (n - 1)) (tDel tc q n) (tDel tm q n) te) from ?_)
  refine g_goto (tgt := 139) dX5_undoLatest_89 rfl ?_
  refine g_vret dX5_undoLatest_139 rfl ?_
  exact ⟨rfl, rfl⟩
theorem kX5_undo_rem {q : Nat} (hp : p < 8) (hz : 0 < z) (hz8 : z ≤ 8) (hk : pk (pv8 p) = 1) (hq : pn (pv8 p) = nI q) (hqn : q ≤ n) (hn : n < 40) : tg_Ct l mX5_undoLatest 1000 [.ref 0, .ref 5] (wHT (nI z) (nI p) pk pn pc pm td tv (nI n) tc tm te) (fun r w => r = none ∧ w = wHT (nI (z - 1)) (nI (pv8 p)) pk pn pc pm td tv (nI (n + 1)) (tIns tc q n (pc (pv8 p))) (tIns tm q n (pm (pv8 p))) te) := by
  have hp8 : pv8 p < 8 := by unfold pv8; split <;> omega
  refine kX5_undo_1 (x1 := .null) hp hz hz8 ?_
  rw [hk]
  unfold wHT
  refine g_lookup (off := 43) (tgt := 92) dX5_undoLatest_49 rfl rfl rfl ?_
  refine tg_go bX5_undoLatest_92 ?_
  simp only [ti_aload, ti_getf, ti_iald, List.getElem?_cons_zero, List.getElem?_cons_succ, true_and]
  rw [nI_clamp (by omega), hq]
  refine ⟨vp_in_nI (by omega) (by omega), vp_in_nI (by omega) (by omega), vp_in_nI (by omega) (by omega), ?_⟩
  refine tg_cV [5, 6, 7, 8] vX5_undoLatest_120 (kX6_insert (td := td) (tv := tv) (te := te) (tc := tc) (tm := tm) hn hqn) rfl rfl rfl rfl rfl (Nat.le_of_ble_eq_true rfl) rfl (Nat.le_of_ble_eq_true rfl) (Nat.le_of_ble_eq_true rfl) (by rintro r w1 ⟨-, rfl⟩; rfl) ?_
  rintro r w1 ⟨rfl, rfl⟩
  simp only [Option.map_some, Option.map_none, Option.toList_some, Option.toList_none, List.cons_append, List.nil_append, tg_v]
  refine (show tg_G _ _ _ _ _ _ _ _ _ (wHT (nI (z - 1)) (nI (pv8 p)) pk pn pc pm td tv (nI (n + 1)) (tIns tc q n (pc (pv8 p))) (tIns tm q n (pm (pv8 p))) te) from ?_)
  refine g_goto (tgt := 139) dX5_undoLatest_123 rfl ?_
  refine g_vret dX5_undoLatest_139 rfl ?_
  exact ⟨rfl, rfl⟩
theorem kX5_undo_sup (hp : p < 8) (hz : 0 < z) (hz8 : z ≤ 8) (hk : pk (pv8 p) = 2) : tg_Ct l mX5_undoLatest 1000 [.ref 0, .ref 5] (wHT (nI z) (nI p) pk pn pc pm td tv tn tc tm te) (fun r w => r = none ∧ w = wHT (nI (z - 1)) (nI (pv8 p)) pk pn pc pm td tv tn tc tm (pn (pv8 p))) := by
  have hp8 : pv8 p < 8 := by unfold pv8; split <;> omega
  refine kX5_undo_1 (x1 := .null) hp hz hz8 ?_
  rw [hk]
  unfold wHT
  refine g_lookup (off := 77) (tgt := 126) dX5_undoLatest_49 rfl rfl rfl ?_
  refine tg_go bX5_undoLatest_126 ?_
  simp only [ti_aload, ti_getf, ti_iald, ti_putfI, List.getElem?_cons_zero, List.getElem?_cons_succ, List.set_cons_zero, List.set_cons_succ, true_and]
  rw [nI_clamp (by omega)]
  refine ⟨vp_in_nI (by omega) (by omega), ?_⟩
  refine g_vret dX5_undoLatest_139 rfl ?_
  exact ⟨rfl, rfl⟩
end PAST
