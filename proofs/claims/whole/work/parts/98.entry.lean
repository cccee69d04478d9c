/-! THE CLAIM: what holds at the law's entry -/
def R_law : String := "CubeClosuresLaw"
def lw_P (b : Addr) (xs : List Int32) (args : Array Value) (s : State) : Prop := args = #[.ref b] ∧ s.IntsAt b xs ∧ xs.length ≤ 2560 ∧ (Jvm.Cond.and given_1 narrow_1).before args s = true
def lw_Q (_ : Array Value) (s : State) (o : Outcome) (t : State) : Prop := o = .returned (some (.int 1)) ∧ Framed s o t [] 600000 7302250
def lw_Z (below : List Frame) (a : Array Value) (s : State) : State → Prop := fun t => ∃ o, t.status = .running ∧ Ended t below o ∧ lw_Q a s o t
def lw_At (p : Program) (s : State) (m : MethodId) (meth : Method) (c : Code) (b L : Nat) (xs : Nat → Int32) : Prop :=
  p.tables.exec = Jvm.exec ∧ c.code = code ∧ meth.sig.returnType = ret ∧ c.maxLocals = 4 ∧ s.vm.findClass R_law = some m.cls ∧ (∀ w ∈ lw_tbl, w.before #[Value.ref b] s = true) ∧ va_X b L xs s s.heap ∧ b < s.heap.size ∧ meth.locks = false ∧ (Jvm.Cond.and given_1 narrow_1).before #[Value.ref b] s = true ∧ meth.name = "law"
abbrev lw_N : List Cond := flatC (Jvm.Cond.and given_1 narrow_1)
theorem n_z0 : Cond.arrayOf (.static RX4 "ORDERS_OF_1" "[I") .int ∈ lw_N ∧ Cond.eq (.length (.static RX4 "ORDERS_OF_1" "[I")) (.int (Int32.ofNat 1)) ∈ lw_N ∧ ∀ j : Fin 1, Cond.eq (.elem (.static RX4 "ORDERS_OF_1" "[I") (.int (Int32.ofNat j.val))) (.int ((tg_ol 0).getD j.val 0)) ∈ lw_N := by decide +kernel
theorem n_z1 : Cond.arrayOf (.static RX4 "ORDERS_OF_2" "[I") .int ∈ lw_N ∧ Cond.eq (.length (.static RX4 "ORDERS_OF_2" "[I")) (.int (Int32.ofNat 2)) ∈ lw_N ∧ ∀ j : Fin 2, Cond.eq (.elem (.static RX4 "ORDERS_OF_2" "[I") (.int (Int32.ofNat j.val))) (.int ((tg_ol 1).getD j.val 0)) ∈ lw_N := by decide +kernel
theorem n_z2 : Cond.arrayOf (.static RX4 "ORDERS_OF_3" "[I") .int ∈ lw_N ∧ Cond.eq (.length (.static RX4 "ORDERS_OF_3" "[I")) (.int (Int32.ofNat 6)) ∈ lw_N ∧ ∀ j : Fin 6, Cond.eq (.elem (.static RX4 "ORDERS_OF_3" "[I") (.int (Int32.ofNat j.val))) (.int ((tg_ol 2).getD j.val 0)) ∈ lw_N := by decide +kernel
theorem n_z3 : Cond.arrayOf (.static RX4 "ORDERS_OF_4" "[I") .int ∈ lw_N ∧ Cond.eq (.length (.static RX4 "ORDERS_OF_4" "[I")) (.int (Int32.ofNat 24)) ∈ lw_N ∧ ∀ j : Fin 24, Cond.eq (.elem (.static RX4 "ORDERS_OF_4" "[I") (.int (Int32.ofNat j.val))) (.int ((tg_ol 3).getD j.val 0)) ∈ lw_N := by decide +kernel
theorem n_s : ∀ i : Fin 4, Cond.exactly (.string RX1 (tg_sk i.val)) "java/lang/String" ∈ lw_N ∧ Cond.eq (.field (.string RX1 (tg_sk i.val)) "java/lang/String" "coder" "B") (.int 0) ∈ lw_N ∧ Cond.arrayOf (.field (.string RX1 (tg_sk i.val)) "java/lang/String" "value" "[B") .byte ∈ lw_N ∧ Cond.eq (.length (.field (.string RX1 (tg_sk i.val)) "java/lang/String" "value" "[B")) (.int (Int32.ofNat (tg_sl.getD i.val 0))) ∈ lw_N := by decide +kernel
theorem n_e : ∀ i : Fin 4, ∀ j : Fin 7, j.val < tg_sl.getD i.val 0 → Cond.eq (.elem (.field (.string RX1 (tg_sk i.val)) "java/lang/String" "value" "[B") (.int (Int32.ofNat j.val))) (.int ((tg_sb.getD i.val []).getD j.val 0)) ∈ lw_N := by decide +kernel
theorem n_ne : ∀ i j : Fin 4, i.val < j.val → Cond.not (Cond.eq (.string RX1 (tg_sk i.val)) (.string RX1 (tg_sk j.val))) ∈ lw_N := by decide +kernel
theorem n_j : Cond.eq (.static "java/lang/String" "COMPACT_STRINGS" "Z") (.int 1) ∈ lw_N ∧ Cond.isRef (.static "jdk/internal/util/Preconditions" "SIOOBE_FORMATTER" "Ljava/util/function/BiFunction;") ∈ lw_N := by decide +kernel
theorem t_at {w : Cond} (i : Nat) (h : lw_tbl[i]? = some w) : w ∈ lw_tbl := List.mem_of_getElem? h
theorem t_s : ∀ i, i < 4 → Cond.stringRef RX1 (tg_sk i) (tg_sx i) ∈ lw_tbl := fun i hi => by
  rcases (show i = 0 ∨ i = 1 ∨ i = 2 ∨ i = 3 by omega) with rfl | rfl | rfl | rfl
  · exact t_at 350 (by decide +kernel)
  · exact t_at 419 (by decide +kernel)
  · exact t_at 424 (by decide +kernel)
  · exact t_at 434 (by decide +kernel)
section ENT
variable {s : State} {b : Nat} {A : Nat → Prop}
theorem ent_Z {C nm : String} {ls : List Int32} {N : Nat} (hn : ∀ w ∈ lw_N, w.before #[Value.ref b] s = true) (hl : (Cond.laysStatic C nm "[I").before #[Value.ref b] s = true) (hini : (Cond.initialized C).before #[Value.ref b] s = true) (hA : ∀ a : Nat, a < s.heap.size → ¬ A a) (hN : N < 2 ^ 31)
    (h : Cond.arrayOf (.static C nm "[I") .int ∈ lw_N ∧ Cond.eq (.length (.static C nm "[I")) (.int (Int32.ofNat N)) ∈ lw_N ∧ ∀ j : Fin N, Cond.eq (.elem (.static C nm "[I") (.int (Int32.ofNat j.val))) (.int (ls.getD j.val 0)) ∈ lw_N) : ∃ t : Nat, va_Z C nm "[I" (.ref t) A s s.heap ∧ va_T .int t N (fun j => .int (ls.getD j 0)) A s s.heap := by
  obtain ⟨h1, h2, h3⟩ := h
  obtain ⟨t, e, hT⟩ := va_Tof (f := fun j => .int (ls.getD j 0)) hN (hn _ h1) (va_eqt (hn _ h2)) (fun j hj => va_eqt (hn _ (h3 ⟨j, hj⟩))) hA
  exact ⟨t, va_Zref hl hini e hA, hT⟩
theorem ent_K (hts : ∀ w ∈ lw_tbl, w.before #[Value.ref b] s = true) : ∃ (D : va_G) (cA : Nat → ClassId), va_K D vwCl (tg_tys cA) s := by
  have htsT : ∀ w ∈ tg_T, w.before #[Value.ref b] s = true := fun w hw => hts w (List.mem_filter.mp hw).1
  have h : ∀ c : Nat, ∃ d : ClassId × (Nat → Nat), ∀ q : vw_C, vwCl[c]? = some q → u_Kn s q.1 q.2.1 q.2.2 d.1 d.2 := by
    intro c
    by_cases h9 : c < 9
    · rcases (show c = 0 ∨ c = 1 ∨ c = 2 ∨ c = 3 ∨ c = 4 ∨ c = 5 ∨ c = 6 ∨ c = 7 ∨ c = 8 by omega) with rfl | rfl | rfl | rfl | rfl | rfl | rfl | rfl | rfl
      · obtain ⟨cC, iS, k⟩ := u_known htsT clX0.2 (hts (.instantiable RX0 12) (t_at 164 (by decide +kernel)))
        exact ⟨(cC, iS), fun q hq => by cases hq; exact k⟩
      · obtain ⟨cC, iS, k⟩ := u_known htsT clX1.2 (hts (.instantiable RX1 4) (t_at 79 (by decide +kernel)))
        exact ⟨(cC, iS), fun q hq => by cases hq; exact k⟩
      · obtain ⟨cC, iS, k⟩ := u_known htsT clX3.2 (hts (.instantiable RX3 2) (t_at 258 (by decide +kernel)))
        exact ⟨(cC, iS), fun q hq => by cases hq; exact k⟩
      · obtain ⟨cC, iS, k⟩ := u_known htsT clX4.2 (hts (.instantiable RX4 3) (t_at 172 (by decide +kernel)))
        exact ⟨(cC, iS), fun q hq => by cases hq; exact k⟩
      · obtain ⟨cC, iS, k⟩ := u_known htsT clX5.2 (hts (.instantiable RX5 6) (t_at 229 (by decide +kernel)))
        exact ⟨(cC, iS), fun q hq => by cases hq; exact k⟩
      · obtain ⟨cC, iS, k⟩ := u_known htsT clX6.2 (hts (.instantiable RX6 6) (t_at 107 (by decide +kernel)))
        exact ⟨(cC, iS), fun q hq => by cases hq; exact k⟩
      · obtain ⟨cC, iS, k⟩ := u_known htsT clX7.2 (hts (.instantiable RX7 4) (t_at 85 (by decide +kernel)))
        exact ⟨(cC, iS), fun q hq => by cases hq; exact k⟩
      · obtain ⟨cC, iS, k⟩ := u_known htsT clX8.2 (hts (.instantiable RX8 10) (t_at 71 (by decide +kernel)))
        exact ⟨(cC, iS), fun q hq => by cases hq; exact k⟩
      · obtain ⟨cC, iS, k⟩ := u_known htsT clX9.2 (hts (.instantiable RX9 30) (t_at 782 (by decide +kernel)))
        exact ⟨(cC, iS), fun q hq => by cases hq; exact k⟩
    · obtain ⟨cC, iS, k⟩ := u_known htsT clX0.2 (hts (.instantiable RX0 12) (t_at 164 (by decide +kernel)))
      refine ⟨(cC, iS), fun q hq => ?_⟩
      rw [List.getElem?_eq_none (by show 9 ≤ c; omega)] at hq
      cases hq
  obtain ⟨d, hd⟩ := Classical.axiomOfChoice h
  have prim : ∀ t : FieldType, (∀ C, t ≠ .object C) → (Cond.arrayClass t).before #[Value.ref b] s = true → ∃ c : ClassId, ArrOfT s c t ∧ va_RA s c t := by
    intro t ho h
    obtain ⟨c, k, comp, h1, h2, h3⟩ := Cond.arrayClass_spec h
    refine ⟨c, fun N z => ⟨(fun q hq => by cases hq), k, h2, comp, h3⟩, ?_⟩
    cases t <;> first | exact h1 | exact absurd rfl (ho _)
  obtain ⟨c0, r0⟩ := prim .int (fun C h => by cases h) (hts (.arrayClass .int) (t_at 146 (by decide +kernel)))
  obtain ⟨c1, r1⟩ := prim .boolean (fun C h => by cases h) (hts (.arrayClass .boolean) (t_at 227 (by decide +kernel)))
  obtain ⟨c2, r2⟩ := prim .char (fun C h => by cases h) (hts (.arrayClass .char) (t_at 105 (by decide +kernel)))
  obtain ⟨c3, r3⟩ := prim .long (fun C h => by cases h) (hts (.arrayClass .long) (t_at 226 (by decide +kernel)))
  obtain ⟨p4, c4, k4, a1, -, a3, a4, a5⟩ := Cond.arrayOver_spec (hts (.arrayOver (.object "CubeClosures$Table")) (t_at 255 (by decide +kernel)))
  obtain ⟨p5, c5, k5, b1, -, b3, b4, b5⟩ := arrayOverA_spec (hts (.arrayOver (.array .long)) (t_at 264 (by decide +kernel)))
  refine ⟨(fun c => (d c).1, fun c => (d c).2), fun k => [c0, c1, c2, c3, c4, c5].getD k c0, fun c q hq => hd c q hq, fun k q hk => ?_⟩
  have h6 : k < 6 := (List.getElem?_eq_some_iff.mp hk).1
  rcases (show k = 0 ∨ k = 1 ∨ k = 2 ∨ k = 3 ∨ k = 4 ∨ k = 5 by omega) with rfl | rfl | rfl | rfl | rfl | rfl
  · cases hk; exact r0
  · cases hk; exact r1
  · cases hk; exact r2
  · cases hk; exact r3
  · cases hk; exact ⟨fun N z => ⟨(fun q hq => by cases hq), k4, a3, p4, a4⟩, k4, p4, a3, a4, a1, a5⟩
  · cases hk; exact ⟨fun N z => ⟨(fun q hq => by cases hq), k5, b3, p5, b4⟩, b5⟩
theorem ent_E {l : Launch} {L : Nat} {xs : Nat → Int32} (hts : ∀ w ∈ lw_tbl, w.before #[Value.ref b] s = true) (hgv : (Jvm.Cond.and given_1 narrow_1).before #[Value.ref b] s = true) (hX : va_X b L xs s s.heap) (hbl : b < s.heap.size) (hA : ∀ a : Nat, a < s.heap.size → ¬ A a) : ∃ ad : Nat → Nat, ad 1040 = b ∧ tg_E (l, L, xs) ad A s := by
  have hn : ∀ w ∈ lw_N, w.before #[Value.ref b] s = true := flat_of_before _ hgv
  have i4 := hts (.initialized RX4) (t_at 57 (by decide +kernel))
  obtain ⟨o0, z0, v0⟩ := ent_Z (ls := tg_ol 0) hn (hts (.laysStatic RX4 "ORDERS_OF_1" "[I") (t_at 629 (by decide +kernel))) i4 hA (by decide) n_z0
  obtain ⟨o1, z1, v1⟩ := ent_Z (ls := tg_ol 1) hn (hts (.laysStatic RX4 "ORDERS_OF_2" "[I") (t_at 631 (by decide +kernel))) i4 hA (by decide) n_z1
  obtain ⟨o2, z2, v2⟩ := ent_Z (ls := tg_ol 2) hn (hts (.laysStatic RX4 "ORDERS_OF_3" "[I") (t_at 633 (by decide +kernel))) i4 hA (by decide) n_z2
  obtain ⟨o3, z3, v3⟩ := ent_Z (ls := tg_ol 3) hn (hts (.laysStatic RX4 "ORDERS_OF_4" "[I") (t_at 635 (by decide +kernel))) i4 hA (by decide) n_z3
  have l7 : ∀ i, i < 4 → tg_sl.getD i 0 ≤ 7 := fun i hi => by
    have : ∀ i : Fin 4, tg_sl.getD i.val 0 ≤ 7 := by decide
    exact this ⟨i, hi⟩
  obtain ⟨adK, adV, hS, hT⟩ := vk_Sof (N := 4) (tm := fun i => .string RX1 (tg_sk i)) (len := tg_sl) (byt := tg_sb) (A := A) (fun i hi => Nat.lt_of_le_of_lt (l7 i hi) (by decide)) (fun i hi => hn _ (n_s ⟨i, hi⟩).1) (fun i hi => hn _ (n_s ⟨i, hi⟩).2.1) (fun i hi => hn _ (n_s ⟨i, hi⟩).2.2.1) (fun i hi => hn _ (n_s ⟨i, hi⟩).2.2.2) (fun i hi j hj => hn _ (n_e ⟨i, hi⟩ ⟨j, Nat.lt_of_lt_of_le hj (l7 i hi)⟩ hj)) (fun i j hi hj hij => by
    rcases Nat.lt_or_gt_of_ne hij with q | q
    · exact Or.inl (hn _ (n_ne ⟨i, hi⟩ ⟨j, hj⟩ q))
    · exact Or.inr (hn _ (n_ne ⟨j, hj⟩ ⟨i, hi⟩ q))) hA
  have jZ : ∃ t : Nat, va_Z "jdk/internal/util/Preconditions" "SIOOBE_FORMATTER" "Ljava/util/function/BiFunction;" .null A s s.heap ∨ va_Z "jdk/internal/util/Preconditions" "SIOOBE_FORMATTER" "Ljava/util/function/BiFunction;" (.ref t) A s s.heap := by
    rcases va_Zqof (hts (.laysStatic "jdk/internal/util/Preconditions" "SIOOBE_FORMATTER" "Ljava/util/function/BiFunction;") (t_at 380 (by decide +kernel))) (hts (.initialized "jdk/internal/util/Preconditions") (t_at 64 (by decide +kernel))) (hn _ n_j.2) hA with h | ⟨t, h⟩
    · exact ⟨0, Or.inl h⟩
    · exact ⟨t, Or.inr h⟩
  obtain ⟨t30, jZ⟩ := jZ
  obtain ⟨ad, had⟩ : ∃ ad : Nat → Nat, ad = fun k => if k = 1040 then b else if k = 1030 then t30 else if 1020 ≤ k then adV (k - 1020) else if 1010 ≤ k then adK (k - 1010) else [o0, o1, o2, o3].getD (k - 1000) 0 := ⟨_, rfl⟩
  have e40 : ad 1040 = b := by rw [had]; rfl
  have e30 : ad 1030 = t30 := by rw [had]; rfl
  have eV : ∀ i, i < 4 → ad (1020 + i) = adV i := fun i hi => by
    rw [had]
    show (if 1020 + i = 1040 then b else _) = _
    rw [if_neg (by omega), if_neg (by omega), if_pos (by omega), Nat.add_sub_cancel_left]
  have eK : ∀ i, i < 4 → ad (1010 + i) = adK i := fun i hi => by
    rw [had]
    show (if 1010 + i = 1040 then b else _) = _
    rw [if_neg (by omega), if_neg (by omega), if_neg (by omega), if_pos (by omega), Nat.add_sub_cancel_left]
  have eO0 : ad (1000 + 0) = o0 := by rw [had]; rfl
  have eO1 : ad (1000 + 1) = o1 := by rw [had]; rfl
  have eO2 : ad (1000 + 2) = o2 := by rw [had]; rfl
  have eO3 : ad (1000 + 3) = o3 := by rw [had]; rfl
  obtain ⟨p5, c5, k5, b1, -, b3, b4, b5⟩ := arrayOverA_spec (hts (.arrayOver (.array .long)) (t_at 264 (by decide +kernel)))
  refine ⟨ad, e40, ⟨by rw [e40]; exact hX, by rw [e40]; exact hbl, by rw [e40]; exact hA b hbl⟩, fun i hi => ?_, ⟨⟨fun i hi => ?_, fun i j hi hj e => hS.2 i j hi hj ?_⟩, fun i hi => ?_⟩, ⟨?_, ?_⟩, fun q hq => ?_, va_AO.of (hts (.arrayOver (.object "CubeClosures$Table")) (t_at 255 (by decide +kernel))), c5, p5, k5, b5, b1, b3, b4⟩
  · rcases (show i = 0 ∨ i = 1 ∨ i = 2 ∨ i = 3 by omega) with rfl | rfl | rfl | rfl
    · rw [eO0]; exact ⟨z0, v0⟩
    · rw [eO1]; exact ⟨z1, v1⟩
    · rw [eO2]; exact ⟨z2, v2⟩
    · rw [eO3]; exact ⟨z3, v3⟩
  · have := hS.1 i hi
    rw [← eK i hi, ← eV i hi] at this
    exact this
  · have e : ad (1010 + i) = ad (1010 + j) := e
    rw [eK i hi, eK j hj] at e
    exact e
  · rw [eK i hi]
    exact vk_R.of (hts _ (t_s i hi)) (hT i hi)
  · exact va_Zof (hts (.laysStatic "java/lang/String" "COMPACT_STRINGS" "Z") (t_at 364 (by decide +kernel))) (hts (.initialized "java/lang/String") (t_at 62 (by decide +kernel))) (va_eqi (hn _ n_j.1)) hA
  · rw [e30]; exact jZ
  · unfold tg_nest at hq
    simp only [List.mem_cons, List.not_mem_nil, or_false] at hq
    rcases hq with rfl | rfl | rfl | rfl | rfl
    · exact va_Nw.of rfl (hts (.methodLinkNest RX8 11 yX1_init RX8) (t_at 80 (by decide +kernel)))
    · exact va_Nw.of rfl (hts (.methodLinkNest RX1 11 yX7_init RX8) (t_at 86 (by decide +kernel)))
    · exact va_Nw.of rfl (hts (.methodLinkNest RX8 23 yX0_init RX8) (t_at 165 (by decide +kernel)))
    · exact va_Nw.of rfl (hts (.methodLinkNest RX0 20 yX4_init RX8) (t_at 173 (by decide +kernel)))
    · exact va_Nw.of rfl (hts (.methodLinkNest RX8 35 yX5_init RX8) (t_at 230 (by decide +kernel)))
end ENT
