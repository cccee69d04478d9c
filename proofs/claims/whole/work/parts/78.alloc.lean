/-! cells that are made: references that are bounded keep their addresses when a place is added -/
def tg_bv (n : Nat) : Value → Bool
  | .ref k => decide (k < n) || decide (1000 ≤ k)
  | _ => true
def tg_be (n : Nat) : va_E → Prop
  | .inl (_, _, .inr (.inr (.inr (.inr f)))) => ∀ j k, f j = some k → (k < n ∨ 1000 ≤ k)
  | .inl (_, _, _) => True
  | .inr (_, fs) => ∀ v ∈ fs, tg_bv n v = true
def tg_bw (n : Nat) (w : List va_E) : Prop := ∀ c ∈ w, tg_be n c
theorem tg_bv_agree {ad ad' : Nat → Nat} {n : Nat} (h : ∀ k, k < n ∨ 1000 ≤ k → ad' k = ad k) {v : Value} (hv : tg_bv n v = true) : tg_v ad' v = tg_v ad v := by
  cases v with
  | ref k =>
    simp only [tg_bv, Bool.or_eq_true, decide_eq_true_eq] at hv
    simp only [tg_v, h k hv]
  | _ => rfl
theorem tg_bvs_agree {ad ad' : Nat → Nat} {n : Nat} (h : ∀ k, k < n ∨ 1000 ≤ k → ad' k = ad k) {vs : List Value} (hv : ∀ v ∈ vs, tg_bv n v = true) : vs.map (tg_v ad') = vs.map (tg_v ad) :=
  List.map_congr_left (fun v hm => tg_bv_agree h (hv v hm))
theorem tg_be_agree {ad ad' : Nat → Nat} {n : Nat} (cA : Nat → ClassId) (h : ∀ k, k < n ∨ 1000 ≤ k → ad' k = ad k) {c : va_E} (hc : tg_be n c) : tg_e cA ad' c = tg_e cA ad c := by
  rcases c with ⟨t, m, a⟩ | ⟨ci, fs⟩
  · rcases a with f | f | f | f | f
    · rfl
    · rfl
    · rfl
    · rfl
    · have e : (fun j => (f j).map ad') = fun j => (f j).map ad := by
        funext j
        cases hj : f j with
        | none => rfl
        | some k => simp only [Option.map_some, h k (hc j k hj)]
      simp only [tg_e, e]
  · simp only [tg_e, tg_bvs_agree h hc]
theorem tg_w_agree {ad ad' : Nat → Nat} {n : Nat} (cA : Nat → ClassId) (h : ∀ k, k < n ∨ 1000 ≤ k → ad' k = ad k) {w : List va_E} (hw : tg_bw n w) (hn : w.length ≤ n) : tg_w cA ad' 0 w = tg_w cA ad 0 w := by
  apply List.ext_getElem?
  intro i
  rw [tg_w_get, tg_w_get]
  cases hc : w[i]? with
  | none => rfl
  | some c =>
    have hi := (List.getElem?_eq_some_iff.mp hc).1
    simp only [Option.map_some, Nat.zero_add, h i (Or.inl (by omega)), tg_be_agree cA h (hw c (List.mem_of_getElem? hc))]
theorem tg_prs_agree {ad ad' : Nat → Nat} {n : Nat} (h : ∀ k, k < n ∨ 1000 ≤ k → ad' k = ad k) : ∀ {lv : List Value} (k : Nat), (∀ v ∈ lv, tg_bv n v = true) → tg_prs ad' k lv = tg_prs ad k lv
  | [], k, _ => rfl
  | v :: vs, k, hv => by
    have ih := tg_prs_agree h (k + 1) (fun u hu => hv u (List.mem_cons_of_mem _ hu))
    have e := tg_bv_agree h (hv v List.mem_cons_self)
    cases v <;> simp only [tg_prs, ih, e]
theorem tg_L_agree {ad ad' : Nat → Nat} {n : Nat} (h : ∀ k, k < n ∨ 1000 ≤ k → ad' k = ad k) {ls : Array Slot} {nL : Nat} {lv : List Value} (hv : ∀ v ∈ lv, tg_bv n v = true) (hL : tg_L ad ls nL lv) : tg_L ad' ls nL lv := by
  unfold tg_L
  rw [tg_prs_agree h 0 hv]
  exact hL
theorem tg_E.ren {L : tg_Ln} {ad ad' : Nat → Nat} {A : Nat → Prop} {s : State} (h : tg_E L ad A s) (had : ∀ k, 1000 ≤ k → ad' k = ad k) : tg_E L ad' A s := by
  obtain ⟨⟨h8, h9, h10⟩, h1, ⟨h2, h3⟩, ⟨h4, h5⟩, h6, h7, h11⟩ := h
  refine ⟨⟨?_, ?_, ?_⟩, fun i hi => ?_, ⟨?_, fun i hi => ?_⟩, ⟨h4, ?_⟩, h6, h7, h11⟩
  · rw [had _ (by omega)]; exact h8
  · rw [had _ (by omega)]; exact h9
  · rw [had _ (by omega)]; exact h10
  · rw [had _ (by omega)]; exact h1 i hi
  · have e1 : (fun i => ad' (1010 + i)) = fun i => ad (1010 + i) := funext fun i => had _ (by omega)
    have e2 : (fun i => ad' (1020 + i)) = fun i => ad (1020 + i) := funext fun i => had _ (by omega)
    rw [e1, e2]; exact h2
  · rw [had _ (by omega)]; exact h3 i hi
  · rw [had _ (by omega)]; exact h5
section ALLOC
variable {l : tg_Ln} {M : tg_M} {n0 n pc kc ks : Nat} {K : Option Value → List va_E → Prop} {lv st : List Value} {w : List va_E}
/-- one more place -/
theorem tg_more {x : va_E} (hlen : w.length = n) (hn0 : n0 ≤ n) (hn1 : n < 1000) (hw : tg_bw n w) (hlv : ∀ v ∈ lv, tg_bv n v = true) (hst : ∀ v ∈ st, tg_bv n v = true) {kc' ks' pc' : Nat} (hkc : kc' ≤ M.2.2.2.2.cells) (hks : ks' ≤ M.2.2.2.2.slots) (k : tg_G l M n0 K kc' ks' pc' lv (.ref n :: st) (w ++ [x]))
    {p : Program} {e : Env} {s : State} {m : MethodId} {args : Array Value} {below : List Frame} {meth : Method} {c : Code} {D : va_G} {cA : Nat → ClassId} {A : Nat → Prop} {ad : Nat → Nat} {locs : List Loc} {ls : Array Slot} {Qc : Array Value → State → Outcome → State → Prop}
    (C : tg_C M p s m args meth c) (hK : va_K D vwCl (tg_tys cA) s) (hA : ∀ q : Nat, s.heap.size ≤ q → A q) (hE : tg_E l ad A s)
    (hQ : ∀ (r : Option Value) (w' : List va_E) (ad' : Nat → Nat) (t : State), K r w' → (∀ k, k < n0 ∨ 1000 ≤ k → ad' k = ad k) → va_P D vwCl (tg_w cA ad' 0 w') t.heap → va_D A (tg_w cA ad' 0 w') → s.WarmedH t.vm → va_F A s t → Qc args s (.returned (r.map (tg_v ad'))) t)
    (hL : tg_L ad ls M.2.2.1 lv) {q : Nat} {H1 : Heap} (hx : ∀ ad', tg_e cA ad' x = tg_e cA (fun _ => 0) x) (hP1 : va_P D vwCl (tg_w cA ad 0 w ++ [(q, tg_e cA (fun _ => 0) x)]) H1) (hD1 : va_D A (tg_w cA ad 0 w ++ [(q, tg_e cA (fun _ => 0) x)])) (hS1 : va_S A s.heap H1 locs) :
    W p l.1 e M.2.2.2.2 s m args below meth c H1 locs kc' ks' (MQ below Qc args s M.2.2.2.2.cells M.2.2.2.2.slots A) (F0 m pc' ls (.ref q :: st.map (tg_v ad))) := by
  obtain ⟨ad', had⟩ : ∃ ad' : Nat → Nat, ad' = fun k => if k = n then q else ad k := ⟨_, rfl⟩
  have hag : ∀ k, k < n ∨ 1000 ≤ k → ad' k = ad k := fun k hk => by rw [had]; exact if_neg (by omega)
  have hnew : ad' n = q := by rw [had]; exact if_pos rfl
  have ew : tg_w cA ad' 0 (w ++ [x]) = tg_w cA ad 0 w ++ [(q, tg_e cA (fun _ => 0) x)] := by
    rw [tg_w_app, tg_w_agree cA hag hw (by omega)]
    simp only [tg_w, Nat.zero_add, hlen, hnew, hx ad']
  have key := k p e s m args below meth c D cA A ad' H1 locs ls Qc C hkc hks hK hA (hE.ren (fun k hk => hag k (Or.inr hk))) (fun r w' ad'' t k1 k2 => hQ r w' ad'' t k1 (fun j hj => (k2 j hj).trans (hag j (by omega)))) (by rw [ew]; exact hP1) (by rw [ew]; exact hD1) hS1 (tg_L_agree hag hlv hL)
  simp only [List.map_cons, tg_v, hnew, tg_bvs_agree hag hst] at key
  exact key
theorem g_newa (t N : Nat) {atype : ArrayType} {ty : FieldType} {a0 : Nat × _} {x : Int32} (hd : decode M.2.1 pc = .ok (.newarray atype, 2)) (hc : Cond.arrayClass ty ∈ tg_T) (hty : newarray.typeOf atype = ty) (ht : ∀ cA : Nat → ClassId, (tg_tys cA)[t]? = some (cA t, ty)) (hra : ∀ (U : State) (c : ClassId), va_RA U c ty → U.vm.findClass ("[" ++ ty.toString) = some c) (ha : ∀ cA : ClassId, vp_cell cA a0 = arrV cA N (fun _ => defaultValue ty)) (hx : ∀ (cA : Nat → ClassId) ad, tg_e cA ad (.inl (t, a0)) = .inl (cA t, a0))
    (hxn : ¬ x < 0) (hxN : x.toNatClampNeg = N) (hb : N * componentBytes ty ≤ 536870912) (hlen : w.length = n) (hn0 : n0 ≤ n) (hn1 : n < 1000) (hw : tg_bw n w) (hlv : ∀ v ∈ lv, tg_bv n v = true) (hst : ∀ v ∈ st, tg_bv n v = true) (hkc : kc + 1 ≤ M.2.2.2.2.cells) (hks : ks + N ≤ M.2.2.2.2.slots)
    (k : tg_G l M n0 K (kc + 1) (ks + N) (pc + 2) lv (.ref n :: st) (w ++ [.inl (t, a0)])) : tg_G l M n0 K kc ks pc lv (.int x :: st) w := by
  intro p e s m args below meth c D cA A ad H locs ls Qc C a1 a2 hK hA hE hQ hP hD hS hL
  refine va_newa (ty := ty) C.1 C.2.1 (by rw [hty]; exact C.2.2.2.2.2.1 _ hc) hty hK hP hD hS hA ha hxn hxN hb hkc hks hd (fun q cB H1 hK1 hP1 hD1 hS1 => ?_)
  have e1 : cB = cA t := Option.some.inj ((hra s cB (hK1.2 6 _ rfl).2).symm.trans (hra s (cA t) (hK.2 t _ (ht cA)).2))
  subst e1
  exact tg_more hlen hn0 hn1 hw hlv hst hkc hks k C hK hA hE hQ hL (fun ad' => by rw [hx, hx]) (by rw [hx]; exact hP1) (by rw [hx]; exact hD1) hS1
theorem g_newI (N : Nat) {x : Int32} (hd : decode M.2.1 pc = .ok (.newarray .int, 2)) (hxn : ¬ x < 0) (hxN : x.toNatClampNeg = N) (hb : N ≤ 10000) (hlen : w.length = n) (hn0 : n0 ≤ n) (hn1 : n < 1000) (hw : tg_bw n w) (hlv : ∀ v ∈ lv, tg_bv n v = true) (hst : ∀ v ∈ st, tg_bv n v = true) (hkc : kc + 1 ≤ M.2.2.2.2.cells) (hks : ks + N ≤ M.2.2.2.2.slots)
    (k : tg_G l M n0 K (kc + 1) (ks + N) (pc + 2) lv (.ref n :: st) (w ++ [.inl (0, N, .inl (fun _ => 0))])) : tg_G l M n0 K kc ks pc lv (.int x :: st) w :=
  g_newa 0 N (ty := .int) (a0 := (N, .inl (fun _ => 0))) hd (tg_mem 146 (by decide +kernel) rfl) rfl (fun _ => rfl) (fun _ _ h => h) (fun _ => rfl) (fun _ _ => rfl) hxn hxN (by show N * 4 ≤ _; omega) hlen hn0 hn1 hw hlv hst hkc hks k
theorem g_newZ (N : Nat) {x : Int32} (hd : decode M.2.1 pc = .ok (.newarray .boolean, 2)) (hxn : ¬ x < 0) (hxN : x.toNatClampNeg = N) (hb : N ≤ 10000) (hlen : w.length = n) (hn0 : n0 ≤ n) (hn1 : n < 1000) (hw : tg_bw n w) (hlv : ∀ v ∈ lv, tg_bv n v = true) (hst : ∀ v ∈ st, tg_bv n v = true) (hkc : kc + 1 ≤ M.2.2.2.2.cells) (hks : ks + N ≤ M.2.2.2.2.slots)
    (k : tg_G l M n0 K (kc + 1) (ks + N) (pc + 2) lv (.ref n :: st) (w ++ [.inl (1, N, .inl (fun _ => 0))])) : tg_G l M n0 K kc ks pc lv (.int x :: st) w :=
  g_newa 1 N (ty := .boolean) (a0 := (N, .inl (fun _ => 0))) hd (tg_mem 227 (by decide +kernel) rfl) rfl (fun _ => rfl) (fun _ _ h => h) (fun _ => rfl) (fun _ _ => rfl) hxn hxN (by show N * 1 ≤ _; omega) hlen hn0 hn1 hw hlv hst hkc hks k
theorem g_newC (N : Nat) {x : Int32} (hd : decode M.2.1 pc = .ok (.newarray .char, 2)) (hxn : ¬ x < 0) (hxN : x.toNatClampNeg = N) (hb : N ≤ 10000) (hlen : w.length = n) (hn0 : n0 ≤ n) (hn1 : n < 1000) (hw : tg_bw n w) (hlv : ∀ v ∈ lv, tg_bv n v = true) (hst : ∀ v ∈ st, tg_bv n v = true) (hkc : kc + 1 ≤ M.2.2.2.2.cells) (hks : ks + N ≤ M.2.2.2.2.slots)
    (k : tg_G l M n0 K (kc + 1) (ks + N) (pc + 2) lv (.ref n :: st) (w ++ [.inl (2, N, .inl (fun _ => 0))])) : tg_G l M n0 K kc ks pc lv (.int x :: st) w :=
  g_newa 2 N (ty := .char) (a0 := (N, .inl (fun _ => 0))) hd (tg_mem 105 (by decide +kernel) rfl) rfl (fun _ => rfl) (fun _ _ h => h) (fun _ => rfl) (fun _ _ => rfl) hxn hxN (by show N * 2 ≤ _; omega) hlen hn0 hn1 hw hlv hst hkc hks k
theorem g_newJ (N : Nat) {x : Int32} (hd : decode M.2.1 pc = .ok (.newarray .long, 2)) (hxn : ¬ x < 0) (hxN : x.toNatClampNeg = N) (hb : N ≤ 10000) (hlen : w.length = n) (hn0 : n0 ≤ n) (hn1 : n < 1000) (hw : tg_bw n w) (hlv : ∀ v ∈ lv, tg_bv n v = true) (hst : ∀ v ∈ st, tg_bv n v = true) (hkc : kc + 1 ≤ M.2.2.2.2.cells) (hks : ks + N ≤ M.2.2.2.2.slots)
    (k : tg_G l M n0 K (kc + 1) (ks + N) (pc + 2) lv (.ref n :: st) (w ++ [.inl (3, N, .inr (.inl (fun _ => 0)))])) : tg_G l M n0 K kc ks pc lv (.int x :: st) w :=
  g_newa 3 N (ty := .long) (a0 := (N, .inr (.inl (fun _ => 0)))) hd (tg_mem 226 (by decide +kernel) rfl) rfl (fun _ => rfl) (fun _ _ h => h) (fun _ => rfl) (fun _ _ => rfl) hxn hxN (by show N * 8 ≤ _; omega) hlen hn0 hn1 hw hlv hst hkc hks k
/-- an array of tables -/
theorem g_newT (N : Nat) {idx : Nat} {x : Int32} (hd : decode M.2.1 pc = .ok (.anewarray idx, 3)) (hcl : Cond.classLink M.1.cls idx "CubeClosures$Table" ∈ tg_T) (hxn : ¬ x < 0) (hxN : x.toNatClampNeg = N) (hb : N ≤ 10000) (hlen : w.length = n) (hn0 : n0 ≤ n) (hn1 : n < 1000) (hw : tg_bw n w) (hlv : ∀ v ∈ lv, tg_bv n v = true) (hst : ∀ v ∈ st, tg_bv n v = true) (hkc : kc + 1 ≤ M.2.2.2.2.cells) (hks : ks + N ≤ M.2.2.2.2.slots)
    (k : tg_G l M n0 K (kc + 1) (ks + N) (pc + 3) lv (.ref n :: st) (w ++ [.inl (4, N, .inr (.inr (.inr (.inr (fun _ => none)))))])) : tg_G l M n0 K kc ks pc lv (.int x :: st) w := by
  intro p e s m args below meth c D cA A ad H locs ls Qc C a1 a2 hK hA hE hQ hP hD hS hL
  refine va_newq C.1 C.2.1 C.2.2.2.2.1 (C.2.2.2.2.2.1 _ hcl) hE.2.2.2.2.2.1 hK hP hD hS hA hxn hxN (by omega) hkc hks hd (fun q cB H1 hK1 hP1 hD1 hS1 => ?_)
  obtain ⟨_, _, _, _, _, k1⟩ := (hK1.2 6 _ rfl).2
  obtain ⟨_, _, _, _, _, k2⟩ := (hK.2 4 _ rfl).2
  have e1 : cB = cA 4 := Option.some.inj (k1.symm.trans k2)
  subst e1
  exact tg_more hlen hn0 hn1 hw hlv hst hkc hks k C hK hA hE hQ hL (fun ad' => rfl) hP1 hD1 hS1
/-- an object -/
theorem g_new (ci : Nat) {idx N : Nat} {C0 : String} {T : u_T} {ty : Nat → FieldType} {fs : List Value} (hd : decode M.2.1 pc = .ok (.new idx, 3)) (hc : tg_cls ci C0 T N) (hty : ∀ k, k < N → parseFieldDescriptor (T k).2.2.1 = some (ty k)) (hcl : Cond.classLink M.1.cls idx C0 ∈ tg_T) (hin : Cond.instantiable C0 N ∈ tg_T) (hini : Cond.initialized C0 ∈ tg_T) (hfs : ∀ j, j < N → defaultValue (ty j) = vp_V fs j) (hfx : ∀ ad, fs.map (tg_v ad) = fs)
    (hlen : w.length = n) (hn0 : n0 ≤ n) (hn1 : n < 1000) (hw : tg_bw n w) (hlv : ∀ v ∈ lv, tg_bv n v = true) (hst : ∀ v ∈ st, tg_bv n v = true) (hkc : kc + 1 ≤ M.2.2.2.2.cells) (hks : ks + N ≤ M.2.2.2.2.slots)
    (k : tg_G l M n0 K (kc + 1) (ks + N) (pc + 3) lv (.ref n :: st) (w ++ [.inr (ci, fs)])) : tg_G l M n0 K kc ks pc lv st w := by
  intro p e s m args below meth c D cA A ad H locs ls Qc C a1 a2 hK hA hE hQ hP hD hS hL
  have ht := C.2.2.2.2.2.1
  refine va_new C.1 C.2.1 ht hc.2 ty hty C.2.2.2.2.1 (ht _ hcl) (ht _ hin) (ht _ hini) hK hP hD hS hA hc.1 hfs hkc hks hd (fun q H1 hP1 hD1 hS1 => ?_)
  exact tg_more hlen hn0 hn1 hw hlv hst hkc hks k C hK hA hE hQ hL (fun ad' => by simp only [tg_e, hfx]) (by simp only [tg_e, hfx]; exact hP1) (by simp only [tg_e, hfx]; exact hD1) hS1
/-- Object.<init> -/
theorem g_objI {idx b : Nat} (hd : decode M.2.1 pc = .ok (.invokespecial idx, 3)) (h1 : Cond.methodLink M.1.cls idx objectInit ∈ tg_T) (h2 : Cond.instanceMethod objectInit ∈ tg_T) (h3 : Cond.code objectInit ⟨#[0xb1]⟩ 1 none ∈ tg_T) (hf : 1 ≤ M.2.2.2.2.frames) (hl : 20 ≤ M.2.2.2.2.locals) (hst : (st.map fun v => v.category).sum ≤ 8) (k : tg_G l M n0 K kc ks (pc + 3) lv st w) : tg_G l M n0 K kc ks pc lv (.ref b :: st) w := by
  intro p e s m args below meth c D cA A ad H locs ls Qc C a1 a2 hK hA hE hQ hP hD hS hL
  have ht := C.2.2.2.2.2.1
  exact W.objInit C.1 C.2.1 C.2.2.2.2.1 (ht _ h1) (ht _ h2) (ht _ h3) rfl (hL.1.trans C.2.2.2.1.symm) rfl hd hf (by
    have e1 : ((st.map (tg_v ad)).map fun v => v.category).sum = (st.map fun v => v.category).sum := by simp only [List.map_map, Function.comp_def, tg_v_cat]
    show 2 * 0 + ((st.map (tg_v ad)).map fun v => v.category).sum + 12 ≤ _
    omega) (k p e s m args below meth c D cA A ad H locs ls Qc C a1 a2 hK hA hE hQ hP hD hS hL)
/-- a table into an array of tables -/
theorem g_aast {a q N : Nat} {i : Int32} {f : Nat → Option Nat} {vs : List Value} (hd : decode M.2.1 pc = .ok (.aastore, 1)) (ha : w[a]? = some (.inl (4, N, .inr (.inr (.inr (.inr f)))))) (hq : w[q]? = some (.inr (5, vs))) (hin : vp_in i N) (k : tg_G l M n0 K kc ks (pc + 1) lv st (w.set a (.inl (4, N, .inr (.inr (.inr (.inr (va_up f i.toNatClampNeg (some q)))))))) ) : tg_G l M n0 K kc ks pc lv (.ref q :: .int i :: .ref a :: st) w := by
  intro p e s m args below meth c D cA A ad H locs ls Qc C a1 a2 hK hA hE hQ hP hD hS hL
  refine va_astq (r := (RX6, TX6, 6)) C.1 C.2.1 hK hP hD hS a 4 q 5 (tg_w_at ha) rfl (tg_w_at hq) rfl hin hd (fun H1 locs1 hP1 hD1 hS1 => k p e s m args below meth c D cA A ad H1 locs1 ls Qc C a1 a2 hK hA hE hQ (?_) (?_) hS1 hL)
  all_goals
    have e1 : (fun j => ((va_up f i.toNatClampNeg (some q)) j).map ad) = va_up (fun j => (f j).map ad) i.toNatClampNeg (some (ad q)) := by
      funext j
      unfold va_up
      by_cases h : j = i.toNatClampNeg
      · rw [if_pos h, if_pos h]; rfl
      · rw [if_neg h, if_neg h]
    rw [tg_w_set0]
    simp only [tg_e, e1]
    assumption
end ALLOC
