/-! what stands outside of the worlds and is only read: places from 1000 on -/
def tg_on (i : Nat) : String := match i with
  | 0 => "ORDERS_OF_1"
  | 1 => "ORDERS_OF_2"
  | 2 => "ORDERS_OF_3"
  | _ => "ORDERS_OF_4"
def tg_ol (i : Nat) : List Int32 := match i with
  | 0 => [0]
  | 1 => [1, 10]
  | 2 => [12, 21, 102, 120, 201, 210]
  | _ => [123, 132, 213, 231, 312, 321, 1023, 1032, 1203, 1230, 1302, 1320, 2013, 2031, 2103, 2130, 2301, 2310, 3012, 3021, 3102, 3120, 3201, 3210]
def tg_sk (i : Nat) : Nat := match i with
  | 0 => 59
  | 1 => 64
  | 2 => 69
  | _ => 53
def tg_sx (i : Nat) : String := match i with
  | 0 => "table"
  | 1 => "support"
  | 2 => "row"
  | _ => ";"
def tg_sb : List (List Int32) := [[116, 97, 98, 108, 101], [115, 117, 112, 112, 111, 114, 116], [114, 111, 119], [59]]
def tg_sl : List Nat := [5, 7, 3, 1]
def tg_nest : List (String × Nat × MethodName) := [(RX8, 11, yX1_init), (RX1, 11, yX7_init), (RX8, 23, yX0_init), (RX0, 20, yX4_init), (RX8, 35, yX5_init)]
def tg_AOL (U : State) : Prop := ∃ (c5 c3 : ClassId) (k : Class), U.vm.findClass ("[" ++ (FieldType.array .long).toString) = some c5 ∧ U.vm.findClass ("[" ++ FieldType.long.toString) = some c3 ∧ U.vm.classes[c5]? = some k ∧ k.kind = .array c3 (.array .long)
theorem tg_AOL.moved {u U : State} (hvm : u.vm.Alike U.vm) (h : tg_AOL u) : tg_AOL U := by
  obtain ⟨c5, c3, k, h1, h2, h3, h4⟩ := h
  obtain ⟨k', hk', he⟩ := hvm.2.2 _ _ h3
  exact ⟨c5, c3, k', by rw [hvm.findClass]; exact h1, by rw [hvm.findClass]; exact h2, hk', by rw [he]; exact h4⟩
def tg_ZS (ad : Nat → Nat) (A : Nat → Prop) (s : State) : Prop := ∀ i, i < 4 → va_Z RX4 (tg_on i) "[I" (.ref (ad (1000 + i))) A s s.heap ∧ va_T .int (ad (1000 + i)) (tg_ol i).length (fun j => .int ((tg_ol i).getD j 0)) A s s.heap
def tg_SS (ad : Nat → Nat) (A : Nat → Prop) (s : State) : Prop := vk_S 4 tg_sl tg_sb (fun i => ad (1010 + i)) (fun i => ad (1020 + i)) A s s.heap ∧ ∀ i, i < 4 → vk_R RX1 (tg_sk i) (tg_sx i) (ad (1010 + i)) s
def tg_JS (ad : Nat → Nat) (A : Nat → Prop) (s : State) : Prop := va_Z "java/lang/String" "COMPACT_STRINGS" "Z" (.int 1) A s s.heap ∧ (va_Z "jdk/internal/util/Preconditions" "SIOOBE_FORMATTER" "Ljava/util/function/BiFunction;" .null A s s.heap ∨ va_Z "jdk/internal/util/Preconditions" "SIOOBE_FORMATTER" "Ljava/util/function/BiFunction;" (.ref (ad 1030)) A s s.heap)
/-- the launch, and the law's script: its length and what it holds -/
abbrev tg_Ln : Type := Launch × Nat × (Nat → Int32)
def tg_XS (L : tg_Ln) (ad : Nat → Nat) (A : Nat → Prop) (s : State) : Prop := va_X (ad 1040) L.2.1 L.2.2 s s.heap ∧ ad 1040 < s.heap.size ∧ ¬ A (ad 1040)
def tg_E (L : tg_Ln) (ad : Nat → Nat) (A : Nat → Prop) (s : State) : Prop := tg_XS L ad A s ∧ tg_ZS ad A s ∧ tg_SS ad A s ∧ tg_JS ad A s ∧ (∀ q ∈ tg_nest, va_Nw (.methodLinkNest q.1 q.2.1 q.2.2 RX8) s) ∧ va_AO "CubeClosures$Table" s ∧ tg_AOL s
theorem tg_E.go {L : tg_Ln} {ad ad' : Nat → Nat} {A B : Nat → Prop} {s U : State} (h : tg_E L ad A s) (hW : s.WarmedH U.vm) (hH : ∀ q : Nat, q < s.heap.size → ¬ A q → U.heap[q]? = s.heap[q]?) (hz : s.heap.size ≤ U.heap.size) (hAB : ∀ q, B q → A q) (had : ∀ k, 1000 ≤ k → ad' k = ad k) : tg_E L ad' B U := by
  obtain ⟨⟨h8, h9, h10⟩, h1, ⟨h2, h3⟩, ⟨h4, h5⟩, h6, h7, h11⟩ := h
  have hv := hW.alike
  refine ⟨⟨?_, ?_, ?_⟩, fun i hi => ?_, ⟨?_, fun i hi => ?_⟩, ⟨?_, ?_⟩, fun q hq => ?_, ?_, ?_⟩
  · rw [had _ (by omega)]
    exact (h8.moved hv).kept (hH _ h9 h10)
  · rw [had _ (by omega)]
    omega
  · rw [had _ (by omega)]
    exact fun q => h10 (hAB _ q)
  · rw [had _ (by omega)]
    exact ⟨(((h1 i hi).1.moved hv).kept hH).narrow hAB, (((h1 i hi).2.moved hv).kept hH).narrow hAB⟩
  · have e1 : (fun i => ad' (1010 + i)) = fun i => ad (1010 + i) := funext fun i => had _ (by omega)
    have e2 : (fun i => ad' (1020 + i)) = fun i => ad (1020 + i) := funext fun i => had _ (by omega)
    rw [e1, e2]
    exact ((h2.moved hv).kept hH).narrow hAB
  · rw [had _ (by omega)]
    exact (h3 i hi).warm hW
  · exact ((h4.moved hv).kept hH).narrow hAB
  · rw [had _ (by omega)]
    exact h5.elim (fun h => Or.inl (((h.moved hv).kept hH).narrow hAB)) (fun h => Or.inr (((h.moved hv).kept hH).narrow hAB))
  · exact (h6 q hq).warmM hW
  · exact h7.moved hv
  · exact h11.moved hv
theorem tg_E.blind {L : tg_Ln} {ad : Nat → Nat} {A : Nat → Prop} {U U' : State} (h : tg_E L ad A U) (hv : U'.vm = U.vm) (hh : U'.heap = U.heap) : tg_E L ad A U' := by
  obtain ⟨⟨h8, h9, h10⟩, h1, ⟨h2, h3⟩, ⟨h4, h5⟩, h6, h7, h11⟩ := h
  have al : U.vm.Alike U'.vm := by rw [hv]; exact Vm.Alike.refl _
  refine ⟨⟨by rw [hh]; exact h8.moved al, by rw [hh]; exact h9, h10⟩, fun i hi => ?_, ⟨?_, fun i hi => ?_⟩, ⟨?_, ?_⟩, fun q hq => ?_, ?_, ?_⟩
  · rw [hh]; exact ⟨(h1 i hi).1.moved al, (h1 i hi).2.moved al⟩
  · rw [hh]; exact h2.moved al
  · exact (h3 i hi).same hv
  · rw [hh]; exact h4.moved al
  · rw [hh]; exact h5.elim (fun h => Or.inl (h.moved al)) (fun h => Or.inr (h.moved al))
  · exact (h6 q hq).same rfl hv.symm
  · exact h7.moved al
  · exact h11.moved al
/-- what is known of the machine within a method -/
def tg_C (M : tg_M) (p : Program) (s : State) (m : MethodId) (args : Array Value) (meth : Method) (c : Code) : Prop :=
  p.tables.exec = Jvm.exec ∧ c.code = M.2.1 ∧ meth.sig.returnType = M.2.2.2.1 ∧ c.maxLocals = M.2.2.1 ∧ s.vm.findClass M.1.cls = some m.cls ∧ (∀ w ∈ tg_T, w.before args s = true) ∧ meth.locks = false ∧ meth.name = M.1.name
def tg_tys (cA : Nat → ClassId) : List (ClassId × FieldType) := [(cA 0, .int), (cA 1, .boolean), (cA 2, .char), (cA 3, .long), (cA 4, .object "CubeClosures$Table"), (cA 5, .array .long)]
/-- THE JUDGEMENT: from place pc of the method M, with these locals, this stack, this world, kc cells and ks slots made so far, the method comes to its end, with an answer and a world as K says; n0: the places whose addresses stay (1000: all) -/
def tg_G (l : tg_Ln) (M : tg_M) (n0 : Nat) (K : Option Value → List va_E → Prop) (kc ks pc : Nat) (lv st : List Value) (w : List va_E) : Prop :=
  ∀ (p : Program) (e : Env) (s : State) (m : MethodId) (args : Array Value) (below : List Frame) (meth : Method) (c : Code) (D : va_G) (cA : Nat → ClassId) (A : Nat → Prop) (ad : Nat → Nat) (H : Heap) (locs : List Loc) (ls : Array Slot) (Qc : Array Value → State → Outcome → State → Prop),
    tg_C M p s m args meth c → kc ≤ M.2.2.2.2.cells → ks ≤ M.2.2.2.2.slots → va_K D vwCl (tg_tys cA) s → (∀ q : Nat, s.heap.size ≤ q → A q) → tg_E l ad A s →
    (∀ (r : Option Value) (w' : List va_E) (ad' : Nat → Nat) (t : State), K r w' → (∀ k, k < n0 ∨ 1000 ≤ k → ad' k = ad k) → va_P D vwCl (tg_w cA ad' 0 w') t.heap → va_D A (tg_w cA ad' 0 w') → s.WarmedH t.vm → va_F A s t → Qc args s (.returned (r.map (tg_v ad'))) t) →
    va_P D vwCl (tg_w cA ad 0 w) H → va_D A (tg_w cA ad 0 w) → va_S A s.heap H locs → tg_L ad ls M.2.2.1 lv →
    W p l.1 e M.2.2.2.2 s m args below meth c H locs kc ks (MQ below Qc args s M.2.2.2.2.cells M.2.2.2.2.slots A) (F0 m pc ls (st.map (tg_v ad)))
theorem tg_G.mono {l : tg_Ln} {M : tg_M} {n0 : Nat} {K K' : Option Value → List va_E → Prop} {kc ks pc : Nat} {lv st : List Value} {w : List va_E} (h : tg_G l M n0 K kc ks pc lv st w) (hK : ∀ r w', K r w' → K' r w') : tg_G l M n0 K' kc ks pc lv st w := by
  intro p e s m args below meth c D cA A ad H locs ls Qc h1 a1 a2 h2 h3 h4 h5
  exact h p e s m args below meth c D cA A ad H locs ls Qc h1 a1 a2 h2 h3 h4 (fun r w' ad' t k => h5 r w' ad' t (hK r w' k))
/-- a method's contract: the judgement at its start -/
def tg_Ct (l : tg_Ln) (M : tg_M) (n0 : Nat) (args : List Value) (w : List va_E) (K : Option Value → List va_E → Prop) : Prop := tg_G l M n0 K 0 0 0 (tg_lv M.2.2.1 args) [] w
abbrev tg_Pc (l : tg_Ln) (D : va_G) (cA : Nat → ClassId) (ad : Nat → Nat) (sz : Nat) (args : List Value) (w : List va_E) : Array Value → State → Prop := va_Pc (args.map (tg_v ad)) (fun U => U.heap.size = sz ∧ va_P D vwCl (tg_w cA ad 0 w) U.heap ∧ va_K D vwCl (tg_tys cA) U ∧ va_D (fun _ => True) (tg_w cA ad 0 w) ∧ tg_E l ad (va_A (tg_w cA ad 0 w) sz) U)
abbrev tg_Qc (D : va_G) (cA : Nat → ClassId) (ad : Nat → Nat) (sz n0 : Nat) (w : List va_E) (K : Option Value → List va_E → Prop) : Array Value → State → Outcome → State → Prop := fun _ st oc t =>
  ∃ (r : Option Value) (w' : List va_E) (ad' : Nat → Nat), oc = .returned (r.map (tg_v ad')) ∧ K r w' ∧ (∀ k, k < n0 ∨ 1000 ≤ k → ad' k = ad k) ∧ va_P D vwCl (tg_w cA ad' 0 w') t.heap ∧ va_D (va_A (tg_w cA ad 0 w) sz) (tg_w cA ad' 0 w') ∧ va_F (va_A (tg_w cA ad 0 w) sz) st t
set_option maxHeartbeats 1000000 in
theorem tg_met {l : tg_Ln} {M : tg_M} {n0 : Nat} {args : List Value} {w : List va_E} {K : Option Value → List va_E → Prop} (hok : tg_ok M) (hla : (tg_la args).length ≤ M.2.2.1) (h : tg_Ct l M n0 args w K) (D : va_G) (cA : Nat → ClassId) (ad : Nat → Nat) (sz : Nat) :
    Met l.1 M.1 (tg_ws M) M.2.2.2.2 (tg_Pc l D cA ad sz args w) (tg_Qc D cA ad sz n0 w K) M.2.2.2.2.cells M.2.2.2.2.slots (va_A (tg_w cA ad 0 w) sz) := by
  refine Met.ofW (cc := M.2.1) (maxL := M.2.2.1) (ret := M.2.2.2.1) hok.2.2.1 rfl ?_
  intro p e s m args0 below meth c s₁ B hml hv
  obtain ⟨rfl, hsz, hP, hK, hD0, hE⟩ := hv
  have hts := atoms_spec (ws := tg_ws M) B.pre
  have hown : s.vm.findClass M.1.cls = some m.cls := findClass_of_methodNamed B.named
  subst hsz
  rw [lg_entry_eq]
  exact h p e s m _ below meth c D cA (va_A (tg_w cA ad 0 w) s.heap.size) ad s.heap [] _ _
    ⟨B.exec, B.bytes, B.returns, hml, hown, fun w hw => hts w (List.mem_cons_of_mem _ hw), B.notSynchronized, (name_of_methodNamed B.named B.method).1⟩ (Nat.zero_le _) (Nat.zero_le _)
    hK (fun q hq => Or.inr hq) hE (fun r w' ad' t k1 k2 k3 k4 k5 k6 => ⟨r, w', ad', rfl, k1, k2, k3, k4, k6⟩) hP hD0.self va_S.rf (tg_L_entry ad args (by rw [tg_sl_len]; exact hla))
