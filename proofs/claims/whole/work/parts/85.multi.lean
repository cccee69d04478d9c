/-! new long[3][12]: the outer row, then three rows of longs -/
def mu_O (c5 : ClassId) (h i : Nat) : Cell := arrV c5 3 (fun j => if j < i then .ref (h + 1 + j) else .null)
def mu_I (c3 : ClassId) : Cell := arrV c3 12 (fun _ => .long 0)
def mu_T (T : State) (c5 c3 : ClassId) : Nat → State
  | 0 => T.pushCell (mu_O c5 T.heap.size 0)
  | i + 1 => ((mu_T T c5 c3 i).pushCell (mu_I c3)).setCell T.heap.size (mu_O c5 T.heap.size (i + 1))
theorem mu_O_0 (c5 : ClassId) (h : Nat) : mu_O c5 h 0 = ({ cls := c5, slots := Array.replicate 3 .null, vm := .none } : Cell) := by
  rw [arrV_new]
  unfold mu_O
  congr 1
theorem mu_I_eq (c3 : ClassId) : mu_I c3 = ({ cls := c3, slots := Array.replicate 12 (.long 0), vm := .none } : Cell) := (arrV_new c3 12 (.long 0)).symm
theorem mu_O_s (c5 : ClassId) (h i : Nat) : (mu_O c5 h i).setSlot i (.ref (h + 1 + i)) = mu_O c5 h (i + 1) := by
  unfold mu_O
  rw [arrV_store]
  congr 1
  funext j
  unfold updV
  by_cases e : j = i
  · subst e; rw [if_pos rfl, if_pos (by omega)]
  · rw [if_neg e]
    show (if j < i then Value.ref (h + 1 + j) else Value.null) = _
    by_cases q : j < i
    · rw [if_pos q, if_pos (by omega)]
    · rw [if_neg q, if_neg (by omega)]
theorem mu_T_f (T : State) (c5 c3 : ClassId) : ∀ i, (mu_T T c5 c3 i).heap.size = T.heap.size + 1 + i ∧ (mu_T T c5 c3 i).heap[T.heap.size]? = some (mu_O c5 T.heap.size i) ∧ (mu_T T c5 c3 i).vm = T.vm ∧ (mu_T T c5 c3 i).slotsUsed = T.slotsUsed + 3 + i * 12
  | 0 => ⟨by simp [mu_T], by simp [mu_T], rfl, by simp [mu_T, mu_O, arrV_size]⟩
  | i + 1 => by
    obtain ⟨a, b, d, u⟩ := mu_T_f T c5 c3 i
    have hlt : T.heap.size < (mu_T T c5 c3 i).heap.size := by omega
    have hb' : ((mu_T T c5 c3 i).pushCell (mu_I c3)).heap[T.heap.size]? = some (mu_O c5 T.heap.size i) := by rw [State.heap_pushCell_of_lt (h := hlt)]; exact b
    refine ⟨?_, State.heap_setCell_self hb', by simp [mu_T, d], ?_⟩
    · simp [mu_T, State.setCell, a]; omega
    · simp [mu_T, u, mu_I, arrV_size]; omega
theorem mu_T_old (T : State) (c5 c3 : ClassId) {a : Addr} (ha : a < T.heap.size) : ∀ i, (mu_T T c5 c3 i).heap[a]? = T.heap[a]?
  | 0 => State.heap_pushCell_of_lt _ _ ha
  | i + 1 => by
    have f1 := (mu_T_f T c5 c3 i).1
    show (((mu_T T c5 c3 i).pushCell (mu_I c3)).setCell T.heap.size _).heap[a]? = _
    rw [State.heap_setCell_other (Nat.ne_of_gt ha), State.heap_pushCell_of_lt (h := Nat.lt_of_lt_of_le ha (by rw [f1]; omega))]
    exact mu_T_old T c5 c3 ha i
theorem mu_T_in (T : State) (c5 c3 : ClassId) : ∀ i j, j < i → (mu_T T c5 c3 i).heap[T.heap.size + 1 + j]? = some (mu_I c3)
  | 0, _, h => absurd h (Nat.not_lt_zero _)
  | i + 1, j, h => by
    have f1 := (mu_T_f T c5 c3 i).1
    show (((mu_T T c5 c3 i).pushCell (mu_I c3)).setCell T.heap.size _).heap[T.heap.size + 1 + j]? = _
    rw [State.heap_setCell_other (show T.heap.size ≠ T.heap.size + 1 + j by omega)]
    by_cases hj : j < i
    · rw [State.heap_pushCell_of_lt (h := (show T.heap.size + 1 + j < (mu_T T c5 c3 i).heap.size by omega))]
      exact mu_T_in T c5 c3 i j hj
    · obtain rfl : j = i := by omega
      rw [← f1]
      exact State.heap_pushCell_size _ _
theorem mu_T_top (T : State) (f : JFrame) (c5 c3 : ClassId) : ∀ i, mu_T (T.setTop f) c5 c3 i = (mu_T T c5 c3 i).setTop f
  | 0 => rfl
  | i + 1 => by simp only [mu_T, mu_T_top T f c5 c3 i, State.heap_setTop, State.pushCell_setTop, State.setCell_setTop]
section MU
variable {E : CtlPost} {e : Env} {d : Bool} {acts : List Action} {s : State}
theorem mu_new {c comp : ClassId} {k : Class} {type : FieldType} {len : Nat} {init : Value} (hk : s.vm.classes[c]? = some k) (hkind : k.kind = .array comp type) (hl : ¬ len > e.platform.arrayLengthLimit) (hh : ¬ len * componentBytes type > e.platform.maxHeapBytes) (hfit : fits type init = true) (hdef : init.isDefault = true) {Q : Addr → Pre}
    (h1 : s.heap.size < e.platform.maxCells) (h2 : s.slotsUsed + len ≤ e.platform.maxSlots) (hq : Q s.heap.size d acts (s.pushCell { cls := c, slots := Array.replicate len init, vm := .none })) : wp (Jvm.newArray c len init) Q E e d acts s := by
  have hfits : ∀ i v, (Array.replicate len init)[i]? = some v → s.fitsSlot c .none i v = true := by
    intro i v hv
    simp only [Array.getElem?_replicate] at hv
    split at hv
    · cases hv; simp [State.fitsSlot, State.slotType?, hk, hkind, hfit]
    · cases hv
  have hda : allocActs (Array.replicate len init) s.heap.size acts = acts := by
    have hall : ((Array.replicate len init).all (·.isDefault)) = true := by
      rw [Array.all_replicate]; split <;> simp [hdef]
    unfold allocActs; rw [if_pos hall]
  simp only [Jvm.newArray, Jvm.arrayFits, wp_bind', W.ask, W.ite, hl, if_false, wp_pure', W.theClass, hk, hkind, hh, W.alloc, W.stop, Option.some.injEq, exists_eq_left', Array.size_replicate, hda]
  rw [if_neg (by omega)]
  exact ⟨h1, h2, hfits, hq⟩
theorem mu_make1 {c3 cc : ClassId} {k3 : Class} (hk3 : s.vm.classes[c3]? = some k3) (hkind3 : k3.kind = .array cc .long) (hl : ¬ 12 > e.platform.arrayLengthLimit) (hh : ¬ 12 * 8 > e.platform.maxHeapBytes) (h1 : s.heap.size < e.platform.maxCells) (h2 : s.slotsUsed + 12 ≤ e.platform.maxSlots) {Q : Addr → Pre} (hq : Q s.heap.size d acts (s.pushCell (mu_I c3))) : wp (multianewarray.make c3 [12]) Q E e d acts s := by
  rw [multianewarray.make]
  simp only [wp_bind', W.ite, show ¬ (12 : Int32) < 0 by decide, if_false, wp_pure', W.theClass, hk3, hkind3, Option.some.injEq, exists_eq_left']
  rw [show (12 : Int32).toNatClampNeg = 12 by decide]
  rw [mu_I_eq] at hq
  exact mu_new hk3 hkind3 hl hh rfl rfl h1 h2 hq
theorem mu_make {c5 c3 cc : ClassId} {k5 k3 : Class} (hk5 : s.vm.classes[c5]? = some k5) (hkind5 : k5.kind = .array c3 (.array .long)) (hk3 : s.vm.classes[c3]? = some k3) (hkind3 : k3.kind = .array cc .long) (hl : ¬ 12 > e.platform.arrayLengthLimit) (hh : ¬ 12 * 8 > e.platform.maxHeapBytes) (hc : s.heap.size + 4 ≤ e.platform.maxCells) (hs : s.slotsUsed + 39 ≤ e.platform.maxSlots) {Q : Addr → Pre} (hq : ∀ d' acts', Q s.heap.size d' acts' (mu_T s c5 c3 3)) : wp (multianewarray.make c5 [3, 12]) Q E e d acts s := by
  have hfind : ([12].find? (fun z : Int32 => decide (z < 0))) = none := by decide
  rw [multianewarray.make]
  simp only [wp_bind', W.ite, show ¬ (3 : Int32) < 0 by decide, if_false, wp_pure', W.theClass, hk5, hkind5, Option.some.injEq, exists_eq_left']
  rw [show (3 : Int32).toNatClampNeg = 3 by decide]
  refine mu_new hk5 hkind5 (by omega) (show ¬ 3 * 4 > e.platform.maxHeapBytes by omega) rfl rfl (by omega) (by omega) ?_
  simp only [hfind]
  rw [ite_self, wp_bind', Std.Legacy.Range.forIn_eq_forIn_range']
  have hsz : ([:3] : Std.Legacy.Range).size = 3 := by simp [Std.Legacy.Range.size]
  rw [hsz, ← mu_O_0 c5 s.heap.size]
  show wp (forIn (List.range' 0 3 1) PUnit.unit _) _ E e d acts _
  refine wp_forIn_inv (fun rest s' => ∃ i, i ≤ 3 ∧ rest = List.range' i (3 - i) ∧ s' = mu_T s c5 c3 i) _ _ ⟨0, Nat.zero_le _, rfl, rfl⟩ ?_ ?_
  · rintro x rest s' d' acts' Q' ⟨i, hi, hl2, rfl⟩ hnext
    have hlt : i < 3 := by
      rcases Nat.lt_or_ge i 3 with h | h
      · exact h
      · rw [show 3 - i = 0 by omega] at hl2; simp at hl2
    obtain ⟨rfl, hrest⟩ : x = i ∧ rest = List.range' (i + 1) (3 - (i + 1)) := by
      rw [show 3 - i = (3 - (i + 1)) + 1 by omega, List.range'_succ] at hl2
      exact ⟨(List.cons.inj hl2).1, (List.cons.inj hl2).2⟩
    obtain ⟨f1, f2, f3, f4⟩ := mu_T_f s c5 c3 x
    simp only [wp_bind']
    refine mu_make1 (by rw [f3]; exact hk3) hkind3 hl hh (by rw [f1]; omega) (by rw [f4]; omega) ?_
    have hlt0 : s.heap.size < (mu_T s c5 c3 x).heap.size := by rw [f1]; omega
    simp only [wp_bind', W.writeLoc, wp_pure']
    refine ⟨mu_O c5 s.heap.size x, by rw [State.heap_pushCell_of_lt (h := hlt0)]; exact f2, by simp [mu_O, arrV], by unfold mu_O; rw [arrV_size]; exact hlt, ?_, hnext _ _ _ ⟨x + 1, hlt, hrest, ?_⟩⟩
    · simp [State.fitsSlot, State.slotType?, f3, mu_O, arrV, hk5, hkind5, fits]
    · rw [f1, mu_O_s]; rfl
  · rintro s' d' acts' ⟨i, hi, hl2, rfl⟩
    have hiN : i = 3 := by
      rcases Nat.lt_or_ge i 3 with h | h
      · rw [show 3 - i = (3 - (i + 1)) + 1 by omega, List.range'_succ] at hl2; cases hl2
      · omega
    subst hiN
    simp only [wp_pure']
    exact hq _ _
end MU
section MUW
variable {p : Program} {l : Launch} {e : Env} {R : Room} {s : State} {m : MethodId} {args : Array Value} {below : List Frame} {meth : Method} {c : Code} {H : Heap} {locs : List Loc} {cells slots : Nat} {Q : State → Prop}
theorem mu_X {T : State} (X : Stand p l e R s m args below meth c T locs cells slots) (c5 c3 : ClassId) : ∀ i, Stand p l e R s m args below meth c (mu_T T c5 c3 i) (locs ++ (List.range i).map fun j => ⟨T.heap.size, j⟩) (cells + 1 + i) (slots + 3 + i * 12)
  | 0 => by
    have h := X.pushed (mu_O c5 T.heap.size 0)
    rw [show (mu_O c5 T.heap.size 0).slots.size = 3 from arrV_size _ _ _] at h
    simpa [mu_T] using h
  | i + 1 => by
    have Xi := mu_X X c5 c3 i
    obtain ⟨f1, f2, f3, f4⟩ := mu_T_f T c5 c3 i
    have hcell : ((mu_T T c5 c3 i).pushCell (mu_I c3)).heap[T.heap.size]? = some (mu_O c5 T.heap.size i) := by rw [State.heap_pushCell_of_lt (h := (show T.heap.size < (mu_T T c5 c3 i).heap.size by omega))]; exact f2
    have h := (Xi.pushed (mu_I c3)).stored hcell i (.ref (T.heap.size + 1 + i))
    rw [show (mu_I c3).slots.size = 12 from arrV_size _ _ _, mu_O_s] at h
    rw [show (locs ++ (List.range (i + 1)).map fun j => (⟨T.heap.size, j⟩ : Loc)) = (locs ++ (List.range i).map fun j => (⟨T.heap.size, j⟩ : Loc)) ++ [⟨T.heap.size, i⟩] by simp [List.range_succ, List.append_assoc], show slots + 3 + (i + 1) * 12 = slots + 3 + i * 12 + 12 by omega]
    exact h
set_option maxHeartbeats 1000000 in
theorem mu_W {cc : ByteArray} (hexec : p.tables.exec = Jvm.exec) (hb : c.code = cc) {own : String} {index pc : Nat} {ls : Array Slot} {rest : List Value} (hown : s.vm.findClass own = some m.cls) (hcl : (Cond.classLink own index "[[J").before args s = true) {c5 c3 cc3 : ClassId} {k5 k3 : Class} (h5 : s.vm.findClass "[[J" = some c5) (hk5 : s.vm.classes[c5]? = some k5) (hkind5 : k5.kind = .array c3 (.array .long)) (hk3 : s.vm.classes[c3]? = some k3) (hkind3 : k3.kind = .array cc3 .long)
    (hcells : cells + 4 ≤ R.cells) (hslots : slots + 39 ≤ R.slots) (hdg : decode cc pc = .ok (.multianewarray index 2, 4))
    (kk : ∀ (H1 : Heap) (locs1 : List Loc), H1.size = H.size + 4 → H1[H.size]? = some (mu_O c5 H.size 3) → (∀ i, i < 3 → H1[H.size + 1 + i]? = some (mu_I c3)) → (∀ q, q < H.size → H1[q]? = H[q]?) → (∀ x ∈ locs1, x ∈ locs ∨ x.base = H.size) → W p l e R s m args below meth c H1 locs1 (cells + 4) (slots + 39) Q (F0 m (pc + 4) ls (.ref H.size :: rest))) :
    W p l e R s m args below meth c H locs cells slots Q (F0 m pc ls (.int 12 :: .int 3 :: rest)) := by
  subst hb
  intro T hT X
  subst hT
  have hpl : e.platform.magicAccessors = ({} : Platform).magicAccessors := by rw [X.admits.platform]
  obtain ⟨c0, hfc0, hcl2⟩ := Cond.classLink_spec hown hcl e.platform hpl
  cases h5.symm.trans hfc0
  obtain ⟨hg₁, hwarm₁, hready₁⟩ := State.classEntry (e := e) X.warmed hcl2
  generalize hvm1 : T.vm.noted m.cls index (.cls c5) = vm₁ at hg₁ hwarm₁ hready₁
  have hal : s.vm.Alike vm₁ := hwarm₁.alike
  obtain ⟨kA₁, hkA₁, heA⟩ := hal.2.2 _ _ hk5
  obtain ⟨kC₁, hkC₁, heC⟩ := hal.2.2 _ _ hk3
  have hkindA₁ : kA₁.kind = .array c3 (.array .long) := by rw [heA]; exact hkind5
  have hkindC₁ : kC₁.kind = .array cc3 .long := by rw [heC]; exact hkind3
  have X₁ := X.noted hwarm₁
  have XF := mu_X X₁ c5 c3 3
  obtain ⟨f1, f2, f3, f4⟩ := mu_T_f (T.setVm vm₁) c5 c3 3
  obtain ⟨hr1, hr2⟩ := X.roomAbove hcells hslots
  obtain ⟨t, a1, b1⟩ := kk (mu_T (T.setVm vm₁) c5 c3 3).heap (locs ++ (List.range 3).map fun j => (⟨(T.setVm vm₁).heap.size, j⟩ : Loc)) (by rw [f1]; show T.heap.size + 1 + 3 = _; omega) f2 (fun i hi => mu_T_in (T.setVm vm₁) c5 c3 3 i hi) (fun q hq => mu_T_old (T.setVm vm₁) c5 c3 hq 3) (fun x hx => by
    rcases List.mem_append.mp hx with h | h
    · exact Or.inl h
    · obtain ⟨j, -, rfl⟩ := List.mem_map.mp h
      exact Or.inr rfl) (mu_T (T.setVm vm₁) c5 c3 3) rfl (by
    have e1 : cells + 1 + 3 = cells + 4 := by omega
    have e2 : slots + 3 + 3 * 12 = slots + 39 := by omega
    rw [e1, e2] at XF
    exact XF)
  refine ⟨t, ?_, b1⟩
  have hl2 : ¬ 12 > e.platform.arrayLengthLimit := by rw [Launch.admits_arrayLengthLimit X.admits]; omega
  have hh2 : ¬ 12 * 8 > e.platform.maxHeapBytes := by rw [Launch.admits_maxHeapBytes X.admits]; omega
  jvm_step X.here [hexec, hdg]
  simp only [multianewarray.sem, wp_bind', W.resolveClassAt_links (State.method?_setTop (F0 m pc ls (.int 12 :: .int 3 :: rest)) X.here.top) hg₁]
  rw [W.popN, if_neg (by decide)]
  refine ⟨F0 m pc ls (.int 12 :: .int 3 :: rest), State.topJava?_setTop' (s := T.setVm vm₁) _ X.here.top, [.int 3, .int 12], rest, rfl, rfl, ?_⟩
  simp only [List.mapM_cons, List.mapM_nil, wp_bind', wp_pure']
  refine mu_make (k5 := kA₁) (k3 := kC₁) (c3 := c3) (cc := cc3) hkA₁ hkindA₁ hkC₁ hkindC₁ hl2 hh2 (by show T.heap.size + 4 ≤ _; omega) (by show T.slotsUsed + 39 ≤ _; omega) (fun d' acts' => ?_)
  have eS : ((T.setTop (F0 m pc ls (.int 12 :: .int 3 :: rest))).setVm vm₁).setTop { F0 m pc ls (.int 12 :: .int 3 :: rest) with stack := rest } = (T.setVm vm₁).setTop { F0 m pc ls (.int 12 :: .int 3 :: rest) with stack := rest } := by
    show ((T.setVm vm₁).setTop _).setTop _ = _
    rw [State.setTop_setTop]
  rw [eS, mu_T_top]
  simp only [wp_bind', W.mark, W.pushRef, State.topJava?_setTop' _ XF.here.top, Option.some.injEq, exists_eq_left', State.setTop_setTop, State.heap_setTop]
  intro acts
  simp [jvm, XF.here.top]
  exact a1
end MUW
