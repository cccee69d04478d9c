/-! TINY WORLDS: a world is a list of cells by their places; a reference in it is a place; 'ad' says the address of a place.
A method's run is told over such lists alone: 'tg_G' is the judgement; the machine's own cares (heaps, frames, tables) are inside. -/
def tg_T : List Cond := lw_tbl.filter goodWord
theorem tg_mem {w : Cond} (i : Nat) (h : lw_tbl[i]? = some w) (hg : goodWord w = true) : w ∈ tg_T := List.mem_filter.mpr ⟨List.mem_of_getElem? h, hg⟩
theorem tg_goodT : GoodIn tg_T tg_T := fun _ h => ⟨h, good_of_word (List.mem_filter.mp h).2⟩
/-- a method: name, bytes, locals, return type, room -/
abbrev tg_M : Type := MethodName × ByteArray × Nat × Option FieldType × Room
def tg_ws (M : tg_M) : List Cond := .code M.1 M.2.1 M.2.2.1 M.2.2.2.1 :: tg_T
def tg_ok (M : tg_M) : Prop := Cond.code M.1 M.2.1 M.2.2.1 M.2.2.2.1 ∈ tg_T ∧ Cond.initialized M.1.cls ∈ tg_T ∧ plainName M.1.cls = true ∧ M.1.cls ≠ "java/lang/invoke/MethodHandle" ∧ M.1.cls ≠ "java/lang/invoke/VarHandle"
theorem tg_goodM {M : tg_M} (h : tg_ok M) : GoodIn tg_T (tg_ws M) := fun w hw => by
  rcases List.mem_cons.mp hw with rfl | hw
  · exact tg_goodT _ h.1
  · exact tg_goodT _ hw
/-! values, cells, worlds -/
def tg_v (ad : Nat → Nat) : Value → Value
  | .ref k => .ref (ad k)
  | .int x => .int x
  | .long x => .long x
  | .float x => .float x
  | .double x => .double x
  | .null => .null
  | .retAddr x => .retAddr x
def tg_e (cA : Nat → ClassId) (ad : Nat → Nat) : va_E → va_E
  | .inl (t, n, .inl f) => .inl (cA t, n, .inl f)
  | .inl (t, n, .inr (.inl f)) => .inl (cA t, n, .inr (.inl f))
  | .inl (t, n, .inr (.inr (.inl f))) => .inl (cA t, n, .inr (.inr (.inl f)))
  | .inl (t, n, .inr (.inr (.inr (.inl f)))) => .inl (cA t, n, .inr (.inr (.inr (.inl f))))
  | .inl (t, n, .inr (.inr (.inr (.inr f)))) => .inl (cA t, n, .inr (.inr (.inr (.inr (fun j => (f j).map ad)))))
  | .inr (ci, fs) => .inr (ci, fs.map (tg_v ad))
def tg_w (cA : Nat → ClassId) (ad : Nat → Nat) : Nat → List va_E → va_W
  | _, [] => []
  | k, c :: cs => (ad k, tg_e cA ad c) :: tg_w cA ad (k + 1) cs
theorem tg_w_get (cA : Nat → ClassId) (ad : Nat → Nat) : ∀ (w : List va_E) (k i : Nat), (tg_w cA ad k w)[i]? = (w[i]?).map (fun c => (ad (k + i), tg_e cA ad c))
  | [], k, i => by simp [tg_w]
  | c :: cs, k, 0 => by simp [tg_w]
  | c :: cs, k, i + 1 => by
    have h := tg_w_get cA ad cs (k + 1) i
    simp only [tg_w, List.getElem?_cons_succ, h]
    rw [show k + 1 + i = k + (i + 1) by omega]
theorem tg_w_at {cA : Nat → ClassId} {ad : Nat → Nat} {w : List va_E} {i : Nat} {c : va_E} (h : w[i]? = some c) : (tg_w cA ad 0 w)[i]? = some (ad i, tg_e cA ad c) := by
  rw [tg_w_get, h]
  simp
theorem tg_w_set (cA : Nat → ClassId) (ad : Nat → Nat) : ∀ (w : List va_E) (k i : Nat) (c : va_E), tg_w cA ad k (w.set i c) = (tg_w cA ad k w).set i (ad (k + i), tg_e cA ad c)
  | [], k, i, c => by simp [tg_w]
  | x :: cs, k, 0, c => by simp [tg_w]
  | x :: cs, k, i + 1, c => by
    simp only [List.set_cons_succ, tg_w, tg_w_set cA ad cs (k + 1) i c]
    rw [show k + 1 + i = k + (i + 1) by omega]
theorem tg_w_set0 {cA : Nat → ClassId} {ad : Nat → Nat} {w : List va_E} {i : Nat} {c : va_E} : tg_w cA ad 0 (w.set i c) = (tg_w cA ad 0 w).set i (ad i, tg_e cA ad c) := by
  rw [tg_w_set]
  simp
theorem tg_w_app (cA : Nat → ClassId) (ad : Nat → Nat) : ∀ (w1 w2 : List va_E) (k : Nat), tg_w cA ad k (w1 ++ w2) = tg_w cA ad k w1 ++ tg_w cA ad (k + w1.length) w2
  | [], w2, k => by simp [tg_w]
  | c :: cs, w2, k => by
    simp only [List.cons_append, tg_w, List.length_cons]
    rw [tg_w_app cA ad cs w2 (k + 1), show k + 1 + cs.length = k + (cs.length + 1) by omega]
theorem tg_w_len (cA : Nat → ClassId) (ad : Nat → Nat) : ∀ (w : List va_E) (k : Nat), (tg_w cA ad k w).length = w.length
  | [], k => rfl
  | c :: cs, k => by simp [tg_w, tg_w_len cA ad cs (k + 1)]
theorem tg_v_cat (ad : Nat → Nat) (v : Value) : (tg_v ad v).category = v.category := by cases v <;> rfl
theorem tg_v_null (ad : Nat → Nat) (v : Value) : tg_v ad v = .null ↔ v = .null := by cases v <;> simp [tg_v]
/-! locals: by their places; null: nothing is known of it -/
def tg_prs (ad : Nat → Nat) : Nat → List Value → List (Nat × Value)
  | _, [] => []
  | k, v :: vs => match v with
    | .null => tg_prs ad (k + 1) vs
    | v => (k, tg_v ad v) :: tg_prs ad (k + 1) vs
theorem tg_prs_mem (ad : Nat → Nat) : ∀ (lv : List Value) (k : Nat) (q : Nat × Value), q ∈ tg_prs ad k lv ↔ ∃ (i : Nat) (v : Value), lv[i]? = some v ∧ v ≠ .null ∧ q = (k + i, tg_v ad v)
  | [], k, q => by simp [tg_prs]
  | x :: vs, k, q => by
    have ih := tg_prs_mem ad vs (k + 1) q
    have key : (∃ (i : Nat) (v : Value), (x :: vs)[i]? = some v ∧ v ≠ .null ∧ q = (k + i, tg_v ad v)) ↔ (x ≠ .null ∧ q = (k, tg_v ad x)) ∨ q ∈ tg_prs ad (k + 1) vs := by
      rw [ih]
      constructor
      · rintro ⟨i, v, h1, h2, h3⟩
        cases i with
        | zero =>
          rw [List.getElem?_cons_zero] at h1
          cases h1
          exact Or.inl ⟨h2, h3⟩
        | succ i =>
          rw [List.getElem?_cons_succ] at h1
          exact Or.inr ⟨i, v, h1, h2, by rw [h3]; congr 1; omega⟩
      · rintro (⟨h1, h2⟩ | ⟨i, v, h1, h2, h3⟩)
        · exact ⟨0, x, rfl, h1, h2⟩
        · exact ⟨i + 1, v, by rw [List.getElem?_cons_succ]; exact h1, h2, by rw [h3]; congr 1; omega⟩
    rw [key]
    cases x <;> simp [tg_prs]
def tg_L (ad : Nat → Nat) (ls : Array Slot) (nL : Nat) (lv : List Value) : Prop := lv_has ls nL (tg_prs ad 0 lv)
theorem tg_L_at {ad : Nat → Nat} {ls : Array Slot} {nL : Nat} {lv : List Value} (h : tg_L ad ls nL lv) {i : Nat} {v : Value} (hi : lv[i]? = some v) (hv : v ≠ .null) : ls[i]? = some (.val (tg_v ad v)) :=
  h.2.2 (i, tg_v ad v) ((tg_prs_mem ad lv 0 _).mpr ⟨i, v, hi, hv, by simp⟩)
/-- the place ahead loses a value of two places -/
def tg_cl (lv : List Value) : Nat → List Value
  | 0 => lv
  | j + 1 => match lv[j]? with
    | some (.long _) => lv.set j .null
    | some (.double _) => lv.set j .null
    | _ => lv
def tg_s1 (lv : List Value) (i : Nat) (v : Value) : List Value := (tg_cl lv i).set i v
def tg_s2 (lv : List Value) (i : Nat) (v : Value) : List Value := ((tg_cl lv i).set i v).set (i + 1) .null
theorem tg_cl_at {lv : List Value} {i j : Nat} {v : Value} (h : (tg_cl lv i)[j]? = some v) (hv : v ≠ .null) : lv[j]? = some v ∧ ¬ (j + 1 = i ∧ v.category = 2) := by
  cases i with
  | zero => exact ⟨h, fun q => by omega⟩
  | succ k =>
    have key : ∀ u : Value, lv[k]? = some u → (lv.set k .null)[j]? = some v → lv[j]? = some v ∧ ¬ (j + 1 = k + 1 ∧ v.category = 2) := by
      intro u hu h2
      by_cases e : k = j
      · subst e
        rw [List.getElem?_set_self (List.getElem?_eq_some_iff.mp hu).1] at h2
        cases h2
        exact absurd rfl hv
      · rw [List.getElem?_set_ne e] at h2
        exact ⟨h2, fun q => by omega⟩
    simp only [tg_cl] at h
    split at h
    · exact key _ (by assumption) h
    · exact key _ (by assumption) h
    · rename_i n1 n2
      refine ⟨h, fun q => ?_⟩
      have e : j = k := by omega
      subst e
      cases v <;> simp [Value.category] at q
      · exact n1 _ h
      · exact n2 _ h
theorem tg_set_at {lv : List Value} {i j : Nat} {v u : Value} (h : (lv.set i v)[j]? = some u) : (j = i ∧ u = v) ∨ (j ≠ i ∧ lv[j]? = some u) := by
  by_cases e : i = j
  · subst e
    have hl : i < lv.length := by
      have := (List.getElem?_eq_some_iff.mp h).1
      simpa using this
    rw [List.getElem?_set_self hl] at h
    cases h
    exact Or.inl ⟨rfl, rfl⟩
  · rw [List.getElem?_set_ne e] at h
    exact Or.inr ⟨fun q => e q.symm, h⟩
theorem tg_L_s1 {ad : Nat → Nat} {ls : Array Slot} {nL : Nat} {lv : List Value} {i : Nat} {v : Value} (h : lv_has ls nL ((i, tg_v ad v) :: (tg_prs ad 0 lv).filter (fun q => !(q.1 == i) && !(q.1 + 1 == i && q.2.category == 2)))) : tg_L ad ls nL (tg_s1 lv i v) := by
  refine ⟨h.1, h.2.1, fun q hq => ?_⟩
  obtain ⟨j, u, h1, h2, rfl⟩ := (tg_prs_mem ad _ 0 q).mp hq
  refine h.2.2 _ ?_
  rw [Nat.zero_add]
  rcases tg_set_at h1 with ⟨rfl, rfl⟩ | ⟨hne, h3⟩
  · exact List.mem_cons_self
  · obtain ⟨h4, h5⟩ := tg_cl_at h3 h2
    refine List.mem_cons_of_mem _ (List.mem_filter.mpr ⟨(tg_prs_mem ad lv 0 _).mpr ⟨j, u, h4, h2, by simp⟩, ?_⟩)
    have b : (j + 1 == i && u.category == 2) = false := by
      by_cases e : j + 1 = i
      · have z : ¬ u.category = 2 := fun z => h5 ⟨e, z⟩
        simp [z]
      · simp [e]
    simp only [tg_v_cat, b]
    simp [hne]
theorem tg_L_s2 {ad : Nat → Nat} {ls : Array Slot} {nL : Nat} {lv : List Value} {i : Nat} {v : Value} (h : lv_has ls nL ((i, tg_v ad v) :: (tg_prs ad 0 lv).filter (fun q => !(q.1 == i) && (!(q.1 == i + 1) && !(q.1 + 1 == i && q.2.category == 2))))) : tg_L ad ls nL (tg_s2 lv i v) := by
  refine ⟨h.1, h.2.1, fun q hq => ?_⟩
  obtain ⟨j, u, h1, h2, rfl⟩ := (tg_prs_mem ad _ 0 q).mp hq
  refine h.2.2 _ ?_
  rw [Nat.zero_add]
  rcases tg_set_at h1 with ⟨rfl, rfl⟩ | ⟨hne1, h1⟩
  · exact absurd rfl h2
  rcases tg_set_at h1 with ⟨rfl, rfl⟩ | ⟨hne, h3⟩
  · exact List.mem_cons_self
  · obtain ⟨h4, h5⟩ := tg_cl_at h3 h2
    refine List.mem_cons_of_mem _ (List.mem_filter.mpr ⟨(tg_prs_mem ad lv 0 _).mpr ⟨j, u, h4, h2, by simp⟩, ?_⟩)
    have b : (j + 1 == i && u.category == 2) = false := by
      by_cases e : j + 1 = i
      · have z : ¬ u.category = 2 := fun z => h5 ⟨e, z⟩
        simp [z]
      · simp [e]
    simp only [tg_v_cat, b]
    simp [hne, hne1]
/-- a method's locals at its start -/
def tg_la : List Value → List Value
  | [] => []
  | .long x :: vs => .long x :: .null :: tg_la vs
  | .double x :: vs => .double x :: .null :: tg_la vs
  | v :: vs => v :: tg_la vs
def tg_lv (n : Nat) (vs : List Value) : List Value := tg_la vs ++ List.replicate (n - (tg_la vs).length) .null
theorem tg_la_args (ad : Nat → Nat) : ∀ (vs : List Value) (k : Nat) (n : Nat) (q : Nat × Value), q ∈ tg_prs ad k (tg_la vs ++ List.replicate n .null) → q ∈ lv_args k (vs.map (tg_v ad))
  | [], k, n, q, h => by
    obtain ⟨i, v, h1, h2, -⟩ := (tg_prs_mem ad _ k q).mp h
    simp only [tg_la, List.nil_append, List.getElem?_replicate] at h1
    split at h1
    · cases h1; exact absurd rfl h2
    · cases h1
  | v :: vs, k, n, q, h => by
    cases v <;> simp only [tg_la, List.cons_append, tg_prs, List.mem_cons, List.map_cons, tg_v, lv_args, Value.category] at h ⊢ <;> try simp only [if_true, if_neg (show ¬ (1 = 2) by decide)] at h ⊢
    all_goals first
      | exact h.elim Or.inl (fun h => Or.inr (tg_la_args ad vs _ n q h))
      | exact Or.inr (tg_la_args ad vs _ n q h)
theorem tg_L_entry (ad : Nat → Nat) (vs : List Value) {n : Nat} (h : (lg_sl (vs.map (tg_v ad))).length ≤ n) : tg_L ad ((lg_sl (vs.map (tg_v ad)) ++ List.replicate (n - (lg_sl (vs.map (tg_v ad))).length) Slot.unset).toArray) n (tg_lv n vs) := by
  have hl := lv_entry (vs.map (tg_v ad)) (n := n) h
  exact ⟨hl.1, hl.2.1, fun q hq => hl.2.2 q (tg_la_args ad vs 0 _ q hq)⟩
theorem tg_sl_len (ad : Nat → Nat) : ∀ vs : List Value, (lg_sl (vs.map (tg_v ad))).length = (tg_la vs).length
  | [] => rfl
  | v :: vs => by
    have ih := tg_sl_len ad vs
    have e : lg_sl ((v :: vs).map (tg_v ad)) = (if (tg_v ad v).category = 2 then [Slot.val (tg_v ad v), Slot.second] else [Slot.val (tg_v ad v)]) ++ lg_sl (vs.map (tg_v ad)) := by simp [lg_sl]
    rw [e, List.length_append, ih, tg_v_cat]
    cases v <;> simp [tg_la, Value.category] <;> omega
