/-! calls: a callee's world is a part of the caller's, its places are renamed by 'is' -/
def tg_rn (is : List Nat) (k : Nat) : Nat := is.getD k k
theorem tg_v_ref (ad : Nat → Nat) (k : Nat) : tg_v ad (.ref k) = .ref (ad k) := rfl
theorem tg_v_v (f g : Nat → Nat) (v : Value) : tg_v f (tg_v g v) = tg_v (fun k => f (g k)) v := by cases v <;> rfl
theorem tg_e_e (cA : Nat → ClassId) (f g : Nat → Nat) (c : va_E) : tg_e cA f (tg_e (fun t => t) g c) = tg_e cA (fun k => f (g k)) c := by
  rcases c with ⟨t, n, a⟩ | ⟨ci, fs⟩
  · rcases a with a | a | a | a | a <;> simp [tg_e, Function.comp_def]
  · simp [tg_e, tg_v_v]
def tg_put (g : Nat → Nat) : List va_E → List Nat → List va_E → List va_E
  | w, i :: is, c :: cs => tg_put g (w.set i (tg_e (fun t => t) g c)) is cs
  | w, _, _ => w
theorem tg_put_get (g : Nat → Nat) : ∀ (is : List Nat) (cs w : List va_E) (j : Nat) (x : va_E), (tg_put g w is cs)[j]? = some x → cs.length = is.length →
    (∃ (k : Nat) (c : va_E), is[k]? = some j ∧ cs[k]? = some c ∧ x = tg_e (fun t => t) g c) ∨ (j ∉ is ∧ w[j]? = some x)
  | [], cs, w, j, x, h, _ => by
    have h : w[j]? = some x := by cases cs <;> exact h
    exact Or.inr ⟨by simp, h⟩
  | i :: is, [], w, j, x, h, hl => by simp at hl
  | i :: is, c :: cs, w, j, x, h, hl => by
    simp only [List.length_cons, Nat.add_right_cancel_iff] at hl
    rcases tg_put_get g is cs (w.set i (tg_e (fun t => t) g c)) j x h hl with ⟨k, d, h1, h2, h3⟩ | ⟨h1, h2⟩
    · exact Or.inl ⟨k + 1, d, by simpa using h1, by simpa using h2, h3⟩
    · by_cases e : i = j
      · subst e
        have hl2 : i < w.length := by
          have := (List.getElem?_eq_some_iff.mp h2).1
          simpa using this
        rw [List.getElem?_set_self hl2] at h2
        cases h2
        exact Or.inl ⟨0, c, rfl, rfl, rfl⟩
      · rw [List.getElem?_set_ne e] at h2
        exact Or.inr ⟨by simp only [List.mem_cons, not_or]; exact ⟨fun q => e q.symm, h1⟩, h2⟩
theorem tg_put_len (g : Nat → Nat) : ∀ (is : List Nat) (cs w : List va_E), (tg_put g w is cs).length = w.length
  | [], cs, w => by cases cs <;> rfl
  | i :: is, [], w => rfl
  | i :: is, c :: cs, w => by
    show (tg_put g (w.set i _) is cs).length = w.length
    rw [tg_put_len g is cs]
    simp
/-- the callee's world as a part of the caller's -/
theorem tg_part {cA : Nat → ClassId} {ad : Nat → Nat} {w wc : List va_E} {is : List Nat} (hfr : is.map (fun i => w[i]?) = wc.map (fun c => some (tg_e (fun t => t) (tg_rn is) c))) :
    is.map (fun i => (tg_w cA ad 0 w)[i]?) = (tg_w cA (fun k => ad (tg_rn is k)) 0 wc).map some := by
  apply List.ext_getElem?
  intro k
  have h1 : (is.map (fun i => w[i]?))[k]? = (wc.map (fun c => some (tg_e (fun t => t) (tg_rn is) c)))[k]? := by rw [hfr]
  simp only [List.getElem?_map] at h1 ⊢
  rw [tg_w_get]
  cases hi : is[k]? with
  | none =>
    rw [hi] at h1
    cases hc : wc[k]? with
    | none => rfl
    | some c => rw [hc] at h1; cases h1
  | some i =>
    rw [hi] at h1
    cases hc : wc[k]? with
    | none => rw [hc] at h1; cases h1
    | some c =>
      rw [hc] at h1
      simp only [Option.map_some, Option.some.injEq] at h1
      simp only [Option.map_some, Nat.zero_add]
      rw [tg_w_at h1, tg_e_e]
      have : tg_rn is k = i := by simp [tg_rn, List.getD, hi]
      rw [this]
theorem tg_fr_len {w wc : List va_E} {is : List Nat} {g : va_E → va_E} (hfr : is.map (fun i => w[i]?) = wc.map (fun c => some (g c))) : is.length = wc.length := by
  have := congrArg List.length hfr
  simpa using this
section TGC
variable {p : Program} {l : Launch} {e : Env} {R : Room} {s : State} {m : MethodId} {args : Array Value} {below : List Frame} {meth : Method} {c : Code} {H : Heap} {locs : List Loc} {cells slots : Nat} {Q : State → Prop}
/-- behind a call that makes no cell: the caller's world, with the callee's part as it came back -/
theorem tgw_ret {D : va_G} {cA : Nat → ClassId} {A : Nat → Prop} {ad : Nat → Nat} {w wc : List va_E} {is : List Nat} {K' : Option Value → List va_E → Prop} {pc mc ms : Nat} {ls : Array Slot} {st0 rest : List Value} {a : Array Value}
    (hr : va_Run p l e R s m args below meth c H locs cells slots mc ms (F0 m pc ls st0) rest (tg_Qc D cA (fun k => ad (tg_rn is k)) H.size 1000 wc K' a) (va_A (tg_w cA (fun k => ad (tg_rn is k)) 0 wc) H.size))
    (hP : va_P D vwCl (tg_w cA ad 0 w) H) (hD : va_D A (tg_w cA ad 0 w)) (hS : va_S A s.heap H locs) (hA : ∀ q : Nat, s.heap.size ≤ q → A q)
    (hfr : is.map (fun i => w[i]?) = wc.map (fun c => some (tg_e (fun t => t) (tg_rn is) c))) (hlen : ∀ r wc', K' r wc' → wc'.length = wc.length)
    (kk : ∀ (r : Option Value) (wc' : List va_E) (H1 : Heap) (locs1 : List Loc), K' r wc' → va_P D vwCl (tg_w cA ad 0 (tg_put (tg_rn is) w is wc')) H1 → va_D A (tg_w cA ad 0 (tg_put (tg_rn is) w is wc')) → va_S A s.heap H1 locs1 → W p l e R s m args below meth c H1 locs1 (cells + mc) (slots + ms) Q (F0 m (pc + 3) ls ((r.map (tg_v (fun k => ad (tg_rn is k)))).toList ++ rest))) :
    W p l e R s m args below meth c H locs cells slots Q (F0 m pc ls st0) := by
  intro T hT X
  obtain ⟨v, st₀, t, T', L, h0, X', hL, e1, e2, ⟨r, wc', ad', hv, hK, had, hP1, hD1, hz, hk⟩, stp⟩ := hr T hT X
  have hadE : ad' = fun k => ad (tg_rn is k) := funext fun k => had k (by omega)
  subst hadE
  cases hv
  rw [h0] at hz hk
  have hpart := tg_part (cA := cA) (ad := ad) hfr
  have hF := va_free (A0 := A) hD hS hA is hpart
  have hlw := tg_fr_len hfr
  have hl1 := hlen r wc' hK
  have hP' : va_P D vwCl (tg_w cA ad 0 (tg_put (tg_rn is) w is wc')) t.heap := by
    intro j q hq
    rw [tg_w_get] at hq
    cases hx : (tg_put (tg_rn is) w is wc')[j]? with
    | none => rw [hx] at hq; cases hq
    | some x =>
      rw [hx] at hq
      simp only [Option.map_some, Option.some.injEq, Nat.zero_add] at hq
      subst hq
      rcases tg_put_get _ is wc' w j x hx (by omega) with ⟨k, d, g1, g2, g3⟩ | ⟨g1, g2⟩
      · subst g3
        rw [tg_e_e]
        have g4 := hP1 k _ (tg_w_at g2)
        have : tg_rn is k = j := by simp [tg_rn, List.getD, g1]
        rw [this] at g4
        exact g4
      · have g3 := hP j _ (tg_w_at g2)
        refine g3.kept (hk _ g3.lt (fun z => ?_))
        rcases z with ⟨k, x', z⟩ | z
        · have z1 : (is.map (fun i => (tg_w cA ad 0 w)[i]?))[k]? = some (some (ad j, x')) := by rw [hpart, List.getElem?_map, z]; rfl
          rw [List.getElem?_map] at z1
          cases hi : is[k]? with
          | none => rw [hi] at z1; cases z1
          | some i =>
            rw [hi] at z1
            have z2 := hD.1 i j _ _ (Option.some.inj z1) (tg_w_at g2) rfl
            subst z2
            exact g1 (List.mem_of_getElem? hi)
        · exact absurd g3.lt (Nat.not_lt.mpr z)
  have hD' : va_D A (tg_w cA ad 0 (tg_put (tg_rn is) w is wc')) := by
    have key : ∀ (j : Nat) (q : Nat × va_E), (tg_w cA ad 0 (tg_put (tg_rn is) w is wc'))[j]? = some q → ∃ q0, (tg_w cA ad 0 w)[j]? = some q0 ∧ q0.1 = q.1 := by
      intro j q hq
      have hj : j < w.length := by
        have := (List.getElem?_eq_some_iff.mp hq).1
        rwa [tg_w_len, tg_put_len] at this
      rw [tg_w_get] at hq
      cases hx : (tg_put (tg_rn is) w is wc')[j]? with
      | none => rw [hx] at hq; cases hq
      | some x =>
        rw [hx] at hq
        simp only [Option.map_some, Option.some.injEq] at hq
        subst hq
        exact ⟨_, tg_w_at (List.getElem?_eq_getElem hj), by simp⟩
    refine ⟨fun i j x y hi hj hxy => ?_, fun k q hk => ?_⟩
    · obtain ⟨x0, a1, a2⟩ := key i x hi
      obtain ⟨y0, b1, b2⟩ := key j y hj
      exact hD.1 i j x0 y0 a1 b1 (a2.trans (hxy.trans b2.symm))
    · obtain ⟨q0, a1, a2⟩ := key k q hk
      rw [← a2]
      exact hD.2 k q0 a1
  obtain ⟨t2, a1, b1⟩ := kk r wc' T'.heap (locs ++ L) hK (by rw [e1]; exact hP') hD'
    ⟨Nat.le_trans hS.1 (by rw [e1]; exact hz), fun q h1 h2 => by rw [e1, hk q (Nat.lt_of_lt_of_le h1 hS.1) (fun z => h2 (hF q z))]; exact hS.2.1 q h1 h2, fun q hq => by
      rcases List.mem_append.mp hq with h | h
      · exact hS.2.2 q h
      · exact hF _ (hL q h)⟩ T' rfl X'
  exact ⟨t2, stp t2 a1, b1⟩
end TGC
/-- what a call's place says: a virtual one, of a method whose class is its receiver's -/
def tg_VS (M : tg_M) (pc : Nat) (M' : tg_M) (n : Nat) : Prop := tg_ok M' ∧ (∃ idx, decode M.2.1 pc = .ok (.invokevirtual idx, 3) ∧ Cond.methodLink M.1.cls idx M'.1 ∈ tg_T) ∧ Cond.instanceMethod M'.1 ∈ tg_T ∧ Cond.selects M'.1.cls M'.1 M'.1 ∈ tg_T ∧ (parseMethodDescriptor M'.1.desc).map (fun d => d.parameters.length) = some n ∧ M'.2.2.2.2.cells = 0 ∧ M'.2.2.2.2.slots = 0 ∧ M'.2.2.2.2.frames + 1 ≤ M.2.2.2.2.frames ∧ 8 + (M'.2.2.1 + 11) + M'.2.2.2.2.locals ≤ M.2.2.2.2.locals
def tg_SS0 (M : tg_M) (pc : Nat) (M' : tg_M) (n : Nat) : Prop := tg_ok M' ∧ (∃ idx, decode M.2.1 pc = .ok (.invokestatic idx, 3) ∧ Cond.methodLink M.1.cls idx M'.1 ∈ tg_T) ∧ Cond.static M'.1 ∈ tg_T ∧ (parseMethodDescriptor M'.1.desc).map (fun d => d.parameters.length) = some n ∧ M'.2.2.2.2.cells = 0 ∧ M'.2.2.2.2.slots = 0 ∧ M'.2.2.2.2.frames + 1 ≤ M.2.2.2.2.frames ∧ 8 + (M'.2.2.1 + 11) + M'.2.2.2.2.locals ≤ M.2.2.2.2.locals
theorem tg_blind (l : tg_Ln) (D : va_G) (cA : Nat → ClassId) (ad : Nat → Nat) (sz : Nat) (args : List Value) (w : List va_E) : FrameBlind (tg_Pc l D cA ad sz args w) := by
  intro a U g mk q
  obtain ⟨q0, q1, q2, q3, q4, q5⟩ := q
  exact ⟨q0, q1, q2, va_K.moved (u := U) (U := U.calling g mk a) (Vm.Alike.refl U.vm) q3, q4, q5.blind rfl rfl⟩
set_option maxHeartbeats 1000000 in
theorem tg_callV {l : tg_Ln} {M M' : tg_M} {n0 n pc kc ks : Nat} {K K' : Option Value → List va_E → Prop} {lv : List Value} {w : List va_E} (hs : tg_VS M pc M' n) (is : List Nat) {b ci : Nat} {As rest fs : List Value} {wc : List va_E} (hc : tg_Ct l M' 1000 (.ref b :: As) wc K')
    (hfr : is.map (fun i => w[i]?) = wc.map (fun c => some (tg_e (fun t => t) (tg_rn is) c))) (hnd : va_nd is = true) (his : is.length ≤ 1000) (hrb : wc[b]? = some (.inr (ci, fs))) (hcl : (vwCl[ci]?).map (fun q => q.1) = some M'.1.cls) (hn : As.length = n) (hla : (tg_la (.ref b :: As)).length ≤ M'.2.2.1) (hW : (rest.map fun v => v.category).sum ≤ 8)
    (hlen : ∀ r wc', K' r wc' → wc'.length = wc.length)
    (kk : ∀ r wc', K' r wc' → tg_G l M n0 K kc ks (pc + 3) lv ((r.map (tg_v (tg_rn is))).toList ++ rest) (tg_put (tg_rn is) w is wc')) :
    tg_G l M n0 K kc ks pc lv ((As.map (tg_v (tg_rn is))).reverse ++ .ref (tg_rn is b) :: rest) w := by
  obtain ⟨hok, ⟨idx, hdg, hlk⟩, hin, hse, hpd, hc0, hs0, hfrm, hloc⟩ := hs
  intro p e s m args below meth c D cA A ad H locs ls Qc C hkc hks hK hA hE hQ hP hD hS hL
  obtain ⟨hx, hb, hr, hml, hown, hts, hlk2, hnm⟩ := id C
  have hpart := tg_part (cA := cA) (ad := ad) hfr
  have hPc : va_P D vwCl (tg_w cA (fun k => ad (tg_rn is k)) 0 wc) H := hP.sub is (by rw [show is.filterMap (fun i => (tg_w cA ad 0 w)[i]?) = (is.map (fun i => (tg_w cA ad 0 w)[i]?)).filterMap id by simp [List.filterMap_map, Function.comp_def], hpart]; simp [List.filterMap_map, Function.comp_def])
  have hDc := hD.sub is hnd hpart
  have hF := va_free (A0 := A) hD hS hA is hpart
  obtain ⟨qc, hq1, hq2⟩ : ∃ qc, vwCl[ci]? = some qc ∧ qc.1 = M'.1.cls := by
    cases hh : vwCl[ci]? with
    | none => rw [hh] at hcl; cases hcl
    | some qc => rw [hh] at hcl; exact ⟨qc, rfl, Option.some.inj hcl⟩
  have hrun := va_runV (p := p) (l := l.1) (e := e) (R := M.2.2.2.2) (below := below) (meth := meth) (locs := locs) (cells := kc) (slots := ks) (As := As.map (tg_v (fun k => ad (tg_rn is k)))) (rest := rest.map (tg_v ad)) (g := F0 m pc ls (((As.map (tg_v (tg_rn is))).reverse ++ .ref (tg_rn is b) :: rest).map (tg_v ad))) (b := ad (tg_rn is b)) (Ts := tg_T) (n := n) ⟨hx, hb, hml, hown, hts⟩
    (tg_met hok hla hc D cA (fun k => ad (tg_rn is k)) H.size)
    (cwV (C := M'.1.cls) n hts (fun z hz => by
      rcases List.mem_append.mp hz with hz | hz
      · simp only [List.mem_cons, List.not_mem_nil, or_false] at hz
        rcases hz with rfl | rfl | rfl | rfl
        · exact tg_goodT _ hlk
        · exact tg_goodT _ hin
        · exact tg_goodT _ hse
        · exact tg_goodT _ hok.2.1
      · exact tg_goodM hok z hz) rfl rfl rfl ⟨rfl, hok.2.2.2.1, hok.2.2.2.2, hpd⟩ ⟨hfrm, hloc⟩)
    ⟨tg_blind _ _ _ _ _ _ _, by rw [← hq2]; exact va_recv hK hPc (q0 := b) hq1 (tg_w_at hrb), fun U hU hW => ⟨by simp [tg_v_ref], by rw [hU], by rw [hU]; exact hPc, va_K.moved hW.alike hK, hDc.weaken (fun _ _ _ _ => trivial), hE.go hW (fun q h1 h2 => by rw [hU]; exact hS.2.1 q h1 h2) (by rw [hU]; exact hS.1) hF (fun k hk => by
      have : tg_rn is k = k := by simp [tg_rn, List.getD, List.getElem?_eq_none (show is.length ≤ k by omega)]
      rw [this])⟩⟩
    rfl (by simp [hn]) hL.1 (by simp [tg_v_v, tg_v_ref, List.map_reverse, Function.comp_def]) (lv_room (by simpa [tg_v_cat, Function.comp_def] using hW)) hdg ⟨by omega, by omega⟩
  refine tgw_ret hrun hP hD hS hA hfr hlen (fun r wc' H1 locs1 hK' hP1 hD1 hS1 => ?_)
  have key := kk r wc' hK' p e s m args below meth c D cA A ad H1 locs1 ls Qc C hkc hks hK hA hE hQ hP1 hD1 hS1 hL
  rw [hc0, hs0]
  have e1 : (((r.map (tg_v (tg_rn is))).toList ++ rest).map (tg_v ad)) = (r.map (tg_v (fun k => ad (tg_rn is k)))).toList ++ rest.map (tg_v ad) := by
    cases r <;> simp [tg_v_v]
  rw [e1] at key
  exact key
set_option maxHeartbeats 1000000 in
theorem tg_callS {l : tg_Ln} {M M' : tg_M} {n0 n pc kc ks : Nat} {K K' : Option Value → List va_E → Prop} {lv : List Value} {w : List va_E} (hs : tg_SS0 M pc M' n) (is : List Nat) {As rest : List Value} {wc : List va_E} (hc : tg_Ct l M' 1000 As wc K')
    (hfr : is.map (fun i => w[i]?) = wc.map (fun c => some (tg_e (fun t => t) (tg_rn is) c))) (hnd : va_nd is = true) (his : is.length ≤ 1000) (hn : As.length = n) (hla : (tg_la As).length ≤ M'.2.2.1) (hW : (rest.map fun v => v.category).sum ≤ 8)
    (hlen : ∀ r wc', K' r wc' → wc'.length = wc.length)
    (kk : ∀ r wc', K' r wc' → tg_G l M n0 K kc ks (pc + 3) lv ((r.map (tg_v (tg_rn is))).toList ++ rest) (tg_put (tg_rn is) w is wc')) :
    tg_G l M n0 K kc ks pc lv ((As.map (tg_v (tg_rn is))).reverse ++ rest) w := by
  obtain ⟨hok, ⟨idx, hdg, hlk⟩, hst, hpd, hc0, hs0, hfrm, hloc⟩ := hs
  intro p e s m args below meth c D cA A ad H locs ls Qc C hkc hks hK hA hE hQ hP hD hS hL
  obtain ⟨hx, hb, hr, hml, hown, hts, hlk2, hnm⟩ := id C
  have hpart := tg_part (cA := cA) (ad := ad) hfr
  have hPc : va_P D vwCl (tg_w cA (fun k => ad (tg_rn is k)) 0 wc) H := hP.sub is (by rw [show is.filterMap (fun i => (tg_w cA ad 0 w)[i]?) = (is.map (fun i => (tg_w cA ad 0 w)[i]?)).filterMap id by simp [List.filterMap_map, Function.comp_def], hpart]; simp [List.filterMap_map, Function.comp_def])
  have hDc := hD.sub is hnd hpart
  have hF := va_free (A0 := A) hD hS hA is hpart
  have hrun := va_runS (p := p) (l := l.1) (e := e) (R := M.2.2.2.2) (below := below) (meth := meth) (locs := locs) (cells := kc) (slots := ks) (As := As.map (tg_v (fun k => ad (tg_rn is k)))) (rest := rest.map (tg_v ad)) (g := F0 m pc ls (((As.map (tg_v (tg_rn is))).reverse ++ rest).map (tg_v ad))) (Ts := tg_T) (n := n) ⟨hx, hb, hml, hown, hts⟩
    (tg_met hok hla hc D cA (fun k => ad (tg_rn is k)) H.size)
    (va_cwS n hts (fun z hz => by
      rcases List.mem_append.mp hz with hz | hz
      · simp only [List.mem_cons, List.not_mem_nil, or_false] at hz
        rcases hz with rfl | rfl | rfl
        · exact tg_goodT _ hlk
        · exact tg_goodT _ hst
        · exact tg_goodT _ hok.2.1
      · exact tg_goodM hok z hz) rfl rfl rfl ⟨hok.2.2.2.1, hok.2.2.2.2, hpd⟩ ⟨hfrm, hloc⟩)
    ⟨tg_blind _ _ _ _ _ _ _, fun U hU hW => ⟨rfl, by rw [hU], by rw [hU]; exact hPc, va_K.moved hW.alike hK, hDc.weaken (fun _ _ _ _ => trivial), hE.go hW (fun q h1 h2 => by rw [hU]; exact hS.2.1 q h1 h2) (by rw [hU]; exact hS.1) hF (fun k hk => by
      have : tg_rn is k = k := by simp [tg_rn, List.getD, List.getElem?_eq_none (show is.length ≤ k by omega)]
      rw [this])⟩⟩
    rfl (by simp [hn]) hL.1 (by simp [tg_v_v, tg_v_ref, List.map_reverse, Function.comp_def]) (lv_room (by simpa [tg_v_cat, Function.comp_def] using hW)) hdg ⟨by omega, by omega⟩
  refine tgw_ret hrun hP hD hS hA hfr hlen (fun r wc' H1 locs1 hK' hP1 hD1 hS1 => ?_)
  have key := kk r wc' hK' p e s m args below meth c D cA A ad H1 locs1 ls Qc C hkc hks hK hA hE hQ hP1 hD1 hS1 hL
  rw [hc0, hs0]
  have e1 : (((r.map (tg_v (tg_rn is))).toList ++ rest).map (tg_v ad)) = (r.map (tg_v (fun k => ad (tg_rn is k)))).toList ++ rest.map (tg_v ad) := by
    cases r <;> simp [tg_v_v]
  rw [e1] at key
  exact key
