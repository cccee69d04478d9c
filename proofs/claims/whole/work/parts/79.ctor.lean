/-! a constructor is called: its one cell, and those that it makes -/
/-- what the tables say of such a call -/
def tg_IS (M : tg_M) (pc : Nat) (M' : tg_M) : Prop := tg_ok M' ∧ (∃ idx, decode M.2.1 pc = .ok (.invokespecial idx, 3) ∧ (Cond.methodLink M.1.cls idx M'.1 ∈ tg_T ∨ (M.1.cls, idx, M'.1) ∈ tg_nest)) ∧ Cond.instanceMethod M'.1 ∈ tg_T ∧ M'.1.name = "<init>" ∧ M'.2.2.2.1 = none ∧ (parseMethodDescriptor M'.1.desc).map (fun d => d.parameters.length) = some 0 ∧ M'.2.2.2.2.frames + 1 ≤ M.2.2.2.2.frames ∧ 8 + (M'.2.2.1 + 11) + M'.2.2.2.2.locals ≤ M.2.2.2.2.locals
/-- the callee's places in the caller's world -/
def tg_sh (b n k : Nat) : Nat := if k = 0 then b else if k < 1000 then n + (k - 1) else k
section CTOR
variable {l : tg_Ln} {M M' : tg_M} {n0 n pc kc ks b : Nat} {K : Option Value → List va_E → Prop} {lv rest : List Value} {w cs : List va_E} {c0 c1 : va_E}
set_option maxHeartbeats 2000000 in
theorem tg_callI (hs : tg_IS M pc M') (hc : tg_Ct l M' 1 [.ref 0] [c0] (fun r w' => r = none ∧ w' = c1 :: cs)) (hwb : w[b]? = some (tg_e (fun t => t) (tg_rn [b]) c0)) (hla : 1 ≤ M'.2.2.1)
    (hlen : w.length = n) (hn0 : n0 ≤ n) (hn1 : n + cs.length < 1000) (hw : tg_bw n w) (hlv : ∀ v ∈ lv, tg_bv n v = true) (hst : ∀ v ∈ rest, tg_bv n v = true) (hcs : tg_bw (cs.length + 1) (c1 :: cs)) (hW : (rest.map fun v => v.category).sum ≤ 8) (hkc : kc + M'.2.2.2.2.cells ≤ M.2.2.2.2.cells) (hks : ks + M'.2.2.2.2.slots ≤ M.2.2.2.2.slots)
    (kk : tg_G l M n0 K (kc + M'.2.2.2.2.cells) (ks + M'.2.2.2.2.slots) (pc + 3) lv rest (w.set b (tg_e (fun t => t) (tg_sh b n) c1) ++ cs.map (tg_e (fun t => t) (tg_sh b n)))) :
    tg_G l M n0 K kc ks pc lv (.ref b :: rest) w := by
  obtain ⟨hok, ⟨idx, hdg, hlk⟩, hin, hnm', hret, hpd, hfrm, hloc⟩ := hs
  intro p e s m args below meth c D cA A ad H locs ls Qc C hkc0 hks0 hK hA hE hQ hP hD hS hL
  obtain ⟨hx, hb, hr, hml, hown, hts, hlk2, hnm⟩ := id C
  have hbl : b < w.length := (List.getElem?_eq_some_iff.mp hwb).1
  have hfr : [b].map (fun i => w[i]?) = [c0].map (fun c => some (tg_e (fun t => t) (tg_rn [b]) c)) := by simp only [List.map_cons, List.map_nil, hwb]
  have hpart := tg_part (cA := cA) (ad := ad) hfr
  have gen1 : ∀ is : List Nat, is.filterMap (fun i => (tg_w cA ad 0 w)[i]?) = (is.map (fun i => (tg_w cA ad 0 w)[i]?)).filterMap id := fun is => by simp [List.filterMap_map, Function.comp_def]
  have gen2 : ∀ l : va_W, (l.map some).filterMap id = l := fun l => by simp [List.filterMap_map, Function.comp_def]
  have hPc : va_P D vwCl (tg_w cA (fun k => ad (tg_rn [b] k)) 0 [c0]) H := hP.sub [b] (by rw [gen1 [b], hpart, gen2])
  have hDc := hD.sub [b] rfl hpart
  have hF := va_free (A0 := A) hD hS hA [b] hpart
  have hrnb : tg_rn [b] 0 = b := rfl
  have hrnk : ∀ k, 1000 ≤ k → tg_rn [b] k = k := fun k hk => by simp [tg_rn, List.getD, List.getElem?_eq_none (show [b].length ≤ k by simp; omega)]
  have hPre : PreS s H (tg_Pc l D cA (fun k => ad (tg_rn [b] k)) H.size [.ref 0] [c0]) (.ref (ad b) :: []) :=
    ⟨tg_blind _ _ _ _ _ _ _, fun U hU hW => ⟨by simp [tg_v_ref, hrnb], by rw [hU], by rw [hU]; exact hPc, va_K.moved hW.alike hK, hDc.weaken (fun _ _ _ _ => trivial), hE.go hW (fun q h1 h2 => by rw [hU]; exact hS.2.1 q h1 h2) (by rw [hU]; exact hS.1) hF (fun k hk => by rw [hrnk k hk])⟩⟩
  have hmet := tg_met (l := l) hok (show (tg_la [.ref 0]).length ≤ M'.2.2.1 from hla) hc D cA (fun k => ad (tg_rn [b] k)) H.size
  have hrun : va_Run p l.1 e M.2.2.2.2 s m args below meth c H locs kc ks M'.2.2.2.2.cells M'.2.2.2.2.slots (F0 m pc ls (.ref (ad b) :: rest.map (tg_v ad))) (rest.map (tg_v ad)) (tg_Qc D cA (fun k => ad (tg_rn [b] k)) H.size 1 [c0] (fun r w' => r = none ∧ w' = c1 :: cs) (Value.ref (ad b) :: []).toArray) (va_A (tg_w cA (fun k => ad (tg_rn [b] k)) 0 [c0]) H.size) := by
    have hlenW : 2 * (F0 m pc ls (.ref (ad b) :: rest.map (tg_v ad))).monitorRoom + ((rest.map (tg_v ad)).map fun v => v.category).sum ≤ 8 := lv_room (by simpa [tg_v_cat, Function.comp_def] using hW)
    rcases hlk with hlk | hlk
    · exact va_runI (As := []) (Ts := tg_T) (n := 0) ⟨hx, hb, hml, hown, hts⟩ hmet
        (cwI 0 hts (tg_goodM hok) (by rw [← hret]; rfl) rfl rfl (hts _ hok.2.1) (hts _ hlk) (hts _ hin) hnm' ⟨hok.2.2.2.1, hok.2.2.2.2, hpd⟩ ⟨hfrm, hloc⟩) hPre rfl rfl hL.1 rfl hlenW hdg ⟨hkc, hks⟩
    · exact va_runIN (host := RX8) (As := []) (Ts := tg_T) (n := 0) (bytes := M'.2.1) (maxL := M'.2.2.1) ⟨hx, hb, hml, hown, hts⟩ hmet
        ⟨va_cnB 0 hts (tg_goodM hok) (by rw [← hret]; rfl) rfl rfl (hE.2.2.2.2.1 _ hlk) (hts _ hok.2.1) ⟨hok.2.2.2.1, hok.2.2.2.2, hpd⟩ ⟨hfrm, hloc⟩, hnm', hts _ hin⟩ hPre rfl rfl hL.1 rfl hlenW hdg ⟨hkc, hks⟩
  intro T hT X
  obtain ⟨v, st₀, t, T', L, h0, X', hLL, e1, e2, ⟨r, wc', ad', hv, ⟨rfl, rfl⟩, had, hP1, hD1, hz, hk⟩, stp⟩ := hrun T hT X
  cases hv
  rw [h0] at hz hk
  have had0 : ad' 0 = ad b := had 0 (Or.inl (by omega))
  have hadk : ∀ k, 1000 ≤ k → ad' k = ad k := fun k hk => by
    have := had k (Or.inr hk)
    simp only [hrnk k hk] at this
    exact this
  obtain ⟨adn, hadn⟩ : ∃ adn : Nat → Nat, adn = fun k => if n ≤ k ∧ k < 1000 then ad' (k - n + 1) else ad k := ⟨_, rfl⟩
  have hag : ∀ k, k < n ∨ 1000 ≤ k → adn k = ad k := fun k hk => by rw [hadn]; exact if_neg (by omega)
  have hnew : ∀ k, n ≤ k → k < 1000 → adn k = ad' (k - n + 1) := fun k h1 h2 => by rw [hadn]; exact if_pos ⟨h1, h2⟩
  have hshk : ∀ k, k < cs.length + 1 ∨ 1000 ≤ k → adn (tg_sh b n k) = ad' k := fun k hk => by
    unfold tg_sh
    by_cases q0 : k = 0
    · rw [if_pos q0, q0, hag b (Or.inl (by omega)), had0]
    · rw [if_neg q0]
      by_cases q1 : k < 1000
      · rw [if_pos q1, hnew _ (by omega) (by omega)]
        congr 1
        omega
      · rw [if_neg q1, hag k (Or.inr (by omega)), hadk k (by omega)]
  have hce : ∀ c ∈ c1 :: cs, tg_e cA adn (tg_e (fun t => t) (tg_sh b n) c) = tg_e cA ad' c := fun c hm => by
    rw [tg_e_e]
    exact tg_be_agree (ad := ad') (ad' := fun k => adn (tg_sh b n k)) cA hshk (hcs c hm)
  obtain ⟨W', hW'⟩ : ∃ W' : List va_E, W' = w.set b (tg_e (fun t => t) (tg_sh b n) c1) ++ cs.map (tg_e (fun t => t) (tg_sh b n)) := ⟨_, rfl⟩
  -- the cells of the new world
  have hcell : ∀ (j : Nat) (q : Nat × va_E), (tg_w cA adn 0 W')[j]? = some q → (j < n ∧ j ≠ b ∧ (tg_w cA ad 0 w)[j]? = some q) ∨ (j = b ∧ (tg_w cA ad' 0 (c1 :: cs))[0]? = some q) ∨ (n ≤ j ∧ (tg_w cA ad' 0 (c1 :: cs))[j - n + 1]? = some q ∧ j - n < cs.length) := by
    intro j q hq
    rw [tg_w_get] at hq
    cases hx2 : W'[j]? with
    | none => rw [hx2] at hq; cases hq
    | some x =>
      rw [hx2] at hq
      simp only [Option.map_some, Option.some.injEq, Nat.zero_add] at hq
      subst hq
      rw [hW'] at hx2
      by_cases hj : j < n
      · rw [List.getElem?_append_left (by simp; omega)] at hx2
        by_cases hjb : j = b
        · subst hjb
          rw [List.getElem?_set_self hbl] at hx2
          cases hx2
          refine Or.inr (Or.inl ⟨rfl, ?_⟩)
          simp only [tg_w, List.getElem?_cons_zero, hag j (Or.inl hj), had0, hce c1 List.mem_cons_self]
        · rw [List.getElem?_set_ne (Ne.symm hjb)] at hx2
          refine Or.inl ⟨hj, hjb, ?_⟩
          rw [tg_w_at hx2, hag j (Or.inl hj), tg_be_agree cA hag (hw x (List.mem_of_getElem? hx2))]
      · rw [List.getElem?_append_right (by simp; omega), List.length_set, hlen, List.getElem?_map] at hx2
        cases hy : cs[j - n]? with
        | none => rw [hy] at hx2; cases hx2
        | some y =>
          rw [hy] at hx2
          cases hx2
          have hjl := (List.getElem?_eq_some_iff.mp hy).1
          refine Or.inr (Or.inr ⟨by omega, ?_, hjl⟩)
          rw [tg_w_get, List.getElem?_cons_succ, hy]
          simp only [Option.map_some, Nat.zero_add, hnew j (by omega) (by omega), hce y (List.mem_cons_of_mem _ (List.mem_of_getElem? hy))]
  have hlt : ∀ (j : Nat) (q : Nat × va_E), (tg_w cA ad 0 w)[j]? = some q → q.1 < H.size := fun j q hq => (hP j q hq).lt
  have hb0 : ∃ xb, (tg_w cA ad 0 w)[b]? = some (ad b, xb) := ⟨_, tg_w_at hwb⟩
  obtain ⟨xb, hxb⟩ := hb0
  have hc0 : (tg_w cA ad' 0 (c1 :: cs))[0]? = some (ad b, tg_e cA ad' c1) := by simp only [tg_w, List.getElem?_cons_zero, had0]
  have hnewA : ∀ (i : Nat) (q : Nat × va_E), (tg_w cA ad' 0 (c1 :: cs))[i + 1]? = some q → H.size ≤ q.1 := by
    intro i q hq
    rcases hD1.2 (i + 1) q hq with ⟨k2, x', z⟩ | z
    · have hk2 : k2 = 0 := by
        have := (List.getElem?_eq_some_iff.mp z).1
        rw [tg_w_len] at this
        simp at this
        exact this
      subst hk2
      simp only [tg_w, List.getElem?_cons_zero, Option.some.injEq, Prod.mk.injEq, hrnb] at z
      have := hD1.1 (i + 1) 0 q _ hq hc0 z.1.symm
      omega
    · exact z
  have hPn : va_P D vwCl (tg_w cA adn 0 W') t.heap := by
    intro j q hq
    rcases hcell j q hq with ⟨hj, hjb, hq⟩ | ⟨hj, hq⟩ | ⟨hj, hq, -⟩
    · have g3 := hP j q hq
      refine g3.kept (hk _ g3.lt (fun z => ?_))
      rcases z with ⟨k2, x', z⟩ | z
      · have hk2 : k2 = 0 := by
          have := (List.getElem?_eq_some_iff.mp z).1
          rw [tg_w_len] at this
          simp at this
          exact this
        subst hk2
        simp only [tg_w, List.getElem?_cons_zero, Option.some.injEq, Prod.mk.injEq, hrnb] at z
        exact hjb (hD.1 j b q _ hq hxb z.1.symm)
      · exact absurd g3.lt (Nat.not_lt.mpr z)
    · exact hP1 0 q hq
    · exact hP1 _ q hq
  have hDn : va_D A (tg_w cA adn 0 W') := by
    refine ⟨fun i j x y hi hj hxy => ?_, fun k q hq => ?_⟩
    · rcases hcell i x hi with ⟨a1, a2, a3⟩ | ⟨a1, a3⟩ | ⟨a1, a3, a4⟩ <;> rcases hcell j y hj with ⟨b1, b2, b3⟩ | ⟨b1, b3⟩ | ⟨b1, b3, b4⟩
      · exact hD.1 i j x y a3 b3 hxy
      · rw [hc0] at b3
        cases b3
        have := hD.1 i b x _ a3 hxb hxy
        omega
      · have h1 := hlt i x a3
        have h2 := hnewA _ y b3
        omega
      · rw [hc0] at a3
        cases a3
        have := hD.1 b j _ y hxb b3 hxy
        omega
      · omega
      · rw [hc0] at a3
        cases a3
        have h1 := hlt b _ hxb
        have h2 := hnewA _ y b3
        have h3 : ad b = y.1 := hxy
        have h4 : ad b < H.size := h1
        omega
      · have h1 := hlt j y b3
        have h2 := hnewA _ x a3
        omega
      · rw [hc0] at b3
        cases b3
        have h1 : ad b < H.size := hlt b _ hxb
        have h2 := hnewA _ x a3
        have h3 : x.1 = ad b := hxy
        omega
      · have := hD1.1 _ _ x y a3 b3 hxy
        omega
    · rcases hcell k q hq with ⟨a1, a2, a3⟩ | ⟨a1, a3⟩ | ⟨a1, a3, a4⟩
      · exact hD.2 k q a3
      · rw [hc0] at a3
        cases a3
        exact (show A (ad b) from hD.2 b (ad b, xb) hxb)
      · exact hA _ (Nat.le_trans hS.1 (hnewA _ q a3))
  have hSn : va_S A s.heap T'.heap (locs ++ L) := ⟨Nat.le_trans hS.1 (by rw [e1]; exact hz), fun q h1 h2 => by rw [e1, hk q (Nat.lt_of_lt_of_le h1 hS.1) (fun z => h2 (hF q z))]; exact hS.2.1 q h1 h2, fun q hq => by
      rcases List.mem_append.mp hq with h | h
      · exact hS.2.2 q h
      · exact hF _ (hLL q h)⟩
  rw [← hW'] at kk
  have key := kk p e s m args below meth c D cA A adn T'.heap (locs ++ L) ls Qc C hkc hks hK hA (hE.ren (fun k hk => hag k (Or.inr hk))) (fun r w' ad'' t k1 k2 => hQ r w' ad'' t k1 (fun j hj => (k2 j hj).trans (hag j (by omega)))) (by rw [e1]; exact hPn) hDn hSn (tg_L_agree hag hlv hL)
  rw [tg_bvs_agree hag hst] at key
  obtain ⟨t2, a1, b1⟩ := key T' rfl X'
  exact ⟨t2, stp t2 a1, b1⟩
end CTOR
