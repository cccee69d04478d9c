/-! THE CLASS: CubeClosures: its world -/
abbrev iC : List Nat := [9, 10, 11, 12, 13, 14, 15, 16, 17, 18, 19, 20, 21, 22, 23, 24]
abbrev iT : List Nat := [10, 11, 12, 13]
abbrev iP : List Nat := [25, 26, 27, 28, 29]
abbrev iPT : List Nat := [25, 26, 27, 28, 29, 10, 11, 12, 13]
abbrev iL : List Nat := [40, 41, 42, 43, 44, 45]
abbrev iX : List Nat := [2, 3]
abbrev iKT : List Nat := [1, 2, 3, 4, 5, 6, 7, 8, 10, 11, 12, 13]
abbrev iQ : List Nat := [14, 15]
def kpF : Nat → Option Nat := fun j => if j = 0 then some 31 else if j = 1 then some 35 else none
def wA (old : Int32) (told : Int64) (dn : Int32) (tx : Nat → Int32) (len ts tb : Int32) (gd : Int32) (gv : Nat → Int32) (gn : Int32) (gc gm : Nat → Int32) (ge : Int32) (nv : Nat → Int32) (td : Int32) (tv : Nat → Int32) (tn : Int32) (tc tm : Nat → Int32) (te : Int32) (qd qv : Int32) (en : Nat → Int32) (hv : Nat → Int64) (cz : Int32) (r1 r2 r3 r4 : Nat) (a8 : Nat → Int32) (a9 : Nat → Int64) (a10 : Nat → Int32) (a11 : Nat → Int64) (ic al cs on : Nat → Int32) (pz px : Int32) (pk pn pc pm : Nat → Int32) (kd : Int32) (kv : Nat → Int32) (kn : Int32) (kc km : Nat → Int32) (ke : Int32) (jd : Int32) (jv : Nat → Int32) (jn : Int32) (jc jm : Nat → Int32) (je : Int32) (kp ln : Nat → Int32) (P : Nat → Nat → Int64) : List va_E :=
  [.inr (7, [.ref 1, .ref 2, .ref 9, .ref 10, .ref 25, .ref 30, .ref 39, .ref 40, .int old, .long told]),
   .inr (1, [.ref 2, .ref 4, .int dn, .ref 8]), .inr (6, [.ref 3, .int len, .int ts, .int tb]), .inl (2, 200, .inl tx), .inr (5, [.int gd, .ref 5, .int gn, .ref 6, .ref 7, .int ge]), .inl (0, 4, .inl gv), .inl (0, 40, .inl gc), .inl (0, 40, .inl gm), .inl (0, 4, .inl nv),
   .inr (0, [.ref 10, .ref 14, .ref 16, .int cz, .ref (tg_rn iC r1), .ref (tg_rn iC r2), .ref (tg_rn iC r3), .ref (tg_rn iC r4), .ref 21, .ref 22, .ref 23, .ref 24]), .inr (5, [.int td, .ref 11, .int tn, .ref 12, .ref 13, .int te]), .inl (0, 4, .inl tv), .inl (0, 40, .inl tc), .inl (0, 40, .inl tm), .inr (3, [.int qd, .int qv, .ref 15]), .inl (0, 16, .inl en), .inl (3, 24, .inr (.inl hv)), .inl (0, 640, .inl a8), .inl (3, 640, .inr (.inl a9)), .inl (0, 640, .inl a10), .inl (3, 640, .inr (.inl a11)), .inl (1, 640, .inl ic), .inl (0, 41, .inl al), .inl (0, 41, .inl cs), .inl (0, 16, .inl on),
   .inr (4, [.int pz, .int px, .ref 26, .ref 27, .ref 28, .ref 29]), .inl (0, 8, .inl pk), .inl (0, 8, .inl pn), .inl (0, 8, .inl pc), .inl (0, 8, .inl pm),
   .inl (4, 2, .inr (.inr (.inr (.inr kpF)))), .inr (5, [.int kd, .ref 32, .int kn, .ref 33, .ref 34, .int ke]), .inl (0, 4, .inl kv), .inl (0, 40, .inl kc), .inl (0, 40, .inl km), .inr (5, [.int jd, .ref 36, .int jn, .ref 37, .ref 38, .int je]), .inl (0, 4, .inl jv), .inl (0, 40, .inl jc), .inl (0, 40, .inl jm),
   .inl (1, 2, .inl kp), .inr (2, [.ref 41, .ref 42]), .inl (0, 3, .inl ln), .inl (5, 3, .inr (.inr (.inr (.inr (fun j => (rowF j).map (tg_rn iL)))))), .inl (3, 12, .inr (.inl (P 0))), .inl (3, 12, .inr (.inl (P 1))), .inl (3, 12, .inr (.inl (P 2)))]
theorem tg_rw {l : tg_Ln} {M : tg_M} {n0 : Nat} {K : Option Value → List va_E → Prop} {kc ks pc : Nat} {lv st : List Value} {w w' : List va_E} (h : w = w') (k : tg_G l M n0 K kc ks pc lv st w') : tg_G l M n0 K kc ks pc lv st w := h ▸ k
theorem tg_put_same (g : Nat → Nat) : ∀ (is : List Nat) (cs w : List va_E), is.map (fun i => w[i]?) = cs.map (fun c => some (tg_e (fun t => t) g c)) → tg_put g w is cs = w
  | [], cs, w, h => by cases cs <;> rfl
  | i :: is, [], w, h => rfl
  | i :: is, c :: cs, w, h => by
    simp only [List.map_cons, List.cons.injEq] at h
    have e : w.set i (tg_e (fun t => t) g c) = w := by
      apply List.ext_getElem?
      intro j
      by_cases q : i = j
      · subst q
        rw [List.getElem?_set_self (List.getElem?_eq_some_iff.mp h.1).1, h.1]
      · rw [List.getElem?_set_ne q]
    show tg_put g (w.set i _) is cs = w
    rw [e]
    exact tg_put_same g is cs w h.2
/-- a part of the world that is only read -/
theorem tg_cR {l : tg_Ln} {M M' : tg_M} {n0 n pc kc ks : Nat} {K : Option Value → List va_E → Prop} {lv st : List Value} {w : List va_E} {v : Value} {As rest : List Value} {b ci : Nat} {fs : List Value} (is : List Nat) {wc : List va_E} (hs : tg_VS M pc M' n) (hc : tg_Ct l M' 1000 (.ref b :: As) wc (fun r w => r = some v ∧ w = wc)) (hst : st = (As.map (tg_v (tg_rn is))).reverse ++ .ref (tg_rn is b) :: rest) (hfr : is.map (fun i => w[i]?) = wc.map (fun c => some (tg_e (fun t => t) (tg_rn is) c))) (hrb : wc[b]? = some (.inr (ci, fs))) (hcl : (vwCl[ci]?).map (fun q => q.1) = some M'.1.cls) (hn : As.length = n) (hla : (tg_la (.ref b :: As)).length ≤ M'.2.2.1) (hnd : va_nd is = true) (his : is.length ≤ 1000) (hW : (rest.map fun v => v.category).sum ≤ 8)
    (kk : tg_G l M n0 K kc ks (pc + 3) lv (tg_v (tg_rn is) v :: rest) w) : tg_G l M n0 K kc ks pc lv st w :=
  tg_cV is hs hc hst hfr hrb hcl hn hla hnd his hW (fun r wc' h => by rw [h.2]) (fun r wc' h => by
    obtain ⟨rfl, rfl⟩ := h
    rw [tg_put_same _ is wc' w hfr]
    exact kk)
section PUTS
variable {old dn len ts tb gd gn ge td tn te qd qv cz pz px kd kn ke jd jn je : Int32} {told : Int64} {tx gv gc gm nv tv tc tm en a8 a10 ic al cs on pk pn pc pm kv kc km jv jc jm kp ln : Nat → Int32} {hv a9 a11 : Nat → Int64} {P : Nat → Nat → Int64} {r1 r2 r3 r4 : Nat}
variable {td' tn' te' qd' qv' cz' pz' px' : Int32} {tv' tc' tm' en' a8' a10' ic' al' cs' on' pk' pn' pc' pm' ln' : Nat → Int32} {hv' a9' a11' : Nat → Int64} {P' : Nat → Nat → Int64} {r1' r2' r3' r4' : Nat}
theorem put_C : tg_put (tg_rn iC) (wA old told dn tx len ts tb gd gv gn gc gm ge nv td tv tn tc tm te qd qv en hv cz r1 r2 r3 r4 a8 a9 a10 a11 ic al cs on pz px pk pn pc pm kd kv kn kc km ke jd jv jn jc jm je kp ln P) iC (wC td' tv' tn' tc' tm' te' qd' qv' en' hv' cz' r1' r2' r3' r4' a8' a9' a10' a11' ic' al' cs' on') = (wA old told dn tx len ts tb gd gv gn gc gm ge nv td' tv' tn' tc' tm' te' qd' qv' en' hv' cz' r1' r2' r3' r4' a8' a9' a10' a11' ic' al' cs' on' pz px pk pn pc pm kd kv kn kc km ke jd jv jn jc jm je kp ln P) := by
  unfold wA wC
  simp only [tg_put, List.set_cons_succ, List.set_cons_zero]
  rfl
theorem put_T : tg_put (tg_rn iT) (wA old told dn tx len ts tb gd gv gn gc gm ge nv td tv tn tc tm te qd qv en hv cz r1 r2 r3 r4 a8 a9 a10 a11 ic al cs on pz px pk pn pc pm kd kv kn kc km ke jd jv jn jc jm je kp ln P) iT (wT td' tv' tn' tc' tm' te') = (wA old told dn tx len ts tb gd gv gn gc gm ge nv td' tv' tn' tc' tm' te' qd qv en hv cz r1 r2 r3 r4 a8 a9 a10 a11 ic al cs on pz px pk pn pc pm kd kv kn kc km ke jd jv jn jc jm je kp ln P) := by
  unfold wA wT
  simp only [tg_put, List.set_cons_succ, List.set_cons_zero]
  rfl
theorem put_P : tg_put (tg_rn iP) (wA old told dn tx len ts tb gd gv gn gc gm ge nv td tv tn tc tm te qd qv en hv cz r1 r2 r3 r4 a8 a9 a10 a11 ic al cs on pz px pk pn pc pm kd kv kn kc km ke jd jv jn jc jm je kp ln P) iP (wH pz' px' pk' pn' pc' pm') = (wA old told dn tx len ts tb gd gv gn gc gm ge nv td tv tn tc tm te qd qv en hv cz r1 r2 r3 r4 a8 a9 a10 a11 ic al cs on pz' px' pk' pn' pc' pm' kd kv kn kc km ke jd jv jn jc jm je kp ln P) := by
  unfold wA wH
  simp only [tg_put, List.set_cons_succ, List.set_cons_zero]
  rfl
theorem put_PT : tg_put (tg_rn iPT) (wA old told dn tx len ts tb gd gv gn gc gm ge nv td tv tn tc tm te qd qv en hv cz r1 r2 r3 r4 a8 a9 a10 a11 ic al cs on pz px pk pn pc pm kd kv kn kc km ke jd jv jn jc jm je kp ln P) iPT (wHT pz' px' pk' pn' pc' pm' td' tv' tn' tc' tm' te') = (wA old told dn tx len ts tb gd gv gn gc gm ge nv td' tv' tn' tc' tm' te' qd qv en hv cz r1 r2 r3 r4 a8 a9 a10 a11 ic al cs on pz' px' pk' pn' pc' pm' kd kv kn kc km ke jd jv jn jc jm je kp ln P) := by
  unfold wA wHT
  simp only [tg_put, List.set_cons_succ, List.set_cons_zero]
  rfl
theorem put_L : tg_put (tg_rn iL) (wA old told dn tx len ts tb gd gv gn gc gm ge nv td tv tn tc tm te qd qv en hv cz r1 r2 r3 r4 a8 a9 a10 a11 ic al cs on pz px pk pn pc pm kd kv kn kc km ke jd jv jn jc jm je kp ln P) iL (wL ln' P') = (wA old told dn tx len ts tb gd gv gn gc gm ge nv td tv tn tc tm te qd qv en hv cz r1 r2 r3 r4 a8 a9 a10 a11 ic al cs on pz px pk pn pc pm kd kv kn kc km ke jd jv jn jc jm je kp ln' P') := by
  unfold wA wL
  simp only [tg_put, List.set_cons_succ, List.set_cons_zero]
  rfl
end PUTS
/-- which of the two pairs of rows is the list -/
def cwW (sw : Bool) (cd : Nat → Int32) (cv : Nat → Int64) (oc : Nat → Int32) (ov : Nat → Int64) (r1 r2 r3 r4 : Nat) (a8 : Nat → Int32) (a9 : Nat → Int64) (a10 : Nat → Int32) (a11 : Nat → Int64) : Prop := match sw with
  | false => (r1 = 8 ∧ r2 = 9 ∧ r3 = 10 ∧ r4 = 11) ∧ a8 = cd ∧ a9 = cv ∧ a10 = oc ∧ a11 = ov
  | true => (r1 = 10 ∧ r2 = 11 ∧ r3 = 8 ∧ r4 = 9) ∧ a8 = oc ∧ a9 = ov ∧ a10 = cd ∧ a11 = cv
def cellJ (r1 r2 r3 r4 : Nat) : Prop := (r1 = 8 ∧ r2 = 9 ∧ r3 = 10 ∧ r4 = 11) ∨ (r1 = 10 ∧ r2 = 11 ∧ r3 = 8 ∧ r4 = 9)
/-- the cells are those of a table -/
def cellO (d n : Nat) (c : Nat → Nat) (hv : Nat → Int64) (cz : Int32) (r1 r2 r3 r4 : Nat) (a8 : Nat → Int32) (a9 : Nat → Int64) (a10 : Nat → Int32) (a11 : Nat → Int64) (ic al cs on : Nat → Int32) : Prop := ∃ sw cd cv oc ov, cwW sw cd cv oc ov r1 r2 r3 r4 a8 a9 a10 a11 ∧ clsO d n c hv cz cd cv ic al cs on
def sA (told : Int64) (tx : Nat → Int32) (L d : Nat) (v : Nat → Nat) (n : Nat) (c : Nat → Nat) (u : Nat → Int32) (s z p : Nat) (pk pn pc pm : Nat → Int32) (kd : Int32) (kv : Nat → Int32) (kn : Int32) (kc km : Nat → Int32) (ke : Int32) (jd : Int32) (jv : Nat → Int32) (jn : Int32) (jc jm : Nat → Int32) (je : Int32) (kp ln : Nat → Int32) (P : Nat → Nat → Int64) (w : List va_E) : Prop :=
  ∃ (old dn ts tb gd : Int32) (gv : Nat → Int32) (gn : Int32) (gc gm : Nat → Int32) (ge : Int32) (nv : Nat → Int32) (td : Int32) (tv : Nat → Int32) (tn : Int32) (tc tm : Nat → Int32) (te qd qv : Int32) (en : Nat → Int32) (hv : Nat → Int64) (cz : Int32) (r1 r2 r3 r4 : Nat) (a8 : Nat → Int32) (a9 : Nat → Int64) (a10 : Nat → Int32) (a11 : Nat → Int64) (ic al cs on : Nat → Int32), tC td tv tn tc tm te d v n c u s ∧ vOK d v ∧ eOK d v n c u s ∧ (old = 0 ∨ old = 1) ∧ cellJ r1 r2 r3 r4 ∧ (old = 0 → cellO d n c hv cz r1 r2 r3 r4 a8 a9 a10 a11 ic al cs on) ∧ w = (wA old told dn tx (nI L) ts tb gd gv gn gc gm ge nv td tv tn tc tm te qd qv en hv cz r1 r2 r3 r4 a8 a9 a10 a11 ic al cs on (nI z) (nI p) pk pn pc pm kd kv kn kc km ke jd jv jn jc jm je kp ln P)
theorem cOK_of {d n s : Nat} {v c : Nat → Nat} {u : Nat → Int32} (h : eOK d v n c u s) : cOK d n c := fun i hi => ⟨(h.2.2.1 i hi).1, fun t ht => by
  have h1 := ((h.2.2.1 i hi).2 (d - 1 - t) (by omega)).1
  rw [figN_dg, show d - 1 - (d - 1 - t) = t by omega] at h1
  exact h1⟩
theorem dgv_of {d n s : Nat} {v c : Nat → Nat} {u : Nat → Int32} (h : eOK d v n c u s) : ∀ k, k < d → ∀ i, i < n → dg (d - 1 - k) (c i) ≤ v k := fun k hk i hi => by
  have h1 := ((h.2.2.1 i hi).2 k hk).2
  rw [figN_dg] at h1
  exact h1
section MAIN0
variable {l : tg_Ln} {K : Option Value → List va_E → Prop} {tv tc tm en ic al cs on a8 a10 : Nat → Int32} {hv a9 a11 : Nat → Int64} {td tn te qd qv cz : Int32} {d n s r1 r2 r3 r4 : Nat} {v c : Nat → Nat}
theorem kX0_list' (hJ : cellJ r1 r2 r3 r4) (hd : d ≤ 4) (hn : n ≤ 40) (hc : cOK d n c) (ht : ∀ i, i < n → tc i = nI (c i)) (htv : ∀ k, k < d → tv k = nI (v k) ∧ v k ≤ 6) (hcv : ∀ k, k < d → ∀ i, i < n → dg (d - 1 - k) (c i) ≤ v k) : tg_Ct l mX0_list 1000 [.ref 0] (wC (nI d) tv (nI n) tc tm te qd qv en hv cz r1 r2 r3 r4 a8 a9 a10 a11 ic al cs on) (fun r w => r = none ∧ ∃ hv cz r1 r2 r3 r4 a8 a9 a10 a11 ic al cs on, cellJ r1 r2 r3 r4 ∧ cellO d n c hv cz r1 r2 r3 r4 a8 a9 a10 a11 ic al cs on ∧ w = (wC (nI d) tv (nI n) tc tm te qd qv en hv cz r1 r2 r3 r4 a8 a9 a10 a11 ic al cs on)) := by
  have key : ∀ {sw cd cv oc ov} {w : List va_E}, (∃ hv cz ic al cs on, clsO d n c hv cz cd cv ic al cs on ∧ w = wCs sw (nI d) tv (nI n) tc tm te qd qv en hv cz cd cv oc ov ic al cs on) → ∃ hv cz r1 r2 r3 r4 a8 a9 a10 a11 ic al cs on, cellJ r1 r2 r3 r4 ∧ cellO d n c hv cz r1 r2 r3 r4 a8 a9 a10 a11 ic al cs on ∧ w = (wC (nI d) tv (nI n) tc tm te qd qv en hv cz r1 r2 r3 r4 a8 a9 a10 a11 ic al cs on) := by
    rintro sw cd cv oc ov w ⟨hv, cz, ic, al, cs, on, h, rfl⟩
    cases sw with
    | false => exact ⟨hv, cz, 8, 9, 10, 11, cd, cv, oc, ov, ic, al, cs, on, Or.inl ⟨rfl, rfl, rfl, rfl⟩, ⟨false, cd, cv, oc, ov, ⟨⟨rfl, rfl, rfl, rfl⟩, rfl, rfl, rfl, rfl⟩, h⟩, rfl⟩
    | true => exact ⟨hv, cz, 10, 11, 8, 9, oc, ov, cd, cv, ic, al, cs, on, Or.inr ⟨rfl, rfl, rfl, rfl⟩, ⟨true, cd, cv, oc, ov, ⟨⟨rfl, rfl, rfl, rfl⟩, rfl, rfl, rfl, rfl⟩, h⟩, rfl⟩
  rcases hJ with ⟨rfl, rfl, rfl, rfl⟩ | ⟨rfl, rfl, rfl, rfl⟩
  · refine tg_G.mono (kX0_list (sw := false) (hv := hv) (cz := cz) (cd := a8) (cv := a9) (oc := a10) (ov := a11) (ic := ic) (al := al) (cs := cs) (on := on) (tm := tm) (te := te) (qd := qd) (qv := qv) (en := en) hd hn hc ht htv hcv) ?_
    rintro r w ⟨rfl, sw, hv, cz, cd, cv, oc, ov, ic, al, cs, on, h, rfl⟩
    exact ⟨rfl, key ⟨hv, cz, ic, al, cs, on, h, rfl⟩⟩
  · refine tg_G.mono (kX0_list (sw := true) (hv := hv) (cz := cz) (cd := a10) (cv := a11) (oc := a8) (ov := a9) (ic := ic) (al := al) (cs := cs) (on := on) (tm := tm) (te := te) (qd := qd) (qv := qv) (en := en) hd hn hc ht htv hcv) ?_
    rintro r w ⟨rfl, sw, hv, cz, cd, cv, oc, ov, ic, al, cs, on, h, rfl⟩
    exact ⟨rfl, key ⟨hv, cz, ic, al, cs, on, h, rfl⟩⟩
theorem kX0_codeInCube' {q : Nat} (hd : d ≤ 4) (hn : n ≤ 40) (hs : s ≤ 9) (hq : q < 2 ^ 31) (hO : cellO d n c hv cz r1 r2 r3 r4 a8 a9 a10 a11 ic al cs on) : tg_Ct l mX0_codeInCube 1000 [.ref 0, .int (nI q)] (wC (nI d) tv (nI n) tc tm (nI s) qd qv en hv cz r1 r2 r3 r4 a8 a9 a10 a11 ic al cs on) (fun r w => r = some (.int (oI (nth (cuB d n s c) (7 ^ d) q))) ∧ w = (wC (nI d) tv (nI n) tc tm (nI s) qd qv en hv cz r1 r2 r3 r4 a8 a9 a10 a11 ic al cs on)) := by
  obtain ⟨sw, cd, cv, oc, ov, hw, h⟩ := hO
  cases sw with
  | false =>
    obtain ⟨⟨rfl, rfl, rfl, rfl⟩, rfl, rfl, rfl, rfl⟩ := hw
    exact kX0_codeInCubef hd hn hs hq h
  | true =>
    obtain ⟨⟨rfl, rfl, rfl, rfl⟩, rfl, rfl, rfl, rfl⟩ := hw
    exact kX0_codeInCubet hd hn hs hq h
theorem kX0_parted' (hd : d ≤ 4) (hn : n ≤ 40) (hs : s ≤ 9) (hO : cellO d n c hv cz r1 r2 r3 r4 a8 a9 a10 a11 ic al cs on) : tg_Ct l mX0_parted 1000 [.ref 0] (wC (nI d) tv (nI n) tc tm (nI s) qd qv en hv cz r1 r2 r3 r4 a8 a9 a10 a11 ic al cs on) (fun r w => r = some (.ref 5) ∧ ∃ en, (∀ q, q < 16 → en q = nI (enF d n s c (7 ^ d) q)) ∧ w = (wC (nI d) tv (nI n) tc tm (nI s) (nI d) (nI (gMany (goB d n s c) (7 ^ d))) en hv cz r1 r2 r3 r4 a8 a9 a10 a11 ic al cs on)) := by
  obtain ⟨sw, cd, cv, oc, ov, hw, h⟩ := hO
  cases sw with
  | false =>
    obtain ⟨⟨rfl, rfl, rfl, rfl⟩, rfl, rfl, rfl, rfl⟩ := hw
    exact kX0_partedf hd hn hs h
  | true =>
    obtain ⟨⟨rfl, rfl, rfl, rfl⟩, rfl, rfl, rfl, rfl⟩ := hw
    exact kX0_partedt hd hn hs h
theorem cellO_cls (hO : cellO d n c hv cz r1 r2 r3 r4 a8 a9 a10 a11 ic al cs on) : hvOK hv d n c ∧ (∀ q, q ≤ 40 → al q = nI (alN d n c (7 ^ d) q)) ∧ (∀ q, q ≤ 40 → cs q = nI (csN d n c (7 ^ d) q)) ∧ (∀ q, q < 16 → on q = nI (onN d n c (7 ^ d) q)) := by
  obtain ⟨sw, cd, cv, oc, ov, hw, h⟩ := hO
  exact ⟨h.1, h.2.2.2.2.1, h.2.2.2.2.2.1, h.2.2.2.2.2.2⟩
end MAIN0
section MAIN1
variable {l : tg_Ln} {K : Option Value → List va_E → Prop} {d n s r1 r2 r3 r4 : Nat} {v c : Nat → Nat} {u : Nat → Int32}
variable {old dn len ts tb gd gn ge td tn te qd qv cz pz px kd kn ke jd jn je : Int32} {told : Int64} {tx gv gc gm nv tv tc tm en a8 a10 ic al cs on pk pn pc pm kv kc km jv jc jm kp ln : Nat → Int32} {hv a9 a11 : Nat → Int64} {P : Nat → Nat → Int64}
theorem kX8_freshCells (htv : ∀ k, k < d → tv k = nI (v k)) (htc : ∀ i, i < n → tc i = nI (c i)) (hV : vOK d v) (hE : eOK d v n c u s) (ho : old = 0 ∨ old = 1) (hJ : cellJ r1 r2 r3 r4) (hO : old = 0 → cellO d n c hv cz r1 r2 r3 r4 a8 a9 a10 a11 ic al cs on) : tg_Ct l mX8_freshCells 1000 [.ref 0] (wA old told dn tx len ts tb gd gv gn gc gm ge nv (nI d) tv (nI n) tc tm te qd qv en hv cz r1 r2 r3 r4 a8 a9 a10 a11 ic al cs on pz px pk pn pc pm kd kv kn kc km ke jd jv jn jc jm je kp ln P) (fun r w => r = some (.ref 9) ∧ ∃ hv cz r1 r2 r3 r4 a8 a9 a10 a11 ic al cs on, cellJ r1 r2 r3 r4 ∧ cellO d n c hv cz r1 r2 r3 r4 a8 a9 a10 a11 ic al cs on ∧ w = (wA 0 told dn tx len ts tb gd gv gn gc gm ge nv (nI d) tv (nI n) tc tm te qd qv en hv cz r1 r2 r3 r4 a8 a9 a10 a11 ic al cs on pz px pk pn pc pm kd kv kn kc km ke jd jv jn jc jm je kp ln P)) := by
  refine tg_gen (fun K0 hK0 => ?_)
  show tg_G _ _ _ _ _ _ _ [.ref 0] [] _
  unfold wA
  refine tg_go bX8_freshCells_0 ?_
  simp only [ti_aload, ti_getf, List.getElem?_cons_zero, List.getElem?_cons_succ, true_and]
  refine g_if_eq (tgt := 19) dX8_freshCells_4 rfl (fun h4 => ?_) (fun h4 => ?_)
  · subst h4
    refine tg_go bX8_freshCells_19 ?_
    simp only [ti_aload, ti_getf, List.getElem?_cons_zero, List.getElem?_cons_succ, true_and]
    refine g_aret dX8_freshCells_23 rfl (by first | exact Or.inl ⟨_, rfl⟩ | exact Or.inr ⟨_, rfl⟩) ?_
    exact hK0 _ _ ⟨rfl, hv, cz, r1, r2, r3, r4, a8, a9, a10, a11, ic, al, cs, on, hJ, hO rfl, rfl⟩
  · refine tg_go bX8_freshCells_7 ?_
    simp only [ti_aload, ti_getf, List.getElem?_cons_zero, List.getElem?_cons_succ, true_and]
    refine tg_cV iC vX8_freshCells_11 (kX0_list' (v := v) hJ hV.2.1 hE.1 (cOK_of hE) htc (fun k hk => ⟨htv k hk, (hV.2.2 k hk).2⟩) (dgv_of hE)) rfl rfl rfl rfl rfl (Nat.le_of_ble_eq_true rfl) rfl (Nat.le_of_ble_eq_true rfl) (Nat.le_of_ble_eq_true rfl) (by rintro r w1 ⟨-, hv, cz, r1, r2, r3, r4, a8, a9, a10, a11, ic, al, cs, on, -, -, rfl⟩; rfl) ?_
    rintro r w1 ⟨rfl, hv, cz, r1, r2, r3, r4, a8, a9, a10, a11, ic, al, cs, on, hJ, hO, rfl⟩
    simp only [Option.map_none, Option.toList_none, List.nil_append]
    refine tg_rw put_C ?_
    unfold wA
    refine tg_go bX8_freshCells_14 ?_
    simp only [ti_aload, ti_push, ti_putfZ, List.getElem?_cons_zero, List.getElem?_cons_succ, List.set_cons_zero, List.set_cons_succ, true_and]
    refine ⟨Or.inl trivial, ?_⟩
    refine tg_go bX8_freshCells_19 ?_
    simp only [ti_aload, ti_getf, List.getElem?_cons_zero, List.getElem?_cons_succ, true_and]
    refine g_aret dX8_freshCells_23 rfl (by first | exact Or.inl ⟨_, rfl⟩ | exact Or.inr ⟨_, rfl⟩) ?_
    exact hK0 _ _ ⟨rfl, hv, cz, r1, r2, r3, r4, a8, a9, a10, a11, ic, al, cs, on, hJ, hO, rfl⟩
end MAIN1
