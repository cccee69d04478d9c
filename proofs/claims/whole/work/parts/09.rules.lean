/-! the rules of calls, as the walks use them -/
section TGX
variable {l : tg_Ln} {M M' : tg_M} {n0 n pc kc ks : Nat} {K K' : Option Value → List va_E → Prop} {lv st : List Value} {w w2 : List va_E} {v : Value} {As rest : List Value}
theorem tg_cP (hs : tg_SS0 M pc M' n) (hc : tg_Ct l M' 1000 As [] (fun r w => r = some v ∧ w = [])) (hst : st = As.reverse ++ rest) (hn : As.length = n) (hla : (tg_la As).length ≤ M'.2.2.1) (hW : (rest.map fun v => v.category).sum ≤ 8)
    (kk : tg_G l M n0 K kc ks (pc + 3) lv (v :: rest) w) : tg_G l M n0 K kc ks pc lv st w := by
  rw [hst]
  exact tg_callP hs (P := fun r => r = some v) hc hn hla hW (fun r hr => by rw [hr]; exact kk)
theorem tg_cPe {P : Value → Prop} (hs : tg_SS0 M pc M' n) (hc : tg_Ct l M' 1000 As [] (fun r w => (∃ v, r = some v ∧ P v) ∧ w = [])) (hst : st = As.reverse ++ rest) (hn : As.length = n) (hla : (tg_la As).length ≤ M'.2.2.1) (hW : (rest.map fun v => v.category).sum ≤ 8)
    (kk : ∀ v, P v → tg_G l M n0 K kc ks (pc + 3) lv (v :: rest) w) : tg_G l M n0 K kc ks pc lv st w := by
  rw [hst]
  exact tg_callP hs (P := fun r => ∃ v, r = some v ∧ P v) hc hn hla hW (fun r hr => by obtain ⟨v, rfl, hv⟩ := hr; exact kk v hv)
variable {b ci : Nat} {fs : List Value}
theorem tg_cW (hs : tg_VS M pc M' n) (hc : tg_Ct l M' 1000 (.ref b :: As) w (fun r w' => r = some v ∧ w' = w2)) (hst : st = As.reverse ++ .ref b :: rest) (hrb : w[b]? = some (.inr (ci, fs))) (hcl : (vwCl[ci]?).map (fun q => q.1) = some M'.1.cls) (hn : As.length = n) (hla : (tg_la (.ref b :: As)).length ≤ M'.2.2.1) (hw : w.length ≤ 1000) (hW : (rest.map fun v => v.category).sum ≤ 8) (hlen : w2.length = w.length)
    (kk : tg_G l M n0 K kc ks (pc + 3) lv (v :: rest) w2) : tg_G l M n0 K kc ks pc lv st w := by
  rw [hst]
  exact tg_callW hs hc hw hrb hcl hn hla hW (fun r w' h => by rw [h.2]; exact hlen) (fun r w' h => by rw [h.1, h.2]; exact kk)
theorem tg_cWv (hs : tg_VS M pc M' n) (hc : tg_Ct l M' 1000 (.ref b :: As) w (fun r w' => r = none ∧ w' = w2)) (hst : st = As.reverse ++ .ref b :: rest) (hrb : w[b]? = some (.inr (ci, fs))) (hcl : (vwCl[ci]?).map (fun q => q.1) = some M'.1.cls) (hn : As.length = n) (hla : (tg_la (.ref b :: As)).length ≤ M'.2.2.1) (hw : w.length ≤ 1000) (hW : (rest.map fun v => v.category).sum ≤ 8) (hlen : w2.length = w.length)
    (kk : tg_G l M n0 K kc ks (pc + 3) lv rest w2) : tg_G l M n0 K kc ks pc lv st w := by
  rw [hst]
  exact tg_callW hs hc hw hrb hcl hn hla hW (fun r w' h => by rw [h.2]; exact hlen) (fun r w' h => by rw [h.1, h.2]; exact kk)
theorem tg_cWe (hs : tg_VS M pc M' n) (hc : tg_Ct l M' 1000 (.ref b :: As) w K') (hst : st = As.reverse ++ .ref b :: rest) (hrb : w[b]? = some (.inr (ci, fs))) (hcl : (vwCl[ci]?).map (fun q => q.1) = some M'.1.cls) (hn : As.length = n) (hla : (tg_la (.ref b :: As)).length ≤ M'.2.2.1) (hw : w.length ≤ 1000) (hW : (rest.map fun v => v.category).sum ≤ 8) (hlen : ∀ r w', K' r w' → w'.length = w.length)
    (kk : ∀ r w', K' r w' → tg_G l M n0 K kc ks (pc + 3) lv (r.toList ++ rest) w') : tg_G l M n0 K kc ks pc lv st w := by
  rw [hst]
  exact tg_callW hs hc hw hrb hcl hn hla hW hlen kk
/-- a part of the world: 'is' its places -/
theorem tg_cV (is : List Nat) {wc : List va_E} (hs : tg_VS M pc M' n) (hc : tg_Ct l M' 1000 (.ref b :: As) wc K') (hst : st = (As.map (tg_v (tg_rn is))).reverse ++ .ref (tg_rn is b) :: rest) (hfr : is.map (fun i => w[i]?) = wc.map (fun c => some (tg_e (fun t => t) (tg_rn is) c))) (hrb : wc[b]? = some (.inr (ci, fs))) (hcl : (vwCl[ci]?).map (fun q => q.1) = some M'.1.cls) (hn : As.length = n) (hla : (tg_la (.ref b :: As)).length ≤ M'.2.2.1) (hnd : va_nd is = true) (his : is.length ≤ 1000) (hW : (rest.map fun v => v.category).sum ≤ 8) (hlen : ∀ r wc', K' r wc' → wc'.length = wc.length)
    (kk : ∀ r wc', K' r wc' → tg_G l M n0 K kc ks (pc + 3) lv ((r.map (tg_v (tg_rn is))).toList ++ rest) (tg_put (tg_rn is) w is wc')) : tg_G l M n0 K kc ks pc lv st w := by
  rw [hst]
  exact tg_callV hs is hc hfr hnd his hrb hcl hn hla hW hlen kk
end TGX
section TGJ
variable {l : tg_Ln} {M : tg_M} {n0 pc kc ks : Nat} {K : Option Value → List va_E → Prop} {lv st : List Value} {w : List va_E}
/-- two ways that come together again with a number on the stack -/
theorem g_cut2 {x y : Value} (J : Nat) (P : Int32 → Prop) (arms : (∀ z, P z → tg_G l M n0 K kc ks J lv (.int z :: st) w) → tg_G l M n0 K kc ks pc lv (x :: y :: st) w) (rest : ∀ z, P z → tg_G l M n0 K kc ks J lv (.int z :: st) w) : tg_G l M n0 K kc ks pc lv (x :: y :: st) w := arms rest
theorem g_cut1 {x : Value} (J : Nat) (P : Int32 → Prop) (arms : (∀ z, P z → tg_G l M n0 K kc ks J lv (.int z :: st) w) → tg_G l M n0 K kc ks pc lv (x :: st) w) (rest : ∀ z, P z → tg_G l M n0 K kc ks J lv (.int z :: st) w) : tg_G l M n0 K kc ks pc lv (x :: st) w := arms rest
end TGJ
