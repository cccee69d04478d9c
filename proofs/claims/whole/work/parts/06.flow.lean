/-! branches, switches, returns, and what else there is -/
theorem g_if_eq {l : tg_Ln} {M : tg_M} {n0 : Nat} {K : Option Value → List va_E → Prop} {kc ks pc : Nat} {lv st : List Value} {w : List va_E} {x : Int32} {off : Int} {tgt : Nat} (hd : decode M.2.1 pc = .ok (.ifCond .eq off, 3)) (ht : (pc : Int) + off = (tgt : Int)) (kt : x = 0 → tg_G l M n0 K kc ks tgt lv st w) (kf : ¬ x = 0 → tg_G l M n0 K kc ks (pc + 3) lv st w) : tg_G l M n0 K kc ks pc lv (.int x :: st) w := by
  intro p e s m args below meth c D cA A ad H locs ls Qc C a1 a2 hK hA hE hQ hP hD hS hL
  exact lv_if_eq C.1 C.2.1 hd ht (fun h => kt h p e s m args below meth c D cA A ad H locs ls Qc C a1 a2 hK hA hE hQ hP hD hS hL) (fun h => kf h p e s m args below meth c D cA A ad H locs ls Qc C a1 a2 hK hA hE hQ hP hD hS hL)
theorem g_icmp_eq {l : tg_Ln} {M : tg_M} {n0 : Nat} {K : Option Value → List va_E → Prop} {kc ks pc : Nat} {lv st : List Value} {w : List va_E} {x y : Int32} {off : Int} {tgt : Nat} (hd : decode M.2.1 pc = .ok (.if_icmp .eq off, 3)) (ht : (pc : Int) + off = (tgt : Int)) (kt : x = y → tg_G l M n0 K kc ks tgt lv st w) (kf : ¬ x = y → tg_G l M n0 K kc ks (pc + 3) lv st w) : tg_G l M n0 K kc ks pc lv (.int y :: .int x :: st) w := by
  intro p e s m args below meth c D cA A ad H locs ls Qc C a1 a2 hK hA hE hQ hP hD hS hL
  exact lv_icmp_eq C.1 C.2.1 hd ht (fun h => kt h p e s m args below meth c D cA A ad H locs ls Qc C a1 a2 hK hA hE hQ hP hD hS hL) (fun h => kf h p e s m args below meth c D cA A ad H locs ls Qc C a1 a2 hK hA hE hQ hP hD hS hL)
theorem g_if_ne {l : tg_Ln} {M : tg_M} {n0 : Nat} {K : Option Value → List va_E → Prop} {kc ks pc : Nat} {lv st : List Value} {w : List va_E} {x : Int32} {off : Int} {tgt : Nat} (hd : decode M.2.1 pc = .ok (.ifCond .ne off, 3)) (ht : (pc : Int) + off = (tgt : Int)) (kt : ¬ x = 0 → tg_G l M n0 K kc ks tgt lv st w) (kf : x = 0 → tg_G l M n0 K kc ks (pc + 3) lv st w) : tg_G l M n0 K kc ks pc lv (.int x :: st) w := by
  intro p e s m args below meth c D cA A ad H locs ls Qc C a1 a2 hK hA hE hQ hP hD hS hL
  exact lv_if_ne C.1 C.2.1 hd ht (fun h => kt h p e s m args below meth c D cA A ad H locs ls Qc C a1 a2 hK hA hE hQ hP hD hS hL) (fun h => kf h p e s m args below meth c D cA A ad H locs ls Qc C a1 a2 hK hA hE hQ hP hD hS hL)
theorem g_icmp_ne {l : tg_Ln} {M : tg_M} {n0 : Nat} {K : Option Value → List va_E → Prop} {kc ks pc : Nat} {lv st : List Value} {w : List va_E} {x y : Int32} {off : Int} {tgt : Nat} (hd : decode M.2.1 pc = .ok (.if_icmp .ne off, 3)) (ht : (pc : Int) + off = (tgt : Int)) (kt : ¬ x = y → tg_G l M n0 K kc ks tgt lv st w) (kf : x = y → tg_G l M n0 K kc ks (pc + 3) lv st w) : tg_G l M n0 K kc ks pc lv (.int y :: .int x :: st) w := by
  intro p e s m args below meth c D cA A ad H locs ls Qc C a1 a2 hK hA hE hQ hP hD hS hL
  exact lv_icmp_ne C.1 C.2.1 hd ht (fun h => kt h p e s m args below meth c D cA A ad H locs ls Qc C a1 a2 hK hA hE hQ hP hD hS hL) (fun h => kf h p e s m args below meth c D cA A ad H locs ls Qc C a1 a2 hK hA hE hQ hP hD hS hL)
theorem g_if_lt {l : tg_Ln} {M : tg_M} {n0 : Nat} {K : Option Value → List va_E → Prop} {kc ks pc : Nat} {lv st : List Value} {w : List va_E} {x : Int32} {off : Int} {tgt : Nat} (hd : decode M.2.1 pc = .ok (.ifCond .lt off, 3)) (ht : (pc : Int) + off = (tgt : Int)) (kt : x < 0 → tg_G l M n0 K kc ks tgt lv st w) (kf : ¬ x < 0 → tg_G l M n0 K kc ks (pc + 3) lv st w) : tg_G l M n0 K kc ks pc lv (.int x :: st) w := by
  intro p e s m args below meth c D cA A ad H locs ls Qc C a1 a2 hK hA hE hQ hP hD hS hL
  exact lv_if_lt C.1 C.2.1 hd ht (fun h => kt h p e s m args below meth c D cA A ad H locs ls Qc C a1 a2 hK hA hE hQ hP hD hS hL) (fun h => kf h p e s m args below meth c D cA A ad H locs ls Qc C a1 a2 hK hA hE hQ hP hD hS hL)
theorem g_icmp_lt {l : tg_Ln} {M : tg_M} {n0 : Nat} {K : Option Value → List va_E → Prop} {kc ks pc : Nat} {lv st : List Value} {w : List va_E} {x y : Int32} {off : Int} {tgt : Nat} (hd : decode M.2.1 pc = .ok (.if_icmp .lt off, 3)) (ht : (pc : Int) + off = (tgt : Int)) (kt : x < y → tg_G l M n0 K kc ks tgt lv st w) (kf : ¬ x < y → tg_G l M n0 K kc ks (pc + 3) lv st w) : tg_G l M n0 K kc ks pc lv (.int y :: .int x :: st) w := by
  intro p e s m args below meth c D cA A ad H locs ls Qc C a1 a2 hK hA hE hQ hP hD hS hL
  exact lv_icmp_lt C.1 C.2.1 hd ht (fun h => kt h p e s m args below meth c D cA A ad H locs ls Qc C a1 a2 hK hA hE hQ hP hD hS hL) (fun h => kf h p e s m args below meth c D cA A ad H locs ls Qc C a1 a2 hK hA hE hQ hP hD hS hL)
theorem g_if_ge {l : tg_Ln} {M : tg_M} {n0 : Nat} {K : Option Value → List va_E → Prop} {kc ks pc : Nat} {lv st : List Value} {w : List va_E} {x : Int32} {off : Int} {tgt : Nat} (hd : decode M.2.1 pc = .ok (.ifCond .ge off, 3)) (ht : (pc : Int) + off = (tgt : Int)) (kt : 0 ≤ x → tg_G l M n0 K kc ks tgt lv st w) (kf : ¬ 0 ≤ x → tg_G l M n0 K kc ks (pc + 3) lv st w) : tg_G l M n0 K kc ks pc lv (.int x :: st) w := by
  intro p e s m args below meth c D cA A ad H locs ls Qc C a1 a2 hK hA hE hQ hP hD hS hL
  exact lv_if_ge C.1 C.2.1 hd ht (fun h => kt h p e s m args below meth c D cA A ad H locs ls Qc C a1 a2 hK hA hE hQ hP hD hS hL) (fun h => kf h p e s m args below meth c D cA A ad H locs ls Qc C a1 a2 hK hA hE hQ hP hD hS hL)
theorem g_icmp_ge {l : tg_Ln} {M : tg_M} {n0 : Nat} {K : Option Value → List va_E → Prop} {kc ks pc : Nat} {lv st : List Value} {w : List va_E} {x y : Int32} {off : Int} {tgt : Nat} (hd : decode M.2.1 pc = .ok (.if_icmp .ge off, 3)) (ht : (pc : Int) + off = (tgt : Int)) (kt : y ≤ x → tg_G l M n0 K kc ks tgt lv st w) (kf : ¬ y ≤ x → tg_G l M n0 K kc ks (pc + 3) lv st w) : tg_G l M n0 K kc ks pc lv (.int y :: .int x :: st) w := by
  intro p e s m args below meth c D cA A ad H locs ls Qc C a1 a2 hK hA hE hQ hP hD hS hL
  exact lv_icmp_ge C.1 C.2.1 hd ht (fun h => kt h p e s m args below meth c D cA A ad H locs ls Qc C a1 a2 hK hA hE hQ hP hD hS hL) (fun h => kf h p e s m args below meth c D cA A ad H locs ls Qc C a1 a2 hK hA hE hQ hP hD hS hL)
theorem g_if_gt {l : tg_Ln} {M : tg_M} {n0 : Nat} {K : Option Value → List va_E → Prop} {kc ks pc : Nat} {lv st : List Value} {w : List va_E} {x : Int32} {off : Int} {tgt : Nat} (hd : decode M.2.1 pc = .ok (.ifCond .gt off, 3)) (ht : (pc : Int) + off = (tgt : Int)) (kt : 0 < x → tg_G l M n0 K kc ks tgt lv st w) (kf : ¬ 0 < x → tg_G l M n0 K kc ks (pc + 3) lv st w) : tg_G l M n0 K kc ks pc lv (.int x :: st) w := by
  intro p e s m args below meth c D cA A ad H locs ls Qc C a1 a2 hK hA hE hQ hP hD hS hL
  exact lv_if_gt C.1 C.2.1 hd ht (fun h => kt h p e s m args below meth c D cA A ad H locs ls Qc C a1 a2 hK hA hE hQ hP hD hS hL) (fun h => kf h p e s m args below meth c D cA A ad H locs ls Qc C a1 a2 hK hA hE hQ hP hD hS hL)
theorem g_icmp_gt {l : tg_Ln} {M : tg_M} {n0 : Nat} {K : Option Value → List va_E → Prop} {kc ks pc : Nat} {lv st : List Value} {w : List va_E} {x y : Int32} {off : Int} {tgt : Nat} (hd : decode M.2.1 pc = .ok (.if_icmp .gt off, 3)) (ht : (pc : Int) + off = (tgt : Int)) (kt : y < x → tg_G l M n0 K kc ks tgt lv st w) (kf : ¬ y < x → tg_G l M n0 K kc ks (pc + 3) lv st w) : tg_G l M n0 K kc ks pc lv (.int y :: .int x :: st) w := by
  intro p e s m args below meth c D cA A ad H locs ls Qc C a1 a2 hK hA hE hQ hP hD hS hL
  exact lv_icmp_gt C.1 C.2.1 hd ht (fun h => kt h p e s m args below meth c D cA A ad H locs ls Qc C a1 a2 hK hA hE hQ hP hD hS hL) (fun h => kf h p e s m args below meth c D cA A ad H locs ls Qc C a1 a2 hK hA hE hQ hP hD hS hL)
theorem g_if_le {l : tg_Ln} {M : tg_M} {n0 : Nat} {K : Option Value → List va_E → Prop} {kc ks pc : Nat} {lv st : List Value} {w : List va_E} {x : Int32} {off : Int} {tgt : Nat} (hd : decode M.2.1 pc = .ok (.ifCond .le off, 3)) (ht : (pc : Int) + off = (tgt : Int)) (kt : x ≤ 0 → tg_G l M n0 K kc ks tgt lv st w) (kf : ¬ x ≤ 0 → tg_G l M n0 K kc ks (pc + 3) lv st w) : tg_G l M n0 K kc ks pc lv (.int x :: st) w := by
  intro p e s m args below meth c D cA A ad H locs ls Qc C a1 a2 hK hA hE hQ hP hD hS hL
  exact lv_if_le C.1 C.2.1 hd ht (fun h => kt h p e s m args below meth c D cA A ad H locs ls Qc C a1 a2 hK hA hE hQ hP hD hS hL) (fun h => kf h p e s m args below meth c D cA A ad H locs ls Qc C a1 a2 hK hA hE hQ hP hD hS hL)
theorem g_icmp_le {l : tg_Ln} {M : tg_M} {n0 : Nat} {K : Option Value → List va_E → Prop} {kc ks pc : Nat} {lv st : List Value} {w : List va_E} {x y : Int32} {off : Int} {tgt : Nat} (hd : decode M.2.1 pc = .ok (.if_icmp .le off, 3)) (ht : (pc : Int) + off = (tgt : Int)) (kt : x ≤ y → tg_G l M n0 K kc ks tgt lv st w) (kf : ¬ x ≤ y → tg_G l M n0 K kc ks (pc + 3) lv st w) : tg_G l M n0 K kc ks pc lv (.int y :: .int x :: st) w := by
  intro p e s m args below meth c D cA A ad H locs ls Qc C a1 a2 hK hA hE hQ hP hD hS hL
  exact lv_icmp_le C.1 C.2.1 hd ht (fun h => kt h p e s m args below meth c D cA A ad H locs ls Qc C a1 a2 hK hA hE hQ hP hD hS hL) (fun h => kf h p e s m args below meth c D cA A ad H locs ls Qc C a1 a2 hK hA hE hQ hP hD hS hL)
theorem g_goto {l : tg_Ln} {M : tg_M} {n0 : Nat} {K : Option Value → List va_E → Prop} {kc ks pc : Nat} {lv st : List Value} {w : List va_E} {off : Int} {tgt : Nat} (hd : decode M.2.1 pc = .ok (.goto off, 3)) (ht : (pc : Int) + off = (tgt : Int)) (k : tg_G l M n0 K kc ks tgt lv st w) : tg_G l M n0 K kc ks pc lv st w := by
  intro p e s m args below meth c D cA A ad H locs ls Qc C a1 a2 hK hA hE hQ hP hD hS hL
  exact lv_goto C.1 C.2.1 hd ht (k p e s m args below meth c D cA A ad H locs ls Qc C a1 a2 hK hA hE hQ hP hD hS hL)
theorem g_tblOut {l : tg_Ln} {M : tg_M} {n0 : Nat} {K : Option Value → List va_E → Prop} {kc ks pc : Nat} {lv st : List Value} {w : List va_E} {dflt lo hi : Int} {offs : Array Int} {len : Nat} {x : Int32} {tgt : Nat} (hd : decode M.2.1 pc = .ok (.tableswitch dflt lo hi offs, len)) (h : x.toInt < lo ∨ hi < x.toInt) (ht : (pc : Int) + dflt = (tgt : Int)) (k : tg_G l M n0 K kc ks tgt lv st w) : tg_G l M n0 K kc ks pc lv (.int x :: st) w := by
  intro p e s m args below meth c D cA A ad H locs ls Qc C a1 a2 hK hA hE hQ hP hD hS hL
  exact lv_tableOut C.1 C.2.1 hd h ht (k p e s m args below meth c D cA A ad H locs ls Qc C a1 a2 hK hA hE hQ hP hD hS hL)
theorem g_tblIn {l : tg_Ln} {M : tg_M} {n0 : Nat} {K : Option Value → List va_E → Prop} {kc ks pc : Nat} {lv st : List Value} {w : List va_E} {dflt lo hi : Int} {offs : Array Int} {len : Nat} {x : Int32} {off : Int} {tgt : Nat} (hd : decode M.2.1 pc = .ok (.tableswitch dflt lo hi offs, len)) (h1 : ¬ x.toInt < lo) (h2 : ¬ hi < x.toInt) (ho : offs[(x.toInt - lo).toNat]? = some off) (ht : (pc : Int) + off = (tgt : Int)) (k : tg_G l M n0 K kc ks tgt lv st w) : tg_G l M n0 K kc ks pc lv (.int x :: st) w := by
  intro p e s m args below meth c D cA A ad H locs ls Qc C a1 a2 hK hA hE hQ hP hD hS hL
  exact lv_tableIn C.1 C.2.1 hd h1 h2 ho ht (k p e s m args below meth c D cA A ad H locs ls Qc C a1 a2 hK hA hE hQ hP hD hS hL)
theorem g_lookup {l : tg_Ln} {M : tg_M} {n0 : Nat} {K : Option Value → List va_E → Prop} {kc ks pc : Nat} {lv st : List Value} {w : List va_E} {dflt : Int} {ps : Array (Int × Int)} {len : Nat} {x : Int32} {off : Int} {tgt : Nat} (hd : decode M.2.1 pc = .ok (.lookupswitch dflt ps, len)) (hp : (ps.toList.zip (ps.toList.drop 1)).all (fun (a, next) => a.1 < next.1) = true) (ho : Op.lookupswitch.offset ps.toList dflt x.toInt = off) (ht : (pc : Int) + off = (tgt : Int)) (k : tg_G l M n0 K kc ks tgt lv st w) : tg_G l M n0 K kc ks pc lv (.int x :: st) w := by
  intro p e s m args below meth c D cA A ad H locs ls Qc C a1 a2 hK hA hE hQ hP hD hS hL
  exact lv_lookup C.1 C.2.1 hd hp ho ht (k p e s m args below meth c D cA A ad H locs ls Qc C a1 a2 hK hA hE hQ hP hD hS hL)
theorem g_iret {l : tg_Ln} {M : tg_M} {n0 : Nat} {K : Option Value → List va_E → Prop} {kc ks pc : Nat} {lv : List Value} {w : List va_E} {x : Int32} (hd : decode M.2.1 pc = .ok (.ireturn, 1)) (hr : M.2.2.2.1 = some .int) (hk : K (some (.int x)) w) : tg_G l M n0 K kc ks pc lv [.int x] w := by
  intro p e s m args below meth c D cA A ad H locs ls Qc C a1 a2 hK hA hE hQ hP hD hS hL
  exact W.widen a1 a2 (W.iret (v := x) C.1 C.2.1 (C.2.2.1.trans hr) (fun t ht hW => hQ (some (.int x)) w ad t hk (fun _ _ => rfl) (by rw [ht]; exact hP) hD hW (hS.F ht)) hS.2.2 hd C.2.2.2.2.2.2.1)
theorem g_zret {l : tg_Ln} {M : tg_M} {n0 : Nat} {K : Option Value → List va_E → Prop} {kc ks pc : Nat} {lv : List Value} {w : List va_E} {x : Int32} (hd : decode M.2.1 pc = .ok (.ireturn, 1)) (hr : M.2.2.2.1 = some .boolean) (hn : x = 0 ∨ x = 1) (hk : K (some (.int x)) w) : tg_G l M n0 K kc ks pc lv [.int x] w := by
  intro p e s m args below meth c D cA A ad H locs ls Qc C a1 a2 hK hA hE hQ hP hD hS hL
  exact W.widen a1 a2 (W.zret (v := x) (ty := .boolean) C.1 C.2.1 (C.2.2.1.trans hr) (by rcases hn with rfl | rfl <;> rfl) (fun t ht hW => hQ (some (.int x)) w ad t hk (fun _ _ => rfl) (by rw [ht]; exact hP) hD hW (hS.F ht)) hS.2.2 hd C.2.2.2.2.2.2.1)
theorem g_nret {l : tg_Ln} {M : tg_M} {n0 : Nat} {K : Option Value → List va_E → Prop} {kc ks pc : Nat} {lv : List Value} {w : List va_E} {x : Int32} {ty : FieldType} (hd : decode M.2.1 pc = .ok (.ireturn, 1)) (hr : M.2.2.2.1 = some ty) (hn : narrow ty (.int x) = .int x) (hk : K (some (.int x)) w) : tg_G l M n0 K kc ks pc lv [.int x] w := by
  intro p e s m args below meth c D cA A ad H locs ls Qc C a1 a2 hK hA hE hQ hP hD hS hL
  exact W.widen a1 a2 (W.zret (v := x) (ty := ty) C.1 C.2.1 (C.2.2.1.trans hr) hn (fun t ht hW => hQ (some (.int x)) w ad t hk (fun _ _ => rfl) (by rw [ht]; exact hP) hD hW (hS.F ht)) hS.2.2 hd C.2.2.2.2.2.2.1)
theorem g_lret {l : tg_Ln} {M : tg_M} {n0 : Nat} {K : Option Value → List va_E → Prop} {kc ks pc : Nat} {lv : List Value} {w : List va_E} {x : Int64} (hd : decode M.2.1 pc = .ok (.lreturn, 1)) (hr : M.2.2.2.1 = some .long) (hk : K (some (.long x)) w) : tg_G l M n0 K kc ks pc lv [.long x] w := by
  intro p e s m args below meth c D cA A ad H locs ls Qc C a1 a2 hK hA hE hQ hP hD hS hL
  exact W.widen a1 a2 (W.lret (v := x) C.1 C.2.1 (C.2.2.1.trans hr) (fun t ht hW => hQ (some (.long x)) w ad t hk (fun _ _ => rfl) (by rw [ht]; exact hP) hD hW (hS.F ht)) hS.2.2 hd C.2.2.2.2.2.2.1)
theorem g_aret {l : tg_Ln} {M : tg_M} {n0 : Nat} {K : Option Value → List va_E → Prop} {kc ks pc : Nat} {lv : List Value} {w : List va_E} {x : Nat} {rt : FieldType} (hd : decode M.2.1 pc = .ok (.areturn, 1)) (hr : M.2.2.2.1 = some rt) (hrt : (∃ n, rt = .object n) ∨ ∃ t, rt = .array t) (hk : K (some (.ref x)) w) : tg_G l M n0 K kc ks pc lv [.ref x] w := by
  intro p e s m args below meth c D cA A ad H locs ls Qc C a1 a2 hK hA hE hQ hP hD hS hL
  exact W.widen a1 a2 (W.aret (v := .ref (ad x)) C.1 C.2.1 (C.2.2.1.trans hr) hrt (Or.inr ⟨_, rfl⟩) (fun t ht hW => hQ (some (.ref x)) w ad t hk (fun _ _ => rfl) (by rw [ht]; exact hP) hD hW (hS.F ht)) hS.2.2 hd C.2.2.2.2.2.2.1)
theorem g_vret {l : tg_Ln} {M : tg_M} {n0 : Nat} {K : Option Value → List va_E → Prop} {kc ks pc : Nat} {lv : List Value} {w : List va_E} (hd : decode M.2.1 pc = .ok (.return_, 1)) (hr : M.2.2.2.1 = none) (hk : K none w) : tg_G l M n0 K kc ks pc lv [] w := by
  intro p e s m args below meth c D cA A ad H locs ls Qc C a1 a2 hK hA hE hQ hP hD hS hL
  exact W.widen a1 a2 (W.vret C.1 C.2.1 (C.2.2.1.trans hr) (fun t ht hW => hQ none w ad t hk (fun _ _ => rfl) (by rw [ht]; exact hP) hD hW (hS.F ht)) hS.2.2 hd C.2.2.2.2.2.2.1)
def ti_mmax : tg_K → tg_K := fun k lv st w => match st with
  | .int y :: .int x :: st => (st.map fun v => v.category).sum ≤ 8 ∧ k lv (.int (if x < y then y else x) :: st) w
  | _ => False
theorem si_mmax {M : tg_M} {pc idx : Nat} (hd : decode M.2.1 pc = .ok (.invokestatic idx, 3)) (h1 : Cond.methodLink M.1.cls idx Lib.Math.max.name ∈ tg_T) (h2 : Cond.static Lib.Math.max.name ∈ tg_T) (h3 : Cond.initialized "java/lang/Math" ∈ tg_T) (h4 : Cond.code Lib.Math.max.name Lib.Math.max.code 2 (some .int) ∈ tg_T) (hf : 1 ≤ M.2.2.2.2.frames) (hl : 21 ≤ M.2.2.2.2.locals) : tg_Snd M pc ti_mmax (pc + 3) := by
  intro l n0 K kc ks k hk lv st w h
  unfold ti_mmax at h
  split at h
  · rename_i y x st
    intro p e s m args below meth c D cA A ad H locs ls Qc C a1 a2 hK hA hE hQ hP hD hS hL
    have ht := C.2.2.2.2.2.1
    exact va_mmax C.1 C.2.1 (C.2.2.2.1.trans hL.1.symm) C.2.2.2.2.1 (ht _ h1) (ht _ h2) (ht _ h3) (ht _ h4) hf (by have := h.1; simp only [List.map_map, Function.comp_def, tg_v_cat]; omega) a1 a2 hd (hk _ _ _ h.2 p e s m args below meth c D cA A ad H locs ls Qc C a1 a2 hK hA hE hQ hP hD hS hL)
  · exact h.elim
def ti_mmin : tg_K → tg_K := fun k lv st w => match st with
  | .int y :: .int x :: st => (st.map fun v => v.category).sum ≤ 8 ∧ k lv (.int (if y < x then y else x) :: st) w
  | _ => False
theorem si_mmin {M : tg_M} {pc idx : Nat} (hd : decode M.2.1 pc = .ok (.invokestatic idx, 3)) (h1 : Cond.methodLink M.1.cls idx Lib.Math.min.name ∈ tg_T) (h2 : Cond.static Lib.Math.min.name ∈ tg_T) (h3 : Cond.initialized "java/lang/Math" ∈ tg_T) (h4 : Cond.code Lib.Math.min.name Lib.Math.min.code 2 (some .int) ∈ tg_T) (hf : 1 ≤ M.2.2.2.2.frames) (hl : 21 ≤ M.2.2.2.2.locals) : tg_Snd M pc ti_mmin (pc + 3) := by
  intro l n0 K kc ks k hk lv st w h
  unfold ti_mmin at h
  split at h
  · rename_i y x st
    intro p e s m args below meth c D cA A ad H locs ls Qc C a1 a2 hK hA hE hQ hP hD hS hL
    have ht := C.2.2.2.2.2.1
    exact va_mmin C.1 C.2.1 (C.2.2.2.1.trans hL.1.symm) C.2.2.2.2.1 (ht _ h1) (ht _ h2) (ht _ h3) (ht _ h4) hf (by have := h.1; simp only [List.map_map, Function.comp_def, tg_v_cat]; omega) a1 a2 hd (hk _ _ _ h.2 p e s m args below meth c D cA A ad H locs ls Qc C a1 a2 hK hA hE hQ hP hD hS hL)
  · exact h.elim
def ti_acopy : tg_K → tg_K := fun k lv st w => match st with
  | .int n :: .int dp :: .ref b :: .int sp :: .ref a :: st => match w[a]?, w[b]? with
    | some (.inl (t, n0, .inl f)), some (.inl (u, n1, .inl g)) => (t = 0 ∧ u = 0 ∧ (st.map fun v => v.category).sum ≤ 8) ∧ (¬ sp < 0 ∧ ¬ dp < 0 ∧ ¬ n < 0 ∧ sp.toNatClampNeg + n.toNatClampNeg ≤ n0 ∧ dp.toNatClampNeg + n.toNatClampNeg ≤ n1) ∧ k lv st (w.set b (.inl (u, n1, .inl (va_cpy f g sp.toNatClampNeg dp.toNatClampNeg n.toNatClampNeg))))
    | _, _ => False
  | _ => False
theorem si_acopy {M : tg_M} {pc idx : Nat} (hd : decode M.2.1 pc = .ok (.invokestatic idx, 3)) (h1 : Cond.methodLink M.1.cls idx arraycopyName ∈ tg_T) (h2 : Cond.native arraycopyName ∈ tg_T) (h3 : Cond.static arraycopyName ∈ tg_T) (h4 : Cond.initialized "java/lang/System" ∈ tg_T) (hf : 1 ≤ M.2.2.2.2.frames) (hl : 8 + (nativeFrameWords "java/lang/System" "arraycopy" 5 + 11) ≤ M.2.2.2.2.locals) : tg_Snd M pc ti_acopy (pc + 3) := by
  intro l n0 K kc ks k hk lv st w h
  unfold ti_acopy at h
  split at h
  · rename_i n dp b sp a st
    split at h
    · rename_i t n0' f u n1 g hwa hwb
      obtain ⟨⟨rfl, rfl, hst⟩, ⟨g1, g2, g3, g4, g5⟩, h⟩ := h
      intro p e s m args below meth c D cA A ad H locs ls Qc C a1 a2 hK hA hE hQ hP hD hS hL
      have ht := C.2.2.2.2.2.1
      refine va_copyi (ty := .int) C.1 C.2.1 (C.2.2.2.1.trans hL.1.symm) C.2.2.2.2.1 (ht _ h1) (ht _ h2) (ht _ h3) (ht _ h4) hK hP hD hS a b 0 0 (tg_w_at hwa) (tg_w_at hwb) rfl rfl rfl g1 g2 g3 g4 g5 (fun _ _ => rfl) hf (by simp only [List.map_map, Function.comp_def, tg_v_cat]; omega) hd (fun H1 locs1 hP1 hD1 hS1 => hk _ _ _ h p e s m args below meth c D cA A ad H1 locs1 ls Qc C a1 a2 hK hA hE hQ (?_) (?_) hS1 hL)
      all_goals (rw [tg_w_set0]; simp only [tg_e]; assumption)
    · exact h.elim
  · exact h.elim
/-- the orders' arrays: getstatic, a place, the length -/
def ti_ord (i : Nat) : tg_K → tg_K := fun k lv st w => k lv (.ref (1000 + i) :: st) w
theorem si_ord {M : tg_M} {pc idx i : Nat} (hi : i < 4) (hd : decode M.2.1 pc = .ok (.getstatic idx, 3)) (hl : Cond.fieldLink M.1.cls idx RX4 (tg_on i) "[I" ∈ tg_T) : tg_Snd M pc (ti_ord i) (pc + 3) := by
  intro l n0 K kc ks k hk lv st w h
  unfold ti_ord at h
  intro p e s m args below meth c D cA A ad H locs ls Qc C a1 a2 hK hA hE hQ hP hD hS hL
  exact va_gets C.1 C.2.1 (hE.2.1 i hi).1 hS C.2.2.2.2.1 (C.2.2.2.2.2.1 _ hl) (fun _ h => h) hd (hk _ _ _ h p e s m args below meth c D cA A ad H locs ls Qc C a1 a2 hK hA hE hQ hP hD hS hL)
def ti_oald : tg_K → tg_K := fun k lv st w => match st with
  | .int i :: .ref a :: st => (1000 ≤ a ∧ a < 1004) ∧ vp_in i (tg_ol (a - 1000)).length ∧ k lv (.int ((tg_ol (a - 1000)).getD i.toNatClampNeg 0) :: st) w
  | _ => False
theorem si_oald {M : tg_M} {pc : Nat} (hd : decode M.2.1 pc = .ok (.iaload, 1)) : tg_Snd M pc ti_oald (pc + 1) := by
  intro l n0 K kc ks k hk lv st w h
  unfold ti_oald at h
  split at h
  · rename_i i a st
    obtain ⟨ha, hin, h⟩ := h
    intro p e s m args below meth c D cA A ad H locs ls Qc C a1 a2 hK hA hE hQ hP hD hS hL
    have ha1 : Nat.le 1000 a := ha.1
    have ha2 : Nat.lt a 1004 := ha.2
    have hz := (hE.2.1 (a - 1000) (Nat.sub_lt_left_of_lt_add ha1 ha2)).2
    rw [show 1000 + (a - 1000) = a from Nat.add_sub_of_le ha1] at hz
    exact va_ti C.1 C.2.1 hz hS hin rfl hd (hk _ _ _ h p e s m args below meth c D cA A ad H locs ls Qc C a1 a2 hK hA hE hQ hP hD hS hL)
  · exact h.elim
def ti_olen : tg_K → tg_K := fun k lv st w => match st with
  | .ref a :: st => (1000 ≤ a ∧ a < 1004) ∧ k lv (.int (Int32.ofNat (tg_ol (a - 1000)).length) :: st) w
  | _ => False
theorem si_olen {M : tg_M} {pc : Nat} (hd : decode M.2.1 pc = .ok (.arraylength, 1)) : tg_Snd M pc ti_olen (pc + 1) := by
  intro l n0 K kc ks k hk lv st w h
  unfold ti_olen at h
  split at h
  · rename_i a st
    obtain ⟨ha, h⟩ := h
    intro p e s m args below meth c D cA A ad H locs ls Qc C a1 a2 hK hA hE hQ hP hD hS hL
    have ha1 : Nat.le 1000 a := ha.1
    have ha2 : Nat.lt a 1004 := ha.2
    have hz := (hE.2.1 (a - 1000) (Nat.sub_lt_left_of_lt_add ha1 ha2)).2
    rw [show 1000 + (a - 1000) = a from Nat.add_sub_of_le ha1] at hz
    exact va_tlen C.1 C.2.1 hz hS rfl hd (hk _ _ _ h p e s m args below meth c D cA A ad H locs ls Qc C a1 a2 hK hA hE hQ hP hD hS hL)
  · exact h.elim
/-- the script: a place, the length -/
theorem g_xald {l : tg_Ln} {M : tg_M} {n0 : Nat} {K : Option Value → List va_E → Prop} {kc ks pc : Nat} {lv st : List Value} {w : List va_E} {i : Int32} (hd : decode M.2.1 pc = .ok (.iaload, 1)) (hin : vp_in i l.2.1) (k : tg_G l M n0 K kc ks (pc + 1) lv (.int (l.2.2 i.toNatClampNeg) :: st) w) : tg_G l M n0 K kc ks pc lv (.int i :: .ref 1040 :: st) w := by
  intro p e s m args below meth c D cA A ad H locs ls Qc C a1 a2 hK hA hE hQ hP hD hS hL
  exact va_sld C.1 C.2.1 hE.1.1 hE.1.2.1 hE.1.2.2 hS hin hd (k p e s m args below meth c D cA A ad H locs ls Qc C a1 a2 hK hA hE hQ hP hD hS hL)
theorem g_xlen {l : tg_Ln} {M : tg_M} {n0 : Nat} {K : Option Value → List va_E → Prop} {kc ks pc : Nat} {lv st : List Value} {w : List va_E} (hd : decode M.2.1 pc = .ok (.arraylength, 1)) (k : tg_G l M n0 K kc ks (pc + 1) lv (.int (Int32.ofNat l.2.1) :: st) w) : tg_G l M n0 K kc ks pc lv (.ref 1040 :: st) w := by
  intro p e s m args below meth c D cA A ad H locs ls Qc C a1 a2 hK hA hE hQ hP hD hS hL
  exact va_slen C.1 C.2.1 hE.1.1 hE.1.2.1 hE.1.2.2 hS hd (k p e s m args below meth c D cA A ad H locs ls Qc C a1 a2 hK hA hE hQ hP hD hS hL)
def ti_aald : tg_K → tg_K := fun k lv st w => match st with
  | .int i :: .ref a :: st => match w[a]? with
    | some (.inl (t, n, .inr (.inr (.inr (.inr f))))) => (t = 4 ∨ t = 5) ∧ vp_in i n ∧ (match f i.toNatClampNeg with
      | some q => k lv (.ref q :: st) w
      | none => False)
    | _ => False
  | _ => False
theorem si_aald {M : tg_M} {pc : Nat} (hd : decode M.2.1 pc = .ok (.aaload, 1)) : tg_Snd M pc ti_aald (pc + 1) := by
  intro l n0 K kc ks k hk lv st w h
  unfold ti_aald at h
  split at h
  · rename_i i a st
    split at h
    · rename_i t n f hw
      obtain ⟨ht, hin, h⟩ := h
      split at h
      · rename_i q hq
        intro p e s m args below meth c D cA A ad H locs ls Qc C a1 a2 hK hA hE hQ hP hD hS hL
        have hlt : i.toNatClampNeg < n := Nat.not_le.mp fun q => hin (Or.inr q)
        obtain ⟨ty, hty, hrk⟩ : ∃ ty, (tg_tys cA)[t]? = some (cA t, ty) ∧ ((∃ C, ty = .object C) ∨ ∃ u, ty = .array u) := by
          rcases ht with rfl | rfl
          · exact ⟨_, rfl, Or.inl ⟨_, rfl⟩⟩
          · exact ⟨_, rfl, Or.inr ⟨_, rfl⟩⟩
        have hw' : (tg_w cA ad 0 w)[a]? = some (ad a, .inl (cA t, n, .inr (.inr (.inr (.inr (fun j => (f j).map ad)))))) := tg_w_at hw
        refine W.aald (v := va_rf ((f i.toNatClampNeg).map ad)) (ty := ty) C.1 C.2.1 (hP a _ hw') ((hK.2 t _ hty).1 n (fun j => va_rf ((f j).map ad))) (by rcases hrk with ⟨_, rfl⟩ | ⟨_, rfl⟩ <;> rfl) (fun q => by cases q) (by show ¬ (i < 0 ∨ (arrV _ _ _).slots.size ≤ _); rw [arrV_size]; exact hin) (by show (arrV _ _ _).slots[_]? = _; rw [arrV_read _ _ hlt]) rfl rfl hd ?_
        rw [hq]
        exact hk _ _ _ h p e s m args below meth c D cA A ad H locs ls Qc C a1 a2 hK hA hE hQ hP hD hS hL
      · exact h.elim
    · exact h.elim
  · exact h.elim
def ti_str (i : Nat) : tg_K → tg_K := fun k lv st w => k lv (.ref (1010 + i) :: st) w
theorem si_str {M : tg_M} {pc idx i : Nat} (hi : i < 4) (hM : M.1.cls = RX1) (hx : idx = tg_sk i) (hd : decode M.2.1 pc = .ok (.ldc idx, 2)) : tg_Snd M pc (ti_str i) (pc + 2) := by
  intro l n0 K kc ks k hk lv st w h
  unfold ti_str at h
  intro p e s m args below meth c D cA A ad H locs ls Qc C a1 a2 hK hA hE hQ hP hD hS hL
  subst hx
  exact va_ldcS (own := RX1) C.1 C.2.1 (by rw [← hM]; exact C.2.2.2.2.1) (hE.2.2.1.2 i hi) hd (hk _ _ _ h p e s m args below meth c D cA A ad H locs ls Qc C a1 a2 hK hA hE hQ hP hD hS hL)
