/-! INSTRUCTIONS as transformers of what is to hold behind them; 's_..': each is sound where the method's bytes have it -/
abbrev tg_K : Type := List Value → List Value → List va_E → Prop
def tg_Snd (M : tg_M) (pc : Nat) (T : tg_K → tg_K) (pc' : Nat) : Prop := ∀ (l : tg_Ln) (n0 : Nat) (K : Option Value → List va_E → Prop) (kc ks : Nat) (k : tg_K), (∀ lv st w, k lv st w → tg_G l M n0 K kc ks pc' lv st w) → ∀ lv st w, T k lv st w → tg_G l M n0 K kc ks pc lv st w
theorem tg_seq {M : tg_M} {a b c : Nat} {T U : tg_K → tg_K} (h1 : tg_Snd M a T b) (h2 : tg_Snd M b U c) : tg_Snd M a (fun k => T (U k)) c := fun l n0 K kc ks k hk lv st w h => h1 l n0 K kc ks (U k) (fun lv st w h => h2 l n0 K kc ks k hk lv st w h) lv st w h
theorem tg_go {M : tg_M} {a b : Nat} {T : tg_K → tg_K} (h : tg_Snd M a T b) {l : tg_Ln} {n0 : Nat} {K : Option Value → List va_E → Prop} {kc ks : Nat} {lv st : List Value} {w : List va_E} (hk : T (fun lv st w => tg_G l M n0 K kc ks b lv st w) lv st w) : tg_G l M n0 K kc ks a lv st w := h l n0 K kc ks _ (fun _ _ _ h => h) lv st w hk
theorem tg_pure {M : tg_M} {pc pc' : Nat} {T : tg_K → tg_K} (h : ∀ (k : tg_K) (lv st : List Value) (w : List va_E), T k lv st w → ∃ st' : List Value, k lv st' w ∧ ∀ (p : Program) (l : Launch) (e : Env) (R : Room) (s : State) (m : MethodId) (args : Array Value) (below : List Frame) (meth : Method) (c : Code) (H : Heap) (locs : List Loc) (cells slots : Nat) (Q : State → Prop) (ls : Array Slot) (ad : Nat → Nat), p.tables.exec = Jvm.exec → c.code = M.2.1 → s.vm.findClass M.1.cls = some m.cls → (∀ w ∈ tg_T, w.before args s = true) → W p l e R s m args below meth c H locs cells slots Q (F0 m pc' ls (st'.map (tg_v ad))) → W p l e R s m args below meth c H locs cells slots Q (F0 m pc ls (st.map (tg_v ad)))) : tg_Snd M pc T pc' := by
  intro l n0 K kc ks k hk lv st w ht
  obtain ⟨st', h1, h2⟩ := h k lv st w ht
  intro p e s m args below meth c D cA A ad H locs ls Qc C a1 a2 hK hA hE hQ hP hD hS hL
  exact h2 p l.1 e _ s m args below meth c H locs kc ks _ ls ad C.1 C.2.1 C.2.2.2.2.1 C.2.2.2.2.2.1 (hk _ _ _ h1 p e s m args below meth c D cA A ad H locs ls Qc C a1 a2 hK hA hE hQ hP hD hS hL)
def ti_push (v : Value) : tg_K → tg_K := fun k lv st w => k lv (v :: st) w
theorem si_iconst {M : tg_M} {pc : Nat} {n : Int} {v : Int32} (hd : decode M.2.1 pc = .ok (.iconst n, 1)) (hv : Int32.ofInt n = v) : tg_Snd M pc (ti_push (.int v)) (pc + 1) := tg_pure fun k lv st w h => ⟨_, h, fun p l e R s m args below meth c H locs cells slots Q ls ad hx hb ho ht kk => lv_iconst hx hb hd hv kk⟩
theorem si_bipush {M : tg_M} {pc : Nat} {n : Int} {v : Int32} (hd : decode M.2.1 pc = .ok (.bipush n, 2)) (hv : (Int8.ofInt n).toInt32 = v) : tg_Snd M pc (ti_push (.int v)) (pc + 2) := tg_pure fun k lv st w h => ⟨_, h, fun p l e R s m args below meth c H locs cells slots Q ls ad hx hb ho ht kk => lv_bipush hx hb hd hv kk⟩
theorem si_sipush {M : tg_M} {pc : Nat} {n : Int} {v : Int32} (hd : decode M.2.1 pc = .ok (.sipush n, 3)) (hv : (Int16.ofInt n).toInt32 = v) : tg_Snd M pc (ti_push (.int v)) (pc + 3) := tg_pure fun k lv st w h => ⟨_, h, fun p l e R s m args below meth c H locs cells slots Q ls ad hx hb ho ht kk => lv_sipush hx hb hd hv kk⟩
theorem si_lconst {M : tg_M} {pc : Nat} {n : Fin 2} {v : Int64} (hd : decode M.2.1 pc = .ok (.lconst n, 1)) (hv : Int64.ofNat (n : Nat) = v) : tg_Snd M pc (ti_push (.long v)) (pc + 1) := tg_pure fun k lv st w h => ⟨_, h, fun p l e R s m args below meth c H locs cells slots Q ls ad hx hb ho ht kk => lv_lconst hx hb hd hv kk⟩
theorem si_ldc {M : tg_M} {pc i : Nat} {v : Int32} (hd : decode M.2.1 pc = .ok (.ldc i, 2)) (hm : Cond.constant M.1.cls i v ∈ tg_T) : tg_Snd M pc (ti_push (.int v)) (pc + 2) := tg_pure fun k lv st w h => ⟨_, h, fun p l e R s m args below meth c H locs cells slots Q ls ad hx hb ho ht kk => lv_ldc hx hb ho (ht _ hm) hd kk⟩
theorem si_ldcw {M : tg_M} {pc i : Nat} {v : Int32} (hd : decode M.2.1 pc = .ok (.ldc_w i, 3)) (hm : Cond.constant M.1.cls i v ∈ tg_T) : tg_Snd M pc (ti_push (.int v)) (pc + 3) := tg_pure fun k lv st w h => ⟨_, h, fun p l e R s m args below meth c H locs cells slots Q ls ad hx hb ho ht kk => lv_ldcw hx hb ho (ht _ hm) hd kk⟩
theorem si_ldc2 {M : tg_M} {pc i : Nat} {v : Int64} (hd : decode M.2.1 pc = .ok (.ldc2_w i, 3)) (hm : Cond.constantLong M.1.cls i v ∈ tg_T) : tg_Snd M pc (ti_push (.long v)) (pc + 3) := tg_pure fun k lv st w h => ⟨_, h, fun p l e R s m args below meth c H locs cells slots Q ls ad hx hb ho ht kk => lv_ldc2 hx hb ho (ht _ hm) hd kk⟩
def tg_rem (x y : Int32) : Int32 := x - x / y * y
def ti_iadd : tg_K → tg_K := fun k lv st w => match st with
  | .int y :: .int x :: st => k lv (.int (x + y) :: st) w
  | _ => False
theorem si_iadd {M : tg_M} {pc : Nat} (hd : decode M.2.1 pc = .ok (.iadd, 1)) : tg_Snd M pc ti_iadd (pc + 1) := tg_pure fun k lv st w h => by
  unfold ti_iadd at h
  split at h
  · exact ⟨_, h, fun p l e R s m args below meth c H locs cells slots Q ls ad hx hb ho ht kk => lv_iadd hx hb hd kk⟩
  · exact h.elim
def ti_isub : tg_K → tg_K := fun k lv st w => match st with
  | .int y :: .int x :: st => k lv (.int (x - y) :: st) w
  | _ => False
theorem si_isub {M : tg_M} {pc : Nat} (hd : decode M.2.1 pc = .ok (.isub, 1)) : tg_Snd M pc ti_isub (pc + 1) := tg_pure fun k lv st w h => by
  unfold ti_isub at h
  split at h
  · exact ⟨_, h, fun p l e R s m args below meth c H locs cells slots Q ls ad hx hb ho ht kk => lv_isub hx hb hd kk⟩
  · exact h.elim
def ti_imul : tg_K → tg_K := fun k lv st w => match st with
  | .int y :: .int x :: st => k lv (.int (x * y) :: st) w
  | _ => False
theorem si_imul {M : tg_M} {pc : Nat} (hd : decode M.2.1 pc = .ok (.imul, 1)) : tg_Snd M pc ti_imul (pc + 1) := tg_pure fun k lv st w h => by
  unfold ti_imul at h
  split at h
  · exact ⟨_, h, fun p l e R s m args below meth c H locs cells slots Q ls ad hx hb ho ht kk => lv_imul hx hb hd kk⟩
  · exact h.elim
def ti_iand : tg_K → tg_K := fun k lv st w => match st with
  | .int y :: .int x :: st => k lv (.int (x &&& y) :: st) w
  | _ => False
theorem si_iand {M : tg_M} {pc : Nat} (hd : decode M.2.1 pc = .ok (.iand, 1)) : tg_Snd M pc ti_iand (pc + 1) := tg_pure fun k lv st w h => by
  unfold ti_iand at h
  split at h
  · exact ⟨_, h, fun p l e R s m args below meth c H locs cells slots Q ls ad hx hb ho ht kk => lv_iand hx hb hd kk⟩
  · exact h.elim
def ti_ior : tg_K → tg_K := fun k lv st w => match st with
  | .int y :: .int x :: st => k lv (.int (x ||| y) :: st) w
  | _ => False
theorem si_ior {M : tg_M} {pc : Nat} (hd : decode M.2.1 pc = .ok (.ior, 1)) : tg_Snd M pc ti_ior (pc + 1) := tg_pure fun k lv st w h => by
  unfold ti_ior at h
  split at h
  · exact ⟨_, h, fun p l e R s m args below meth c H locs cells slots Q ls ad hx hb ho ht kk => lv_ior hx hb hd kk⟩
  · exact h.elim
def ti_ixor : tg_K → tg_K := fun k lv st w => match st with
  | .int y :: .int x :: st => k lv (.int (x ^^^ y) :: st) w
  | _ => False
theorem si_ixor {M : tg_M} {pc : Nat} (hd : decode M.2.1 pc = .ok (.ixor, 1)) : tg_Snd M pc ti_ixor (pc + 1) := tg_pure fun k lv st w h => by
  unfold ti_ixor at h
  split at h
  · exact ⟨_, h, fun p l e R s m args below meth c H locs cells slots Q ls ad hx hb ho ht kk => lv_ixor hx hb hd kk⟩
  · exact h.elim
def ti_ishl : tg_K → tg_K := fun k lv st w => match st with
  | .int y :: .int x :: st => k lv (.int (x <<< (y &&& 31)) :: st) w
  | _ => False
theorem si_ishl {M : tg_M} {pc : Nat} (hd : decode M.2.1 pc = .ok (.ishl, 1)) : tg_Snd M pc ti_ishl (pc + 1) := tg_pure fun k lv st w h => by
  unfold ti_ishl at h
  split at h
  · exact ⟨_, h, fun p l e R s m args below meth c H locs cells slots Q ls ad hx hb ho ht kk => lv_ishl hx hb hd kk⟩
  · exact h.elim
def ti_ishr : tg_K → tg_K := fun k lv st w => match st with
  | .int y :: .int x :: st => k lv (.int (x >>> (y &&& 31)) :: st) w
  | _ => False
theorem si_ishr {M : tg_M} {pc : Nat} (hd : decode M.2.1 pc = .ok (.ishr, 1)) : tg_Snd M pc ti_ishr (pc + 1) := tg_pure fun k lv st w h => by
  unfold ti_ishr at h
  split at h
  · exact ⟨_, h, fun p l e R s m args below meth c H locs cells slots Q ls ad hx hb ho ht kk => lv_ishr hx hb hd kk⟩
  · exact h.elim
def ti_idiv : tg_K → tg_K := fun k lv st w => match st with
  | .int y :: .int x :: st => ¬ y = 0 ∧ k lv (.int (x / y) :: st) w
  | _ => False
theorem si_idiv {M : tg_M} {pc : Nat} (hd : decode M.2.1 pc = .ok (.idiv, 1)) : tg_Snd M pc ti_idiv (pc + 1) := tg_pure fun k lv st w h => by
  unfold ti_idiv at h
  split at h
  · exact ⟨_, h.2, fun p l e R s m args below meth c H locs cells slots Q ls ad hx hb ho ht kk => lv_idiv hx hb hd h.1 kk⟩
  · exact h.elim
def ti_irem : tg_K → tg_K := fun k lv st w => match st with
  | .int y :: .int x :: st => ¬ y = 0 ∧ k lv (.int (tg_rem x y) :: st) w
  | _ => False
theorem si_irem {M : tg_M} {pc : Nat} (hd : decode M.2.1 pc = .ok (.irem, 1)) : tg_Snd M pc ti_irem (pc + 1) := tg_pure fun k lv st w h => by
  unfold ti_irem at h
  split at h
  · exact ⟨_, h.2, fun p l e R s m args below meth c H locs cells slots Q ls ad hx hb ho ht kk => lv_irem hx hb hd h.1 kk⟩
  · exact h.elim
def ti_ineg : tg_K → tg_K := fun k lv st w => match st with
  | .int x :: st => k lv (.int (-x) :: st) w
  | _ => False
theorem si_ineg {M : tg_M} {pc : Nat} (hd : decode M.2.1 pc = .ok (.ineg, 1)) : tg_Snd M pc ti_ineg (pc + 1) := tg_pure fun k lv st w h => by
  unfold ti_ineg at h
  split at h
  · exact ⟨_, h, fun p l e R s m args below meth c H locs cells slots Q ls ad hx hb ho ht kk => lv_ineg hx hb hd kk⟩
  · exact h.elim
def ti_ladd : tg_K → tg_K := fun k lv st w => match st with
  | .long y :: .long x :: st => k lv (.long (x + y) :: st) w
  | _ => False
theorem si_ladd {M : tg_M} {pc : Nat} (hd : decode M.2.1 pc = .ok (.ladd, 1)) : tg_Snd M pc ti_ladd (pc + 1) := tg_pure fun k lv st w h => by
  unfold ti_ladd at h
  split at h
  · exact ⟨_, h, fun p l e R s m args below meth c H locs cells slots Q ls ad hx hb ho ht kk => lv_ladd hx hb hd kk⟩
  · exact h.elim
def ti_lsub : tg_K → tg_K := fun k lv st w => match st with
  | .long y :: .long x :: st => k lv (.long (x - y) :: st) w
  | _ => False
theorem si_lsub {M : tg_M} {pc : Nat} (hd : decode M.2.1 pc = .ok (.lsub, 1)) : tg_Snd M pc ti_lsub (pc + 1) := tg_pure fun k lv st w h => by
  unfold ti_lsub at h
  split at h
  · exact ⟨_, h, fun p l e R s m args below meth c H locs cells slots Q ls ad hx hb ho ht kk => lv_lsub hx hb hd kk⟩
  · exact h.elim
def ti_lmul : tg_K → tg_K := fun k lv st w => match st with
  | .long y :: .long x :: st => k lv (.long (x * y) :: st) w
  | _ => False
theorem si_lmul {M : tg_M} {pc : Nat} (hd : decode M.2.1 pc = .ok (.lmul, 1)) : tg_Snd M pc ti_lmul (pc + 1) := tg_pure fun k lv st w h => by
  unfold ti_lmul at h
  split at h
  · exact ⟨_, h, fun p l e R s m args below meth c H locs cells slots Q ls ad hx hb ho ht kk => lv_lmul hx hb hd kk⟩
  · exact h.elim
def ti_land : tg_K → tg_K := fun k lv st w => match st with
  | .long y :: .long x :: st => k lv (.long (x &&& y) :: st) w
  | _ => False
theorem si_land {M : tg_M} {pc : Nat} (hd : decode M.2.1 pc = .ok (.land, 1)) : tg_Snd M pc ti_land (pc + 1) := tg_pure fun k lv st w h => by
  unfold ti_land at h
  split at h
  · exact ⟨_, h, fun p l e R s m args below meth c H locs cells slots Q ls ad hx hb ho ht kk => lv_land hx hb hd kk⟩
  · exact h.elim
def ti_lor : tg_K → tg_K := fun k lv st w => match st with
  | .long y :: .long x :: st => k lv (.long (x ||| y) :: st) w
  | _ => False
theorem si_lor {M : tg_M} {pc : Nat} (hd : decode M.2.1 pc = .ok (.lor, 1)) : tg_Snd M pc ti_lor (pc + 1) := tg_pure fun k lv st w h => by
  unfold ti_lor at h
  split at h
  · exact ⟨_, h, fun p l e R s m args below meth c H locs cells slots Q ls ad hx hb ho ht kk => lv_lor hx hb hd kk⟩
  · exact h.elim
def ti_lxor : tg_K → tg_K := fun k lv st w => match st with
  | .long y :: .long x :: st => k lv (.long (x ^^^ y) :: st) w
  | _ => False
theorem si_lxor {M : tg_M} {pc : Nat} (hd : decode M.2.1 pc = .ok (.lxor, 1)) : tg_Snd M pc ti_lxor (pc + 1) := tg_pure fun k lv st w h => by
  unfold ti_lxor at h
  split at h
  · exact ⟨_, h, fun p l e R s m args below meth c H locs cells slots Q ls ad hx hb ho ht kk => lv_lxor hx hb hd kk⟩
  · exact h.elim
def ti_ldiv : tg_K → tg_K := fun k lv st w => match st with
  | .long y :: .long x :: st => ¬ y = 0 ∧ k lv (.long (x / y) :: st) w
  | _ => False
theorem si_ldiv {M : tg_M} {pc : Nat} (hd : decode M.2.1 pc = .ok (.ldiv, 1)) : tg_Snd M pc ti_ldiv (pc + 1) := tg_pure fun k lv st w h => by
  unfold ti_ldiv at h
  split at h
  · exact ⟨_, h.2, fun p l e R s m args below meth c H locs cells slots Q ls ad hx hb ho ht kk => lv_ldiv hx hb hd h.1 kk⟩
  · exact h.elim
def ti_lneg : tg_K → tg_K := fun k lv st w => match st with
  | .long x :: st => k lv (.long (-x) :: st) w
  | _ => False
theorem si_lneg {M : tg_M} {pc : Nat} (hd : decode M.2.1 pc = .ok (.lneg, 1)) : tg_Snd M pc ti_lneg (pc + 1) := tg_pure fun k lv st w h => by
  unfold ti_lneg at h
  split at h
  · exact ⟨_, h, fun p l e R s m args below meth c H locs cells slots Q ls ad hx hb ho ht kk => lv_lneg hx hb hd kk⟩
  · exact h.elim
def ti_lshl : tg_K → tg_K := fun k lv st w => match st with
  | .int y :: .long x :: st => k lv (.long (x <<< (y.toInt64 &&& 63)) :: st) w
  | _ => False
theorem si_lshl {M : tg_M} {pc : Nat} (hd : decode M.2.1 pc = .ok (.lshl, 1)) : tg_Snd M pc ti_lshl (pc + 1) := tg_pure fun k lv st w h => by
  unfold ti_lshl at h
  split at h
  · exact ⟨_, h, fun p l e R s m args below meth c H locs cells slots Q ls ad hx hb ho ht kk => lv_lshl hx hb hd rfl kk⟩
  · exact h.elim
def ti_lshr : tg_K → tg_K := fun k lv st w => match st with
  | .int y :: .long x :: st => k lv (.long (x >>> (y.toInt64 &&& 63)) :: st) w
  | _ => False
theorem si_lshr {M : tg_M} {pc : Nat} (hd : decode M.2.1 pc = .ok (.lshr, 1)) : tg_Snd M pc ti_lshr (pc + 1) := tg_pure fun k lv st w h => by
  unfold ti_lshr at h
  split at h
  · exact ⟨_, h, fun p l e R s m args below meth c H locs cells slots Q ls ad hx hb ho ht kk => lv_lshr hx hb hd rfl kk⟩
  · exact h.elim
def ti_lushr : tg_K → tg_K := fun k lv st w => match st with
  | .int y :: .long x :: st => k lv (.long ((x.toUInt64 >>> (y.toInt64.toUInt64 &&& Int64.toUInt64 63)).toInt64) :: st) w
  | _ => False
theorem si_lushr {M : tg_M} {pc : Nat} (hd : decode M.2.1 pc = .ok (.lushr, 1)) : tg_Snd M pc ti_lushr (pc + 1) := tg_pure fun k lv st w h => by
  unfold ti_lushr at h
  split at h
  · exact ⟨_, h, fun p l e R s m args below meth c H locs cells slots Q ls ad hx hb ho ht kk => lv_lushr hx hb hd rfl kk⟩
  · exact h.elim
def ti_iushr : tg_K → tg_K := fun k lv st w => match st with
  | .int y :: .int x :: st => k lv (.int ((x.toUInt32 >>> (y.toUInt32 &&& Int32.toUInt32 31)).toInt32) :: st) w
  | _ => False
theorem si_iushr {M : tg_M} {pc : Nat} (hd : decode M.2.1 pc = .ok (.iushr, 1)) : tg_Snd M pc ti_iushr (pc + 1) := tg_pure fun k lv st w h => by
  unfold ti_iushr at h
  split at h
  · exact ⟨_, h, fun p l e R s m args below meth c H locs cells slots Q ls ad hx hb ho ht kk => lv_iushr hx hb hd rfl kk⟩
  · exact h.elim
def ti_i2l : tg_K → tg_K := fun k lv st w => match st with
  | .int x :: st => k lv (.long x.toInt64 :: st) w
  | _ => False
theorem si_i2l {M : tg_M} {pc : Nat} (hd : decode M.2.1 pc = .ok (.i2l, 1)) : tg_Snd M pc ti_i2l (pc + 1) := tg_pure fun k lv st w h => by
  unfold ti_i2l at h
  split at h
  · exact ⟨_, h, fun p l e R s m args below meth c H locs cells slots Q ls ad hx hb ho ht kk => lv_i2l hx hb hd rfl kk⟩
  · exact h.elim
def ti_l2i : tg_K → tg_K := fun k lv st w => match st with
  | .long x :: st => k lv (.int x.toInt32 :: st) w
  | _ => False
theorem si_l2i {M : tg_M} {pc : Nat} (hd : decode M.2.1 pc = .ok (.l2i, 1)) : tg_Snd M pc ti_l2i (pc + 1) := tg_pure fun k lv st w h => by
  unfold ti_l2i at h
  split at h
  · exact ⟨_, h, fun p l e R s m args below meth c H locs cells slots Q ls ad hx hb ho ht kk => lv_l2i hx hb hd rfl kk⟩
  · exact h.elim
def ti_i2c : tg_K → tg_K := fun k lv st w => match st with
  | .int x :: st => k lv (.int (x.toUInt32 % 65536).toInt32 :: st) w
  | _ => False
theorem si_i2c {M : tg_M} {pc : Nat} (hd : decode M.2.1 pc = .ok (.i2c, 1)) : tg_Snd M pc ti_i2c (pc + 1) := tg_pure fun k lv st w h => by
  unfold ti_i2c at h
  split at h
  · exact ⟨_, h, fun p l e R s m args below meth c H locs cells slots Q ls ad hx hb ho ht kk => lv_i2c hx hb hd rfl kk⟩
  · exact h.elim
def ti_lcmp : tg_K → tg_K := fun k lv st w => match st with
  | .long y :: .long x :: st => k lv (.int (lg_cmp x y) :: st) w
  | _ => False
theorem si_lcmp {M : tg_M} {pc : Nat} (hd : decode M.2.1 pc = .ok (.lcmp, 1)) : tg_Snd M pc ti_lcmp (pc + 1) := tg_pure fun k lv st w h => by
  unfold ti_lcmp at h
  split at h
  · exact ⟨_, h, fun p l e R s m args below meth c H locs cells slots Q ls ad hx hb ho ht kk => W.lcmp hx hb hd kk⟩
  · exact h.elim
def ti_dup : tg_K → tg_K := fun k lv st w => match st with
  | v :: st => v.category = 1 ∧ k lv (v :: v :: st) w
  | _ => False
theorem si_dup {M : tg_M} {pc : Nat} (hd : decode M.2.1 pc = .ok (.dup, 1)) : tg_Snd M pc ti_dup (pc + 1) := tg_pure fun k lv st w h => by
  unfold ti_dup at h
  split at h
  · exact ⟨_, h.2, fun p l e R s m args below meth c H locs cells slots Q ls ad hx hb ho ht kk => lv_dup hx hb hd (by rw [tg_v_cat]; exact h.1) kk⟩
  · exact h.elim
def ti_pop : tg_K → tg_K := fun k lv st w => match st with
  | v :: st => v.category = 1 ∧ k lv st w
  | _ => False
theorem si_pop {M : tg_M} {pc : Nat} (hd : decode M.2.1 pc = .ok (.pop, 1)) : tg_Snd M pc ti_pop (pc + 1) := tg_pure fun k lv st w h => by
  unfold ti_pop at h
  split at h
  · exact ⟨_, h.2, fun p l e R s m args below meth c H locs cells slots Q ls ad hx hb ho ht kk => lv_pop hx hb hd (by rw [tg_v_cat]; exact h.1) kk⟩
  · exact h.elim
def ti_dup_x1 : tg_K → tg_K := fun k lv st w => match st with
  | v :: u :: st => (v.category = 1 ∧ u.category = 1) ∧ k lv (v :: u :: v :: st) w
  | _ => False
theorem si_dup_x1 {M : tg_M} {pc : Nat} (hd : decode M.2.1 pc = .ok (.dup_x1, 1)) : tg_Snd M pc ti_dup_x1 (pc + 1) := tg_pure fun k lv st w h => by
  unfold ti_dup_x1 at h
  split at h
  · exact ⟨_, h.2, fun p l e R s m args below meth c H locs cells slots Q ls ad hx hb ho ht kk => lv_dup_x1 hx hb hd (by rw [tg_v_cat]; exact h.1.1) (by rw [tg_v_cat]; exact h.1.2) kk⟩
  · exact h.elim
def ti_dup2 : tg_K → tg_K := fun k lv st w => match st with
  | v :: u :: st => (v.category = 1 ∧ u.category = 1) ∧ k lv (v :: u :: v :: u :: st) w
  | _ => False
theorem si_dup2 {M : tg_M} {pc : Nat} (hd : decode M.2.1 pc = .ok (.dup2, 1)) : tg_Snd M pc ti_dup2 (pc + 1) := tg_pure fun k lv st w h => by
  unfold ti_dup2 at h
  split at h
  · exact ⟨_, h.2, fun p l e R s m args below meth c H locs cells slots Q ls ad hx hb ho ht kk => lv_dup2_11 hx hb hd (by rw [tg_v_cat]; exact h.1.1) (by rw [tg_v_cat]; exact h.1.2) kk⟩
  · exact h.elim
def ti_iload (i : Nat) : tg_K → tg_K := fun k lv st w => match lv[i]? with
  | some (.int x) => k lv (.int x :: st) w
  | _ => False
theorem si_iload {M : tg_M} {pc i : Nat} (hd : decode M.2.1 pc = .ok (.iload i, 2)) : tg_Snd M pc (ti_iload i) (pc + 2) := by
  intro l n0 K kc ks k hk lv st w h
  unfold ti_iload at h
  split at h
  · rename_i x hx
    intro p e s m args below meth c D cA A ad H locs ls Qc C a1 a2 hK hA hE hQ hP hD hS hL
    exact lv_iload C.1 C.2.1 hd (tg_L_at hL hx (by simp)) (hk _ _ _ h p e s m args below meth c D cA A ad H locs ls Qc C a1 a2 hK hA hE hQ hP hD hS hL)
  · exact h.elim
theorem si_iload_n {M : tg_M} {pc i : Nat} {j : Fin 4} (hd : decode M.2.1 pc = .ok (.iload_n j, 1)) (hi : (j : Nat) = i) : tg_Snd M pc (ti_iload i) (pc + 1) := by
  intro l n0 K kc ks k hk lv st w h
  unfold ti_iload at h
  split at h
  · rename_i x hx
    intro p e s m args below meth c D cA A ad H locs ls Qc C a1 a2 hK hA hE hQ hP hD hS hL
    exact lv_iload_n C.1 C.2.1 hd hi (tg_L_at hL hx (by simp)) (hk _ _ _ h p e s m args below meth c D cA A ad H locs ls Qc C a1 a2 hK hA hE hQ hP hD hS hL)
  · exact h.elim
def ti_lload (i : Nat) : tg_K → tg_K := fun k lv st w => match lv[i]? with
  | some (.long x) => k lv (.long x :: st) w
  | _ => False
theorem si_lload {M : tg_M} {pc i : Nat} (hd : decode M.2.1 pc = .ok (.lload i, 2)) : tg_Snd M pc (ti_lload i) (pc + 2) := by
  intro l n0 K kc ks k hk lv st w h
  unfold ti_lload at h
  split at h
  · rename_i x hx
    intro p e s m args below meth c D cA A ad H locs ls Qc C a1 a2 hK hA hE hQ hP hD hS hL
    exact lv_lload C.1 C.2.1 hd (tg_L_at hL hx (by simp)) (hk _ _ _ h p e s m args below meth c D cA A ad H locs ls Qc C a1 a2 hK hA hE hQ hP hD hS hL)
  · exact h.elim
theorem si_lload_n {M : tg_M} {pc i : Nat} {j : Fin 4} (hd : decode M.2.1 pc = .ok (.lload_n j, 1)) (hi : (j : Nat) = i) : tg_Snd M pc (ti_lload i) (pc + 1) := by
  intro l n0 K kc ks k hk lv st w h
  unfold ti_lload at h
  split at h
  · rename_i x hx
    intro p e s m args below meth c D cA A ad H locs ls Qc C a1 a2 hK hA hE hQ hP hD hS hL
    exact lv_lload_n C.1 C.2.1 hd hi (tg_L_at hL hx (by simp)) (hk _ _ _ h p e s m args below meth c D cA A ad H locs ls Qc C a1 a2 hK hA hE hQ hP hD hS hL)
  · exact h.elim
def ti_aload (i : Nat) : tg_K → tg_K := fun k lv st w => match lv[i]? with
  | some (.ref x) => k lv (.ref x :: st) w
  | _ => False
theorem si_aload {M : tg_M} {pc i : Nat} (hd : decode M.2.1 pc = .ok (.aload i, 2)) : tg_Snd M pc (ti_aload i) (pc + 2) := by
  intro l n0 K kc ks k hk lv st w h
  unfold ti_aload at h
  split at h
  · rename_i x hx
    intro p e s m args below meth c D cA A ad H locs ls Qc C a1 a2 hK hA hE hQ hP hD hS hL
    exact lv_aload C.1 C.2.1 hd (tg_L_at hL hx (by simp)) (hk _ _ _ h p e s m args below meth c D cA A ad H locs ls Qc C a1 a2 hK hA hE hQ hP hD hS hL)
  · exact h.elim
theorem si_aload_n {M : tg_M} {pc i : Nat} {j : Fin 4} (hd : decode M.2.1 pc = .ok (.aload_n j, 1)) (hi : (j : Nat) = i) : tg_Snd M pc (ti_aload i) (pc + 1) := by
  intro l n0 K kc ks k hk lv st w h
  unfold ti_aload at h
  split at h
  · rename_i x hx
    intro p e s m args below meth c D cA A ad H locs ls Qc C a1 a2 hK hA hE hQ hP hD hS hL
    exact lv_aload_n C.1 C.2.1 hd hi (tg_L_at hL hx (by simp)) (hk _ _ _ h p e s m args below meth c D cA A ad H locs ls Qc C a1 a2 hK hA hE hQ hP hD hS hL)
  · exact h.elim
def ti_istore (i : Nat) : tg_K → tg_K := fun k lv st w => match st with
  | .int x :: st => k (tg_s1 lv i (.int x)) st w
  | _ => False
theorem si_istore {M : tg_M} {pc i : Nat} (hd : decode M.2.1 pc = .ok (.istore i, 2)) (hn : i < M.2.2.1) : tg_Snd M pc (ti_istore i) (pc + 2) := by
  intro l n0 K kc ks k hk lv st w h
  unfold ti_istore at h
  split at h
  · intro p e s m args below meth c D cA A ad H locs ls Qc C a1 a2 hK hA hE hQ hP hD hS hL
    exact lv_istore C.1 C.2.1 hd hL hn rfl (fun ls' hL' => hk _ _ _ h p e s m args below meth c D cA A ad H locs ls' Qc C a1 a2 hK hA hE hQ hP hD hS (tg_L_s1 hL'))
  · exact h.elim
theorem si_istore_n {M : tg_M} {pc i : Nat} {j : Fin 4} (hd : decode M.2.1 pc = .ok (.istore_n j, 1)) (hi : (j : Nat) = i) (hn : i < M.2.2.1) : tg_Snd M pc (ti_istore i) (pc + 1) := by
  intro l n0 K kc ks k hk lv st w h
  unfold ti_istore at h
  split at h
  · intro p e s m args below meth c D cA A ad H locs ls Qc C a1 a2 hK hA hE hQ hP hD hS hL
    exact lv_istore_n C.1 C.2.1 hd hi hL hn rfl (fun ls' hL' => hk _ _ _ h p e s m args below meth c D cA A ad H locs ls' Qc C a1 a2 hK hA hE hQ hP hD hS (tg_L_s1 hL'))
  · exact h.elim
def ti_lstore (i : Nat) : tg_K → tg_K := fun k lv st w => match st with
  | .long x :: st => k (tg_s2 lv i (.long x)) st w
  | _ => False
theorem si_lstore {M : tg_M} {pc i : Nat} (hd : decode M.2.1 pc = .ok (.lstore i, 2)) (hn : i + 1 < M.2.2.1) : tg_Snd M pc (ti_lstore i) (pc + 2) := by
  intro l n0 K kc ks k hk lv st w h
  unfold ti_lstore at h
  split at h
  · intro p e s m args below meth c D cA A ad H locs ls Qc C a1 a2 hK hA hE hQ hP hD hS hL
    exact lv_lstore C.1 C.2.1 hd hL hn rfl (fun ls' hL' => hk _ _ _ h p e s m args below meth c D cA A ad H locs ls' Qc C a1 a2 hK hA hE hQ hP hD hS (tg_L_s2 hL'))
  · exact h.elim
theorem si_lstore_n {M : tg_M} {pc i : Nat} {j : Fin 4} (hd : decode M.2.1 pc = .ok (.lstore_n j, 1)) (hi : (j : Nat) = i) (hn : i + 1 < M.2.2.1) : tg_Snd M pc (ti_lstore i) (pc + 1) := by
  intro l n0 K kc ks k hk lv st w h
  unfold ti_lstore at h
  split at h
  · intro p e s m args below meth c D cA A ad H locs ls Qc C a1 a2 hK hA hE hQ hP hD hS hL
    exact lv_lstore_n C.1 C.2.1 hd hi hL hn rfl (fun ls' hL' => hk _ _ _ h p e s m args below meth c D cA A ad H locs ls' Qc C a1 a2 hK hA hE hQ hP hD hS (tg_L_s2 hL'))
  · exact h.elim
def ti_astore (i : Nat) : tg_K → tg_K := fun k lv st w => match st with
  | .ref x :: st => k (tg_s1 lv i (.ref x)) st w
  | _ => False
theorem si_astore {M : tg_M} {pc i : Nat} (hd : decode M.2.1 pc = .ok (.astore i, 2)) (hn : i < M.2.2.1) : tg_Snd M pc (ti_astore i) (pc + 2) := by
  intro l n0 K kc ks k hk lv st w h
  unfold ti_astore at h
  split at h
  · intro p e s m args below meth c D cA A ad H locs ls Qc C a1 a2 hK hA hE hQ hP hD hS hL
    exact lv_astore C.1 C.2.1 hd hL hn rfl (fun ls' hL' => hk _ _ _ h p e s m args below meth c D cA A ad H locs ls' Qc C a1 a2 hK hA hE hQ hP hD hS (tg_L_s1 hL'))
  · exact h.elim
theorem si_astore_n {M : tg_M} {pc i : Nat} {j : Fin 4} (hd : decode M.2.1 pc = .ok (.astore_n j, 1)) (hi : (j : Nat) = i) (hn : i < M.2.2.1) : tg_Snd M pc (ti_astore i) (pc + 1) := by
  intro l n0 K kc ks k hk lv st w h
  unfold ti_astore at h
  split at h
  · intro p e s m args below meth c D cA A ad H locs ls Qc C a1 a2 hK hA hE hQ hP hD hS hL
    exact lv_astore_n C.1 C.2.1 hd hi hL hn rfl (fun ls' hL' => hk _ _ _ h p e s m args below meth c D cA A ad H locs ls' Qc C a1 a2 hK hA hE hQ hP hD hS (tg_L_s1 hL'))
  · exact h.elim
def ti_iinc (i : Nat) (v : Int32) : tg_K → tg_K := fun k lv st w => match lv[i]? with
  | some (.int x) => k (tg_s1 lv i (.int (x + v))) st w
  | _ => False
theorem si_iinc {M : tg_M} {pc i : Nat} {n : Int} {v : Int32} (hd : decode M.2.1 pc = .ok (.iinc i n, 3)) (hv : Int32.ofInt n = v) (hn : i < M.2.2.1) : tg_Snd M pc (ti_iinc i v) (pc + 3) := by
  intro l n0 K kc ks k hk lv st w h
  unfold ti_iinc at h
  split at h
  · rename_i x hx
    intro p e s m args below meth c D cA A ad H locs ls Qc C a1 a2 hK hA hE hQ hP hD hS hL
    obtain ⟨q, hq⟩ := List.getElem?_of_mem ((tg_prs_mem ad lv 0 (i, tg_v ad (.int x))).mpr ⟨i, _, hx, by simp, by simp⟩)
    exact lv_iinc C.1 C.2.1 hd hL (k := q) hq rfl hn rfl (fun ls' hL' => hk _ _ _ h p e s m args below meth c D cA A ad H locs ls' Qc C a1 a2 hK hA hE hQ hP hD hS (by subst hv; exact tg_L_s1 hL'))
  · exact h.elim
/-- a class's words among the tables -/
def tg_cls (ci : Nat) (C : String) (T : u_T) (N : Nat) : Prop := vwCl[ci]? = some (C, T, N) ∧ (∀ w ∈ u_ws C T N, w ∈ tg_T)
def ti_getf (ci f : Nat) : tg_K → tg_K := fun k lv st w => match st with
  | .ref a :: st => match w[a]? with
    | some (.inr (cj, fs)) => match fs[f]? with
      | some v => cj = ci ∧ k lv (v :: st) w
      | none => False
    | _ => False
  | _ => False
theorem si_getf {M : tg_M} {pc ci f idx N : Nat} {C nm ds : String} {T : u_T} (hc : tg_cls ci C T N) (hf : f < N) (hT : T f = (C, nm, ds, (T f).2.2.2)) (hl : Cond.fieldLink M.1.cls idx C nm ds ∈ tg_T) (hd : decode M.2.1 pc = .ok (.getfield idx, 3)) : tg_Snd M pc (ti_getf ci f) (pc + 3) := by
  intro l n0 K kc ks k hk lv st w h
  unfold ti_getf at h
  split at h
  · rename_i a st
    split at h
    · rename_i cj fs hw
      split at h
      · rename_i v hv
        obtain ⟨rfl, h⟩ := h
        intro p e s m args below meth c D cA A ad H locs ls Qc C0 a1 a2 hK hA hE hQ hP hD hS hL
        refine va_get (D := D) (C := C) (T := T) (N := N) (ref := C) C0.1 C0.2.1 C0.2.2.2.2.2.1 hc.2 C0.2.2.2.2.1 hK hP a (tg_w_at hw) hc.1 f hf ?_ ?_ (v := tg_v ad v) ?_ hd (hk _ _ _ h p e s m args below meth c D cA A ad H locs ls Qc C0 a1 a2 hK hA hE hQ hP hD hS hL)
        · rw [hT]; exact C0.2.2.2.2.2.1 _ hl
        · rw [hT]; exact fun _ h => h
        · rw [List.getElem?_map, hv]; rfl
      · exact h.elim
    · exact h.elim
  · exact h.elim
def ti_putfI (ci f : Nat) : tg_K → tg_K := fun k lv st w => match st with
  | .int x :: .ref a :: st => match w[a]? with
    | some (.inr (cj, fs)) => match fs[f]? with
      | some _ => cj = ci ∧ k lv st (w.set a (.inr (cj, fs.set f (.int x))))
      | none => False
    | _ => False
  | _ => False
theorem si_putfI {M : tg_M} {pc ci f idx N : Nat} {C nm ds : String} {T : u_T} {ty0 : Nat → FieldType} {ty : FieldType} (hc : tg_cls ci C T N) (hty : ∀ k, k < N → parseFieldDescriptor (T k).2.2.1 = some (ty0 k)) (hnm : ∀ a, a < N → ∀ b, b < N → a ≠ b → (T a).2.1 ≠ (T b).2.1) (hf : f < N) (hT : T f = (C, nm, ds, false)) (hpd : parseFieldDescriptor ds = some ty) (hn : ∀ (x : Int32) (ad : Nat → Nat), narrow ty (tg_v ad (.int x)) = tg_v ad (.int x) ∧ fits ty (tg_v ad (.int x)) = true) (hl : Cond.fieldLink M.1.cls idx C nm ds ∈ tg_T) (hd : decode M.2.1 pc = .ok (.putfield idx, 3)) : tg_Snd M pc (ti_putfI ci f) (pc + 3) := by
  intro l n0 K kc ks k hk lv st w h
  unfold ti_putfI at h
  split at h
  · rename_i x a st
    split at h
    · rename_i cj fs hw
      split at h
      · rename_i v hv
        obtain ⟨rfl, h⟩ := h
        intro p e s m args below meth c D cA A ad H locs ls Qc C0 a1 a2 hK hA hE hQ hP hD hS hL
        refine va_put (D := D) (C := C) (T := T) (N := N) (ref := C) (ty := ty) (v := tg_v ad (.int x)) C0.1 C0.2.1 C0.2.2.2.2.2.1 hc.2 ty0 hty hnm C0.2.2.2.2.1 hK hP hD hS a (tg_w_at hw) hc.1 f hf ?_ ?_ ?_ ?_ ?_ ?_ ?_ hd (fun H1 locs1 hP1 hD1 hS1 => hk _ _ _ h p e s m args below meth c D cA A ad H1 locs1 ls Qc C0 a1 a2 hK hA hE hQ (?_) (?_) hS1 hL)
        · rw [hT]; exact C0.2.2.2.2.2.1 _ hl
        · rw [hT]; exact fun _ h => h
        · rw [hT]
        · rw [hT]; exact hpd
        · exact (hn x ad).1
        · exact (hn x ad).2
        · rw [List.length_map]; exact (List.getElem?_eq_some_iff.mp hv).1
        all_goals (rw [tg_w_set0]; simp only [tg_e, List.map_set]; assumption)
      · exact h.elim
    · exact h.elim
  · exact h.elim
theorem si_putfIF {M : tg_M} {pc ci f idx N : Nat} {C nm ds : String} {T : u_T} {ty0 : Nat → FieldType} {ty : FieldType} (hc : tg_cls ci C T N) (hty : ∀ k, k < N → parseFieldDescriptor (T k).2.2.1 = some (ty0 k)) (hnm : ∀ a, a < N → ∀ b, b < N → a ≠ b → (T a).2.1 ≠ (T b).2.1) (hf : f < N) (hT : T f = (C, nm, ds, true)) (hin : M.1.name = "<init>") (hdc : C = M.1.cls) (hpd : parseFieldDescriptor ds = some ty) (hn : ∀ (x : Int32) (ad : Nat → Nat), narrow ty (tg_v ad (.int x)) = tg_v ad (.int x) ∧ fits ty (tg_v ad (.int x)) = true) (hl : Cond.fieldLink M.1.cls idx C nm ds ∈ tg_T) (hd : decode M.2.1 pc = .ok (.putfield idx, 3)) : tg_Snd M pc (ti_putfI ci f) (pc + 3) := by
  intro l n0 K kc ks k hk lv st w h
  unfold ti_putfI at h
  split at h
  · rename_i x a st
    split at h
    · rename_i cj fs hw
      split at h
      · rename_i v hv
        obtain ⟨rfl, h⟩ := h
        intro p e s m args below meth c D cA A ad H locs ls Qc C0 a1 a2 hK hA hE hQ hP hD hS hL
        refine va_putF (D := D) (C := C) (T := T) (N := N) (ref := C) (ty := ty) (v := tg_v ad (.int x)) C0.1 C0.2.1 C0.2.2.2.2.2.1 hc.2 ty0 hty hnm C0.2.2.2.2.1 hK hP hD hS a (tg_w_at hw) hc.1 f hf ?_ ?_ ?_ (C0.2.2.2.2.2.2.2.trans hin) ?_ ?_ ?_ ?_ ?_ hd (fun H1 locs1 hP1 hD1 hS1 => hk _ _ _ h p e s m args below meth c D cA A ad H1 locs1 ls Qc C0 a1 a2 hK hA hE hQ (?_) (?_) hS1 hL)
        · rw [hT]; exact C0.2.2.2.2.2.1 _ hl
        · rw [hT]; exact fun _ h => h
        · rw [hT]
        · rw [hT]; exact hdc
        · rw [hT]; exact hpd
        · exact (hn x ad).1
        · exact (hn x ad).2
        · rw [List.length_map]; exact (List.getElem?_eq_some_iff.mp hv).1
        all_goals (rw [tg_w_set0]; simp only [tg_e, List.map_set]; assumption)
      · exact h.elim
    · exact h.elim
  · exact h.elim
def ti_putfJ (ci f : Nat) : tg_K → tg_K := fun k lv st w => match st with
  | .long x :: .ref a :: st => match w[a]? with
    | some (.inr (cj, fs)) => match fs[f]? with
      | some _ => cj = ci ∧ k lv st (w.set a (.inr (cj, fs.set f (.long x))))
      | none => False
    | _ => False
  | _ => False
theorem si_putfJ {M : tg_M} {pc ci f idx N : Nat} {C nm ds : String} {T : u_T} {ty0 : Nat → FieldType} {ty : FieldType} (hc : tg_cls ci C T N) (hty : ∀ k, k < N → parseFieldDescriptor (T k).2.2.1 = some (ty0 k)) (hnm : ∀ a, a < N → ∀ b, b < N → a ≠ b → (T a).2.1 ≠ (T b).2.1) (hf : f < N) (hT : T f = (C, nm, ds, false)) (hpd : parseFieldDescriptor ds = some ty) (hn : ∀ (x : Int64) (ad : Nat → Nat), narrow ty (tg_v ad (.long x)) = tg_v ad (.long x) ∧ fits ty (tg_v ad (.long x)) = true) (hl : Cond.fieldLink M.1.cls idx C nm ds ∈ tg_T) (hd : decode M.2.1 pc = .ok (.putfield idx, 3)) : tg_Snd M pc (ti_putfJ ci f) (pc + 3) := by
  intro l n0 K kc ks k hk lv st w h
  unfold ti_putfJ at h
  split at h
  · rename_i x a st
    split at h
    · rename_i cj fs hw
      split at h
      · rename_i v hv
        obtain ⟨rfl, h⟩ := h
        intro p e s m args below meth c D cA A ad H locs ls Qc C0 a1 a2 hK hA hE hQ hP hD hS hL
        refine va_put (D := D) (C := C) (T := T) (N := N) (ref := C) (ty := ty) (v := tg_v ad (.long x)) C0.1 C0.2.1 C0.2.2.2.2.2.1 hc.2 ty0 hty hnm C0.2.2.2.2.1 hK hP hD hS a (tg_w_at hw) hc.1 f hf ?_ ?_ ?_ ?_ ?_ ?_ ?_ hd (fun H1 locs1 hP1 hD1 hS1 => hk _ _ _ h p e s m args below meth c D cA A ad H1 locs1 ls Qc C0 a1 a2 hK hA hE hQ (?_) (?_) hS1 hL)
        · rw [hT]; exact C0.2.2.2.2.2.1 _ hl
        · rw [hT]; exact fun _ h => h
        · rw [hT]
        · rw [hT]; exact hpd
        · exact (hn x ad).1
        · exact (hn x ad).2
        · rw [List.length_map]; exact (List.getElem?_eq_some_iff.mp hv).1
        all_goals (rw [tg_w_set0]; simp only [tg_e, List.map_set]; assumption)
      · exact h.elim
    · exact h.elim
  · exact h.elim
theorem si_putfJF {M : tg_M} {pc ci f idx N : Nat} {C nm ds : String} {T : u_T} {ty0 : Nat → FieldType} {ty : FieldType} (hc : tg_cls ci C T N) (hty : ∀ k, k < N → parseFieldDescriptor (T k).2.2.1 = some (ty0 k)) (hnm : ∀ a, a < N → ∀ b, b < N → a ≠ b → (T a).2.1 ≠ (T b).2.1) (hf : f < N) (hT : T f = (C, nm, ds, true)) (hin : M.1.name = "<init>") (hdc : C = M.1.cls) (hpd : parseFieldDescriptor ds = some ty) (hn : ∀ (x : Int64) (ad : Nat → Nat), narrow ty (tg_v ad (.long x)) = tg_v ad (.long x) ∧ fits ty (tg_v ad (.long x)) = true) (hl : Cond.fieldLink M.1.cls idx C nm ds ∈ tg_T) (hd : decode M.2.1 pc = .ok (.putfield idx, 3)) : tg_Snd M pc (ti_putfJ ci f) (pc + 3) := by
  intro l n0 K kc ks k hk lv st w h
  unfold ti_putfJ at h
  split at h
  · rename_i x a st
    split at h
    · rename_i cj fs hw
      split at h
      · rename_i v hv
        obtain ⟨rfl, h⟩ := h
        intro p e s m args below meth c D cA A ad H locs ls Qc C0 a1 a2 hK hA hE hQ hP hD hS hL
        refine va_putF (D := D) (C := C) (T := T) (N := N) (ref := C) (ty := ty) (v := tg_v ad (.long x)) C0.1 C0.2.1 C0.2.2.2.2.2.1 hc.2 ty0 hty hnm C0.2.2.2.2.1 hK hP hD hS a (tg_w_at hw) hc.1 f hf ?_ ?_ ?_ (C0.2.2.2.2.2.2.2.trans hin) ?_ ?_ ?_ ?_ ?_ hd (fun H1 locs1 hP1 hD1 hS1 => hk _ _ _ h p e s m args below meth c D cA A ad H1 locs1 ls Qc C0 a1 a2 hK hA hE hQ (?_) (?_) hS1 hL)
        · rw [hT]; exact C0.2.2.2.2.2.1 _ hl
        · rw [hT]; exact fun _ h => h
        · rw [hT]
        · rw [hT]; exact hdc
        · rw [hT]; exact hpd
        · exact (hn x ad).1
        · exact (hn x ad).2
        · rw [List.length_map]; exact (List.getElem?_eq_some_iff.mp hv).1
        all_goals (rw [tg_w_set0]; simp only [tg_e, List.map_set]; assumption)
      · exact h.elim
    · exact h.elim
  · exact h.elim
def ti_putfR (ci f : Nat) : tg_K → tg_K := fun k lv st w => match st with
  | .ref x :: .ref a :: st => match w[a]? with
    | some (.inr (cj, fs)) => match fs[f]? with
      | some _ => cj = ci ∧ k lv st (w.set a (.inr (cj, fs.set f (.ref x))))
      | none => False
    | _ => False
  | _ => False
theorem si_putfR {M : tg_M} {pc ci f idx N : Nat} {C nm ds : String} {T : u_T} {ty0 : Nat → FieldType} {ty : FieldType} (hc : tg_cls ci C T N) (hty : ∀ k, k < N → parseFieldDescriptor (T k).2.2.1 = some (ty0 k)) (hnm : ∀ a, a < N → ∀ b, b < N → a ≠ b → (T a).2.1 ≠ (T b).2.1) (hf : f < N) (hT : T f = (C, nm, ds, false)) (hpd : parseFieldDescriptor ds = some ty) (hn : ∀ (x : Nat) (ad : Nat → Nat), narrow ty (tg_v ad (.ref x)) = tg_v ad (.ref x) ∧ fits ty (tg_v ad (.ref x)) = true) (hl : Cond.fieldLink M.1.cls idx C nm ds ∈ tg_T) (hd : decode M.2.1 pc = .ok (.putfield idx, 3)) : tg_Snd M pc (ti_putfR ci f) (pc + 3) := by
  intro l n0 K kc ks k hk lv st w h
  unfold ti_putfR at h
  split at h
  · rename_i x a st
    split at h
    · rename_i cj fs hw
      split at h
      · rename_i v hv
        obtain ⟨rfl, h⟩ := h
        intro p e s m args below meth c D cA A ad H locs ls Qc C0 a1 a2 hK hA hE hQ hP hD hS hL
        refine va_put (D := D) (C := C) (T := T) (N := N) (ref := C) (ty := ty) (v := tg_v ad (.ref x)) C0.1 C0.2.1 C0.2.2.2.2.2.1 hc.2 ty0 hty hnm C0.2.2.2.2.1 hK hP hD hS a (tg_w_at hw) hc.1 f hf ?_ ?_ ?_ ?_ ?_ ?_ ?_ hd (fun H1 locs1 hP1 hD1 hS1 => hk _ _ _ h p e s m args below meth c D cA A ad H1 locs1 ls Qc C0 a1 a2 hK hA hE hQ (?_) (?_) hS1 hL)
        · rw [hT]; exact C0.2.2.2.2.2.1 _ hl
        · rw [hT]; exact fun _ h => h
        · rw [hT]
        · rw [hT]; exact hpd
        · exact (hn x ad).1
        · exact (hn x ad).2
        · rw [List.length_map]; exact (List.getElem?_eq_some_iff.mp hv).1
        all_goals (rw [tg_w_set0]; simp only [tg_e, List.map_set]; assumption)
      · exact h.elim
    · exact h.elim
  · exact h.elim
theorem si_putfRF {M : tg_M} {pc ci f idx N : Nat} {C nm ds : String} {T : u_T} {ty0 : Nat → FieldType} {ty : FieldType} (hc : tg_cls ci C T N) (hty : ∀ k, k < N → parseFieldDescriptor (T k).2.2.1 = some (ty0 k)) (hnm : ∀ a, a < N → ∀ b, b < N → a ≠ b → (T a).2.1 ≠ (T b).2.1) (hf : f < N) (hT : T f = (C, nm, ds, true)) (hin : M.1.name = "<init>") (hdc : C = M.1.cls) (hpd : parseFieldDescriptor ds = some ty) (hn : ∀ (x : Nat) (ad : Nat → Nat), narrow ty (tg_v ad (.ref x)) = tg_v ad (.ref x) ∧ fits ty (tg_v ad (.ref x)) = true) (hl : Cond.fieldLink M.1.cls idx C nm ds ∈ tg_T) (hd : decode M.2.1 pc = .ok (.putfield idx, 3)) : tg_Snd M pc (ti_putfR ci f) (pc + 3) := by
  intro l n0 K kc ks k hk lv st w h
  unfold ti_putfR at h
  split at h
  · rename_i x a st
    split at h
    · rename_i cj fs hw
      split at h
      · rename_i v hv
        obtain ⟨rfl, h⟩ := h
        intro p e s m args below meth c D cA A ad H locs ls Qc C0 a1 a2 hK hA hE hQ hP hD hS hL
        refine va_putF (D := D) (C := C) (T := T) (N := N) (ref := C) (ty := ty) (v := tg_v ad (.ref x)) C0.1 C0.2.1 C0.2.2.2.2.2.1 hc.2 ty0 hty hnm C0.2.2.2.2.1 hK hP hD hS a (tg_w_at hw) hc.1 f hf ?_ ?_ ?_ (C0.2.2.2.2.2.2.2.trans hin) ?_ ?_ ?_ ?_ ?_ hd (fun H1 locs1 hP1 hD1 hS1 => hk _ _ _ h p e s m args below meth c D cA A ad H1 locs1 ls Qc C0 a1 a2 hK hA hE hQ (?_) (?_) hS1 hL)
        · rw [hT]; exact C0.2.2.2.2.2.1 _ hl
        · rw [hT]; exact fun _ h => h
        · rw [hT]
        · rw [hT]; exact hdc
        · rw [hT]; exact hpd
        · exact (hn x ad).1
        · exact (hn x ad).2
        · rw [List.length_map]; exact (List.getElem?_eq_some_iff.mp hv).1
        all_goals (rw [tg_w_set0]; simp only [tg_e, List.map_set]; assumption)
      · exact h.elim
    · exact h.elim
  · exact h.elim
def ti_putfZ (ci f : Nat) : tg_K → tg_K := fun k lv st w => match st with
  | .int x :: .ref a :: st => match w[a]? with
    | some (.inr (cj, fs)) => match fs[f]? with
      | some _ => cj = ci ∧ (x = 0 ∨ x = 1) ∧ k lv st (w.set a (.inr (cj, fs.set f (.int x))))
      | none => False
    | _ => False
  | _ => False
theorem si_putfZ {M : tg_M} {pc ci f idx N : Nat} {C nm ds : String} {T : u_T} {ty0 : Nat → FieldType} {ty : FieldType} (hc : tg_cls ci C T N) (hty : ∀ k, k < N → parseFieldDescriptor (T k).2.2.1 = some (ty0 k)) (hnm : ∀ a, a < N → ∀ b, b < N → a ≠ b → (T a).2.1 ≠ (T b).2.1) (hf : f < N) (hT : T f = (C, nm, ds, false)) (hpd : parseFieldDescriptor ds = some ty) (hn : ∀ (x : Int32) (ad : Nat → Nat), (x = 0 ∨ x = 1) → narrow ty (tg_v ad (.int x)) = tg_v ad (.int x) ∧ fits ty (tg_v ad (.int x)) = true) (hl : Cond.fieldLink M.1.cls idx C nm ds ∈ tg_T) (hd : decode M.2.1 pc = .ok (.putfield idx, 3)) : tg_Snd M pc (ti_putfZ ci f) (pc + 3) := by
  intro l n0 K kc ks k hk lv st w h
  unfold ti_putfZ at h
  split at h
  · rename_i x a st
    split at h
    · rename_i cj fs hw
      split at h
      · rename_i v hv
        obtain ⟨rfl, h⟩ := h
        intro p e s m args below meth c D cA A ad H locs ls Qc C0 a1 a2 hK hA hE hQ hP hD hS hL
        refine va_put (D := D) (C := C) (T := T) (N := N) (ref := C) (ty := ty) (v := tg_v ad (.int x)) C0.1 C0.2.1 C0.2.2.2.2.2.1 hc.2 ty0 hty hnm C0.2.2.2.2.1 hK hP hD hS a (tg_w_at hw) hc.1 f hf ?_ ?_ ?_ ?_ ?_ ?_ ?_ hd (fun H1 locs1 hP1 hD1 hS1 => hk _ _ _ h.2 p e s m args below meth c D cA A ad H1 locs1 ls Qc C0 a1 a2 hK hA hE hQ (?_) (?_) hS1 hL)
        · rw [hT]; exact C0.2.2.2.2.2.1 _ hl
        · rw [hT]; exact fun _ h => h
        · rw [hT]
        · rw [hT]; exact hpd
        · exact (hn x ad h.1).1
        · exact (hn x ad h.1).2
        · rw [List.length_map]; exact (List.getElem?_eq_some_iff.mp hv).1
        all_goals (rw [tg_w_set0]; simp only [tg_e, List.map_set]; assumption)
      · exact h.elim
    · exact h.elim
  · exact h.elim
theorem si_putfZF {M : tg_M} {pc ci f idx N : Nat} {C nm ds : String} {T : u_T} {ty0 : Nat → FieldType} {ty : FieldType} (hc : tg_cls ci C T N) (hty : ∀ k, k < N → parseFieldDescriptor (T k).2.2.1 = some (ty0 k)) (hnm : ∀ a, a < N → ∀ b, b < N → a ≠ b → (T a).2.1 ≠ (T b).2.1) (hf : f < N) (hT : T f = (C, nm, ds, true)) (hin : M.1.name = "<init>") (hdc : C = M.1.cls) (hpd : parseFieldDescriptor ds = some ty) (hn : ∀ (x : Int32) (ad : Nat → Nat), (x = 0 ∨ x = 1) → narrow ty (tg_v ad (.int x)) = tg_v ad (.int x) ∧ fits ty (tg_v ad (.int x)) = true) (hl : Cond.fieldLink M.1.cls idx C nm ds ∈ tg_T) (hd : decode M.2.1 pc = .ok (.putfield idx, 3)) : tg_Snd M pc (ti_putfZ ci f) (pc + 3) := by
  intro l n0 K kc ks k hk lv st w h
  unfold ti_putfZ at h
  split at h
  · rename_i x a st
    split at h
    · rename_i cj fs hw
      split at h
      · rename_i v hv
        obtain ⟨rfl, h⟩ := h
        intro p e s m args below meth c D cA A ad H locs ls Qc C0 a1 a2 hK hA hE hQ hP hD hS hL
        refine va_putF (D := D) (C := C) (T := T) (N := N) (ref := C) (ty := ty) (v := tg_v ad (.int x)) C0.1 C0.2.1 C0.2.2.2.2.2.1 hc.2 ty0 hty hnm C0.2.2.2.2.1 hK hP hD hS a (tg_w_at hw) hc.1 f hf ?_ ?_ ?_ (C0.2.2.2.2.2.2.2.trans hin) ?_ ?_ ?_ ?_ ?_ hd (fun H1 locs1 hP1 hD1 hS1 => hk _ _ _ h.2 p e s m args below meth c D cA A ad H1 locs1 ls Qc C0 a1 a2 hK hA hE hQ (?_) (?_) hS1 hL)
        · rw [hT]; exact C0.2.2.2.2.2.1 _ hl
        · rw [hT]; exact fun _ h => h
        · rw [hT]
        · rw [hT]; exact hdc
        · rw [hT]; exact hpd
        · exact (hn x ad h.1).1
        · exact (hn x ad h.1).2
        · rw [List.length_map]; exact (List.getElem?_eq_some_iff.mp hv).1
        all_goals (rw [tg_w_set0]; simp only [tg_e, List.map_set]; assumption)
      · exact h.elim
    · exact h.elim
  · exact h.elim
def ti_iald : tg_K → tg_K := fun k lv st w => match st with
  | .int i :: .ref a :: st => match w[a]? with
    | some (.inl (t, n, .inl f)) => t = 0 ∧ vp_in i n ∧ k lv (.int (f i.toNatClampNeg) :: st) w
    | _ => False
  | _ => False
theorem si_iald {M : tg_M} {pc : Nat} (hd : decode M.2.1 pc = .ok (.iaload, 1)) : tg_Snd M pc ti_iald (pc + 1) := by
  intro l n0 K kc ks k hk lv st w h
  unfold ti_iald at h
  split at h
  · rename_i i a st
    split at h
    · rename_i t n f hw
      obtain ⟨rfl, hin, h⟩ := h
      intro p e s m args below meth c D cA A ad H locs ls Qc C a1 a2 hK hA hE hQ hP hD hS hL
      exact va_iald C.1 C.2.1 hK hP a 0 (tg_w_at hw) rfl hin hd (hk _ _ _ h p e s m args below meth c D cA A ad H locs ls Qc C a1 a2 hK hA hE hQ hP hD hS hL)
    · exact h.elim
  · exact h.elim
def ti_zald : tg_K → tg_K := fun k lv st w => match st with
  | .int i :: .ref a :: st => match w[a]? with
    | some (.inl (t, n, .inl f)) => t = 1 ∧ vp_in i n ∧ k lv (.int (f i.toNatClampNeg) :: st) w
    | _ => False
  | _ => False
theorem si_zald {M : tg_M} {pc : Nat} (hd : decode M.2.1 pc = .ok (.baload, 1)) : tg_Snd M pc ti_zald (pc + 1) := by
  intro l n0 K kc ks k hk lv st w h
  unfold ti_zald at h
  split at h
  · rename_i i a st
    split at h
    · rename_i t n f hw
      obtain ⟨rfl, hin, h⟩ := h
      intro p e s m args below meth c D cA A ad H locs ls Qc C a1 a2 hK hA hE hQ hP hD hS hL
      exact va_zald C.1 C.2.1 hK hP a 1 (tg_w_at hw) rfl hin hd (hk _ _ _ h p e s m args below meth c D cA A ad H locs ls Qc C a1 a2 hK hA hE hQ hP hD hS hL)
    · exact h.elim
  · exact h.elim
def ti_cald : tg_K → tg_K := fun k lv st w => match st with
  | .int i :: .ref a :: st => match w[a]? with
    | some (.inl (t, n, .inl f)) => t = 2 ∧ vp_in i n ∧ k lv (.int (f i.toNatClampNeg) :: st) w
    | _ => False
  | _ => False
theorem si_cald {M : tg_M} {pc : Nat} (hd : decode M.2.1 pc = .ok (.caload, 1)) : tg_Snd M pc ti_cald (pc + 1) := by
  intro l n0 K kc ks k hk lv st w h
  unfold ti_cald at h
  split at h
  · rename_i i a st
    split at h
    · rename_i t n f hw
      obtain ⟨rfl, hin, h⟩ := h
      intro p e s m args below meth c D cA A ad H locs ls Qc C a1 a2 hK hA hE hQ hP hD hS hL
      exact va_cald C.1 C.2.1 hK hP a 2 (tg_w_at hw) rfl hin hd (hk _ _ _ h p e s m args below meth c D cA A ad H locs ls Qc C a1 a2 hK hA hE hQ hP hD hS hL)
    · exact h.elim
  · exact h.elim
def ti_lald : tg_K → tg_K := fun k lv st w => match st with
  | .int i :: .ref a :: st => match w[a]? with
    | some (.inl (t, n, .inr (.inl f))) => t = 3 ∧ vp_in i n ∧ k lv (.long (f i.toNatClampNeg) :: st) w
    | _ => False
  | _ => False
theorem si_lald {M : tg_M} {pc : Nat} (hd : decode M.2.1 pc = .ok (.laload, 1)) : tg_Snd M pc ti_lald (pc + 1) := by
  intro l n0 K kc ks k hk lv st w h
  unfold ti_lald at h
  split at h
  · rename_i i a st
    split at h
    · rename_i t n f hw
      obtain ⟨rfl, hin, h⟩ := h
      intro p e s m args below meth c D cA A ad H locs ls Qc C a1 a2 hK hA hE hQ hP hD hS hL
      exact va_lald C.1 C.2.1 hK hP a 3 (tg_w_at hw) rfl hin hd (hk _ _ _ h p e s m args below meth c D cA A ad H locs ls Qc C a1 a2 hK hA hE hQ hP hD hS hL)
    · exact h.elim
  · exact h.elim
def ti_iast : tg_K → tg_K := fun k lv st w => match st with
  | .int x :: .int i :: .ref a :: st => match w[a]? with
    | some (.inl (t, n, .inl f)) => t = 0 ∧ vp_in i n ∧ k lv st (w.set a (.inl (t, n, .inl (upd f i.toNatClampNeg x))))
    | _ => False
  | _ => False
theorem si_iast {M : tg_M} {pc : Nat} (hd : decode M.2.1 pc = .ok (.iastore, 1)) : tg_Snd M pc ti_iast (pc + 1) := by
  intro l n0 K kc ks k hk lv st w h
  unfold ti_iast at h
  split at h
  · rename_i x i a st
    split at h
    · rename_i t n f hw
      obtain ⟨rfl, hin, h⟩ := h
      intro p e s m args below meth c D cA A ad H locs ls Qc C a1 a2 hK hA hE hQ hP hD hS hL
      refine va_iast C.1 C.2.1 hK hP hD hS a 0 (tg_w_at hw) rfl hin hd (fun H1 locs1 hP1 hD1 hS1 => hk _ _ _ h p e s m args below meth c D cA A ad H1 locs1 ls Qc C a1 a2 hK hA hE hQ (?_) (?_) hS1 hL)
      all_goals (rw [tg_w_set0]; simp only [tg_e]; assumption)
    · exact h.elim
  · exact h.elim
def ti_zast : tg_K → tg_K := fun k lv st w => match st with
  | .int x :: .int i :: .ref a :: st => match w[a]? with
    | some (.inl (t, n, .inl f)) => t = 1 ∧ vp_in i n ∧ vp_nar .boolean x = x ∧ k lv st (w.set a (.inl (t, n, .inl (upd f i.toNatClampNeg x))))
    | _ => False
  | _ => False
theorem si_zast {M : tg_M} {pc : Nat} (hd : decode M.2.1 pc = .ok (.bastore, 1)) : tg_Snd M pc ti_zast (pc + 1) := by
  intro l n0 K kc ks k hk lv st w h
  unfold ti_zast at h
  split at h
  · rename_i x i a st
    split at h
    · rename_i t n f hw
      obtain ⟨rfl, hin, h⟩ := h
      intro p e s m args below meth c D cA A ad H locs ls Qc C a1 a2 hK hA hE hQ hP hD hS hL
      refine va_zast C.1 C.2.1 hK hP hD hS a 1 (tg_w_at hw) rfl hin hd (fun H1 locs1 hP1 hD1 hS1 => hk _ _ _ h.2 p e s m args below meth c D cA A ad H1 locs1 ls Qc C a1 a2 hK hA hE hQ (?_) (?_) hS1 hL)
      all_goals (rw [tg_w_set0]; simp only [tg_e]; rw [h.1] at hP1 hD1; assumption)
    · exact h.elim
  · exact h.elim
def ti_cast : tg_K → tg_K := fun k lv st w => match st with
  | .int x :: .int i :: .ref a :: st => match w[a]? with
    | some (.inl (t, n, .inl f)) => t = 2 ∧ vp_in i n ∧ vp_nar .char x = x ∧ k lv st (w.set a (.inl (t, n, .inl (upd f i.toNatClampNeg x))))
    | _ => False
  | _ => False
theorem si_cast {M : tg_M} {pc : Nat} (hd : decode M.2.1 pc = .ok (.castore, 1)) : tg_Snd M pc ti_cast (pc + 1) := by
  intro l n0 K kc ks k hk lv st w h
  unfold ti_cast at h
  split at h
  · rename_i x i a st
    split at h
    · rename_i t n f hw
      obtain ⟨rfl, hin, h⟩ := h
      intro p e s m args below meth c D cA A ad H locs ls Qc C a1 a2 hK hA hE hQ hP hD hS hL
      refine va_cast C.1 C.2.1 hK hP hD hS a 2 (tg_w_at hw) rfl hin hd (fun H1 locs1 hP1 hD1 hS1 => hk _ _ _ h.2 p e s m args below meth c D cA A ad H1 locs1 ls Qc C a1 a2 hK hA hE hQ (?_) (?_) hS1 hL)
      all_goals (rw [tg_w_set0]; simp only [tg_e]; rw [h.1] at hP1 hD1; assumption)
    · exact h.elim
  · exact h.elim
def ti_last : tg_K → tg_K := fun k lv st w => match st with
  | .long x :: .int i :: .ref a :: st => match w[a]? with
    | some (.inl (t, n, .inr (.inl f))) => t = 3 ∧ vp_in i n ∧ k lv st (w.set a (.inl (t, n, .inr (.inl (vp_updL f i.toNatClampNeg x)))))
    | _ => False
  | _ => False
theorem si_last {M : tg_M} {pc : Nat} (hd : decode M.2.1 pc = .ok (.lastore, 1)) : tg_Snd M pc ti_last (pc + 1) := by
  intro l n0 K kc ks k hk lv st w h
  unfold ti_last at h
  split at h
  · rename_i x i a st
    split at h
    · rename_i t n f hw
      obtain ⟨rfl, hin, h⟩ := h
      intro p e s m args below meth c D cA A ad H locs ls Qc C a1 a2 hK hA hE hQ hP hD hS hL
      refine va_last C.1 C.2.1 hK hP hD hS a 3 (tg_w_at hw) rfl hin hd (fun H1 locs1 hP1 hD1 hS1 => hk _ _ _ h p e s m args below meth c D cA A ad H1 locs1 ls Qc C a1 a2 hK hA hE hQ (?_) (?_) hS1 hL)
      all_goals (rw [tg_w_set0]; simp only [tg_e]; assumption)
    · exact h.elim
  · exact h.elim
def ti_alen : tg_K → tg_K := fun k lv st w => match st with
  | .ref a :: st => match w[a]? with
    | some (.inl (t, x)) => t < 6 ∧ k lv (.int (Int32.ofNat x.1) :: st) w
    | _ => False
  | _ => False
theorem tg_e_arr (cA : Nat → ClassId) (ad : Nat → Nat) (t : Nat) (x : vp_A) : ∃ y : vp_A, tg_e cA ad (.inl (t, x)) = .inl (cA t, y) ∧ y.1 = x.1 := by
  obtain ⟨n, a⟩ := x
  rcases a with a | a | a | a | a <;> exact ⟨_, rfl, rfl⟩
theorem tg_tys_at (cA : Nat → ClassId) {t : Nat} (h : t < 6) : ∃ ty, (tg_tys cA)[t]? = some (cA t, ty) := by
  rcases (show t = 0 ∨ t = 1 ∨ t = 2 ∨ t = 3 ∨ t = 4 ∨ t = 5 by omega) with rfl | rfl | rfl | rfl | rfl | rfl <;> exact ⟨_, rfl⟩
theorem si_alen {M : tg_M} {pc : Nat} (hd : decode M.2.1 pc = .ok (.arraylength, 1)) : tg_Snd M pc ti_alen (pc + 1) := by
  intro l n0 K kc ks k hk lv st w h
  unfold ti_alen at h
  split at h
  · rename_i a st
    split at h
    · rename_i t x hw
      obtain ⟨ht, h⟩ := h
      intro p e s m args below meth c D cA A ad H locs ls Qc C a1 a2 hK hA hE hQ hP hD hS hL
      obtain ⟨y, hy1, hy2⟩ := tg_e_arr cA ad t x
      obtain ⟨ty, hty⟩ := tg_tys_at cA ht
      have hw' := tg_w_at (cA := cA) (ad := ad) hw
      rw [hy1] at hw'
      exact va_alen C.1 C.2.1 hK hP a t hw' hty (by rw [hy2]) hd (hk _ _ _ h p e s m args below meth c D cA A ad H locs ls Qc C a1 a2 hK hA hE hQ hP hD hS hL)
    · exact h.elim
  · exact h.elim
