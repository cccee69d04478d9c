/-! THE CLASS: Cells: spreadBy; tally -/
def neD (d n : Nat) (c : Nat → Nat) (a : Nat) : Bool := decide (0 < gMany (cvP d c a) n)
def clD (d n : Nat) (c : Nat → Nat) (a : Nat) : Bool := decide (gClo d (cvP d c a) c n = some a)
def alN (d n : Nat) (c : Nat → Nat) (A q : Nat) : Nat := gMany (fun b => neD d n c b && decide (gMany (cvP d c b) n = q)) A
def csN (d n : Nat) (c : Nat → Nat) (A q : Nat) : Nat := gMany (fun b => neD d n c b && (clD d n c b && decide (gMany (cvP d c b) n = q))) A
def onN (d n : Nat) (c : Nat → Nat) (A q : Nat) : Nat := gMany (fun b => neD d n c b && decide (dmB d b d = q)) A
theorem pcv_d {d : Nat} {c : Nat → Nat} {a : Nat} : pcv d c d a = cvP d c a := by
  funext i
  unfold pcv cvP
  rw [Nat.sub_self, Nat.pow_zero, Nat.div_one]
theorem neK_d {d n : Nat} {c : Nat → Nat} : neK d n c d = neD d n c := by
  funext a
  unfold neK neD
  rw [pcv_d]
section TALLY
variable {l : tg_Ln} {K : Option Value → List va_E → Prop} {tv tc tm en : Nat → Int32} {hv : Nat → Int64} {td tn te qd qv cz : Int32} {d n s : Nat} {v c : Nat → Nat} {cd oc : Nat → Int32} {cv ov : Nat → Int64}
theorem kX0_spreadByf {k : Nat} {ic al cs on : Nat → Int32} (hh : hvOK hv d n c) (hd : d ≤ 4) (hk : k < d) (hn : n ≤ 40) (htv : tv k = nI (v k)) (hv6 : v k ≤ 6) (hcv6 : ∀ i, i < n → dg (d - 1 - k) (c i) ≤ v k) (hls : lsO (neK d n c k) (7 ^ k) (fun a => mkN (pcv d c k a) n) cd cv) : tg_Ct l mX0_spreadBy 1000 [.ref 0, .int (nI k)] (wCf (nI d) tv tn tc tm te qd qv en hv (nI (gMany (neK d n c k) (7 ^ k))) cd cv oc ov ic al cs on) (fun r w => r = none ∧ ∃ cd' cv' oc' ov', lsO (neK d n c (k + 1)) (7 ^ (k + 1)) (fun a => mkN (pcv d c (k + 1) a) n) cd' cv' ∧ w = (wCt (nI d) tv tn tc tm te qd qv en hv (nI (gMany (neK d n c (k + 1)) (7 ^ (k + 1)))) cd' cv' oc' ov' ic al cs on)) := by
  show tg_G _ _ _ _ _ _ _ [.ref 0, .int (nI k), .null, .null, .null, .null, .null] [] _
  unfold wCf wC
  refine tg_go bX0_spreadBy_0 ?_
  simp only [ti_istore, ti_push, tg_s1, tg_cl, List.getElem?_cons_zero, List.getElem?_cons_succ, List.set_cons_zero, List.set_cons_succ, true_and]
  refine kX0_sp_1f hh hd hk hn htv hv6 hcv6 hls (fun oc' ov' x3 x4 x5 x6 hl' => ?_) (7 ^ k + 1) 0 oc ov .null .null .null (Nat.lt_succ_of_le (Nat.sub_le _ _)) (Nat.zero_le _) (fun a ha => absurd ha (by omega))
  unfold wCf wC
  refine tg_go bX0_spreadBy_114 ?_
  simp only [ti_aload, ti_getf, ti_astore, ti_putfR, ti_putfI, ti_iload, tg_s1, tg_cl, List.getElem?_cons_zero, List.getElem?_cons_succ, List.set_cons_zero, List.set_cons_succ, true_and]
  exact g_vret dX0_spreadBy_157 rfl ⟨rfl, oc', ov', _, _, hl', rfl⟩
theorem kX0_spreadByt {k : Nat} {ic al cs on : Nat → Int32} (hh : hvOK hv d n c) (hd : d ≤ 4) (hk : k < d) (hn : n ≤ 40) (htv : tv k = nI (v k)) (hv6 : v k ≤ 6) (hcv6 : ∀ i, i < n → dg (d - 1 - k) (c i) ≤ v k) (hls : lsO (neK d n c k) (7 ^ k) (fun a => mkN (pcv d c k a) n) cd cv) : tg_Ct l mX0_spreadBy 1000 [.ref 0, .int (nI k)] (wCt (nI d) tv tn tc tm te qd qv en hv (nI (gMany (neK d n c k) (7 ^ k))) cd cv oc ov ic al cs on) (fun r w => r = none ∧ ∃ cd' cv' oc' ov', lsO (neK d n c (k + 1)) (7 ^ (k + 1)) (fun a => mkN (pcv d c (k + 1) a) n) cd' cv' ∧ w = (wCf (nI d) tv tn tc tm te qd qv en hv (nI (gMany (neK d n c (k + 1)) (7 ^ (k + 1)))) cd' cv' oc' ov' ic al cs on)) := by
  show tg_G _ _ _ _ _ _ _ [.ref 0, .int (nI k), .null, .null, .null, .null, .null] [] _
  unfold wCt wC
  refine tg_go bX0_spreadBy_0 ?_
  simp only [ti_istore, ti_push, tg_s1, tg_cl, List.getElem?_cons_zero, List.getElem?_cons_succ, List.set_cons_zero, List.set_cons_succ, true_and]
  refine kX0_sp_1t hh hd hk hn htv hv6 hcv6 hls (fun oc' ov' x3 x4 x5 x6 hl' => ?_) (7 ^ k + 1) 0 oc ov .null .null .null (Nat.lt_succ_of_le (Nat.sub_le _ _)) (Nat.zero_le _) (fun a ha => absurd ha (by omega))
  unfold wCt wC
  refine tg_go bX0_spreadBy_114 ?_
  simp only [ti_aload, ti_getf, ti_astore, ti_putfR, ti_putfI, ti_iload, tg_s1, tg_cl, List.getElem?_cons_zero, List.getElem?_cons_succ, List.set_cons_zero, List.set_cons_succ, true_and]
  exact g_vret dX0_spreadBy_157 rfl ⟨rfl, oc', ov', _, _, hl', rfl⟩
theorem kX0_ta_2 {r1 r2 r3 r4 : Nat} {a8 a10 ic al cs : Nat → Int32} {a9 a11 : Nat → Int64} : ∀ (m k : Nat) (on : Nat → Int32), 16 - k < m → k ≤ 16 → (∀ j, j < k → on j = 0) → (∀ on', (∀ j, j < 16 → on' j = 0) → tg_G l mX0_tally 1000 K 0 0 49 [.ref 0, .int (nI 16), .null] [] (wC td tv tn tc tm te qd qv en hv cz r1 r2 r3 r4 a8 a9 a10 a11 ic al cs on')) → tg_G l mX0_tally 1000 K 0 0 30 [.ref 0, .int (nI k), .null] [] (wC td tv tn tc tm te qd qv en hv cz r1 r2 r3 r4 a8 a9 a10 a11 ic al cs on) := by
  intro m
  induction m with
  | zero => intro k on h; omega
  | succ m ih =>
    intro k on hm hk hz hK
    unfold wC at ih hK ⊢
    refine tg_go bX0_tally_30 ?_
    simp only [ti_iload, ti_push, List.getElem?_cons_zero, List.getElem?_cons_succ, true_and]
    refine g_icmp_ge (tgt := 49) dX0_tally_33 rfl (fun h33 => ?_) (fun h33 => ?_)
    · rw [fa_lit, lI_le (by omega) (by omega)] at h33
      obtain rfl : k = 16 := by omega
      exact hK _ hz
    · rw [fa_lit, lI_le (by omega) (by omega)] at h33
      refine tg_go bX0_tally_36 ?_
      simp only [ti_aload, ti_getf, ti_iast, ti_iinc, ti_iload, ti_push, tg_s1, tg_cl, List.getElem?_cons_zero, List.getElem?_cons_succ, List.set_cons_zero, List.set_cons_succ, true_and]
      rw [nI_1, nI_clamp (by omega)]
      refine ⟨vp_in_nI (by omega) (by omega), ?_⟩
      refine g_goto (tgt := 30) dX0_tally_46 rfl ?_
      refine ih (k + 1) _ (by omega) (by omega) (fun j hj => ?_) hK
      by_cases e : j = k
      · rw [e, pk_us]
      · rw [pk_un e]; exact hz j (by omega)
theorem kX0_ta_1 {r1 r2 r3 r4 : Nat} {a8 a10 ic on : Nat → Int32} {a9 a11 : Nat → Int64} : ∀ (m k : Nat) (al cs : Nat → Int32), 41 - k < m → k ≤ 41 → (∀ j, j < k → al j = 0) → (∀ j, j < k → cs j = 0) → (∀ al' cs' on', (∀ j, j < 41 → al' j = 0) → (∀ j, j < 41 → cs' j = 0) → (∀ j, j < 16 → on' j = 0) → tg_G l mX0_tally 1000 K 0 0 49 [.ref 0, .int (nI 16), .null] [] (wC td tv tn tc tm te qd qv en hv cz r1 r2 r3 r4 a8 a9 a10 a11 ic al' cs' on')) → tg_G l mX0_tally 1000 K 0 0 2 [.ref 0, .int (nI k), .null] [] (wC td tv tn tc tm te qd qv en hv cz r1 r2 r3 r4 a8 a9 a10 a11 ic al cs on) := by
  intro m
  induction m with
  | zero => intro k al cs h; omega
  | succ m ih =>
    intro k al cs hm hk hz1 hz2 hK
    unfold wC at ih hK ⊢
    refine tg_go bX0_tally_2 ?_
    simp only [ti_iload, ti_push, List.getElem?_cons_zero, List.getElem?_cons_succ, true_and]
    refine g_icmp_gt (tgt := 28) dX0_tally_5 rfl (fun h5 => ?_) (fun h5 => ?_)
    · rw [fa_lit, lI_lt (by omega) (by omega)] at h5
      obtain rfl : k = 41 := by omega
      refine tg_go bX0_tally_28 ?_
      simp only [ti_istore, ti_push, tg_s1, tg_cl, List.getElem?_cons_zero, List.getElem?_cons_succ, List.set_cons_zero, List.set_cons_succ, true_and]
      exact kX0_ta_2 17 0 on (by omega) (by omega) (fun j hj => by omega) (fun on' h => hK _ _ _ hz1 hz2 h)
    · rw [fa_lit, lI_lt (by omega) (by omega)] at h5
      refine tg_go bX0_tally_8 ?_
      simp only [ti_aload, ti_getf, ti_iast, ti_iinc, ti_iload, ti_push, tg_s1, tg_cl, List.getElem?_cons_zero, List.getElem?_cons_succ, List.set_cons_zero, List.set_cons_succ, true_and]
      rw [nI_1, nI_clamp (by omega)]
      refine ⟨vp_in_nI (by omega) (by omega), vp_in_nI (by omega) (by omega), ?_⟩
      refine g_goto (tgt := 2) dX0_tally_25 rfl ?_
      refine ih (k + 1) _ _ (by omega) (by omega) (fun j hj => ?_) (fun j hj => ?_) hK
      · by_cases e : j = k
        · rw [e, pk_us]
        · rw [pk_un e]; exact hz1 j (by omega)
      · by_cases e : j = k
        · rw [e, pk_us]
        · rw [pk_un e]; exact hz2 j (by omega)
end TALLY
