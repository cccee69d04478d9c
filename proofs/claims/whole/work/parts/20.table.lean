/-! Table: contracts -/
def wT (d : Int32) (vs : Nat → Int32) (n : Int32) (cs ms : Nat → Int32) (en : Int32) : List va_E := [.inr (5, [.int d, .ref 1, .int n, .ref 2, .ref 3, .int en]), .inl (0, 4, .inl vs), .inl (0, 40, .inl cs), .inl (0, 40, .inl ms)]
theorem cX6_hasEntry' {l : tg_Ln} {d : Int32} {vs : Nat → Int32} {n : Int32} {cs ms : Nat → Int32} {en e : Int32} : tg_Ct l mX6_hasEntry 1000 [.ref 0, .int e] (wT d vs n cs ms en) (fun r w => r = some (.int (if 0 ≤ e ∧ e < n then 1 else 0)) ∧ w = wT d vs n cs ms en) := by
  show tg_G _ _ _ _ _ _ _ [.ref 0, .int e] [] (wT d vs n cs ms en)
  unfold wT
  refine tg_go bX6_hasEntry_0 ?_
  simp only [@S]
  refine g_if_lt dX6_hasEntry_1 rfl (fun h1 => ?_) (fun h1 => ?_)
  · refine tg_go bX6_hasEntry_16 ?_
    simp only [@S]
    refine g_zret dX6_hasEntry_17 rfl (Or.inl rfl) ⟨?_, rfl⟩
    sorry
  · refine tg_go bX6_hasEntry_4 ?_
    simp only [@S]
    refine g_icmp_ge dX6_hasEntry_9 rfl (fun h2 => ?_) (fun h2 => ?_)
    · refine tg_go bX6_hasEntry_16 ?_
      simp only [@S]
      refine g_zret dX6_hasEntry_17 rfl (Or.inl rfl) ⟨?_, rfl⟩
      sorry
    · refine tg_go bX6_hasEntry_12 ?_
      simp only [@S]
      refine g_goto dX6_hasEntry_13 rfl ?_
      refine g_zret dX6_hasEntry_17 rfl (Or.inr rfl) ⟨?_, rfl⟩
      sorry
