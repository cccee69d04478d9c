theorem dX1_draftUpon_0 : decode cX1_draftUpon 0 = .ok (.aload_n 0, 1) := by decide +kernel
theorem dX1_draftUpon_1 : decode cX1_draftUpon 1 = .ok (.getfield 21, 3) := by decide +kernel
theorem dX1_draftUpon_4 : decode cX1_draftUpon 4 = .ok (.aload_n 1, 1) := by decide +kernel
theorem dX1_draftUpon_5 : decode cX1_draftUpon 5 = .ok (.invokevirtual 33, 3) := by decide +kernel
theorem dX1_draftUpon_8 : decode cX1_draftUpon 8 = .ok (.aload_n 0, 1) := by decide +kernel
theorem dX1_draftUpon_9 : decode cX1_draftUpon 9 = .ok (.getfield 12, 3) := by decide +kernel
theorem dX1_draftUpon_12 : decode cX1_draftUpon 12 = .ok (.invokevirtual 37, 3) := by decide +kernel
theorem dX1_draftUpon_15 : decode cX1_draftUpon 15 = .ok (.aload_n 0, 1) := by decide +kernel
theorem dX1_draftUpon_16 : decode cX1_draftUpon 16 = .ok (.iconst 1, 1) := by decide +kernel
theorem dX1_draftUpon_17 : decode cX1_draftUpon 17 = .ok (.putfield 25, 3) := by decide +kernel
theorem dX1_draftUpon_20 : decode cX1_draftUpon 20 = .ok (.aload_n 0, 1) := by decide +kernel
theorem dX1_draftUpon_21 : decode cX1_draftUpon 21 = .ok (.getfield 25, 3) := by decide +kernel
theorem dX1_draftUpon_24 : decode cX1_draftUpon 24 = .ok (.bipush 24, 2) := by decide +kernel
theorem dX1_draftUpon_26 : decode cX1_draftUpon 26 = .ok (.if_icmp .gt 70, 3) := by decide +kernel
theorem dX1_draftUpon_29 : decode cX1_draftUpon 29 = .ok (.aload_n 0, 1) := by decide +kernel
theorem dX1_draftUpon_30 : decode cX1_draftUpon 30 = .ok (.getfield 12, 3) := by decide +kernel
theorem dX1_draftUpon_33 : decode cX1_draftUpon 33 = .ok (.invokevirtual 40, 3) := by decide +kernel
theorem dX1_draftUpon_36 : decode cX1_draftUpon 36 = .ok (.aload_n 0, 1) := by decide +kernel
theorem dX1_draftUpon_37 : decode cX1_draftUpon 37 = .ok (.invokevirtual 43, 3) := by decide +kernel
theorem dX1_draftUpon_40 : decode cX1_draftUpon 40 = .ok (.ifCond .ne 11, 3) := by decide +kernel
theorem dX1_draftUpon_43 : decode cX1_draftUpon 43 = .ok (.aload_n 0, 1) := by decide +kernel
theorem dX1_draftUpon_44 : decode cX1_draftUpon 44 = .ok (.getfield 12, 3) := by decide +kernel
theorem dX1_draftUpon_47 : decode cX1_draftUpon 47 = .ok (.getfield 47, 3) := by decide +kernel
theorem dX1_draftUpon_50 : decode cX1_draftUpon 50 = .ok (.ireturn, 1) := by decide +kernel
theorem dX1_draftUpon_51 : decode cX1_draftUpon 51 = .ok (.aload_n 0, 1) := by decide +kernel
theorem dX1_draftUpon_52 : decode cX1_draftUpon 52 = .ok (.getfield 12, 3) := by decide +kernel
theorem dX1_draftUpon_55 : decode cX1_draftUpon 55 = .ok (.invokevirtual 50, 3) := by decide +kernel
theorem dX1_draftUpon_58 : decode cX1_draftUpon 58 = .ok (.ifCond .eq 5, 3) := by decide +kernel
theorem dX1_draftUpon_61 : decode cX1_draftUpon 61 = .ok (.iconst (-1), 1) := by decide +kernel
theorem dX1_draftUpon_62 : decode cX1_draftUpon 62 = .ok (.ireturn, 1) := by decide +kernel
theorem dX1_draftUpon_63 : decode cX1_draftUpon 63 = .ok (.aload_n 0, 1) := by decide +kernel
theorem dX1_draftUpon_64 : decode cX1_draftUpon 64 = .ok (.getfield 12, 3) := by decide +kernel
theorem dX1_draftUpon_67 : decode cX1_draftUpon 67 = .ok (.ldc 53, 2) := by decide +kernel
theorem dX1_draftUpon_69 : decode cX1_draftUpon 69 = .ok (.invokevirtual 55, 3) := by decide +kernel
theorem dX1_draftUpon_72 : decode cX1_draftUpon 72 = .ok (.ifCond .ne 11, 3) := by decide +kernel
theorem dX1_draftUpon_75 : decode cX1_draftUpon 75 = .ok (.aload_n 0, 1) := by decide +kernel
theorem dX1_draftUpon_76 : decode cX1_draftUpon 76 = .ok (.getfield 12, 3) := by decide +kernel
theorem dX1_draftUpon_79 : decode cX1_draftUpon 79 = .ok (.getfield 47, 3) := by decide +kernel
theorem dX1_draftUpon_82 : decode cX1_draftUpon 82 = .ok (.ireturn, 1) := by decide +kernel
theorem dX1_draftUpon_83 : decode cX1_draftUpon 83 = .ok (.aload_n 0, 1) := by decide +kernel
theorem dX1_draftUpon_84 : decode cX1_draftUpon 84 = .ok (.dup, 1) := by decide +kernel
theorem dX1_draftUpon_85 : decode cX1_draftUpon 85 = .ok (.getfield 25, 3) := by decide +kernel
theorem dX1_draftUpon_88 : decode cX1_draftUpon 88 = .ok (.iconst 1, 1) := by decide +kernel
theorem dX1_draftUpon_89 : decode cX1_draftUpon 89 = .ok (.iadd, 1) := by decide +kernel
theorem dX1_draftUpon_90 : decode cX1_draftUpon 90 = .ok (.putfield 25, 3) := by decide +kernel
theorem dX1_draftUpon_93 : decode cX1_draftUpon 93 = .ok (.goto (-73), 3) := by decide +kernel
theorem dX1_draftUpon_96 : decode cX1_draftUpon 96 = .ok (.aload_n 0, 1) := by decide +kernel
theorem dX1_draftUpon_97 : decode cX1_draftUpon 97 = .ok (.getfield 12, 3) := by decide +kernel
theorem dX1_draftUpon_100 : decode cX1_draftUpon 100 = .ok (.getfield 47, 3) := by decide +kernel
theorem dX1_draftUpon_103 : decode cX1_draftUpon 103 = .ok (.ireturn, 1) := by decide +kernel
theorem bX1_draftUpon_0 : tg_Snd mX1_draftUpon 0 (fun k => ti_aload 0 (ti_getf 1 1 (ti_aload 1 k))) 5 := tg_seq (si_aload_n (i := 0) dX1_draftUpon_0 rfl) (tg_seq (si_getf (ci := 1) (f := 1) clX1 (Nat.le_of_ble_eq_true rfl) rfl flX1_21 dX1_draftUpon_1) (si_aload_n (i := 1) dX1_draftUpon_4 rfl))
theorem bX1_draftUpon_8 : tg_Snd mX1_draftUpon 8 (fun k => ti_aload 0 (ti_getf 1 0 k)) 12 := tg_seq (si_aload_n (i := 0) dX1_draftUpon_8 rfl) (si_getf (ci := 1) (f := 0) clX1 (Nat.le_of_ble_eq_true rfl) rfl flX1_12 dX1_draftUpon_9)
theorem bX1_draftUpon_15 : tg_Snd mX1_draftUpon 15 (fun k => ti_aload 0 (ti_push (.int 1) (ti_putfI 1 2 k))) 20 := tg_seq (si_aload_n (i := 0) dX1_draftUpon_15 rfl) (tg_seq (si_iconst (v := 1) dX1_draftUpon_16 (by decide)) (si_putfI (ci := 1) (f := 2) (ty := .int) clX1 tyX1_ok nmX1 (Nat.le_of_ble_eq_true rfl) rfl (by decide +kernel) (fun _ _ => ⟨rfl, rfl⟩) flX1_25 dX1_draftUpon_17))
theorem bX1_draftUpon_20 : tg_Snd mX1_draftUpon 20 (fun k => ti_aload 0 (ti_getf 1 2 (ti_push (.int 24) k))) 26 := tg_seq (si_aload_n (i := 0) dX1_draftUpon_20 rfl) (tg_seq (si_getf (ci := 1) (f := 2) clX1 (Nat.le_of_ble_eq_true rfl) rfl flX1_25 dX1_draftUpon_21) (si_bipush (v := 24) dX1_draftUpon_24 (by decide)))
theorem bX1_draftUpon_29 : tg_Snd mX1_draftUpon 29 (fun k => ti_aload 0 (ti_getf 1 0 k)) 33 := tg_seq (si_aload_n (i := 0) dX1_draftUpon_29 rfl) (si_getf (ci := 1) (f := 0) clX1 (Nat.le_of_ble_eq_true rfl) rfl flX1_12 dX1_draftUpon_30)
theorem bX1_draftUpon_36 : tg_Snd mX1_draftUpon 36 (fun k => ti_aload 0 k) 37 := si_aload_n (i := 0) dX1_draftUpon_36 rfl
theorem bX1_draftUpon_43 : tg_Snd mX1_draftUpon 43 (fun k => ti_aload 0 (ti_getf 1 0 (ti_getf 6 2 k))) 50 := tg_seq (si_aload_n (i := 0) dX1_draftUpon_43 rfl) (tg_seq (si_getf (ci := 1) (f := 0) clX1 (Nat.le_of_ble_eq_true rfl) rfl flX1_12 dX1_draftUpon_44) (si_getf (ci := 6) (f := 2) clX7 (Nat.le_of_ble_eq_true rfl) rfl flX1_47 dX1_draftUpon_47))
theorem bX1_draftUpon_51 : tg_Snd mX1_draftUpon 51 (fun k => ti_aload 0 (ti_getf 1 0 k)) 55 := tg_seq (si_aload_n (i := 0) dX1_draftUpon_51 rfl) (si_getf (ci := 1) (f := 0) clX1 (Nat.le_of_ble_eq_true rfl) rfl flX1_12 dX1_draftUpon_52)
theorem bX1_draftUpon_61 : tg_Snd mX1_draftUpon 61 (fun k => ti_push (.int (-1)) k) 62 := si_iconst (v := -1) dX1_draftUpon_61 (by decide)
theorem bX1_draftUpon_63 : tg_Snd mX1_draftUpon 63 (fun k => ti_aload 0 (ti_getf 1 0 (ti_str 3 k))) 69 := tg_seq (si_aload_n (i := 0) dX1_draftUpon_63 rfl) (tg_seq (si_getf (ci := 1) (f := 0) clX1 (Nat.le_of_ble_eq_true rfl) rfl flX1_12 dX1_draftUpon_64) (si_str (i := 3) (by decide) rfl rfl dX1_draftUpon_67))
theorem bX1_draftUpon_75 : tg_Snd mX1_draftUpon 75 (fun k => ti_aload 0 (ti_getf 1 0 (ti_getf 6 2 k))) 82 := tg_seq (si_aload_n (i := 0) dX1_draftUpon_75 rfl) (tg_seq (si_getf (ci := 1) (f := 0) clX1 (Nat.le_of_ble_eq_true rfl) rfl flX1_12 dX1_draftUpon_76) (si_getf (ci := 6) (f := 2) clX7 (Nat.le_of_ble_eq_true rfl) rfl flX1_47 dX1_draftUpon_79))
theorem bX1_draftUpon_83 : tg_Snd mX1_draftUpon 83 (fun k => ti_aload 0 (ti_dup (ti_getf 1 2 (ti_push (.int 1) (ti_iadd (ti_putfI 1 2 k)))))) 93 := tg_seq (si_aload_n (i := 0) dX1_draftUpon_83 rfl) (tg_seq (si_dup dX1_draftUpon_84) (tg_seq (si_getf (ci := 1) (f := 2) clX1 (Nat.le_of_ble_eq_true rfl) rfl flX1_25 dX1_draftUpon_85) (tg_seq (si_iconst (v := 1) dX1_draftUpon_88 (by decide)) (tg_seq (si_iadd dX1_draftUpon_89) (si_putfI (ci := 1) (f := 2) (ty := .int) clX1 tyX1_ok nmX1 (Nat.le_of_ble_eq_true rfl) rfl (by decide +kernel) (fun _ _ => ⟨rfl, rfl⟩) flX1_25 dX1_draftUpon_90)))))
theorem bX1_draftUpon_96 : tg_Snd mX1_draftUpon 96 (fun k => ti_aload 0 (ti_getf 1 0 (ti_getf 6 2 k))) 103 := tg_seq (si_aload_n (i := 0) dX1_draftUpon_96 rfl) (tg_seq (si_getf (ci := 1) (f := 0) clX1 (Nat.le_of_ble_eq_true rfl) rfl flX1_12 dX1_draftUpon_97) (si_getf (ci := 6) (f := 2) clX7 (Nat.le_of_ble_eq_true rfl) rfl flX1_47 dX1_draftUpon_100))
theorem vX1_draftUpon_5 : tg_VS mX1_draftUpon 5 mX6_copyFrom 1 := ⟨okX6_copyFrom, ⟨33, dX1_draftUpon_5, mlX1_33⟩, insX6_copyFrom, selX6_copyFrom, parX6_copyFrom, rfl, rfl, Nat.le_of_ble_eq_true rfl, Nat.le_of_ble_eq_true rfl⟩
theorem vX1_draftUpon_12 : tg_VS mX1_draftUpon 12 mX7_rewind 0 := ⟨okX7_rewind, ⟨37, dX1_draftUpon_12, mlX1_37⟩, insX7_rewind, selX7_rewind, parX7_rewind, rfl, rfl, Nat.le_of_ble_eq_true rfl, Nat.le_of_ble_eq_true rfl⟩
theorem vX1_draftUpon_33 : tg_VS mX1_draftUpon 33 mX7_toNextToken 0 := ⟨okX7_toNextToken, ⟨40, dX1_draftUpon_33, mlX1_40⟩, insX7_toNextToken, selX7_toNextToken, parX7_toNextToken, rfl, rfl, Nat.le_of_ble_eq_true rfl, Nat.le_of_ble_eq_true rfl⟩
theorem vX1_draftUpon_37 : tg_VS mX1_draftUpon 37 mX1_doClause 0 := ⟨okX1_doClause, ⟨43, dX1_draftUpon_37, mlX1_43⟩, insX1_doClause, selX1_doClause, parX1_doClause, rfl, rfl, Nat.le_of_ble_eq_true rfl, Nat.le_of_ble_eq_true rfl⟩
theorem vX1_draftUpon_55 : tg_VS mX1_draftUpon 55 mX7_isAtEnd 0 := ⟨okX7_isAtEnd, ⟨50, dX1_draftUpon_55, mlX1_50⟩, insX7_isAtEnd, selX7_isAtEnd, parX7_isAtEnd, rfl, rfl, Nat.le_of_ble_eq_true rfl, Nat.le_of_ble_eq_true rfl⟩
theorem vX1_draftUpon_69 : tg_VS mX1_draftUpon 69 mX7_isToken 1 := ⟨okX7_isToken, ⟨55, dX1_draftUpon_69, mlX1_55⟩, insX7_isToken, selX7_isToken, parX7_isToken, rfl, rfl, Nat.le_of_ble_eq_true rfl, Nat.le_of_ble_eq_true rfl⟩
theorem dX1_doClause_0 : decode cX1_doClause 0 = .ok (.aload_n 0, 1) := by decide +kernel
theorem dX1_doClause_1 : decode cX1_doClause 1 = .ok (.getfield 12, 3) := by decide +kernel
theorem dX1_doClause_4 : decode cX1_doClause 4 = .ok (.ldc 59, 2) := by decide +kernel
theorem dX1_doClause_6 : decode cX1_doClause 6 = .ok (.invokevirtual 55, 3) := by decide +kernel
theorem dX1_doClause_9 : decode cX1_doClause 9 = .ok (.ifCond .eq 8, 3) := by decide +kernel
theorem dX1_doClause_12 : decode cX1_doClause 12 = .ok (.aload_n 0, 1) := by decide +kernel
theorem dX1_doClause_13 : decode cX1_doClause 13 = .ok (.invokevirtual 61, 3) := by decide +kernel
theorem dX1_doClause_16 : decode cX1_doClause 16 = .ok (.ireturn, 1) := by decide +kernel
theorem dX1_doClause_17 : decode cX1_doClause 17 = .ok (.aload_n 0, 1) := by decide +kernel
theorem dX1_doClause_18 : decode cX1_doClause 18 = .ok (.getfield 12, 3) := by decide +kernel
theorem dX1_doClause_21 : decode cX1_doClause 21 = .ok (.ldc 64, 2) := by decide +kernel
theorem dX1_doClause_23 : decode cX1_doClause 23 = .ok (.invokevirtual 55, 3) := by decide +kernel
theorem dX1_doClause_26 : decode cX1_doClause 26 = .ok (.ifCond .eq 8, 3) := by decide +kernel
theorem dX1_doClause_29 : decode cX1_doClause 29 = .ok (.aload_n 0, 1) := by decide +kernel
theorem dX1_doClause_30 : decode cX1_doClause 30 = .ok (.invokevirtual 66, 3) := by decide +kernel
theorem dX1_doClause_33 : decode cX1_doClause 33 = .ok (.ireturn, 1) := by decide +kernel
theorem dX1_doClause_34 : decode cX1_doClause 34 = .ok (.aload_n 0, 1) := by decide +kernel
theorem dX1_doClause_35 : decode cX1_doClause 35 = .ok (.getfield 12, 3) := by decide +kernel
theorem dX1_doClause_38 : decode cX1_doClause 38 = .ok (.ldc 69, 2) := by decide +kernel
theorem dX1_doClause_40 : decode cX1_doClause 40 = .ok (.invokevirtual 55, 3) := by decide +kernel
theorem dX1_doClause_43 : decode cX1_doClause 43 = .ok (.ifCond .eq 26, 3) := by decide +kernel
theorem dX1_doClause_46 : decode cX1_doClause 46 = .ok (.aload_n 0, 1) := by decide +kernel
theorem dX1_doClause_47 : decode cX1_doClause 47 = .ok (.getfield 21, 3) := by decide +kernel
theorem dX1_doClause_50 : decode cX1_doClause 50 = .ok (.getfield 71, 3) := by decide +kernel
theorem dX1_doClause_53 : decode cX1_doClause 53 = .ok (.bipush 40, 2) := by decide +kernel
theorem dX1_doClause_55 : decode cX1_doClause 55 = .ok (.if_icmp .ge 14, 3) := by decide +kernel
theorem dX1_doClause_58 : decode cX1_doClause 58 = .ok (.aload_n 0, 1) := by decide +kernel
theorem dX1_doClause_59 : decode cX1_doClause 59 = .ok (.invokevirtual 74, 3) := by decide +kernel
theorem dX1_doClause_62 : decode cX1_doClause 62 = .ok (.ifCond .eq 7, 3) := by decide +kernel
theorem dX1_doClause_65 : decode cX1_doClause 65 = .ok (.iconst 1, 1) := by decide +kernel
theorem dX1_doClause_66 : decode cX1_doClause 66 = .ok (.goto 4, 3) := by decide +kernel
theorem dX1_doClause_69 : decode cX1_doClause 69 = .ok (.iconst 0, 1) := by decide +kernel
theorem dX1_doClause_70 : decode cX1_doClause 70 = .ok (.ireturn, 1) := by decide +kernel
theorem bX1_doClause_0 : tg_Snd mX1_doClause 0 (fun k => ti_aload 0 (ti_getf 1 0 (ti_str 0 k))) 6 := tg_seq (si_aload_n (i := 0) dX1_doClause_0 rfl) (tg_seq (si_getf (ci := 1) (f := 0) clX1 (Nat.le_of_ble_eq_true rfl) rfl flX1_12 dX1_doClause_1) (si_str (i := 0) (by decide) rfl rfl dX1_doClause_4))
theorem bX1_doClause_12 : tg_Snd mX1_doClause 12 (fun k => ti_aload 0 k) 13 := si_aload_n (i := 0) dX1_doClause_12 rfl
theorem bX1_doClause_17 : tg_Snd mX1_doClause 17 (fun k => ti_aload 0 (ti_getf 1 0 (ti_str 1 k))) 23 := tg_seq (si_aload_n (i := 0) dX1_doClause_17 rfl) (tg_seq (si_getf (ci := 1) (f := 0) clX1 (Nat.le_of_ble_eq_true rfl) rfl flX1_12 dX1_doClause_18) (si_str (i := 1) (by decide) rfl rfl dX1_doClause_21))
theorem bX1_doClause_29 : tg_Snd mX1_doClause 29 (fun k => ti_aload 0 k) 30 := si_aload_n (i := 0) dX1_doClause_29 rfl
theorem bX1_doClause_34 : tg_Snd mX1_doClause 34 (fun k => ti_aload 0 (ti_getf 1 0 (ti_str 2 k))) 40 := tg_seq (si_aload_n (i := 0) dX1_doClause_34 rfl) (tg_seq (si_getf (ci := 1) (f := 0) clX1 (Nat.le_of_ble_eq_true rfl) rfl flX1_12 dX1_doClause_35) (si_str (i := 2) (by decide) rfl rfl dX1_doClause_38))
theorem bX1_doClause_46 : tg_Snd mX1_doClause 46 (fun k => ti_aload 0 (ti_getf 1 1 (ti_getf 5 2 (ti_push (.int 40) k)))) 55 := tg_seq (si_aload_n (i := 0) dX1_doClause_46 rfl) (tg_seq (si_getf (ci := 1) (f := 1) clX1 (Nat.le_of_ble_eq_true rfl) rfl flX1_21 dX1_doClause_47) (tg_seq (si_getf (ci := 5) (f := 2) clX6 (Nat.le_of_ble_eq_true rfl) rfl flX1_71 dX1_doClause_50) (si_bipush (v := 40) dX1_doClause_53 (by decide))))
theorem bX1_doClause_58 : tg_Snd mX1_doClause 58 (fun k => ti_aload 0 k) 59 := si_aload_n (i := 0) dX1_doClause_58 rfl
theorem bX1_doClause_65 : tg_Snd mX1_doClause 65 (fun k => ti_push (.int 1) k) 66 := si_iconst (v := 1) dX1_doClause_65 (by decide)
theorem bX1_doClause_69 : tg_Snd mX1_doClause 69 (fun k => ti_push (.int 0) k) 70 := si_iconst (v := 0) dX1_doClause_69 (by decide)
theorem vX1_doClause_6 : tg_VS mX1_doClause 6 mX7_isToken 1 := ⟨okX7_isToken, ⟨55, dX1_doClause_6, mlX1_55⟩, insX7_isToken, selX7_isToken, parX7_isToken, rfl, rfl, Nat.le_of_ble_eq_true rfl, Nat.le_of_ble_eq_true rfl⟩
theorem vX1_doClause_13 : tg_VS mX1_doClause 13 mX1_doTable 0 := ⟨okX1_doTable, ⟨61, dX1_doClause_13, mlX1_61⟩, insX1_doTable, selX1_doTable, parX1_doTable, rfl, rfl, Nat.le_of_ble_eq_true rfl, Nat.le_of_ble_eq_true rfl⟩
theorem vX1_doClause_23 : tg_VS mX1_doClause 23 mX7_isToken 1 := ⟨okX7_isToken, ⟨55, dX1_doClause_23, mlX1_55⟩, insX7_isToken, selX7_isToken, parX7_isToken, rfl, rfl, Nat.le_of_ble_eq_true rfl, Nat.le_of_ble_eq_true rfl⟩
theorem vX1_doClause_30 : tg_VS mX1_doClause 30 mX1_doSupport 0 := ⟨okX1_doSupport, ⟨66, dX1_doClause_30, mlX1_66⟩, insX1_doSupport, selX1_doSupport, parX1_doSupport, rfl, rfl, Nat.le_of_ble_eq_true rfl, Nat.le_of_ble_eq_true rfl⟩
theorem vX1_doClause_40 : tg_VS mX1_doClause 40 mX7_isToken 1 := ⟨okX7_isToken, ⟨55, dX1_doClause_40, mlX1_55⟩, insX7_isToken, selX7_isToken, parX7_isToken, rfl, rfl, Nat.le_of_ble_eq_true rfl, Nat.le_of_ble_eq_true rfl⟩
theorem vX1_doClause_59 : tg_VS mX1_doClause 59 mX1_doRow 0 := ⟨okX1_doRow, ⟨74, dX1_doClause_59, mlX1_74⟩, insX1_doRow, selX1_doRow, parX1_doRow, rfl, rfl, Nat.le_of_ble_eq_true rfl, Nat.le_of_ble_eq_true rfl⟩
theorem dX1_doTable_0 : decode cX1_doTable 0 = .ok (.aload_n 0, 1) := by decide +kernel
theorem dX1_doTable_1 : decode cX1_doTable 1 = .ok (.getfield 12, 3) := by decide +kernel
theorem dX1_doTable_4 : decode cX1_doTable 4 = .ok (.invokevirtual 40, 3) := by decide +kernel
theorem dX1_doTable_7 : decode cX1_doTable 7 = .ok (.iconst 0, 1) := by decide +kernel
theorem dX1_doTable_8 : decode cX1_doTable 8 = .ok (.istore_n 1, 1) := by decide +kernel
theorem dX1_doTable_9 : decode cX1_doTable 9 = .ok (.iload_n 1, 1) := by decide +kernel
theorem dX1_doTable_10 : decode cX1_doTable 10 = .ok (.iconst 4, 1) := by decide +kernel
theorem dX1_doTable_11 : decode cX1_doTable 11 = .ok (.if_icmp .ge 42, 3) := by decide +kernel
theorem dX1_doTable_14 : decode cX1_doTable 14 = .ok (.aload_n 0, 1) := by decide +kernel
theorem dX1_doTable_15 : decode cX1_doTable 15 = .ok (.getfield 12, 3) := by decide +kernel
theorem dX1_doTable_18 : decode cX1_doTable 18 = .ok (.iconst 1, 1) := by decide +kernel
theorem dX1_doTable_19 : decode cX1_doTable 19 = .ok (.bipush 6, 2) := by decide +kernel
theorem dX1_doTable_21 : decode cX1_doTable 21 = .ok (.invokevirtual 77, 3) := by decide +kernel
theorem dX1_doTable_24 : decode cX1_doTable 24 = .ok (.istore_n 2, 1) := by decide +kernel
theorem dX1_doTable_25 : decode cX1_doTable 25 = .ok (.iload_n 2, 1) := by decide +kernel
theorem dX1_doTable_26 : decode cX1_doTable 26 = .ok (.iconst (-1), 1) := by decide +kernel
theorem dX1_doTable_27 : decode cX1_doTable 27 = .ok (.if_icmp .ne 6, 3) := by decide +kernel
theorem dX1_doTable_30 : decode cX1_doTable 30 = .ok (.goto 23, 3) := by decide +kernel
theorem dX1_doTable_33 : decode cX1_doTable 33 = .ok (.aload_n 0, 1) := by decide +kernel
theorem dX1_doTable_34 : decode cX1_doTable 34 = .ok (.getfield 29, 3) := by decide +kernel
theorem dX1_doTable_37 : decode cX1_doTable 37 = .ok (.iload_n 1, 1) := by decide +kernel
theorem dX1_doTable_38 : decode cX1_doTable 38 = .ok (.iload_n 2, 1) := by decide +kernel
theorem dX1_doTable_39 : decode cX1_doTable 39 = .ok (.iastore, 1) := by decide +kernel
theorem dX1_doTable_40 : decode cX1_doTable 40 = .ok (.iinc 1 1, 3) := by decide +kernel
theorem dX1_doTable_43 : decode cX1_doTable 43 = .ok (.aload_n 0, 1) := by decide +kernel
theorem dX1_doTable_44 : decode cX1_doTable 44 = .ok (.getfield 12, 3) := by decide +kernel
theorem dX1_doTable_47 : decode cX1_doTable 47 = .ok (.invokevirtual 40, 3) := by decide +kernel
theorem dX1_doTable_50 : decode cX1_doTable 50 = .ok (.goto (-41), 3) := by decide +kernel
theorem dX1_doTable_53 : decode cX1_doTable 53 = .ok (.iload_n 1, 1) := by decide +kernel
theorem dX1_doTable_54 : decode cX1_doTable 54 = .ok (.ifCond .ne 5, 3) := by decide +kernel
theorem dX1_doTable_57 : decode cX1_doTable 57 = .ok (.iconst 0, 1) := by decide +kernel
theorem dX1_doTable_58 : decode cX1_doTable 58 = .ok (.ireturn, 1) := by decide +kernel
theorem dX1_doTable_59 : decode cX1_doTable 59 = .ok (.aload_n 0, 1) := by decide +kernel
theorem dX1_doTable_60 : decode cX1_doTable 60 = .ok (.getfield 21, 3) := by decide +kernel
theorem dX1_doTable_63 : decode cX1_doTable 63 = .ok (.iload_n 1, 1) := by decide +kernel
theorem dX1_doTable_64 : decode cX1_doTable 64 = .ok (.aload_n 0, 1) := by decide +kernel
theorem dX1_doTable_65 : decode cX1_doTable 65 = .ok (.getfield 29, 3) := by decide +kernel
theorem dX1_doTable_68 : decode cX1_doTable 68 = .ok (.invokevirtual 81, 3) := by decide +kernel
theorem dX1_doTable_71 : decode cX1_doTable 71 = .ok (.iconst 1, 1) := by decide +kernel
theorem dX1_doTable_72 : decode cX1_doTable 72 = .ok (.ireturn, 1) := by decide +kernel
theorem bX1_doTable_0 : tg_Snd mX1_doTable 0 (fun k => ti_aload 0 (ti_getf 1 0 k)) 4 := tg_seq (si_aload_n (i := 0) dX1_doTable_0 rfl) (si_getf (ci := 1) (f := 0) clX1 (Nat.le_of_ble_eq_true rfl) rfl flX1_12 dX1_doTable_1)
theorem bX1_doTable_7 : tg_Snd mX1_doTable 7 (fun k => ti_push (.int 0) (ti_istore 1 k)) 9 := tg_seq (si_iconst (v := 0) dX1_doTable_7 (by decide)) (si_istore_n (i := 1) dX1_doTable_8 rfl (Nat.le_of_ble_eq_true rfl))
theorem bX1_doTable_9 : tg_Snd mX1_doTable 9 (fun k => ti_iload 1 (ti_push (.int 4) k)) 11 := tg_seq (si_iload_n (i := 1) dX1_doTable_9 rfl) (si_iconst (v := 4) dX1_doTable_10 (by decide))
theorem bX1_doTable_14 : tg_Snd mX1_doTable 14 (fun k => ti_aload 0 (ti_getf 1 0 (ti_push (.int 1) (ti_push (.int 6) k)))) 21 := tg_seq (si_aload_n (i := 0) dX1_doTable_14 rfl) (tg_seq (si_getf (ci := 1) (f := 0) clX1 (Nat.le_of_ble_eq_true rfl) rfl flX1_12 dX1_doTable_15) (tg_seq (si_iconst (v := 1) dX1_doTable_18 (by decide)) (si_bipush (v := 6) dX1_doTable_19 (by decide))))
theorem bX1_doTable_24 : tg_Snd mX1_doTable 24 (fun k => ti_istore 2 (ti_iload 2 (ti_push (.int (-1)) k))) 27 := tg_seq (si_istore_n (i := 2) dX1_doTable_24 rfl (Nat.le_of_ble_eq_true rfl)) (tg_seq (si_iload_n (i := 2) dX1_doTable_25 rfl) (si_iconst (v := -1) dX1_doTable_26 (by decide)))
theorem bX1_doTable_33 : tg_Snd mX1_doTable 33 (fun k => ti_aload 0 (ti_getf 1 3 (ti_iload 1 (ti_iload 2 (ti_iast (ti_iinc 1 1 (ti_aload 0 (ti_getf 1 0 k)))))))) 47 := tg_seq (si_aload_n (i := 0) dX1_doTable_33 rfl) (tg_seq (si_getf (ci := 1) (f := 3) clX1 (Nat.le_of_ble_eq_true rfl) rfl flX1_29 dX1_doTable_34) (tg_seq (si_iload_n (i := 1) dX1_doTable_37 rfl) (tg_seq (si_iload_n (i := 2) dX1_doTable_38 rfl) (tg_seq (si_iast dX1_doTable_39) (tg_seq (si_iinc (v := 1) dX1_doTable_40 (by decide) (Nat.le_of_ble_eq_true rfl)) (tg_seq (si_aload_n (i := 0) dX1_doTable_43 rfl) (si_getf (ci := 1) (f := 0) clX1 (Nat.le_of_ble_eq_true rfl) rfl flX1_12 dX1_doTable_44)))))))
theorem bX1_doTable_53 : tg_Snd mX1_doTable 53 (fun k => ti_iload 1 k) 54 := si_iload_n (i := 1) dX1_doTable_53 rfl
theorem bX1_doTable_57 : tg_Snd mX1_doTable 57 (fun k => ti_push (.int 0) k) 58 := si_iconst (v := 0) dX1_doTable_57 (by decide)
theorem bX1_doTable_59 : tg_Snd mX1_doTable 59 (fun k => ti_aload 0 (ti_getf 1 1 (ti_iload 1 (ti_aload 0 (ti_getf 1 3 k))))) 68 := tg_seq (si_aload_n (i := 0) dX1_doTable_59 rfl) (tg_seq (si_getf (ci := 1) (f := 1) clX1 (Nat.le_of_ble_eq_true rfl) rfl flX1_21 dX1_doTable_60) (tg_seq (si_iload_n (i := 1) dX1_doTable_63 rfl) (tg_seq (si_aload_n (i := 0) dX1_doTable_64 rfl) (si_getf (ci := 1) (f := 3) clX1 (Nat.le_of_ble_eq_true rfl) rfl flX1_29 dX1_doTable_65))))
theorem bX1_doTable_71 : tg_Snd mX1_doTable 71 (fun k => ti_push (.int 1) k) 72 := si_iconst (v := 1) dX1_doTable_71 (by decide)
theorem vX1_doTable_4 : tg_VS mX1_doTable 4 mX7_toNextToken 0 := ⟨okX7_toNextToken, ⟨40, dX1_doTable_4, mlX1_40⟩, insX7_toNextToken, selX7_toNextToken, parX7_toNextToken, rfl, rfl, Nat.le_of_ble_eq_true rfl, Nat.le_of_ble_eq_true rfl⟩
theorem vX1_doTable_21 : tg_VS mX1_doTable 21 mX7_numberWithin 2 := ⟨okX7_numberWithin, ⟨77, dX1_doTable_21, mlX1_77⟩, insX7_numberWithin, selX7_numberWithin, parX7_numberWithin, rfl, rfl, Nat.le_of_ble_eq_true rfl, Nat.le_of_ble_eq_true rfl⟩
theorem vX1_doTable_47 : tg_VS mX1_doTable 47 mX7_toNextToken 0 := ⟨okX7_toNextToken, ⟨40, dX1_doTable_47, mlX1_40⟩, insX7_toNextToken, selX7_toNextToken, parX7_toNextToken, rfl, rfl, Nat.le_of_ble_eq_true rfl, Nat.le_of_ble_eq_true rfl⟩
theorem vX1_doTable_68 : tg_VS mX1_doTable 68 mX6_startWith 2 := ⟨okX6_startWith, ⟨81, dX1_doTable_68, mlX1_81⟩, insX6_startWith, selX6_startWith, parX6_startWith, rfl, rfl, Nat.le_of_ble_eq_true rfl, Nat.le_of_ble_eq_true rfl⟩
theorem dX1_doSupport_0 : decode cX1_doSupport 0 = .ok (.aload_n 0, 1) := by decide +kernel
theorem dX1_doSupport_1 : decode cX1_doSupport 1 = .ok (.getfield 12, 3) := by decide +kernel
theorem dX1_doSupport_4 : decode cX1_doSupport 4 = .ok (.invokevirtual 40, 3) := by decide +kernel
theorem dX1_doSupport_7 : decode cX1_doSupport 7 = .ok (.aload_n 0, 1) := by decide +kernel
theorem dX1_doSupport_8 : decode cX1_doSupport 8 = .ok (.getfield 12, 3) := by decide +kernel
theorem dX1_doSupport_11 : decode cX1_doSupport 11 = .ok (.iconst 1, 1) := by decide +kernel
theorem dX1_doSupport_12 : decode cX1_doSupport 12 = .ok (.bipush 9, 2) := by decide +kernel
theorem dX1_doSupport_14 : decode cX1_doSupport 14 = .ok (.invokevirtual 77, 3) := by decide +kernel
theorem dX1_doSupport_17 : decode cX1_doSupport 17 = .ok (.istore_n 1, 1) := by decide +kernel
theorem dX1_doSupport_18 : decode cX1_doSupport 18 = .ok (.iload_n 1, 1) := by decide +kernel
theorem dX1_doSupport_19 : decode cX1_doSupport 19 = .ok (.iconst (-1), 1) := by decide +kernel
theorem dX1_doSupport_20 : decode cX1_doSupport 20 = .ok (.if_icmp .ne 5, 3) := by decide +kernel
theorem dX1_doSupport_23 : decode cX1_doSupport 23 = .ok (.iconst 0, 1) := by decide +kernel
theorem dX1_doSupport_24 : decode cX1_doSupport 24 = .ok (.ireturn, 1) := by decide +kernel
theorem dX1_doSupport_25 : decode cX1_doSupport 25 = .ok (.aload_n 0, 1) := by decide +kernel
theorem dX1_doSupport_26 : decode cX1_doSupport 26 = .ok (.getfield 21, 3) := by decide +kernel
theorem dX1_doSupport_29 : decode cX1_doSupport 29 = .ok (.iload_n 1, 1) := by decide +kernel
theorem dX1_doSupport_30 : decode cX1_doSupport 30 = .ok (.putfield 85, 3) := by decide +kernel
theorem dX1_doSupport_33 : decode cX1_doSupport 33 = .ok (.aload_n 0, 1) := by decide +kernel
theorem dX1_doSupport_34 : decode cX1_doSupport 34 = .ok (.getfield 12, 3) := by decide +kernel
theorem dX1_doSupport_37 : decode cX1_doSupport 37 = .ok (.invokevirtual 40, 3) := by decide +kernel
theorem dX1_doSupport_40 : decode cX1_doSupport 40 = .ok (.iconst 1, 1) := by decide +kernel
theorem dX1_doSupport_41 : decode cX1_doSupport 41 = .ok (.ireturn, 1) := by decide +kernel
theorem bX1_doSupport_0 : tg_Snd mX1_doSupport 0 (fun k => ti_aload 0 (ti_getf 1 0 k)) 4 := tg_seq (si_aload_n (i := 0) dX1_doSupport_0 rfl) (si_getf (ci := 1) (f := 0) clX1 (Nat.le_of_ble_eq_true rfl) rfl flX1_12 dX1_doSupport_1)
theorem bX1_doSupport_7 : tg_Snd mX1_doSupport 7 (fun k => ti_aload 0 (ti_getf 1 0 (ti_push (.int 1) (ti_push (.int 9) k)))) 14 := tg_seq (si_aload_n (i := 0) dX1_doSupport_7 rfl) (tg_seq (si_getf (ci := 1) (f := 0) clX1 (Nat.le_of_ble_eq_true rfl) rfl flX1_12 dX1_doSupport_8) (tg_seq (si_iconst (v := 1) dX1_doSupport_11 (by decide)) (si_bipush (v := 9) dX1_doSupport_12 (by decide))))
theorem bX1_doSupport_17 : tg_Snd mX1_doSupport 17 (fun k => ti_istore 1 (ti_iload 1 (ti_push (.int (-1)) k))) 20 := tg_seq (si_istore_n (i := 1) dX1_doSupport_17 rfl (Nat.le_of_ble_eq_true rfl)) (tg_seq (si_iload_n (i := 1) dX1_doSupport_18 rfl) (si_iconst (v := -1) dX1_doSupport_19 (by decide)))
theorem bX1_doSupport_23 : tg_Snd mX1_doSupport 23 (fun k => ti_push (.int 0) k) 24 := si_iconst (v := 0) dX1_doSupport_23 (by decide)
theorem bX1_doSupport_25 : tg_Snd mX1_doSupport 25 (fun k => ti_aload 0 (ti_getf 1 1 (ti_iload 1 (ti_putfI 5 5 (ti_aload 0 (ti_getf 1 0 k)))))) 37 := tg_seq (si_aload_n (i := 0) dX1_doSupport_25 rfl) (tg_seq (si_getf (ci := 1) (f := 1) clX1 (Nat.le_of_ble_eq_true rfl) rfl flX1_21 dX1_doSupport_26) (tg_seq (si_iload_n (i := 1) dX1_doSupport_29 rfl) (tg_seq (si_putfI (ci := 5) (f := 5) (ty := .int) clX6 tyX6_ok nmX6 (Nat.le_of_ble_eq_true rfl) rfl (by decide +kernel) (fun _ _ => ⟨rfl, rfl⟩) flX1_85 dX1_doSupport_30) (tg_seq (si_aload_n (i := 0) dX1_doSupport_33 rfl) (si_getf (ci := 1) (f := 0) clX1 (Nat.le_of_ble_eq_true rfl) rfl flX1_12 dX1_doSupport_34)))))
theorem bX1_doSupport_40 : tg_Snd mX1_doSupport 40 (fun k => ti_push (.int 1) k) 41 := si_iconst (v := 1) dX1_doSupport_40 (by decide)
theorem vX1_doSupport_4 : tg_VS mX1_doSupport 4 mX7_toNextToken 0 := ⟨okX7_toNextToken, ⟨40, dX1_doSupport_4, mlX1_40⟩, insX7_toNextToken, selX7_toNextToken, parX7_toNextToken, rfl, rfl, Nat.le_of_ble_eq_true rfl, Nat.le_of_ble_eq_true rfl⟩
theorem vX1_doSupport_14 : tg_VS mX1_doSupport 14 mX7_numberWithin 2 := ⟨okX7_numberWithin, ⟨77, dX1_doSupport_14, mlX1_77⟩, insX7_numberWithin, selX7_numberWithin, parX7_numberWithin, rfl, rfl, Nat.le_of_ble_eq_true rfl, Nat.le_of_ble_eq_true rfl⟩
theorem vX1_doSupport_37 : tg_VS mX1_doSupport 37 mX7_toNextToken 0 := ⟨okX7_toNextToken, ⟨40, dX1_doSupport_37, mlX1_40⟩, insX7_toNextToken, selX7_toNextToken, parX7_toNextToken, rfl, rfl, Nat.le_of_ble_eq_true rfl, Nat.le_of_ble_eq_true rfl⟩
theorem dX1_doRow_0 : decode cX1_doRow 0 = .ok (.aload_n 0, 1) := by decide +kernel
theorem dX1_doRow_1 : decode cX1_doRow 1 = .ok (.getfield 12, 3) := by decide +kernel
theorem dX1_doRow_4 : decode cX1_doRow 4 = .ok (.invokevirtual 40, 3) := by decide +kernel
theorem dX1_doRow_7 : decode cX1_doRow 7 = .ok (.iconst 0, 1) := by decide +kernel
theorem dX1_doRow_8 : decode cX1_doRow 8 = .ok (.istore_n 1, 1) := by decide +kernel
theorem dX1_doRow_9 : decode cX1_doRow 9 = .ok (.iconst 0, 1) := by decide +kernel
theorem dX1_doRow_10 : decode cX1_doRow 10 = .ok (.istore_n 2, 1) := by decide +kernel
theorem dX1_doRow_11 : decode cX1_doRow 11 = .ok (.iload_n 2, 1) := by decide +kernel
theorem dX1_doRow_12 : decode cX1_doRow 12 = .ok (.aload_n 0, 1) := by decide +kernel
theorem dX1_doRow_13 : decode cX1_doRow 13 = .ok (.getfield 21, 3) := by decide +kernel
theorem dX1_doRow_16 : decode cX1_doRow 16 = .ok (.getfield 88, 3) := by decide +kernel
theorem dX1_doRow_19 : decode cX1_doRow 19 = .ok (.if_icmp .ge 52, 3) := by decide +kernel
theorem dX1_doRow_22 : decode cX1_doRow 22 = .ok (.aload_n 0, 1) := by decide +kernel
theorem dX1_doRow_23 : decode cX1_doRow 23 = .ok (.getfield 12, 3) := by decide +kernel
theorem dX1_doRow_26 : decode cX1_doRow 26 = .ok (.iconst 0, 1) := by decide +kernel
theorem dX1_doRow_27 : decode cX1_doRow 27 = .ok (.aload_n 0, 1) := by decide +kernel
theorem dX1_doRow_28 : decode cX1_doRow 28 = .ok (.getfield 21, 3) := by decide +kernel
theorem dX1_doRow_31 : decode cX1_doRow 31 = .ok (.getfield 91, 3) := by decide +kernel
theorem dX1_doRow_34 : decode cX1_doRow 34 = .ok (.iload_n 2, 1) := by decide +kernel
theorem dX1_doRow_35 : decode cX1_doRow 35 = .ok (.iaload, 1) := by decide +kernel
theorem dX1_doRow_36 : decode cX1_doRow 36 = .ok (.iconst 1, 1) := by decide +kernel
theorem dX1_doRow_37 : decode cX1_doRow 37 = .ok (.isub, 1) := by decide +kernel
theorem dX1_doRow_38 : decode cX1_doRow 38 = .ok (.invokevirtual 77, 3) := by decide +kernel
theorem dX1_doRow_41 : decode cX1_doRow 41 = .ok (.istore_n 3, 1) := by decide +kernel
theorem dX1_doRow_42 : decode cX1_doRow 42 = .ok (.iload_n 3, 1) := by decide +kernel
theorem dX1_doRow_43 : decode cX1_doRow 43 = .ok (.iconst (-1), 1) := by decide +kernel
theorem dX1_doRow_44 : decode cX1_doRow 44 = .ok (.if_icmp .ne 5, 3) := by decide +kernel
theorem dX1_doRow_47 : decode cX1_doRow 47 = .ok (.iconst 0, 1) := by decide +kernel
theorem dX1_doRow_48 : decode cX1_doRow 48 = .ok (.ireturn, 1) := by decide +kernel
theorem dX1_doRow_49 : decode cX1_doRow 49 = .ok (.iload_n 1, 1) := by decide +kernel
theorem dX1_doRow_50 : decode cX1_doRow 50 = .ok (.bipush 7, 2) := by decide +kernel
theorem dX1_doRow_52 : decode cX1_doRow 52 = .ok (.imul, 1) := by decide +kernel
theorem dX1_doRow_53 : decode cX1_doRow 53 = .ok (.iload_n 3, 1) := by decide +kernel
theorem dX1_doRow_54 : decode cX1_doRow 54 = .ok (.iadd, 1) := by decide +kernel
theorem dX1_doRow_55 : decode cX1_doRow 55 = .ok (.iconst 1, 1) := by decide +kernel
theorem dX1_doRow_56 : decode cX1_doRow 56 = .ok (.iadd, 1) := by decide +kernel
theorem dX1_doRow_57 : decode cX1_doRow 57 = .ok (.istore_n 1, 1) := by decide +kernel
theorem dX1_doRow_58 : decode cX1_doRow 58 = .ok (.aload_n 0, 1) := by decide +kernel
theorem dX1_doRow_59 : decode cX1_doRow 59 = .ok (.getfield 12, 3) := by decide +kernel
theorem dX1_doRow_62 : decode cX1_doRow 62 = .ok (.invokevirtual 40, 3) := by decide +kernel
theorem dX1_doRow_65 : decode cX1_doRow 65 = .ok (.iinc 2 1, 3) := by decide +kernel
theorem dX1_doRow_68 : decode cX1_doRow 68 = .ok (.goto (-57), 3) := by decide +kernel
theorem dX1_doRow_71 : decode cX1_doRow 71 = .ok (.aload_n 0, 1) := by decide +kernel
theorem dX1_doRow_72 : decode cX1_doRow 72 = .ok (.getfield 12, 3) := by decide +kernel
theorem dX1_doRow_75 : decode cX1_doRow 75 = .ok (.iconst 0, 1) := by decide +kernel
theorem dX1_doRow_76 : decode cX1_doRow 76 = .ok (.bipush 99, 2) := by decide +kernel
theorem dX1_doRow_78 : decode cX1_doRow 78 = .ok (.invokevirtual 77, 3) := by decide +kernel
theorem dX1_doRow_81 : decode cX1_doRow 81 = .ok (.istore_n 2, 1) := by decide +kernel
theorem dX1_doRow_82 : decode cX1_doRow 82 = .ok (.iload_n 2, 1) := by decide +kernel
theorem dX1_doRow_83 : decode cX1_doRow 83 = .ok (.iconst (-1), 1) := by decide +kernel
theorem dX1_doRow_84 : decode cX1_doRow 84 = .ok (.if_icmp .ne 5, 3) := by decide +kernel
theorem dX1_doRow_87 : decode cX1_doRow 87 = .ok (.iconst 0, 1) := by decide +kernel
theorem dX1_doRow_88 : decode cX1_doRow 88 = .ok (.ireturn, 1) := by decide +kernel
theorem dX1_doRow_89 : decode cX1_doRow 89 = .ok (.aload_n 0, 1) := by decide +kernel
theorem dX1_doRow_90 : decode cX1_doRow 90 = .ok (.getfield 21, 3) := by decide +kernel
theorem dX1_doRow_93 : decode cX1_doRow 93 = .ok (.aload_n 0, 1) := by decide +kernel
theorem dX1_doRow_94 : decode cX1_doRow 94 = .ok (.getfield 21, 3) := by decide +kernel
theorem dX1_doRow_97 : decode cX1_doRow 97 = .ok (.getfield 71, 3) := by decide +kernel
theorem dX1_doRow_100 : decode cX1_doRow 100 = .ok (.iload_n 1, 1) := by decide +kernel
theorem dX1_doRow_101 : decode cX1_doRow 101 = .ok (.iload_n 2, 1) := by decide +kernel
theorem dX1_doRow_102 : decode cX1_doRow 102 = .ok (.invokevirtual 94, 3) := by decide +kernel
theorem dX1_doRow_105 : decode cX1_doRow 105 = .ok (.aload_n 0, 1) := by decide +kernel
theorem dX1_doRow_106 : decode cX1_doRow 106 = .ok (.getfield 12, 3) := by decide +kernel
theorem dX1_doRow_109 : decode cX1_doRow 109 = .ok (.invokevirtual 40, 3) := by decide +kernel
theorem dX1_doRow_112 : decode cX1_doRow 112 = .ok (.iconst 1, 1) := by decide +kernel
theorem dX1_doRow_113 : decode cX1_doRow 113 = .ok (.ireturn, 1) := by decide +kernel
theorem bX1_doRow_0 : tg_Snd mX1_doRow 0 (fun k => ti_aload 0 (ti_getf 1 0 k)) 4 := tg_seq (si_aload_n (i := 0) dX1_doRow_0 rfl) (si_getf (ci := 1) (f := 0) clX1 (Nat.le_of_ble_eq_true rfl) rfl flX1_12 dX1_doRow_1)
theorem bX1_doRow_7 : tg_Snd mX1_doRow 7 (fun k => ti_push (.int 0) (ti_istore 1 (ti_push (.int 0) (ti_istore 2 k)))) 11 := tg_seq (si_iconst (v := 0) dX1_doRow_7 (by decide)) (tg_seq (si_istore_n (i := 1) dX1_doRow_8 rfl (Nat.le_of_ble_eq_true rfl)) (tg_seq (si_iconst (v := 0) dX1_doRow_9 (by decide)) (si_istore_n (i := 2) dX1_doRow_10 rfl (Nat.le_of_ble_eq_true rfl))))
theorem bX1_doRow_11 : tg_Snd mX1_doRow 11 (fun k => ti_iload 2 (ti_aload 0 (ti_getf 1 1 (ti_getf 5 0 k)))) 19 := tg_seq (si_iload_n (i := 2) dX1_doRow_11 rfl) (tg_seq (si_aload_n (i := 0) dX1_doRow_12 rfl) (tg_seq (si_getf (ci := 1) (f := 1) clX1 (Nat.le_of_ble_eq_true rfl) rfl flX1_21 dX1_doRow_13) (si_getf (ci := 5) (f := 0) clX6 (Nat.le_of_ble_eq_true rfl) rfl flX1_88 dX1_doRow_16)))
theorem bX1_doRow_22 : tg_Snd mX1_doRow 22 (fun k => ti_aload 0 (ti_getf 1 0 (ti_push (.int 0) (ti_aload 0 (ti_getf 1 1 (ti_getf 5 1 (ti_iload 2 (ti_iald (ti_push (.int 1) (ti_isub k)))))))))) 38 := tg_seq (si_aload_n (i := 0) dX1_doRow_22 rfl) (tg_seq (si_getf (ci := 1) (f := 0) clX1 (Nat.le_of_ble_eq_true rfl) rfl flX1_12 dX1_doRow_23) (tg_seq (si_iconst (v := 0) dX1_doRow_26 (by decide)) (tg_seq (si_aload_n (i := 0) dX1_doRow_27 rfl) (tg_seq (si_getf (ci := 1) (f := 1) clX1 (Nat.le_of_ble_eq_true rfl) rfl flX1_21 dX1_doRow_28) (tg_seq (si_getf (ci := 5) (f := 1) clX6 (Nat.le_of_ble_eq_true rfl) rfl flX1_91 dX1_doRow_31) (tg_seq (si_iload_n (i := 2) dX1_doRow_34 rfl) (tg_seq (si_iald dX1_doRow_35) (tg_seq (si_iconst (v := 1) dX1_doRow_36 (by decide)) (si_isub dX1_doRow_37)))))))))
theorem bX1_doRow_41 : tg_Snd mX1_doRow 41 (fun k => ti_istore 3 (ti_iload 3 (ti_push (.int (-1)) k))) 44 := tg_seq (si_istore_n (i := 3) dX1_doRow_41 rfl (Nat.le_of_ble_eq_true rfl)) (tg_seq (si_iload_n (i := 3) dX1_doRow_42 rfl) (si_iconst (v := -1) dX1_doRow_43 (by decide)))
theorem bX1_doRow_47 : tg_Snd mX1_doRow 47 (fun k => ti_push (.int 0) k) 48 := si_iconst (v := 0) dX1_doRow_47 (by decide)
theorem bX1_doRow_49 : tg_Snd mX1_doRow 49 (fun k => ti_iload 1 (ti_push (.int 7) (ti_imul (ti_iload 3 (ti_iadd (ti_push (.int 1) (ti_iadd (ti_istore 1 (ti_aload 0 (ti_getf 1 0 k)))))))))) 62 := tg_seq (si_iload_n (i := 1) dX1_doRow_49 rfl) (tg_seq (si_bipush (v := 7) dX1_doRow_50 (by decide)) (tg_seq (si_imul dX1_doRow_52) (tg_seq (si_iload_n (i := 3) dX1_doRow_53 rfl) (tg_seq (si_iadd dX1_doRow_54) (tg_seq (si_iconst (v := 1) dX1_doRow_55 (by decide)) (tg_seq (si_iadd dX1_doRow_56) (tg_seq (si_istore_n (i := 1) dX1_doRow_57 rfl (Nat.le_of_ble_eq_true rfl)) (tg_seq (si_aload_n (i := 0) dX1_doRow_58 rfl) (si_getf (ci := 1) (f := 0) clX1 (Nat.le_of_ble_eq_true rfl) rfl flX1_12 dX1_doRow_59)))))))))
theorem bX1_doRow_65 : tg_Snd mX1_doRow 65 (fun k => ti_iinc 2 1 k) 68 := si_iinc (v := 1) dX1_doRow_65 (by decide) (Nat.le_of_ble_eq_true rfl)
theorem bX1_doRow_71 : tg_Snd mX1_doRow 71 (fun k => ti_aload 0 (ti_getf 1 0 (ti_push (.int 0) (ti_push (.int 99) k)))) 78 := tg_seq (si_aload_n (i := 0) dX1_doRow_71 rfl) (tg_seq (si_getf (ci := 1) (f := 0) clX1 (Nat.le_of_ble_eq_true rfl) rfl flX1_12 dX1_doRow_72) (tg_seq (si_iconst (v := 0) dX1_doRow_75 (by decide)) (si_bipush (v := 99) dX1_doRow_76 (by decide))))
theorem bX1_doRow_81 : tg_Snd mX1_doRow 81 (fun k => ti_istore 2 (ti_iload 2 (ti_push (.int (-1)) k))) 84 := tg_seq (si_istore_n (i := 2) dX1_doRow_81 rfl (Nat.le_of_ble_eq_true rfl)) (tg_seq (si_iload_n (i := 2) dX1_doRow_82 rfl) (si_iconst (v := -1) dX1_doRow_83 (by decide)))
theorem bX1_doRow_87 : tg_Snd mX1_doRow 87 (fun k => ti_push (.int 0) k) 88 := si_iconst (v := 0) dX1_doRow_87 (by decide)
theorem bX1_doRow_89 : tg_Snd mX1_doRow 89 (fun k => ti_aload 0 (ti_getf 1 1 (ti_aload 0 (ti_getf 1 1 (ti_getf 5 2 (ti_iload 1 (ti_iload 2 k))))))) 102 := tg_seq (si_aload_n (i := 0) dX1_doRow_89 rfl) (tg_seq (si_getf (ci := 1) (f := 1) clX1 (Nat.le_of_ble_eq_true rfl) rfl flX1_21 dX1_doRow_90) (tg_seq (si_aload_n (i := 0) dX1_doRow_93 rfl) (tg_seq (si_getf (ci := 1) (f := 1) clX1 (Nat.le_of_ble_eq_true rfl) rfl flX1_21 dX1_doRow_94) (tg_seq (si_getf (ci := 5) (f := 2) clX6 (Nat.le_of_ble_eq_true rfl) rfl flX1_71 dX1_doRow_97) (tg_seq (si_iload_n (i := 1) dX1_doRow_100 rfl) (si_iload_n (i := 2) dX1_doRow_101 rfl))))))
theorem bX1_doRow_105 : tg_Snd mX1_doRow 105 (fun k => ti_aload 0 (ti_getf 1 0 k)) 109 := tg_seq (si_aload_n (i := 0) dX1_doRow_105 rfl) (si_getf (ci := 1) (f := 0) clX1 (Nat.le_of_ble_eq_true rfl) rfl flX1_12 dX1_doRow_106)
theorem bX1_doRow_112 : tg_Snd mX1_doRow 112 (fun k => ti_push (.int 1) k) 113 := si_iconst (v := 1) dX1_doRow_112 (by decide)
theorem vX1_doRow_4 : tg_VS mX1_doRow 4 mX7_toNextToken 0 := ⟨okX7_toNextToken, ⟨40, dX1_doRow_4, mlX1_40⟩, insX7_toNextToken, selX7_toNextToken, parX7_toNextToken, rfl, rfl, Nat.le_of_ble_eq_true rfl, Nat.le_of_ble_eq_true rfl⟩
theorem vX1_doRow_38 : tg_VS mX1_doRow 38 mX7_numberWithin 2 := ⟨okX7_numberWithin, ⟨77, dX1_doRow_38, mlX1_77⟩, insX7_numberWithin, selX7_numberWithin, parX7_numberWithin, rfl, rfl, Nat.le_of_ble_eq_true rfl, Nat.le_of_ble_eq_true rfl⟩
theorem vX1_doRow_62 : tg_VS mX1_doRow 62 mX7_toNextToken 0 := ⟨okX7_toNextToken, ⟨40, dX1_doRow_62, mlX1_40⟩, insX7_toNextToken, selX7_toNextToken, parX7_toNextToken, rfl, rfl, Nat.le_of_ble_eq_true rfl, Nat.le_of_ble_eq_true rfl⟩
theorem vX1_doRow_78 : tg_VS mX1_doRow 78 mX7_numberWithin 2 := ⟨okX7_numberWithin, ⟨77, dX1_doRow_78, mlX1_77⟩, insX7_numberWithin, selX7_numberWithin, parX7_numberWithin, rfl, rfl, Nat.le_of_ble_eq_true rfl, Nat.le_of_ble_eq_true rfl⟩
theorem vX1_doRow_102 : tg_VS mX1_doRow 102 mX6_insert 3 := ⟨okX6_insert, ⟨94, dX1_doRow_102, mlX1_94⟩, insX6_insert, selX6_insert, parX6_insert, rfl, rfl, Nat.le_of_ble_eq_true rfl, Nat.le_of_ble_eq_true rfl⟩
theorem vX1_doRow_109 : tg_VS mX1_doRow 109 mX7_toNextToken 0 := ⟨okX7_toNextToken, ⟨40, dX1_doRow_109, mlX1_40⟩, insX7_toNextToken, selX7_toNextToken, parX7_toNextToken, rfl, rfl, Nat.le_of_ble_eq_true rfl, Nat.le_of_ble_eq_true rfl⟩
theorem dX4_isOrder_0 : decode cX4_isOrder 0 = .ok (.iconst 0, 1) := by decide +kernel
theorem dX4_isOrder_1 : decode cX4_isOrder 1 = .ok (.istore_n 2, 1) := by decide +kernel
theorem dX4_isOrder_2 : decode cX4_isOrder 2 = .ok (.iload_n 0, 1) := by decide +kernel
theorem dX4_isOrder_3 : decode cX4_isOrder 3 = .ok (.istore_n 3, 1) := by decide +kernel
theorem dX4_isOrder_4 : decode cX4_isOrder 4 = .ok (.iconst 0, 1) := by decide +kernel
theorem dX4_isOrder_5 : decode cX4_isOrder 5 = .ok (.istore 4, 2) := by decide +kernel
theorem dX4_isOrder_7 : decode cX4_isOrder 7 = .ok (.iload 4, 2) := by decide +kernel
theorem dX4_isOrder_9 : decode cX4_isOrder 9 = .ok (.iload_n 1, 1) := by decide +kernel
theorem dX4_isOrder_10 : decode cX4_isOrder 10 = .ok (.if_icmp .ge 49, 3) := by decide +kernel
theorem dX4_isOrder_13 : decode cX4_isOrder 13 = .ok (.iload_n 3, 1) := by decide +kernel
theorem dX4_isOrder_14 : decode cX4_isOrder 14 = .ok (.bipush 10, 2) := by decide +kernel
theorem dX4_isOrder_16 : decode cX4_isOrder 16 = .ok (.irem, 1) := by decide +kernel
theorem dX4_isOrder_17 : decode cX4_isOrder 17 = .ok (.istore 5, 2) := by decide +kernel
theorem dX4_isOrder_19 : decode cX4_isOrder 19 = .ok (.iload 5, 2) := by decide +kernel
theorem dX4_isOrder_21 : decode cX4_isOrder 21 = .ok (.ifCond .lt 18, 3) := by decide +kernel
theorem dX4_isOrder_24 : decode cX4_isOrder 24 = .ok (.iload 5, 2) := by decide +kernel
theorem dX4_isOrder_26 : decode cX4_isOrder 26 = .ok (.iload_n 1, 1) := by decide +kernel
theorem dX4_isOrder_27 : decode cX4_isOrder 27 = .ok (.if_icmp .ge 12, 3) := by decide +kernel
theorem dX4_isOrder_30 : decode cX4_isOrder 30 = .ok (.iload_n 2, 1) := by decide +kernel
theorem dX4_isOrder_31 : decode cX4_isOrder 31 = .ok (.iload 5, 2) := by decide +kernel
theorem dX4_isOrder_33 : decode cX4_isOrder 33 = .ok (.ishr, 1) := by decide +kernel
theorem dX4_isOrder_34 : decode cX4_isOrder 34 = .ok (.iconst 1, 1) := by decide +kernel
theorem dX4_isOrder_35 : decode cX4_isOrder 35 = .ok (.iand, 1) := by decide +kernel
theorem dX4_isOrder_36 : decode cX4_isOrder 36 = .ok (.ifCond .eq 5, 3) := by decide +kernel
theorem dX4_isOrder_39 : decode cX4_isOrder 39 = .ok (.iconst 0, 1) := by decide +kernel
theorem dX4_isOrder_40 : decode cX4_isOrder 40 = .ok (.ireturn, 1) := by decide +kernel
theorem dX4_isOrder_41 : decode cX4_isOrder 41 = .ok (.iload_n 2, 1) := by decide +kernel
theorem dX4_isOrder_42 : decode cX4_isOrder 42 = .ok (.iconst 1, 1) := by decide +kernel
theorem dX4_isOrder_43 : decode cX4_isOrder 43 = .ok (.iload 5, 2) := by decide +kernel
theorem dX4_isOrder_45 : decode cX4_isOrder 45 = .ok (.ishl, 1) := by decide +kernel
theorem dX4_isOrder_46 : decode cX4_isOrder 46 = .ok (.ior, 1) := by decide +kernel
theorem dX4_isOrder_47 : decode cX4_isOrder 47 = .ok (.istore_n 2, 1) := by decide +kernel
theorem dX4_isOrder_48 : decode cX4_isOrder 48 = .ok (.iload_n 3, 1) := by decide +kernel
theorem dX4_isOrder_49 : decode cX4_isOrder 49 = .ok (.bipush 10, 2) := by decide +kernel
theorem dX4_isOrder_51 : decode cX4_isOrder 51 = .ok (.idiv, 1) := by decide +kernel
theorem dX4_isOrder_52 : decode cX4_isOrder 52 = .ok (.istore_n 3, 1) := by decide +kernel
theorem dX4_isOrder_53 : decode cX4_isOrder 53 = .ok (.iinc 4 1, 3) := by decide +kernel
theorem dX4_isOrder_56 : decode cX4_isOrder 56 = .ok (.goto (-49), 3) := by decide +kernel
theorem dX4_isOrder_59 : decode cX4_isOrder 59 = .ok (.iload_n 3, 1) := by decide +kernel
theorem dX4_isOrder_60 : decode cX4_isOrder 60 = .ok (.ifCond .ne 7, 3) := by decide +kernel
theorem dX4_isOrder_63 : decode cX4_isOrder 63 = .ok (.iconst 1, 1) := by decide +kernel
theorem dX4_isOrder_64 : decode cX4_isOrder 64 = .ok (.goto 4, 3) := by decide +kernel
theorem dX4_isOrder_67 : decode cX4_isOrder 67 = .ok (.iconst 0, 1) := by decide +kernel
theorem dX4_isOrder_68 : decode cX4_isOrder 68 = .ok (.ireturn, 1) := by decide +kernel
theorem bX4_isOrder_0 : tg_Snd mX4_isOrder 0 (fun k => ti_push (.int 0) (ti_istore 2 (ti_iload 0 (ti_istore 3 (ti_push (.int 0) (ti_istore 4 k)))))) 7 := tg_seq (si_iconst (v := 0) dX4_isOrder_0 (by decide)) (tg_seq (si_istore_n (i := 2) dX4_isOrder_1 rfl (Nat.le_of_ble_eq_true rfl)) (tg_seq (si_iload_n (i := 0) dX4_isOrder_2 rfl) (tg_seq (si_istore_n (i := 3) dX4_isOrder_3 rfl (Nat.le_of_ble_eq_true rfl)) (tg_seq (si_iconst (v := 0) dX4_isOrder_4 (by decide)) (si_istore (i := 4) dX4_isOrder_5 (Nat.le_of_ble_eq_true rfl))))))
theorem bX4_isOrder_7 : tg_Snd mX4_isOrder 7 (fun k => ti_iload 4 (ti_iload 1 k)) 10 := tg_seq (si_iload (i := 4) dX4_isOrder_7) (si_iload_n (i := 1) dX4_isOrder_9 rfl)
theorem bX4_isOrder_13 : tg_Snd mX4_isOrder 13 (fun k => ti_iload 3 (ti_push (.int 10) (ti_irem (ti_istore 5 (ti_iload 5 k))))) 21 := tg_seq (si_iload_n (i := 3) dX4_isOrder_13 rfl) (tg_seq (si_bipush (v := 10) dX4_isOrder_14 (by decide)) (tg_seq (si_irem dX4_isOrder_16) (tg_seq (si_istore (i := 5) dX4_isOrder_17 (Nat.le_of_ble_eq_true rfl)) (si_iload (i := 5) dX4_isOrder_19))))
theorem bX4_isOrder_24 : tg_Snd mX4_isOrder 24 (fun k => ti_iload 5 (ti_iload 1 k)) 27 := tg_seq (si_iload (i := 5) dX4_isOrder_24) (si_iload_n (i := 1) dX4_isOrder_26 rfl)
theorem bX4_isOrder_30 : tg_Snd mX4_isOrder 30 (fun k => ti_iload 2 (ti_iload 5 (ti_ishr (ti_push (.int 1) (ti_iand k))))) 36 := tg_seq (si_iload_n (i := 2) dX4_isOrder_30 rfl) (tg_seq (si_iload (i := 5) dX4_isOrder_31) (tg_seq (si_ishr dX4_isOrder_33) (tg_seq (si_iconst (v := 1) dX4_isOrder_34 (by decide)) (si_iand dX4_isOrder_35))))
theorem bX4_isOrder_39 : tg_Snd mX4_isOrder 39 (fun k => ti_push (.int 0) k) 40 := si_iconst (v := 0) dX4_isOrder_39 (by decide)
theorem bX4_isOrder_41 : tg_Snd mX4_isOrder 41 (fun k => ti_iload 2 (ti_push (.int 1) (ti_iload 5 (ti_ishl (ti_ior (ti_istore 2 (ti_iload 3 (ti_push (.int 10) (ti_idiv (ti_istore 3 (ti_iinc 4 1 k))))))))))) 56 := tg_seq (si_iload_n (i := 2) dX4_isOrder_41 rfl) (tg_seq (si_iconst (v := 1) dX4_isOrder_42 (by decide)) (tg_seq (si_iload (i := 5) dX4_isOrder_43) (tg_seq (si_ishl dX4_isOrder_45) (tg_seq (si_ior dX4_isOrder_46) (tg_seq (si_istore_n (i := 2) dX4_isOrder_47 rfl (Nat.le_of_ble_eq_true rfl)) (tg_seq (si_iload_n (i := 3) dX4_isOrder_48 rfl) (tg_seq (si_bipush (v := 10) dX4_isOrder_49 (by decide)) (tg_seq (si_idiv dX4_isOrder_51) (tg_seq (si_istore_n (i := 3) dX4_isOrder_52 rfl (Nat.le_of_ble_eq_true rfl)) (si_iinc (v := 1) dX4_isOrder_53 (by decide) (Nat.le_of_ble_eq_true rfl)))))))))))
theorem bX4_isOrder_59 : tg_Snd mX4_isOrder 59 (fun k => ti_iload 3 k) 60 := si_iload_n (i := 3) dX4_isOrder_59 rfl
theorem bX4_isOrder_63 : tg_Snd mX4_isOrder 63 (fun k => ti_push (.int 1) k) 64 := si_iconst (v := 1) dX4_isOrder_63 (by decide)
theorem bX4_isOrder_67 : tg_Snd mX4_isOrder 67 (fun k => ti_push (.int 0) k) 68 := si_iconst (v := 0) dX4_isOrder_67 (by decide)
theorem dX4_startWith_0 : decode cX4_startWith 0 = .ok (.aload_n 0, 1) := by decide +kernel
theorem dX4_startWith_1 : decode cX4_startWith 1 = .ok (.iload_n 1, 1) := by decide +kernel
theorem dX4_startWith_2 : decode cX4_startWith 2 = .ok (.putfield 15, 3) := by decide +kernel
theorem dX4_startWith_5 : decode cX4_startWith 5 = .ok (.aload_n 0, 1) := by decide +kernel
theorem dX4_startWith_6 : decode cX4_startWith 6 = .ok (.iconst 0, 1) := by decide +kernel
theorem dX4_startWith_7 : decode cX4_startWith 7 = .ok (.putfield 19, 3) := by decide +kernel
theorem dX4_startWith_10 : decode cX4_startWith 10 = .ok (.iconst 0, 1) := by decide +kernel
theorem dX4_startWith_11 : decode cX4_startWith 11 = .ok (.istore_n 3, 1) := by decide +kernel
theorem dX4_startWith_12 : decode cX4_startWith 12 = .ok (.iload_n 3, 1) := by decide +kernel
theorem dX4_startWith_13 : decode cX4_startWith 13 = .ok (.bipush 16, 2) := by decide +kernel
theorem dX4_startWith_15 : decode cX4_startWith 15 = .ok (.if_icmp .ge 16, 3) := by decide +kernel
theorem dX4_startWith_18 : decode cX4_startWith 18 = .ok (.aload_n 0, 1) := by decide +kernel
theorem dX4_startWith_19 : decode cX4_startWith 19 = .ok (.getfield 9, 3) := by decide +kernel
theorem dX4_startWith_22 : decode cX4_startWith 22 = .ok (.iload_n 3, 1) := by decide +kernel
theorem dX4_startWith_23 : decode cX4_startWith 23 = .ok (.iconst 0, 1) := by decide +kernel
theorem dX4_startWith_24 : decode cX4_startWith 24 = .ok (.iastore, 1) := by decide +kernel
theorem dX4_startWith_25 : decode cX4_startWith 25 = .ok (.iinc 3 1, 3) := by decide +kernel
theorem dX4_startWith_28 : decode cX4_startWith 28 = .ok (.goto (-16), 3) := by decide +kernel
theorem dX4_startWith_31 : decode cX4_startWith 31 = .ok (.aload_n 0, 1) := by decide +kernel
theorem dX4_startWith_32 : decode cX4_startWith 32 = .ok (.getfield 9, 3) := by decide +kernel
theorem dX4_startWith_35 : decode cX4_startWith 35 = .ok (.iconst 0, 1) := by decide +kernel
theorem dX4_startWith_36 : decode cX4_startWith 36 = .ok (.iload_n 2, 1) := by decide +kernel
theorem dX4_startWith_37 : decode cX4_startWith 37 = .ok (.iastore, 1) := by decide +kernel
theorem dX4_startWith_38 : decode cX4_startWith 38 = .ok (.return_, 1) := by decide +kernel
theorem bX4_startWith_0 : tg_Snd mX4_startWith 0 (fun k => ti_aload 0 (ti_iload 1 (ti_putfI 3 0 (ti_aload 0 (ti_push (.int 0) (ti_putfI 3 1 (ti_push (.int 0) (ti_istore 3 k)))))))) 12 := tg_seq (si_aload_n (i := 0) dX4_startWith_0 rfl) (tg_seq (si_iload_n (i := 1) dX4_startWith_1 rfl) (tg_seq (si_putfI (ci := 3) (f := 0) (ty := .int) clX4 tyX4_ok nmX4 (Nat.le_of_ble_eq_true rfl) rfl (by decide +kernel) (fun _ _ => ⟨rfl, rfl⟩) flX4_15 dX4_startWith_2) (tg_seq (si_aload_n (i := 0) dX4_startWith_5 rfl) (tg_seq (si_iconst (v := 0) dX4_startWith_6 (by decide)) (tg_seq (si_putfI (ci := 3) (f := 1) (ty := .int) clX4 tyX4_ok nmX4 (Nat.le_of_ble_eq_true rfl) rfl (by decide +kernel) (fun _ _ => ⟨rfl, rfl⟩) flX4_19 dX4_startWith_7) (tg_seq (si_iconst (v := 0) dX4_startWith_10 (by decide)) (si_istore_n (i := 3) dX4_startWith_11 rfl (Nat.le_of_ble_eq_true rfl))))))))
theorem bX4_startWith_12 : tg_Snd mX4_startWith 12 (fun k => ti_iload 3 (ti_push (.int 16) k)) 15 := tg_seq (si_iload_n (i := 3) dX4_startWith_12 rfl) (si_bipush (v := 16) dX4_startWith_13 (by decide))
theorem bX4_startWith_18 : tg_Snd mX4_startWith 18 (fun k => ti_aload 0 (ti_getf 3 2 (ti_iload 3 (ti_push (.int 0) (ti_iast (ti_iinc 3 1 k)))))) 28 := tg_seq (si_aload_n (i := 0) dX4_startWith_18 rfl) (tg_seq (si_getf (ci := 3) (f := 2) clX4 (Nat.le_of_ble_eq_true rfl) rfl flX4_9 dX4_startWith_19) (tg_seq (si_iload_n (i := 3) dX4_startWith_22 rfl) (tg_seq (si_iconst (v := 0) dX4_startWith_23 (by decide)) (tg_seq (si_iast dX4_startWith_24) (si_iinc (v := 1) dX4_startWith_25 (by decide) (Nat.le_of_ble_eq_true rfl))))))
theorem bX4_startWith_31 : tg_Snd mX4_startWith 31 (fun k => ti_aload 0 (ti_getf 3 2 (ti_push (.int 0) (ti_iload 2 (ti_iast k))))) 38 := tg_seq (si_aload_n (i := 0) dX4_startWith_31 rfl) (tg_seq (si_getf (ci := 3) (f := 2) clX4 (Nat.le_of_ble_eq_true rfl) rfl flX4_9 dX4_startWith_32) (tg_seq (si_iconst (v := 0) dX4_startWith_35 (by decide)) (tg_seq (si_iload_n (i := 2) dX4_startWith_36 rfl) (si_iast dX4_startWith_37))))
theorem dX4_goInto_0 : decode cX4_goInto 0 = .ok (.iload_n 1, 1) := by decide +kernel
theorem dX4_goInto_1 : decode cX4_goInto 1 = .ok (.ifCond .lt 29, 3) := by decide +kernel
theorem dX4_goInto_4 : decode cX4_goInto 4 = .ok (.iload_n 1, 1) := by decide +kernel
theorem dX4_goInto_5 : decode cX4_goInto 5 = .ok (.bipush 16, 2) := by decide +kernel
theorem dX4_goInto_7 : decode cX4_goInto 7 = .ok (.if_icmp .ge 23, 3) := by decide +kernel
theorem dX4_goInto_10 : decode cX4_goInto 10 = .ok (.aload_n 0, 1) := by decide +kernel
theorem dX4_goInto_11 : decode cX4_goInto 11 = .ok (.getfield 9, 3) := by decide +kernel
theorem dX4_goInto_14 : decode cX4_goInto 14 = .ok (.iload_n 1, 1) := by decide +kernel
theorem dX4_goInto_15 : decode cX4_goInto 15 = .ok (.dup2, 1) := by decide +kernel
theorem dX4_goInto_16 : decode cX4_goInto 16 = .ok (.iaload, 1) := by decide +kernel
theorem dX4_goInto_17 : decode cX4_goInto 17 = .ok (.iload_n 2, 1) := by decide +kernel
theorem dX4_goInto_18 : decode cX4_goInto 18 = .ok (.iadd, 1) := by decide +kernel
theorem dX4_goInto_19 : decode cX4_goInto 19 = .ok (.iastore, 1) := by decide +kernel
theorem dX4_goInto_20 : decode cX4_goInto 20 = .ok (.aload_n 0, 1) := by decide +kernel
theorem dX4_goInto_21 : decode cX4_goInto 21 = .ok (.dup, 1) := by decide +kernel
theorem dX4_goInto_22 : decode cX4_goInto 22 = .ok (.getfield 19, 3) := by decide +kernel
theorem dX4_goInto_25 : decode cX4_goInto 25 = .ok (.iconst 1, 1) := by decide +kernel
theorem dX4_goInto_26 : decode cX4_goInto 26 = .ok (.iadd, 1) := by decide +kernel
theorem dX4_goInto_27 : decode cX4_goInto 27 = .ok (.putfield 19, 3) := by decide +kernel
theorem dX4_goInto_30 : decode cX4_goInto 30 = .ok (.return_, 1) := by decide +kernel
theorem bX4_goInto_0 : tg_Snd mX4_goInto 0 (fun k => ti_iload 1 k) 1 := si_iload_n (i := 1) dX4_goInto_0 rfl
theorem bX4_goInto_4 : tg_Snd mX4_goInto 4 (fun k => ti_iload 1 (ti_push (.int 16) k)) 7 := tg_seq (si_iload_n (i := 1) dX4_goInto_4 rfl) (si_bipush (v := 16) dX4_goInto_5 (by decide))
theorem bX4_goInto_10 : tg_Snd mX4_goInto 10 (fun k => ti_aload 0 (ti_getf 3 2 (ti_iload 1 (ti_dup2 (ti_iald (ti_iload 2 (ti_iadd (ti_iast (ti_aload 0 (ti_dup (ti_getf 3 1 (ti_push (.int 1) (ti_iadd (ti_putfI 3 1 k)))))))))))))) 30 := tg_seq (si_aload_n (i := 0) dX4_goInto_10 rfl) (tg_seq (si_getf (ci := 3) (f := 2) clX4 (Nat.le_of_ble_eq_true rfl) rfl flX4_9 dX4_goInto_11) (tg_seq (si_iload_n (i := 1) dX4_goInto_14 rfl) (tg_seq (si_dup2 dX4_goInto_15) (tg_seq (si_iald dX4_goInto_16) (tg_seq (si_iload_n (i := 2) dX4_goInto_17 rfl) (tg_seq (si_iadd dX4_goInto_18) (tg_seq (si_iast dX4_goInto_19) (tg_seq (si_aload_n (i := 0) dX4_goInto_20 rfl) (tg_seq (si_dup dX4_goInto_21) (tg_seq (si_getf (ci := 3) (f := 1) clX4 (Nat.le_of_ble_eq_true rfl) rfl flX4_19 dX4_goInto_22) (tg_seq (si_iconst (v := 1) dX4_goInto_25 (by decide)) (tg_seq (si_iadd dX4_goInto_26) (si_putfI (ci := 3) (f := 1) (ty := .int) clX4 tyX4_ok nmX4 (Nat.le_of_ble_eq_true rfl) rfl (by decide +kernel) (fun _ _ => ⟨rfl, rfl⟩) flX4_19 dX4_goInto_27)))))))))))))
theorem dX4_workBy_0 : decode cX4_workBy 0 = .ok (.iconst 0, 1) := by decide +kernel
theorem dX4_workBy_1 : decode cX4_workBy 1 = .ok (.istore_n 2, 1) := by decide +kernel
theorem dX4_workBy_2 : decode cX4_workBy 2 = .ok (.iconst 1, 1) := by decide +kernel
theorem dX4_workBy_3 : decode cX4_workBy 3 = .ok (.aload_n 0, 1) := by decide +kernel
theorem dX4_workBy_4 : decode cX4_workBy 4 = .ok (.getfield 15, 3) := by decide +kernel
theorem dX4_workBy_7 : decode cX4_workBy 7 = .ok (.ishl, 1) := by decide +kernel
theorem dX4_workBy_8 : decode cX4_workBy 8 = .ok (.iconst 1, 1) := by decide +kernel
theorem dX4_workBy_9 : decode cX4_workBy 9 = .ok (.isub, 1) := by decide +kernel
theorem dX4_workBy_10 : decode cX4_workBy 10 = .ok (.istore_n 3, 1) := by decide +kernel
theorem dX4_workBy_11 : decode cX4_workBy 11 = .ok (.iload_n 1, 1) := by decide +kernel
theorem dX4_workBy_12 : decode cX4_workBy 12 = .ok (.istore 4, 2) := by decide +kernel
theorem dX4_workBy_14 : decode cX4_workBy 14 = .ok (.aload_n 0, 1) := by decide +kernel
theorem dX4_workBy_15 : decode cX4_workBy 15 = .ok (.getfield 15, 3) := by decide +kernel
theorem dX4_workBy_18 : decode cX4_workBy 18 = .ok (.iconst 1, 1) := by decide +kernel
theorem dX4_workBy_19 : decode cX4_workBy 19 = .ok (.isub, 1) := by decide +kernel
theorem dX4_workBy_20 : decode cX4_workBy 20 = .ok (.istore 5, 2) := by decide +kernel
theorem dX4_workBy_22 : decode cX4_workBy 22 = .ok (.iload 5, 2) := by decide +kernel
theorem dX4_workBy_24 : decode cX4_workBy 24 = .ok (.ifCond .lt 63, 3) := by decide +kernel
theorem dX4_workBy_27 : decode cX4_workBy 27 = .ok (.iload_n 3, 1) := by decide +kernel
theorem dX4_workBy_28 : decode cX4_workBy 28 = .ok (.iconst 1, 1) := by decide +kernel
theorem dX4_workBy_29 : decode cX4_workBy 29 = .ok (.iload 4, 2) := by decide +kernel
theorem dX4_workBy_31 : decode cX4_workBy 31 = .ok (.bipush 10, 2) := by decide +kernel
theorem dX4_workBy_33 : decode cX4_workBy 33 = .ok (.irem, 1) := by decide +kernel
theorem dX4_workBy_34 : decode cX4_workBy 34 = .ok (.ishl, 1) := by decide +kernel
theorem dX4_workBy_35 : decode cX4_workBy 35 = .ok (.iconst (-1), 1) := by decide +kernel
theorem dX4_workBy_36 : decode cX4_workBy 36 = .ok (.ixor, 1) := by decide +kernel
theorem dX4_workBy_37 : decode cX4_workBy 37 = .ok (.iand, 1) := by decide +kernel
theorem dX4_workBy_38 : decode cX4_workBy 38 = .ok (.istore_n 3, 1) := by decide +kernel
theorem dX4_workBy_39 : decode cX4_workBy 39 = .ok (.iload 4, 2) := by decide +kernel
theorem dX4_workBy_41 : decode cX4_workBy 41 = .ok (.bipush 10, 2) := by decide +kernel
theorem dX4_workBy_43 : decode cX4_workBy 43 = .ok (.idiv, 1) := by decide +kernel
theorem dX4_workBy_44 : decode cX4_workBy 44 = .ok (.istore 4, 2) := by decide +kernel
theorem dX4_workBy_46 : decode cX4_workBy 46 = .ok (.iconst 0, 1) := by decide +kernel
theorem dX4_workBy_47 : decode cX4_workBy 47 = .ok (.istore 6, 2) := by decide +kernel
theorem dX4_workBy_49 : decode cX4_workBy 49 = .ok (.iload 6, 2) := by decide +kernel
theorem dX4_workBy_51 : decode cX4_workBy 51 = .ok (.bipush 16, 2) := by decide +kernel
theorem dX4_workBy_53 : decode cX4_workBy 53 = .ok (.if_icmp .ge 28, 3) := by decide +kernel
theorem dX4_workBy_56 : decode cX4_workBy 56 = .ok (.iload 6, 2) := by decide +kernel
theorem dX4_workBy_58 : decode cX4_workBy 58 = .ok (.iload_n 3, 1) := by decide +kernel
theorem dX4_workBy_59 : decode cX4_workBy 59 = .ok (.iconst (-1), 1) := by decide +kernel
theorem dX4_workBy_60 : decode cX4_workBy 60 = .ok (.ixor, 1) := by decide +kernel
theorem dX4_workBy_61 : decode cX4_workBy 61 = .ok (.iand, 1) := by decide +kernel
theorem dX4_workBy_62 : decode cX4_workBy 62 = .ok (.ifCond .ne 13, 3) := by decide +kernel
theorem dX4_workBy_65 : decode cX4_workBy 65 = .ok (.iload_n 2, 1) := by decide +kernel
theorem dX4_workBy_66 : decode cX4_workBy 66 = .ok (.aload_n 0, 1) := by decide +kernel
theorem dX4_workBy_67 : decode cX4_workBy 67 = .ok (.getfield 9, 3) := by decide +kernel
theorem dX4_workBy_70 : decode cX4_workBy 70 = .ok (.iload 6, 2) := by decide +kernel
theorem dX4_workBy_72 : decode cX4_workBy 72 = .ok (.iaload, 1) := by decide +kernel
theorem dX4_workBy_73 : decode cX4_workBy 73 = .ok (.iadd, 1) := by decide +kernel
theorem dX4_workBy_74 : decode cX4_workBy 74 = .ok (.istore_n 2, 1) := by decide +kernel
theorem dX4_workBy_75 : decode cX4_workBy 75 = .ok (.iinc 6 1, 3) := by decide +kernel
theorem dX4_workBy_78 : decode cX4_workBy 78 = .ok (.goto (-29), 3) := by decide +kernel
theorem dX4_workBy_81 : decode cX4_workBy 81 = .ok (.iinc 5 (-1), 3) := by decide +kernel
theorem dX4_workBy_84 : decode cX4_workBy 84 = .ok (.goto (-62), 3) := by decide +kernel
theorem dX4_workBy_87 : decode cX4_workBy 87 = .ok (.iload_n 2, 1) := by decide +kernel
theorem dX4_workBy_88 : decode cX4_workBy 88 = .ok (.ireturn, 1) := by decide +kernel
theorem bX4_workBy_0 : tg_Snd mX4_workBy 0 (fun k => ti_push (.int 0) (ti_istore 2 (ti_push (.int 1) (ti_aload 0 (ti_getf 3 0 (ti_ishl (ti_push (.int 1) (ti_isub (ti_istore 3 (ti_iload 1 (ti_istore 4 (ti_aload 0 (ti_getf 3 0 (ti_push (.int 1) (ti_isub (ti_istore 5 k)))))))))))))))) 22 := tg_seq (si_iconst (v := 0) dX4_workBy_0 (by decide)) (tg_seq (si_istore_n (i := 2) dX4_workBy_1 rfl (Nat.le_of_ble_eq_true rfl)) (tg_seq (si_iconst (v := 1) dX4_workBy_2 (by decide)) (tg_seq (si_aload_n (i := 0) dX4_workBy_3 rfl) (tg_seq (si_getf (ci := 3) (f := 0) clX4 (Nat.le_of_ble_eq_true rfl) rfl flX4_15 dX4_workBy_4) (tg_seq (si_ishl dX4_workBy_7) (tg_seq (si_iconst (v := 1) dX4_workBy_8 (by decide)) (tg_seq (si_isub dX4_workBy_9) (tg_seq (si_istore_n (i := 3) dX4_workBy_10 rfl (Nat.le_of_ble_eq_true rfl)) (tg_seq (si_iload_n (i := 1) dX4_workBy_11 rfl) (tg_seq (si_istore (i := 4) dX4_workBy_12 (Nat.le_of_ble_eq_true rfl)) (tg_seq (si_aload_n (i := 0) dX4_workBy_14 rfl) (tg_seq (si_getf (ci := 3) (f := 0) clX4 (Nat.le_of_ble_eq_true rfl) rfl flX4_15 dX4_workBy_15) (tg_seq (si_iconst (v := 1) dX4_workBy_18 (by decide)) (tg_seq (si_isub dX4_workBy_19) (si_istore (i := 5) dX4_workBy_20 (Nat.le_of_ble_eq_true rfl))))))))))))))))
theorem bX4_workBy_22 : tg_Snd mX4_workBy 22 (fun k => ti_iload 5 k) 24 := si_iload (i := 5) dX4_workBy_22
theorem bX4_workBy_27 : tg_Snd mX4_workBy 27 (fun k => ti_iload 3 (ti_push (.int 1) (ti_iload 4 (ti_push (.int 10) (ti_irem (ti_ishl (ti_push (.int (-1)) (ti_ixor (ti_iand (ti_istore 3 (ti_iload 4 (ti_push (.int 10) (ti_idiv (ti_istore 4 (ti_push (.int 0) (ti_istore 6 k)))))))))))))))) 49 := tg_seq (si_iload_n (i := 3) dX4_workBy_27 rfl) (tg_seq (si_iconst (v := 1) dX4_workBy_28 (by decide)) (tg_seq (si_iload (i := 4) dX4_workBy_29) (tg_seq (si_bipush (v := 10) dX4_workBy_31 (by decide)) (tg_seq (si_irem dX4_workBy_33) (tg_seq (si_ishl dX4_workBy_34) (tg_seq (si_iconst (v := -1) dX4_workBy_35 (by decide)) (tg_seq (si_ixor dX4_workBy_36) (tg_seq (si_iand dX4_workBy_37) (tg_seq (si_istore_n (i := 3) dX4_workBy_38 rfl (Nat.le_of_ble_eq_true rfl)) (tg_seq (si_iload (i := 4) dX4_workBy_39) (tg_seq (si_bipush (v := 10) dX4_workBy_41 (by decide)) (tg_seq (si_idiv dX4_workBy_43) (tg_seq (si_istore (i := 4) dX4_workBy_44 (Nat.le_of_ble_eq_true rfl)) (tg_seq (si_iconst (v := 0) dX4_workBy_46 (by decide)) (si_istore (i := 6) dX4_workBy_47 (Nat.le_of_ble_eq_true rfl))))))))))))))))
theorem bX4_workBy_49 : tg_Snd mX4_workBy 49 (fun k => ti_iload 6 (ti_push (.int 16) k)) 53 := tg_seq (si_iload (i := 6) dX4_workBy_49) (si_bipush (v := 16) dX4_workBy_51 (by decide))
theorem bX4_workBy_56 : tg_Snd mX4_workBy 56 (fun k => ti_iload 6 (ti_iload 3 (ti_push (.int (-1)) (ti_ixor (ti_iand k))))) 62 := tg_seq (si_iload (i := 6) dX4_workBy_56) (tg_seq (si_iload_n (i := 3) dX4_workBy_58 rfl) (tg_seq (si_iconst (v := -1) dX4_workBy_59 (by decide)) (tg_seq (si_ixor dX4_workBy_60) (si_iand dX4_workBy_61))))
theorem bX4_workBy_65 : tg_Snd mX4_workBy 65 (fun k => ti_iload 2 (ti_aload 0 (ti_getf 3 2 (ti_iload 6 (ti_iald (ti_iadd (ti_istore 2 k))))))) 75 := tg_seq (si_iload_n (i := 2) dX4_workBy_65 rfl) (tg_seq (si_aload_n (i := 0) dX4_workBy_66 rfl) (tg_seq (si_getf (ci := 3) (f := 2) clX4 (Nat.le_of_ble_eq_true rfl) rfl flX4_9 dX4_workBy_67) (tg_seq (si_iload (i := 6) dX4_workBy_70) (tg_seq (si_iald dX4_workBy_72) (tg_seq (si_iadd dX4_workBy_73) (si_istore_n (i := 2) dX4_workBy_74 rfl (Nat.le_of_ble_eq_true rfl)))))))
theorem bX4_workBy_75 : tg_Snd mX4_workBy 75 (fun k => ti_iinc 6 1 k) 78 := si_iinc (v := 1) dX4_workBy_75 (by decide) (Nat.le_of_ble_eq_true rfl)
theorem bX4_workBy_81 : tg_Snd mX4_workBy 81 (fun k => ti_iinc 5 (-1) k) 84 := si_iinc (v := -1) dX4_workBy_81 (by decide) (Nat.le_of_ble_eq_true rfl)
theorem bX4_workBy_87 : tg_Snd mX4_workBy 87 (fun k => ti_iload 2 k) 88 := si_iload_n (i := 2) dX4_workBy_87 rfl
theorem dX4_bestOrder_0 : decode cX4_bestOrder 0 = .ok (.aload_n 0, 1) := by decide +kernel
theorem dX4_bestOrder_1 : decode cX4_bestOrder 1 = .ok (.getfield 15, 3) := by decide +kernel
theorem dX4_bestOrder_4 : decode cX4_bestOrder 4 = .ok (.invokestatic 22, 3) := by decide +kernel
theorem dX4_bestOrder_7 : decode cX4_bestOrder 7 = .ok (.astore_n 1, 1) := by decide +kernel
theorem dX4_bestOrder_8 : decode cX4_bestOrder 8 = .ok (.iconst (-1), 1) := by decide +kernel
theorem dX4_bestOrder_9 : decode cX4_bestOrder 9 = .ok (.istore_n 2, 1) := by decide +kernel
theorem dX4_bestOrder_10 : decode cX4_bestOrder 10 = .ok (.iconst 0, 1) := by decide +kernel
theorem dX4_bestOrder_11 : decode cX4_bestOrder 11 = .ok (.istore_n 3, 1) := by decide +kernel
theorem dX4_bestOrder_12 : decode cX4_bestOrder 12 = .ok (.iconst 0, 1) := by decide +kernel
theorem dX4_bestOrder_13 : decode cX4_bestOrder 13 = .ok (.istore 4, 2) := by decide +kernel
theorem dX4_bestOrder_15 : decode cX4_bestOrder 15 = .ok (.iload 4, 2) := by decide +kernel
theorem dX4_bestOrder_17 : decode cX4_bestOrder 17 = .ok (.aload_n 1, 1) := by decide +kernel
theorem dX4_bestOrder_18 : decode cX4_bestOrder 18 = .ok (.arraylength, 1) := by decide +kernel
theorem dX4_bestOrder_19 : decode cX4_bestOrder 19 = .ok (.if_icmp .ge 38, 3) := by decide +kernel
theorem dX4_bestOrder_22 : decode cX4_bestOrder 22 = .ok (.aload_n 0, 1) := by decide +kernel
theorem dX4_bestOrder_23 : decode cX4_bestOrder 23 = .ok (.aload_n 1, 1) := by decide +kernel
theorem dX4_bestOrder_24 : decode cX4_bestOrder 24 = .ok (.iload 4, 2) := by decide +kernel
theorem dX4_bestOrder_26 : decode cX4_bestOrder 26 = .ok (.iaload, 1) := by decide +kernel
theorem dX4_bestOrder_27 : decode cX4_bestOrder 27 = .ok (.invokevirtual 26, 3) := by decide +kernel
theorem dX4_bestOrder_30 : decode cX4_bestOrder 30 = .ok (.istore 5, 2) := by decide +kernel
theorem dX4_bestOrder_32 : decode cX4_bestOrder 32 = .ok (.iload_n 2, 1) := by decide +kernel
theorem dX4_bestOrder_33 : decode cX4_bestOrder 33 = .ok (.iconst (-1), 1) := by decide +kernel
theorem dX4_bestOrder_34 : decode cX4_bestOrder 34 = .ok (.if_icmp .eq 9, 3) := by decide +kernel
theorem dX4_bestOrder_37 : decode cX4_bestOrder 37 = .ok (.iload 5, 2) := by decide +kernel
theorem dX4_bestOrder_39 : decode cX4_bestOrder 39 = .ok (.iload_n 3, 1) := by decide +kernel
theorem dX4_bestOrder_40 : decode cX4_bestOrder 40 = .ok (.if_icmp .ge 11, 3) := by decide +kernel
theorem dX4_bestOrder_43 : decode cX4_bestOrder 43 = .ok (.iload 5, 2) := by decide +kernel
theorem dX4_bestOrder_45 : decode cX4_bestOrder 45 = .ok (.istore_n 3, 1) := by decide +kernel
theorem dX4_bestOrder_46 : decode cX4_bestOrder 46 = .ok (.aload_n 1, 1) := by decide +kernel
theorem dX4_bestOrder_47 : decode cX4_bestOrder 47 = .ok (.iload 4, 2) := by decide +kernel
theorem dX4_bestOrder_49 : decode cX4_bestOrder 49 = .ok (.iaload, 1) := by decide +kernel
theorem dX4_bestOrder_50 : decode cX4_bestOrder 50 = .ok (.istore_n 2, 1) := by decide +kernel
theorem dX4_bestOrder_51 : decode cX4_bestOrder 51 = .ok (.iinc 4 1, 3) := by decide +kernel
theorem dX4_bestOrder_54 : decode cX4_bestOrder 54 = .ok (.goto (-39), 3) := by decide +kernel
theorem dX4_bestOrder_57 : decode cX4_bestOrder 57 = .ok (.iload_n 2, 1) := by decide +kernel
theorem dX4_bestOrder_58 : decode cX4_bestOrder 58 = .ok (.ireturn, 1) := by decide +kernel
theorem bX4_bestOrder_0 : tg_Snd mX4_bestOrder 0 (fun k => ti_aload 0 (ti_getf 3 0 k)) 4 := tg_seq (si_aload_n (i := 0) dX4_bestOrder_0 rfl) (si_getf (ci := 3) (f := 0) clX4 (Nat.le_of_ble_eq_true rfl) rfl flX4_15 dX4_bestOrder_1)
theorem bX4_bestOrder_7 : tg_Snd mX4_bestOrder 7 (fun k => ti_astore 1 (ti_push (.int (-1)) (ti_istore 2 (ti_push (.int 0) (ti_istore 3 (ti_push (.int 0) (ti_istore 4 k))))))) 15 := tg_seq (si_astore_n (i := 1) dX4_bestOrder_7 rfl (Nat.le_of_ble_eq_true rfl)) (tg_seq (si_iconst (v := -1) dX4_bestOrder_8 (by decide)) (tg_seq (si_istore_n (i := 2) dX4_bestOrder_9 rfl (Nat.le_of_ble_eq_true rfl)) (tg_seq (si_iconst (v := 0) dX4_bestOrder_10 (by decide)) (tg_seq (si_istore_n (i := 3) dX4_bestOrder_11 rfl (Nat.le_of_ble_eq_true rfl)) (tg_seq (si_iconst (v := 0) dX4_bestOrder_12 (by decide)) (si_istore (i := 4) dX4_bestOrder_13 (Nat.le_of_ble_eq_true rfl)))))))
theorem bX4_bestOrder_15 : tg_Snd mX4_bestOrder 15 (fun k => ti_iload 4 (ti_aload 1 (ti_olen k))) 19 := tg_seq (si_iload (i := 4) dX4_bestOrder_15) (tg_seq (si_aload_n (i := 1) dX4_bestOrder_17 rfl) (si_olen dX4_bestOrder_18))
theorem bX4_bestOrder_22 : tg_Snd mX4_bestOrder 22 (fun k => ti_aload 0 (ti_aload 1 (ti_iload 4 (ti_oald k)))) 27 := tg_seq (si_aload_n (i := 0) dX4_bestOrder_22 rfl) (tg_seq (si_aload_n (i := 1) dX4_bestOrder_23 rfl) (tg_seq (si_iload (i := 4) dX4_bestOrder_24) (si_oald dX4_bestOrder_26)))
theorem bX4_bestOrder_30 : tg_Snd mX4_bestOrder 30 (fun k => ti_istore 5 (ti_iload 2 (ti_push (.int (-1)) k))) 34 := tg_seq (si_istore (i := 5) dX4_bestOrder_30 (Nat.le_of_ble_eq_true rfl)) (tg_seq (si_iload_n (i := 2) dX4_bestOrder_32 rfl) (si_iconst (v := -1) dX4_bestOrder_33 (by decide)))
theorem bX4_bestOrder_37 : tg_Snd mX4_bestOrder 37 (fun k => ti_iload 5 (ti_iload 3 k)) 40 := tg_seq (si_iload (i := 5) dX4_bestOrder_37) (si_iload_n (i := 3) dX4_bestOrder_39 rfl)
theorem bX4_bestOrder_43 : tg_Snd mX4_bestOrder 43 (fun k => ti_iload 5 (ti_istore 3 (ti_aload 1 (ti_iload 4 (ti_oald (ti_istore 2 k)))))) 51 := tg_seq (si_iload (i := 5) dX4_bestOrder_43) (tg_seq (si_istore_n (i := 3) dX4_bestOrder_45 rfl (Nat.le_of_ble_eq_true rfl)) (tg_seq (si_aload_n (i := 1) dX4_bestOrder_46 rfl) (tg_seq (si_iload (i := 4) dX4_bestOrder_47) (tg_seq (si_oald dX4_bestOrder_49) (si_istore_n (i := 2) dX4_bestOrder_50 rfl (Nat.le_of_ble_eq_true rfl))))))
theorem bX4_bestOrder_51 : tg_Snd mX4_bestOrder 51 (fun k => ti_iinc 4 1 k) 54 := si_iinc (v := 1) dX4_bestOrder_51 (by decide) (Nat.le_of_ble_eq_true rfl)
theorem bX4_bestOrder_57 : tg_Snd mX4_bestOrder 57 (fun k => ti_iload 2 k) 58 := si_iload_n (i := 2) dX4_bestOrder_57 rfl
theorem vX4_bestOrder_4 : tg_SS0 mX4_bestOrder 4 mX4_ordersOf 1 := ⟨okX4_ordersOf, ⟨22, dX4_bestOrder_4, mlX4_22⟩, staX4_ordersOf, parX4_ordersOf, rfl, rfl, Nat.le_of_ble_eq_true rfl, Nat.le_of_ble_eq_true rfl⟩
theorem vX4_bestOrder_27 : tg_VS mX4_bestOrder 27 mX4_workBy 1 := ⟨okX4_workBy, ⟨26, dX4_bestOrder_27, mlX4_26⟩, insX4_workBy, selX4_workBy, parX4_workBy, rfl, rfl, Nat.le_of_ble_eq_true rfl, Nat.le_of_ble_eq_true rfl⟩
theorem dX4_ordersOf_0 : decode cX4_ordersOf 0 = .ok (.iload_n 0, 1) := by decide +kernel
theorem dX4_ordersOf_1 : decode cX4_ordersOf 1 = .ok (.tableswitch 39 1 3 #[27, 31, 35], 27) := by decide +kernel
theorem dX4_ordersOf_28 : decode cX4_ordersOf 28 = .ok (.getstatic 30, 3) := by decide +kernel
theorem dX4_ordersOf_31 : decode cX4_ordersOf 31 = .ok (.areturn, 1) := by decide +kernel
theorem dX4_ordersOf_32 : decode cX4_ordersOf 32 = .ok (.getstatic 33, 3) := by decide +kernel
theorem dX4_ordersOf_35 : decode cX4_ordersOf 35 = .ok (.areturn, 1) := by decide +kernel
theorem dX4_ordersOf_36 : decode cX4_ordersOf 36 = .ok (.getstatic 36, 3) := by decide +kernel
theorem dX4_ordersOf_39 : decode cX4_ordersOf 39 = .ok (.areturn, 1) := by decide +kernel
theorem dX4_ordersOf_40 : decode cX4_ordersOf 40 = .ok (.getstatic 39, 3) := by decide +kernel
theorem dX4_ordersOf_43 : decode cX4_ordersOf 43 = .ok (.areturn, 1) := by decide +kernel
theorem bX4_ordersOf_0 : tg_Snd mX4_ordersOf 0 (fun k => ti_iload 0 k) 1 := si_iload_n (i := 0) dX4_ordersOf_0 rfl
theorem bX4_ordersOf_28 : tg_Snd mX4_ordersOf 28 (fun k => ti_ord 0 k) 31 := si_ord (i := 0) (by decide) dX4_ordersOf_28 flX4_30
theorem bX4_ordersOf_32 : tg_Snd mX4_ordersOf 32 (fun k => ti_ord 1 k) 35 := si_ord (i := 1) (by decide) dX4_ordersOf_32 flX4_33
theorem bX4_ordersOf_36 : tg_Snd mX4_ordersOf 36 (fun k => ti_ord 2 k) 39 := si_ord (i := 2) (by decide) dX4_ordersOf_36 flX4_36
theorem bX4_ordersOf_40 : tg_Snd mX4_ordersOf 40 (fun k => ti_ord 3 k) 43 := si_ord (i := 3) (by decide) dX4_ordersOf_40 flX4_39
theorem dX5_record_0 : decode cX5_record 0 = .ok (.aload_n 0, 1) := by decide +kernel
theorem dX5_record_1 : decode cX5_record 1 = .ok (.getfield 18, 3) := by decide +kernel
theorem dX5_record_4 : decode cX5_record 4 = .ok (.aload_n 0, 1) := by decide +kernel
theorem dX5_record_5 : decode cX5_record 5 = .ok (.getfield 15, 3) := by decide +kernel
theorem dX5_record_8 : decode cX5_record 8 = .ok (.iload_n 1, 1) := by decide +kernel
theorem dX5_record_9 : decode cX5_record 9 = .ok (.iastore, 1) := by decide +kernel
theorem dX5_record_10 : decode cX5_record 10 = .ok (.aload_n 0, 1) := by decide +kernel
theorem dX5_record_11 : decode cX5_record 11 = .ok (.getfield 22, 3) := by decide +kernel
theorem dX5_record_14 : decode cX5_record 14 = .ok (.aload_n 0, 1) := by decide +kernel
theorem dX5_record_15 : decode cX5_record 15 = .ok (.getfield 15, 3) := by decide +kernel
theorem dX5_record_18 : decode cX5_record 18 = .ok (.iload_n 2, 1) := by decide +kernel
theorem dX5_record_19 : decode cX5_record 19 = .ok (.iastore, 1) := by decide +kernel
theorem dX5_record_20 : decode cX5_record 20 = .ok (.aload_n 0, 1) := by decide +kernel
theorem dX5_record_21 : decode cX5_record 21 = .ok (.getfield 25, 3) := by decide +kernel
theorem dX5_record_24 : decode cX5_record 24 = .ok (.aload_n 0, 1) := by decide +kernel
theorem dX5_record_25 : decode cX5_record 25 = .ok (.getfield 15, 3) := by decide +kernel
theorem dX5_record_28 : decode cX5_record 28 = .ok (.iload_n 3, 1) := by decide +kernel
theorem dX5_record_29 : decode cX5_record 29 = .ok (.iastore, 1) := by decide +kernel
theorem dX5_record_30 : decode cX5_record 30 = .ok (.aload_n 0, 1) := by decide +kernel
theorem dX5_record_31 : decode cX5_record 31 = .ok (.getfield 28, 3) := by decide +kernel
theorem dX5_record_34 : decode cX5_record 34 = .ok (.aload_n 0, 1) := by decide +kernel
theorem dX5_record_35 : decode cX5_record 35 = .ok (.getfield 15, 3) := by decide +kernel
theorem dX5_record_38 : decode cX5_record 38 = .ok (.iload 4, 2) := by decide +kernel
theorem dX5_record_40 : decode cX5_record 40 = .ok (.iastore, 1) := by decide +kernel
theorem dX5_record_41 : decode cX5_record 41 = .ok (.aload_n 0, 1) := by decide +kernel
theorem dX5_record_42 : decode cX5_record 42 = .ok (.aload_n 0, 1) := by decide +kernel
theorem dX5_record_43 : decode cX5_record 43 = .ok (.getfield 15, 3) := by decide +kernel
theorem dX5_record_46 : decode cX5_record 46 = .ok (.iconst 1, 1) := by decide +kernel
theorem dX5_record_47 : decode cX5_record 47 = .ok (.iadd, 1) := by decide +kernel
theorem dX5_record_48 : decode cX5_record 48 = .ok (.bipush 8, 2) := by decide +kernel
theorem dX5_record_50 : decode cX5_record 50 = .ok (.if_icmp .ge 12, 3) := by decide +kernel
theorem dX5_record_53 : decode cX5_record 53 = .ok (.aload_n 0, 1) := by decide +kernel
theorem dX5_record_54 : decode cX5_record 54 = .ok (.getfield 15, 3) := by decide +kernel
theorem dX5_record_57 : decode cX5_record 57 = .ok (.iconst 1, 1) := by decide +kernel
theorem dX5_record_58 : decode cX5_record 58 = .ok (.iadd, 1) := by decide +kernel
theorem dX5_record_59 : decode cX5_record 59 = .ok (.goto 4, 3) := by decide +kernel
theorem dX5_record_62 : decode cX5_record 62 = .ok (.iconst 0, 1) := by decide +kernel
theorem dX5_record_63 : decode cX5_record 63 = .ok (.putfield 15, 3) := by decide +kernel
theorem dX5_record_66 : decode cX5_record 66 = .ok (.aload_n 0, 1) := by decide +kernel
theorem dX5_record_67 : decode cX5_record 67 = .ok (.aload_n 0, 1) := by decide +kernel
theorem dX5_record_68 : decode cX5_record 68 = .ok (.getfield 9, 3) := by decide +kernel
theorem dX5_record_71 : decode cX5_record 71 = .ok (.iconst 1, 1) := by decide +kernel
theorem dX5_record_72 : decode cX5_record 72 = .ok (.iadd, 1) := by decide +kernel
theorem dX5_record_73 : decode cX5_record 73 = .ok (.bipush 8, 2) := by decide +kernel
theorem dX5_record_75 : decode cX5_record 75 = .ok (.invokestatic 31, 3) := by decide +kernel
theorem dX5_record_78 : decode cX5_record 78 = .ok (.putfield 9, 3) := by decide +kernel
theorem dX5_record_81 : decode cX5_record 81 = .ok (.return_, 1) := by decide +kernel
theorem bX5_record_0 : tg_Snd mX5_record 0 (fun k => ti_aload 0 (ti_getf 4 2 (ti_aload 0 (ti_getf 4 1 (ti_iload 1 (ti_iast (ti_aload 0 (ti_getf 4 3 (ti_aload 0 (ti_getf 4 1 (ti_iload 2 (ti_iast (ti_aload 0 (ti_getf 4 4 (ti_aload 0 (ti_getf 4 1 (ti_iload 3 (ti_iast (ti_aload 0 (ti_getf 4 5 (ti_aload 0 (ti_getf 4 1 (ti_iload 4 (ti_iast (ti_aload 0 (ti_aload 0 (ti_getf 4 1 (ti_push (.int 1) (ti_iadd (ti_push (.int 8) k)))))))))))))))))))))))))))))) 50 := tg_seq (si_aload_n (i := 0) dX5_record_0 rfl) (tg_seq (si_getf (ci := 4) (f := 2) clX5 (Nat.le_of_ble_eq_true rfl) rfl flX5_18 dX5_record_1) (tg_seq (si_aload_n (i := 0) dX5_record_4 rfl) (tg_seq (si_getf (ci := 4) (f := 1) clX5 (Nat.le_of_ble_eq_true rfl) rfl flX5_15 dX5_record_5) (tg_seq (si_iload_n (i := 1) dX5_record_8 rfl) (tg_seq (si_iast dX5_record_9) (tg_seq (si_aload_n (i := 0) dX5_record_10 rfl) (tg_seq (si_getf (ci := 4) (f := 3) clX5 (Nat.le_of_ble_eq_true rfl) rfl flX5_22 dX5_record_11) (tg_seq (si_aload_n (i := 0) dX5_record_14 rfl) (tg_seq (si_getf (ci := 4) (f := 1) clX5 (Nat.le_of_ble_eq_true rfl) rfl flX5_15 dX5_record_15) (tg_seq (si_iload_n (i := 2) dX5_record_18 rfl) (tg_seq (si_iast dX5_record_19) (tg_seq (si_aload_n (i := 0) dX5_record_20 rfl) (tg_seq (si_getf (ci := 4) (f := 4) clX5 (Nat.le_of_ble_eq_true rfl) rfl flX5_25 dX5_record_21) (tg_seq (si_aload_n (i := 0) dX5_record_24 rfl) (tg_seq (si_getf (ci := 4) (f := 1) clX5 (Nat.le_of_ble_eq_true rfl) rfl flX5_15 dX5_record_25) (tg_seq (si_iload_n (i := 3) dX5_record_28 rfl) (tg_seq (si_iast dX5_record_29) (tg_seq (si_aload_n (i := 0) dX5_record_30 rfl) (tg_seq (si_getf (ci := 4) (f := 5) clX5 (Nat.le_of_ble_eq_true rfl) rfl flX5_28 dX5_record_31) (tg_seq (si_aload_n (i := 0) dX5_record_34 rfl) (tg_seq (si_getf (ci := 4) (f := 1) clX5 (Nat.le_of_ble_eq_true rfl) rfl flX5_15 dX5_record_35) (tg_seq (si_iload (i := 4) dX5_record_38) (tg_seq (si_iast dX5_record_40) (tg_seq (si_aload_n (i := 0) dX5_record_41 rfl) (tg_seq (si_aload_n (i := 0) dX5_record_42 rfl) (tg_seq (si_getf (ci := 4) (f := 1) clX5 (Nat.le_of_ble_eq_true rfl) rfl flX5_15 dX5_record_43) (tg_seq (si_iconst (v := 1) dX5_record_46 (by decide)) (tg_seq (si_iadd dX5_record_47) (si_bipush (v := 8) dX5_record_48 (by decide))))))))))))))))))))))))))))))
theorem bX5_record_53 : tg_Snd mX5_record 53 (fun k => ti_aload 0 (ti_getf 4 1 (ti_push (.int 1) (ti_iadd k)))) 59 := tg_seq (si_aload_n (i := 0) dX5_record_53 rfl) (tg_seq (si_getf (ci := 4) (f := 1) clX5 (Nat.le_of_ble_eq_true rfl) rfl flX5_15 dX5_record_54) (tg_seq (si_iconst (v := 1) dX5_record_57 (by decide)) (si_iadd dX5_record_58)))
theorem bX5_record_62 : tg_Snd mX5_record 62 (fun k => ti_push (.int 0) k) 63 := si_iconst (v := 0) dX5_record_62 (by decide)
theorem bX5_record_63 : tg_Snd mX5_record 63 (fun k => ti_putfI 4 1 (ti_aload 0 (ti_aload 0 (ti_getf 4 0 (ti_push (.int 1) (ti_iadd (ti_push (.int 8) (ti_mmin (ti_putfI 4 0 k))))))))) 81 := tg_seq (si_putfI (ci := 4) (f := 1) (ty := .int) clX5 tyX5_ok nmX5 (Nat.le_of_ble_eq_true rfl) rfl (by decide +kernel) (fun _ _ => ⟨rfl, rfl⟩) flX5_15 dX5_record_63) (tg_seq (si_aload_n (i := 0) dX5_record_66 rfl) (tg_seq (si_aload_n (i := 0) dX5_record_67 rfl) (tg_seq (si_getf (ci := 4) (f := 0) clX5 (Nat.le_of_ble_eq_true rfl) rfl flX5_9 dX5_record_68) (tg_seq (si_iconst (v := 1) dX5_record_71 (by decide)) (tg_seq (si_iadd dX5_record_72) (tg_seq (si_bipush (v := 8) dX5_record_73 (by decide)) (tg_seq (si_mmin dX5_record_75 mlX5_31 staMin iniMath codMin (Nat.le_of_ble_eq_true rfl) (Nat.le_of_ble_eq_true rfl)) (si_putfI (ci := 4) (f := 0) (ty := .int) clX5 tyX5_ok nmX5 (Nat.le_of_ble_eq_true rfl) rfl (by decide +kernel) (fun _ _ => ⟨rfl, rfl⟩) flX5_9 dX5_record_78))))))))
theorem dX5_undoLatest_0 : decode cX5_undoLatest 0 = .ok (.aload_n 0, 1) := by decide +kernel
theorem dX5_undoLatest_1 : decode cX5_undoLatest 1 = .ok (.getfield 9, 3) := by decide +kernel
theorem dX5_undoLatest_4 : decode cX5_undoLatest 4 = .ok (.ifCond .ne 4, 3) := by decide +kernel
theorem dX5_undoLatest_7 : decode cX5_undoLatest 7 = .ok (.return_, 1) := by decide +kernel
theorem dX5_undoLatest_8 : decode cX5_undoLatest 8 = .ok (.aload_n 0, 1) := by decide +kernel
theorem dX5_undoLatest_9 : decode cX5_undoLatest 9 = .ok (.aload_n 0, 1) := by decide +kernel
theorem dX5_undoLatest_10 : decode cX5_undoLatest 10 = .ok (.getfield 15, 3) := by decide +kernel
theorem dX5_undoLatest_13 : decode cX5_undoLatest 13 = .ok (.ifCond .le 12, 3) := by decide +kernel
theorem dX5_undoLatest_16 : decode cX5_undoLatest 16 = .ok (.aload_n 0, 1) := by decide +kernel
theorem dX5_undoLatest_17 : decode cX5_undoLatest 17 = .ok (.getfield 15, 3) := by decide +kernel
theorem dX5_undoLatest_20 : decode cX5_undoLatest 20 = .ok (.iconst 1, 1) := by decide +kernel
theorem dX5_undoLatest_21 : decode cX5_undoLatest 21 = .ok (.isub, 1) := by decide +kernel
theorem dX5_undoLatest_22 : decode cX5_undoLatest 22 = .ok (.goto 5, 3) := by decide +kernel
theorem dX5_undoLatest_25 : decode cX5_undoLatest 25 = .ok (.bipush 7, 2) := by decide +kernel
theorem dX5_undoLatest_27 : decode cX5_undoLatest 27 = .ok (.putfield 15, 3) := by decide +kernel
theorem dX5_undoLatest_30 : decode cX5_undoLatest 30 = .ok (.aload_n 0, 1) := by decide +kernel
theorem dX5_undoLatest_31 : decode cX5_undoLatest 31 = .ok (.dup, 1) := by decide +kernel
theorem dX5_undoLatest_32 : decode cX5_undoLatest 32 = .ok (.getfield 9, 3) := by decide +kernel
theorem dX5_undoLatest_35 : decode cX5_undoLatest 35 = .ok (.iconst 1, 1) := by decide +kernel
theorem dX5_undoLatest_36 : decode cX5_undoLatest 36 = .ok (.isub, 1) := by decide +kernel
theorem dX5_undoLatest_37 : decode cX5_undoLatest 37 = .ok (.putfield 9, 3) := by decide +kernel
theorem dX5_undoLatest_40 : decode cX5_undoLatest 40 = .ok (.aload_n 0, 1) := by decide +kernel
theorem dX5_undoLatest_41 : decode cX5_undoLatest 41 = .ok (.getfield 18, 3) := by decide +kernel
theorem dX5_undoLatest_44 : decode cX5_undoLatest 44 = .ok (.aload_n 0, 1) := by decide +kernel
theorem dX5_undoLatest_45 : decode cX5_undoLatest 45 = .ok (.getfield 15, 3) := by decide +kernel
theorem dX5_undoLatest_48 : decode cX5_undoLatest 48 = .ok (.iaload, 1) := by decide +kernel
theorem dX5_undoLatest_49 : decode cX5_undoLatest 49 = .ok (.lookupswitch 77 #[(0, 27), (1, 43)], 27) := by decide +kernel
theorem dX5_undoLatest_76 : decode cX5_undoLatest 76 = .ok (.aload_n 1, 1) := by decide +kernel
theorem dX5_undoLatest_77 : decode cX5_undoLatest 77 = .ok (.aload_n 0, 1) := by decide +kernel
theorem dX5_undoLatest_78 : decode cX5_undoLatest 78 = .ok (.getfield 22, 3) := by decide +kernel
theorem dX5_undoLatest_81 : decode cX5_undoLatest 81 = .ok (.aload_n 0, 1) := by decide +kernel
theorem dX5_undoLatest_82 : decode cX5_undoLatest 82 = .ok (.getfield 15, 3) := by decide +kernel
theorem dX5_undoLatest_85 : decode cX5_undoLatest 85 = .ok (.iaload, 1) := by decide +kernel
theorem dX5_undoLatest_86 : decode cX5_undoLatest 86 = .ok (.invokevirtual 37, 3) := by decide +kernel
theorem dX5_undoLatest_89 : decode cX5_undoLatest 89 = .ok (.goto 50, 3) := by decide +kernel
theorem dX5_undoLatest_92 : decode cX5_undoLatest 92 = .ok (.aload_n 1, 1) := by decide +kernel
theorem dX5_undoLatest_93 : decode cX5_undoLatest 93 = .ok (.aload_n 0, 1) := by decide +kernel
theorem dX5_undoLatest_94 : decode cX5_undoLatest 94 = .ok (.getfield 22, 3) := by decide +kernel
theorem dX5_undoLatest_97 : decode cX5_undoLatest 97 = .ok (.aload_n 0, 1) := by decide +kernel
theorem dX5_undoLatest_98 : decode cX5_undoLatest 98 = .ok (.getfield 15, 3) := by decide +kernel
theorem dX5_undoLatest_101 : decode cX5_undoLatest 101 = .ok (.iaload, 1) := by decide +kernel
theorem dX5_undoLatest_102 : decode cX5_undoLatest 102 = .ok (.aload_n 0, 1) := by decide +kernel
theorem dX5_undoLatest_103 : decode cX5_undoLatest 103 = .ok (.getfield 25, 3) := by decide +kernel
theorem dX5_undoLatest_106 : decode cX5_undoLatest 106 = .ok (.aload_n 0, 1) := by decide +kernel
theorem dX5_undoLatest_107 : decode cX5_undoLatest 107 = .ok (.getfield 15, 3) := by decide +kernel
theorem dX5_undoLatest_110 : decode cX5_undoLatest 110 = .ok (.iaload, 1) := by decide +kernel
theorem dX5_undoLatest_111 : decode cX5_undoLatest 111 = .ok (.aload_n 0, 1) := by decide +kernel
theorem dX5_undoLatest_112 : decode cX5_undoLatest 112 = .ok (.getfield 28, 3) := by decide +kernel
theorem dX5_undoLatest_115 : decode cX5_undoLatest 115 = .ok (.aload_n 0, 1) := by decide +kernel
theorem dX5_undoLatest_116 : decode cX5_undoLatest 116 = .ok (.getfield 15, 3) := by decide +kernel
theorem dX5_undoLatest_119 : decode cX5_undoLatest 119 = .ok (.iaload, 1) := by decide +kernel
theorem dX5_undoLatest_120 : decode cX5_undoLatest 120 = .ok (.invokevirtual 43, 3) := by decide +kernel
theorem dX5_undoLatest_123 : decode cX5_undoLatest 123 = .ok (.goto 16, 3) := by decide +kernel
theorem dX5_undoLatest_126 : decode cX5_undoLatest 126 = .ok (.aload_n 1, 1) := by decide +kernel
theorem dX5_undoLatest_127 : decode cX5_undoLatest 127 = .ok (.aload_n 0, 1) := by decide +kernel
theorem dX5_undoLatest_128 : decode cX5_undoLatest 128 = .ok (.getfield 22, 3) := by decide +kernel
theorem dX5_undoLatest_131 : decode cX5_undoLatest 131 = .ok (.aload_n 0, 1) := by decide +kernel
theorem dX5_undoLatest_132 : decode cX5_undoLatest 132 = .ok (.getfield 15, 3) := by decide +kernel
theorem dX5_undoLatest_135 : decode cX5_undoLatest 135 = .ok (.iaload, 1) := by decide +kernel
theorem dX5_undoLatest_136 : decode cX5_undoLatest 136 = .ok (.putfield 47, 3) := by decide +kernel
theorem dX5_undoLatest_139 : decode cX5_undoLatest 139 = .ok (.return_, 1) := by decide +kernel
theorem bX5_undoLatest_0 : tg_Snd mX5_undoLatest 0 (fun k => ti_aload 0 (ti_getf 4 0 k)) 4 := tg_seq (si_aload_n (i := 0) dX5_undoLatest_0 rfl) (si_getf (ci := 4) (f := 0) clX5 (Nat.le_of_ble_eq_true rfl) rfl flX5_9 dX5_undoLatest_1)
theorem bX5_undoLatest_8 : tg_Snd mX5_undoLatest 8 (fun k => ti_aload 0 (ti_aload 0 (ti_getf 4 1 k))) 13 := tg_seq (si_aload_n (i := 0) dX5_undoLatest_8 rfl) (tg_seq (si_aload_n (i := 0) dX5_undoLatest_9 rfl) (si_getf (ci := 4) (f := 1) clX5 (Nat.le_of_ble_eq_true rfl) rfl flX5_15 dX5_undoLatest_10))
theorem bX5_undoLatest_16 : tg_Snd mX5_undoLatest 16 (fun k => ti_aload 0 (ti_getf 4 1 (ti_push (.int 1) (ti_isub k)))) 22 := tg_seq (si_aload_n (i := 0) dX5_undoLatest_16 rfl) (tg_seq (si_getf (ci := 4) (f := 1) clX5 (Nat.le_of_ble_eq_true rfl) rfl flX5_15 dX5_undoLatest_17) (tg_seq (si_iconst (v := 1) dX5_undoLatest_20 (by decide)) (si_isub dX5_undoLatest_21)))
theorem bX5_undoLatest_25 : tg_Snd mX5_undoLatest 25 (fun k => ti_push (.int 7) k) 27 := si_bipush (v := 7) dX5_undoLatest_25 (by decide)
theorem bX5_undoLatest_27 : tg_Snd mX5_undoLatest 27 (fun k => ti_putfI 4 1 (ti_aload 0 (ti_dup (ti_getf 4 0 (ti_push (.int 1) (ti_isub (ti_putfI 4 0 (ti_aload 0 (ti_getf 4 2 (ti_aload 0 (ti_getf 4 1 (ti_iald k)))))))))))) 49 := tg_seq (si_putfI (ci := 4) (f := 1) (ty := .int) clX5 tyX5_ok nmX5 (Nat.le_of_ble_eq_true rfl) rfl (by decide +kernel) (fun _ _ => ⟨rfl, rfl⟩) flX5_15 dX5_undoLatest_27) (tg_seq (si_aload_n (i := 0) dX5_undoLatest_30 rfl) (tg_seq (si_dup dX5_undoLatest_31) (tg_seq (si_getf (ci := 4) (f := 0) clX5 (Nat.le_of_ble_eq_true rfl) rfl flX5_9 dX5_undoLatest_32) (tg_seq (si_iconst (v := 1) dX5_undoLatest_35 (by decide)) (tg_seq (si_isub dX5_undoLatest_36) (tg_seq (si_putfI (ci := 4) (f := 0) (ty := .int) clX5 tyX5_ok nmX5 (Nat.le_of_ble_eq_true rfl) rfl (by decide +kernel) (fun _ _ => ⟨rfl, rfl⟩) flX5_9 dX5_undoLatest_37) (tg_seq (si_aload_n (i := 0) dX5_undoLatest_40 rfl) (tg_seq (si_getf (ci := 4) (f := 2) clX5 (Nat.le_of_ble_eq_true rfl) rfl flX5_18 dX5_undoLatest_41) (tg_seq (si_aload_n (i := 0) dX5_undoLatest_44 rfl) (tg_seq (si_getf (ci := 4) (f := 1) clX5 (Nat.le_of_ble_eq_true rfl) rfl flX5_15 dX5_undoLatest_45) (si_iald dX5_undoLatest_48)))))))))))
theorem bX5_undoLatest_76 : tg_Snd mX5_undoLatest 76 (fun k => ti_aload 1 (ti_aload 0 (ti_getf 4 3 (ti_aload 0 (ti_getf 4 1 (ti_iald k)))))) 86 := tg_seq (si_aload_n (i := 1) dX5_undoLatest_76 rfl) (tg_seq (si_aload_n (i := 0) dX5_undoLatest_77 rfl) (tg_seq (si_getf (ci := 4) (f := 3) clX5 (Nat.le_of_ble_eq_true rfl) rfl flX5_22 dX5_undoLatest_78) (tg_seq (si_aload_n (i := 0) dX5_undoLatest_81 rfl) (tg_seq (si_getf (ci := 4) (f := 1) clX5 (Nat.le_of_ble_eq_true rfl) rfl flX5_15 dX5_undoLatest_82) (si_iald dX5_undoLatest_85)))))
theorem bX5_undoLatest_92 : tg_Snd mX5_undoLatest 92 (fun k => ti_aload 1 (ti_aload 0 (ti_getf 4 3 (ti_aload 0 (ti_getf 4 1 (ti_iald (ti_aload 0 (ti_getf 4 4 (ti_aload 0 (ti_getf 4 1 (ti_iald (ti_aload 0 (ti_getf 4 5 (ti_aload 0 (ti_getf 4 1 (ti_iald k)))))))))))))))) 120 := tg_seq (si_aload_n (i := 1) dX5_undoLatest_92 rfl) (tg_seq (si_aload_n (i := 0) dX5_undoLatest_93 rfl) (tg_seq (si_getf (ci := 4) (f := 3) clX5 (Nat.le_of_ble_eq_true rfl) rfl flX5_22 dX5_undoLatest_94) (tg_seq (si_aload_n (i := 0) dX5_undoLatest_97 rfl) (tg_seq (si_getf (ci := 4) (f := 1) clX5 (Nat.le_of_ble_eq_true rfl) rfl flX5_15 dX5_undoLatest_98) (tg_seq (si_iald dX5_undoLatest_101) (tg_seq (si_aload_n (i := 0) dX5_undoLatest_102 rfl) (tg_seq (si_getf (ci := 4) (f := 4) clX5 (Nat.le_of_ble_eq_true rfl) rfl flX5_25 dX5_undoLatest_103) (tg_seq (si_aload_n (i := 0) dX5_undoLatest_106 rfl) (tg_seq (si_getf (ci := 4) (f := 1) clX5 (Nat.le_of_ble_eq_true rfl) rfl flX5_15 dX5_undoLatest_107) (tg_seq (si_iald dX5_undoLatest_110) (tg_seq (si_aload_n (i := 0) dX5_undoLatest_111 rfl) (tg_seq (si_getf (ci := 4) (f := 5) clX5 (Nat.le_of_ble_eq_true rfl) rfl flX5_28 dX5_undoLatest_112) (tg_seq (si_aload_n (i := 0) dX5_undoLatest_115 rfl) (tg_seq (si_getf (ci := 4) (f := 1) clX5 (Nat.le_of_ble_eq_true rfl) rfl flX5_15 dX5_undoLatest_116) (si_iald dX5_undoLatest_119)))))))))))))))
theorem bX5_undoLatest_126 : tg_Snd mX5_undoLatest 126 (fun k => ti_aload 1 (ti_aload 0 (ti_getf 4 3 (ti_aload 0 (ti_getf 4 1 (ti_iald (ti_putfI 5 5 k))))))) 139 := tg_seq (si_aload_n (i := 1) dX5_undoLatest_126 rfl) (tg_seq (si_aload_n (i := 0) dX5_undoLatest_127 rfl) (tg_seq (si_getf (ci := 4) (f := 3) clX5 (Nat.le_of_ble_eq_true rfl) rfl flX5_22 dX5_undoLatest_128) (tg_seq (si_aload_n (i := 0) dX5_undoLatest_131 rfl) (tg_seq (si_getf (ci := 4) (f := 1) clX5 (Nat.le_of_ble_eq_true rfl) rfl flX5_15 dX5_undoLatest_132) (tg_seq (si_iald dX5_undoLatest_135) (si_putfI (ci := 5) (f := 5) (ty := .int) clX6 tyX6_ok nmX6 (Nat.le_of_ble_eq_true rfl) rfl (by decide +kernel) (fun _ _ => ⟨rfl, rfl⟩) flX5_47 dX5_undoLatest_136))))))
theorem vX5_undoLatest_86 : tg_VS mX5_undoLatest 86 mX6_takeOut 1 := ⟨okX6_takeOut, ⟨37, dX5_undoLatest_86, mlX5_37⟩, insX6_takeOut, selX6_takeOut, parX6_takeOut, rfl, rfl, Nat.le_of_ble_eq_true rfl, Nat.le_of_ble_eq_true rfl⟩
theorem vX5_undoLatest_120 : tg_VS mX5_undoLatest 120 mX6_insert 3 := ⟨okX6_insert, ⟨43, dX5_undoLatest_120, mlX5_43⟩, insX6_insert, selX6_insert, parX6_insert, rfl, rfl, Nat.le_of_ble_eq_true rfl, Nat.le_of_ble_eq_true rfl⟩
