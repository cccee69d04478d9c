theorem dX2_result_0 : decode cX2_result 0 = .ok (.iload_n 2, 1) := by decide +kernel
theorem dX2_result_1 : decode cX2_result 1 = .ok (.lookupswitch 35 #[(0, 27), (1, 31)], 27) := by decide +kernel
theorem dX2_result_28 : decode cX2_result 28 = .ok (.lload_n 0, 1) := by decide +kernel
theorem dX2_result_29 : decode cX2_result 29 = .ok (.lload_n 3, 1) := by decide +kernel
theorem dX2_result_30 : decode cX2_result 30 = .ok (.ladd, 1) := by decide +kernel
theorem dX2_result_31 : decode cX2_result 31 = .ok (.lreturn, 1) := by decide +kernel
theorem dX2_result_32 : decode cX2_result 32 = .ok (.lload_n 0, 1) := by decide +kernel
theorem dX2_result_33 : decode cX2_result 33 = .ok (.lload_n 3, 1) := by decide +kernel
theorem dX2_result_34 : decode cX2_result 34 = .ok (.lsub, 1) := by decide +kernel
theorem dX2_result_35 : decode cX2_result 35 = .ok (.lreturn, 1) := by decide +kernel
theorem dX2_result_36 : decode cX2_result 36 = .ok (.lload_n 0, 1) := by decide +kernel
theorem dX2_result_37 : decode cX2_result 37 = .ok (.lload_n 3, 1) := by decide +kernel
theorem dX2_result_38 : decode cX2_result 38 = .ok (.lmul, 1) := by decide +kernel
theorem dX2_result_39 : decode cX2_result 39 = .ok (.lreturn, 1) := by decide +kernel
theorem bX2_result_0 : tg_Snd mX2_result 0 (fun k => ti_iload 2 k) 1 := si_iload_n (i := 2) dX2_result_0 rfl
theorem bX2_result_28 : tg_Snd mX2_result 28 (fun k => ti_lload 0 (ti_lload 3 (ti_ladd k))) 31 := tg_seq (si_lload_n (i := 0) dX2_result_28 rfl) (tg_seq (si_lload_n (i := 3) dX2_result_29 rfl) (si_ladd dX2_result_30))
theorem bX2_result_32 : tg_Snd mX2_result 32 (fun k => ti_lload 0 (ti_lload 3 (ti_lsub k))) 35 := tg_seq (si_lload_n (i := 0) dX2_result_32 rfl) (tg_seq (si_lload_n (i := 3) dX2_result_33 rfl) (si_lsub dX2_result_34))
theorem bX2_result_36 : tg_Snd mX2_result 36 (fun k => ti_lload 0 (ti_lload 3 (ti_lmul k))) 39 := tg_seq (si_lload_n (i := 0) dX2_result_36 rfl) (tg_seq (si_lload_n (i := 3) dX2_result_37 rfl) (si_lmul dX2_result_38))
theorem dX2_isOver_0 : decode cX2_isOver 0 = .ok (.lload_n 0, 1) := by decide +kernel
theorem dX2_isOver_1 : decode cX2_isOver 1 = .ok (.iload_n 2, 1) := by decide +kernel
theorem dX2_isOver_2 : decode cX2_isOver 2 = .ok (.lload_n 3, 1) := by decide +kernel
theorem dX2_isOver_3 : decode cX2_isOver 3 = .ok (.invokestatic 7, 3) := by decide +kernel
theorem dX2_isOver_6 : decode cX2_isOver 6 = .ok (.lstore 5, 2) := by decide +kernel
theorem dX2_isOver_8 : decode cX2_isOver 8 = .ok (.iload_n 2, 1) := by decide +kernel
theorem dX2_isOver_9 : decode cX2_isOver 9 = .ok (.lookupswitch 66 #[(0, 27), (1, 47)], 27) := by decide +kernel
theorem dX2_isOver_36 : decode cX2_isOver 36 = .ok (.lload_n 0, 1) := by decide +kernel
theorem dX2_isOver_37 : decode cX2_isOver 37 = .ok (.lload 5, 2) := by decide +kernel
theorem dX2_isOver_39 : decode cX2_isOver 39 = .ok (.lxor, 1) := by decide +kernel
theorem dX2_isOver_40 : decode cX2_isOver 40 = .ok (.lload_n 3, 1) := by decide +kernel
theorem dX2_isOver_41 : decode cX2_isOver 41 = .ok (.lload 5, 2) := by decide +kernel
theorem dX2_isOver_43 : decode cX2_isOver 43 = .ok (.lxor, 1) := by decide +kernel
theorem dX2_isOver_44 : decode cX2_isOver 44 = .ok (.land, 1) := by decide +kernel
theorem dX2_isOver_45 : decode cX2_isOver 45 = .ok (.lconst 0, 1) := by decide +kernel
theorem dX2_isOver_46 : decode cX2_isOver 46 = .ok (.lcmp, 1) := by decide +kernel
theorem dX2_isOver_47 : decode cX2_isOver 47 = .ok (.ifCond .ge 7, 3) := by decide +kernel
theorem dX2_isOver_50 : decode cX2_isOver 50 = .ok (.iconst 1, 1) := by decide +kernel
theorem dX2_isOver_51 : decode cX2_isOver 51 = .ok (.goto 4, 3) := by decide +kernel
theorem dX2_isOver_54 : decode cX2_isOver 54 = .ok (.iconst 0, 1) := by decide +kernel
theorem dX2_isOver_55 : decode cX2_isOver 55 = .ok (.ireturn, 1) := by decide +kernel
theorem dX2_isOver_56 : decode cX2_isOver 56 = .ok (.lload_n 0, 1) := by decide +kernel
theorem dX2_isOver_57 : decode cX2_isOver 57 = .ok (.lload_n 3, 1) := by decide +kernel
theorem dX2_isOver_58 : decode cX2_isOver 58 = .ok (.lxor, 1) := by decide +kernel
theorem dX2_isOver_59 : decode cX2_isOver 59 = .ok (.lload_n 0, 1) := by decide +kernel
theorem dX2_isOver_60 : decode cX2_isOver 60 = .ok (.lload 5, 2) := by decide +kernel
theorem dX2_isOver_62 : decode cX2_isOver 62 = .ok (.lxor, 1) := by decide +kernel
theorem dX2_isOver_63 : decode cX2_isOver 63 = .ok (.land, 1) := by decide +kernel
theorem dX2_isOver_64 : decode cX2_isOver 64 = .ok (.lconst 0, 1) := by decide +kernel
theorem dX2_isOver_65 : decode cX2_isOver 65 = .ok (.lcmp, 1) := by decide +kernel
theorem dX2_isOver_66 : decode cX2_isOver 66 = .ok (.ifCond .ge 7, 3) := by decide +kernel
theorem dX2_isOver_69 : decode cX2_isOver 69 = .ok (.iconst 1, 1) := by decide +kernel
theorem dX2_isOver_70 : decode cX2_isOver 70 = .ok (.goto 4, 3) := by decide +kernel
theorem dX2_isOver_73 : decode cX2_isOver 73 = .ok (.iconst 0, 1) := by decide +kernel
theorem dX2_isOver_74 : decode cX2_isOver 74 = .ok (.ireturn, 1) := by decide +kernel
theorem dX2_isOver_75 : decode cX2_isOver 75 = .ok (.lload_n 3, 1) := by decide +kernel
theorem dX2_isOver_76 : decode cX2_isOver 76 = .ok (.ldc2_w 13, 3) := by decide +kernel
theorem dX2_isOver_79 : decode cX2_isOver 79 = .ok (.lcmp, 1) := by decide +kernel
theorem dX2_isOver_80 : decode cX2_isOver 80 = .ok (.ifCond .ne 19, 3) := by decide +kernel
theorem dX2_isOver_83 : decode cX2_isOver 83 = .ok (.lload_n 0, 1) := by decide +kernel
theorem dX2_isOver_84 : decode cX2_isOver 84 = .ok (.ldc2_w 15, 3) := by decide +kernel
theorem dX2_isOver_87 : decode cX2_isOver 87 = .ok (.lcmp, 1) := by decide +kernel
theorem dX2_isOver_88 : decode cX2_isOver 88 = .ok (.ifCond .ne 7, 3) := by decide +kernel
theorem dX2_isOver_91 : decode cX2_isOver 91 = .ok (.iconst 1, 1) := by decide +kernel
theorem dX2_isOver_92 : decode cX2_isOver 92 = .ok (.goto 27, 3) := by decide +kernel
theorem dX2_isOver_95 : decode cX2_isOver 95 = .ok (.iconst 0, 1) := by decide +kernel
theorem dX2_isOver_96 : decode cX2_isOver 96 = .ok (.goto 23, 3) := by decide +kernel
theorem dX2_isOver_99 : decode cX2_isOver 99 = .ok (.lload_n 3, 1) := by decide +kernel
theorem dX2_isOver_100 : decode cX2_isOver 100 = .ok (.lconst 0, 1) := by decide +kernel
theorem dX2_isOver_101 : decode cX2_isOver 101 = .ok (.lcmp, 1) := by decide +kernel
theorem dX2_isOver_102 : decode cX2_isOver 102 = .ok (.ifCond .eq 16, 3) := by decide +kernel
theorem dX2_isOver_105 : decode cX2_isOver 105 = .ok (.lload 5, 2) := by decide +kernel
theorem dX2_isOver_107 : decode cX2_isOver 107 = .ok (.lload_n 3, 1) := by decide +kernel
theorem dX2_isOver_108 : decode cX2_isOver 108 = .ok (.ldiv, 1) := by decide +kernel
theorem dX2_isOver_109 : decode cX2_isOver 109 = .ok (.lload_n 0, 1) := by decide +kernel
theorem dX2_isOver_110 : decode cX2_isOver 110 = .ok (.lcmp, 1) := by decide +kernel
theorem dX2_isOver_111 : decode cX2_isOver 111 = .ok (.ifCond .eq 7, 3) := by decide +kernel
theorem dX2_isOver_114 : decode cX2_isOver 114 = .ok (.iconst 1, 1) := by decide +kernel
theorem dX2_isOver_115 : decode cX2_isOver 115 = .ok (.goto 4, 3) := by decide +kernel
theorem dX2_isOver_118 : decode cX2_isOver 118 = .ok (.iconst 0, 1) := by decide +kernel
theorem dX2_isOver_119 : decode cX2_isOver 119 = .ok (.ireturn, 1) := by decide +kernel
theorem bX2_isOver_0 : tg_Snd mX2_isOver 0 (fun k => ti_lload 0 (ti_iload 2 (ti_lload 3 k))) 3 := tg_seq (si_lload_n (i := 0) dX2_isOver_0 rfl) (tg_seq (si_iload_n (i := 2) dX2_isOver_1 rfl) (si_lload_n (i := 3) dX2_isOver_2 rfl))
theorem bX2_isOver_6 : tg_Snd mX2_isOver 6 (fun k => ti_lstore 5 (ti_iload 2 k)) 9 := tg_seq (si_lstore (i := 5) dX2_isOver_6 (Nat.le_of_ble_eq_true rfl)) (si_iload_n (i := 2) dX2_isOver_8 rfl)
theorem bX2_isOver_36 : tg_Snd mX2_isOver 36 (fun k => ti_lload 0 (ti_lload 5 (ti_lxor (ti_lload 3 (ti_lload 5 (ti_lxor (ti_land (ti_push (.long 0) (ti_lcmp k))))))))) 47 := tg_seq (si_lload_n (i := 0) dX2_isOver_36 rfl) (tg_seq (si_lload (i := 5) dX2_isOver_37) (tg_seq (si_lxor dX2_isOver_39) (tg_seq (si_lload_n (i := 3) dX2_isOver_40 rfl) (tg_seq (si_lload (i := 5) dX2_isOver_41) (tg_seq (si_lxor dX2_isOver_43) (tg_seq (si_land dX2_isOver_44) (tg_seq (si_lconst (v := 0) dX2_isOver_45 (by decide)) (si_lcmp dX2_isOver_46))))))))
theorem bX2_isOver_50 : tg_Snd mX2_isOver 50 (fun k => ti_push (.int 1) k) 51 := si_iconst (v := 1) dX2_isOver_50 (by decide)
theorem bX2_isOver_54 : tg_Snd mX2_isOver 54 (fun k => ti_push (.int 0) k) 55 := si_iconst (v := 0) dX2_isOver_54 (by decide)
theorem bX2_isOver_56 : tg_Snd mX2_isOver 56 (fun k => ti_lload 0 (ti_lload 3 (ti_lxor (ti_lload 0 (ti_lload 5 (ti_lxor (ti_land (ti_push (.long 0) (ti_lcmp k))))))))) 66 := tg_seq (si_lload_n (i := 0) dX2_isOver_56 rfl) (tg_seq (si_lload_n (i := 3) dX2_isOver_57 rfl) (tg_seq (si_lxor dX2_isOver_58) (tg_seq (si_lload_n (i := 0) dX2_isOver_59 rfl) (tg_seq (si_lload (i := 5) dX2_isOver_60) (tg_seq (si_lxor dX2_isOver_62) (tg_seq (si_land dX2_isOver_63) (tg_seq (si_lconst (v := 0) dX2_isOver_64 (by decide)) (si_lcmp dX2_isOver_65))))))))
theorem bX2_isOver_69 : tg_Snd mX2_isOver 69 (fun k => ti_push (.int 1) k) 70 := si_iconst (v := 1) dX2_isOver_69 (by decide)
theorem bX2_isOver_73 : tg_Snd mX2_isOver 73 (fun k => ti_push (.int 0) k) 74 := si_iconst (v := 0) dX2_isOver_73 (by decide)
theorem bX2_isOver_75 : tg_Snd mX2_isOver 75 (fun k => ti_lload 3 (ti_push (.long (-1)) (ti_lcmp k))) 80 := tg_seq (si_lload_n (i := 3) dX2_isOver_75 rfl) (tg_seq (si_ldc2 (v := -1) dX2_isOver_76 klX2_13) (si_lcmp dX2_isOver_79))
theorem bX2_isOver_83 : tg_Snd mX2_isOver 83 (fun k => ti_lload 0 (ti_push (.long (-9223372036854775808)) (ti_lcmp k))) 88 := tg_seq (si_lload_n (i := 0) dX2_isOver_83 rfl) (tg_seq (si_ldc2 (v := -9223372036854775808) dX2_isOver_84 klX2_15) (si_lcmp dX2_isOver_87))
theorem bX2_isOver_91 : tg_Snd mX2_isOver 91 (fun k => ti_push (.int 1) k) 92 := si_iconst (v := 1) dX2_isOver_91 (by decide)
theorem bX2_isOver_95 : tg_Snd mX2_isOver 95 (fun k => ti_push (.int 0) k) 96 := si_iconst (v := 0) dX2_isOver_95 (by decide)
theorem bX2_isOver_99 : tg_Snd mX2_isOver 99 (fun k => ti_lload 3 (ti_push (.long 0) (ti_lcmp k))) 102 := tg_seq (si_lload_n (i := 3) dX2_isOver_99 rfl) (tg_seq (si_lconst (v := 0) dX2_isOver_100 (by decide)) (si_lcmp dX2_isOver_101))
theorem bX2_isOver_105 : tg_Snd mX2_isOver 105 (fun k => ti_lload 5 (ti_lload 3 (ti_ldiv (ti_lload 0 (ti_lcmp k))))) 111 := tg_seq (si_lload (i := 5) dX2_isOver_105) (tg_seq (si_lload_n (i := 3) dX2_isOver_107 rfl) (tg_seq (si_ldiv dX2_isOver_108) (tg_seq (si_lload_n (i := 0) dX2_isOver_109 rfl) (si_lcmp dX2_isOver_110))))
theorem bX2_isOver_114 : tg_Snd mX2_isOver 114 (fun k => ti_push (.int 1) k) 115 := si_iconst (v := 1) dX2_isOver_114 (by decide)
theorem bX2_isOver_118 : tg_Snd mX2_isOver 118 (fun k => ti_push (.int 0) k) 119 := si_iconst (v := 0) dX2_isOver_118 (by decide)
theorem vX2_isOver_3 : tg_SS0 mX2_isOver 3 mX2_result 3 := ⟨okX2_result, ⟨7, dX2_isOver_3, mlX2_7⟩, staX2_result, parX2_result, rfl, rfl, Nat.le_of_ble_eq_true rfl, Nat.le_of_ble_eq_true rfl⟩
theorem dX3_isRow_0 : decode cX3_isRow 0 = .ok (.iload_n 0, 1) := by decide +kernel
theorem dX3_isRow_1 : decode cX3_isRow 1 = .ok (.ifCond .lt 12, 3) := by decide +kernel
theorem dX3_isRow_4 : decode cX3_isRow 4 = .ok (.iload_n 0, 1) := by decide +kernel
theorem dX3_isRow_5 : decode cX3_isRow 5 = .ok (.iconst 3, 1) := by decide +kernel
theorem dX3_isRow_6 : decode cX3_isRow 6 = .ok (.if_icmp .ge 7, 3) := by decide +kernel
theorem dX3_isRow_9 : decode cX3_isRow 9 = .ok (.iconst 1, 1) := by decide +kernel
theorem dX3_isRow_10 : decode cX3_isRow 10 = .ok (.goto 4, 3) := by decide +kernel
theorem dX3_isRow_13 : decode cX3_isRow 13 = .ok (.iconst 0, 1) := by decide +kernel
theorem dX3_isRow_14 : decode cX3_isRow 14 = .ok (.ireturn, 1) := by decide +kernel
theorem bX3_isRow_0 : tg_Snd mX3_isRow 0 (fun k => ti_iload 0 k) 1 := si_iload_n (i := 0) dX3_isRow_0 rfl
theorem bX3_isRow_4 : tg_Snd mX3_isRow 4 (fun k => ti_iload 0 (ti_push (.int 3) k)) 6 := tg_seq (si_iload_n (i := 0) dX3_isRow_4 rfl) (si_iconst (v := 3) dX3_isRow_5 (by decide))
theorem bX3_isRow_9 : tg_Snd mX3_isRow 9 (fun k => ti_push (.int 1) k) 10 := si_iconst (v := 1) dX3_isRow_9 (by decide)
theorem bX3_isRow_13 : tg_Snd mX3_isRow 13 (fun k => ti_push (.int 0) k) 14 := si_iconst (v := 0) dX3_isRow_13 (by decide)
theorem dX3_isMissing_0 : decode cX3_isMissing 0 = .ok (.iload_n 1, 1) := by decide +kernel
theorem dX3_isMissing_1 : decode cX3_isMissing 1 = .ok (.invokestatic 20, 3) := by decide +kernel
theorem dX3_isMissing_4 : decode cX3_isMissing 4 = .ok (.ifCond .eq 13, 3) := by decide +kernel
theorem dX3_isMissing_7 : decode cX3_isMissing 7 = .ok (.aload_n 0, 1) := by decide +kernel
theorem dX3_isMissing_8 : decode cX3_isMissing 8 = .ok (.getfield 9, 3) := by decide +kernel
theorem dX3_isMissing_11 : decode cX3_isMissing 11 = .ok (.iload_n 1, 1) := by decide +kernel
theorem dX3_isMissing_12 : decode cX3_isMissing 12 = .ok (.iaload, 1) := by decide +kernel
theorem dX3_isMissing_13 : decode cX3_isMissing 13 = .ok (.iconst (-1), 1) := by decide +kernel
theorem dX3_isMissing_14 : decode cX3_isMissing 14 = .ok (.if_icmp .ne 7, 3) := by decide +kernel
theorem dX3_isMissing_17 : decode cX3_isMissing 17 = .ok (.iconst 1, 1) := by decide +kernel
theorem dX3_isMissing_18 : decode cX3_isMissing 18 = .ok (.goto 4, 3) := by decide +kernel
theorem dX3_isMissing_21 : decode cX3_isMissing 21 = .ok (.iconst 0, 1) := by decide +kernel
theorem dX3_isMissing_22 : decode cX3_isMissing 22 = .ok (.ireturn, 1) := by decide +kernel
theorem bX3_isMissing_0 : tg_Snd mX3_isMissing 0 (fun k => ti_iload 1 k) 1 := si_iload_n (i := 1) dX3_isMissing_0 rfl
theorem bX3_isMissing_7 : tg_Snd mX3_isMissing 7 (fun k => ti_aload 0 (ti_getf 2 0 (ti_iload 1 (ti_iald (ti_push (.int (-1)) k))))) 14 := tg_seq (si_aload_n (i := 0) dX3_isMissing_7 rfl) (tg_seq (si_getf (ci := 2) (f := 0) clX3 (Nat.le_of_ble_eq_true rfl) rfl flX3_9 dX3_isMissing_8) (tg_seq (si_iload_n (i := 1) dX3_isMissing_11 rfl) (tg_seq (si_iald dX3_isMissing_12) (si_iconst (v := -1) dX3_isMissing_13 (by decide)))))
theorem bX3_isMissing_17 : tg_Snd mX3_isMissing 17 (fun k => ti_push (.int 1) k) 18 := si_iconst (v := 1) dX3_isMissing_17 (by decide)
theorem bX3_isMissing_21 : tg_Snd mX3_isMissing 21 (fun k => ti_push (.int 0) k) 22 := si_iconst (v := 0) dX3_isMissing_21 (by decide)
theorem vX3_isMissing_1 : tg_SS0 mX3_isMissing 1 mX3_isRow 1 := ⟨okX3_isRow, ⟨20, dX3_isMissing_1, mlX3_20⟩, staX3_isRow, parX3_isRow, rfl, rfl, Nat.le_of_ble_eq_true rfl, Nat.le_of_ble_eq_true rfl⟩
theorem dX3_renew_0 : decode cX3_renew 0 = .ok (.iload_n 1, 1) := by decide +kernel
theorem dX3_renew_1 : decode cX3_renew 1 = .ok (.invokestatic 20, 3) := by decide +kernel
theorem dX3_renew_4 : decode cX3_renew 4 = .ok (.ifCond .eq 13, 3) := by decide +kernel
theorem dX3_renew_7 : decode cX3_renew 7 = .ok (.iload_n 2, 1) := by decide +kernel
theorem dX3_renew_8 : decode cX3_renew 8 = .ok (.ifCond .lt 9, 3) := by decide +kernel
theorem dX3_renew_11 : decode cX3_renew 11 = .ok (.iload_n 2, 1) := by decide +kernel
theorem dX3_renew_12 : decode cX3_renew 12 = .ok (.bipush 12, 2) := by decide +kernel
theorem dX3_renew_14 : decode cX3_renew 14 = .ok (.if_icmp .le 4, 3) := by decide +kernel
theorem dX3_renew_17 : decode cX3_renew 17 = .ok (.return_, 1) := by decide +kernel
theorem dX3_renew_18 : decode cX3_renew 18 = .ok (.aload_n 0, 1) := by decide +kernel
theorem dX3_renew_19 : decode cX3_renew 19 = .ok (.getfield 9, 3) := by decide +kernel
theorem dX3_renew_22 : decode cX3_renew 22 = .ok (.iload_n 1, 1) := by decide +kernel
theorem dX3_renew_23 : decode cX3_renew 23 = .ok (.iload_n 2, 1) := by decide +kernel
theorem dX3_renew_24 : decode cX3_renew 24 = .ok (.iastore, 1) := by decide +kernel
theorem dX3_renew_25 : decode cX3_renew 25 = .ok (.iconst 0, 1) := by decide +kernel
theorem dX3_renew_26 : decode cX3_renew 26 = .ok (.istore_n 3, 1) := by decide +kernel
theorem dX3_renew_27 : decode cX3_renew 27 = .ok (.iload_n 3, 1) := by decide +kernel
theorem dX3_renew_28 : decode cX3_renew 28 = .ok (.iload_n 2, 1) := by decide +kernel
theorem dX3_renew_29 : decode cX3_renew 29 = .ok (.if_icmp .ge 18, 3) := by decide +kernel
theorem dX3_renew_32 : decode cX3_renew 32 = .ok (.aload_n 0, 1) := by decide +kernel
theorem dX3_renew_33 : decode cX3_renew 33 = .ok (.getfield 17, 3) := by decide +kernel
theorem dX3_renew_36 : decode cX3_renew 36 = .ok (.iload_n 1, 1) := by decide +kernel
theorem dX3_renew_37 : decode cX3_renew 37 = .ok (.aaload, 1) := by decide +kernel
theorem dX3_renew_38 : decode cX3_renew 38 = .ok (.iload_n 3, 1) := by decide +kernel
theorem dX3_renew_39 : decode cX3_renew 39 = .ok (.lconst 0, 1) := by decide +kernel
theorem dX3_renew_40 : decode cX3_renew 40 = .ok (.lastore, 1) := by decide +kernel
theorem dX3_renew_41 : decode cX3_renew 41 = .ok (.iinc 3 1, 3) := by decide +kernel
theorem dX3_renew_44 : decode cX3_renew 44 = .ok (.goto (-17), 3) := by decide +kernel
theorem dX3_renew_47 : decode cX3_renew 47 = .ok (.return_, 1) := by decide +kernel
theorem bX3_renew_0 : tg_Snd mX3_renew 0 (fun k => ti_iload 1 k) 1 := si_iload_n (i := 1) dX3_renew_0 rfl
theorem bX3_renew_7 : tg_Snd mX3_renew 7 (fun k => ti_iload 2 k) 8 := si_iload_n (i := 2) dX3_renew_7 rfl
theorem bX3_renew_11 : tg_Snd mX3_renew 11 (fun k => ti_iload 2 (ti_push (.int 12) k)) 14 := tg_seq (si_iload_n (i := 2) dX3_renew_11 rfl) (si_bipush (v := 12) dX3_renew_12 (by decide))
theorem bX3_renew_18 : tg_Snd mX3_renew 18 (fun k => ti_aload 0 (ti_getf 2 0 (ti_iload 1 (ti_iload 2 (ti_iast (ti_push (.int 0) (ti_istore 3 k))))))) 27 := tg_seq (si_aload_n (i := 0) dX3_renew_18 rfl) (tg_seq (si_getf (ci := 2) (f := 0) clX3 (Nat.le_of_ble_eq_true rfl) rfl flX3_9 dX3_renew_19) (tg_seq (si_iload_n (i := 1) dX3_renew_22 rfl) (tg_seq (si_iload_n (i := 2) dX3_renew_23 rfl) (tg_seq (si_iast dX3_renew_24) (tg_seq (si_iconst (v := 0) dX3_renew_25 (by decide)) (si_istore_n (i := 3) dX3_renew_26 rfl (Nat.le_of_ble_eq_true rfl)))))))
theorem bX3_renew_27 : tg_Snd mX3_renew 27 (fun k => ti_iload 3 (ti_iload 2 k)) 29 := tg_seq (si_iload_n (i := 3) dX3_renew_27 rfl) (si_iload_n (i := 2) dX3_renew_28 rfl)
theorem bX3_renew_32 : tg_Snd mX3_renew 32 (fun k => ti_aload 0 (ti_getf 2 1 (ti_iload 1 (ti_aald (ti_iload 3 (ti_push (.long 0) (ti_last (ti_iinc 3 1 k)))))))) 44 := tg_seq (si_aload_n (i := 0) dX3_renew_32 rfl) (tg_seq (si_getf (ci := 2) (f := 1) clX3 (Nat.le_of_ble_eq_true rfl) rfl flX3_17 dX3_renew_33) (tg_seq (si_iload_n (i := 1) dX3_renew_36 rfl) (tg_seq (si_aald dX3_renew_37) (tg_seq (si_iload_n (i := 3) dX3_renew_38 rfl) (tg_seq (si_lconst (v := 0) dX3_renew_39 (by decide)) (tg_seq (si_last dX3_renew_40) (si_iinc (v := 1) dX3_renew_41 (by decide) (Nat.le_of_ble_eq_true rfl))))))))
theorem vX3_renew_1 : tg_SS0 mX3_renew 1 mX3_isRow 1 := ⟨okX3_isRow, ⟨20, dX3_renew_1, mlX3_20⟩, staX3_isRow, parX3_isRow, rfl, rfl, Nat.le_of_ble_eq_true rfl, Nat.le_of_ble_eq_true rfl⟩
theorem dX3_finds_0 : decode cX3_finds 0 = .ok (.aload_n 0, 1) := by decide +kernel
theorem dX3_finds_1 : decode cX3_finds 1 = .ok (.iload_n 1, 1) := by decide +kernel
theorem dX3_finds_2 : decode cX3_finds 2 = .ok (.invokevirtual 24, 3) := by decide +kernel
theorem dX3_finds_5 : decode cX3_finds 5 = .ok (.ifCond .eq 6, 3) := by decide +kernel
theorem dX3_finds_8 : decode cX3_finds 8 = .ok (.bipush (-11), 2) := by decide +kernel
theorem dX3_finds_10 : decode cX3_finds 10 = .ok (.ireturn, 1) := by decide +kernel
theorem dX3_finds_11 : decode cX3_finds 11 = .ok (.iload_n 2, 1) := by decide +kernel
theorem dX3_finds_12 : decode cX3_finds 12 = .ok (.ifCond .lt 13, 3) := by decide +kernel
theorem dX3_finds_15 : decode cX3_finds 15 = .ok (.iload_n 2, 1) := by decide +kernel
theorem dX3_finds_16 : decode cX3_finds 16 = .ok (.aload_n 0, 1) := by decide +kernel
theorem dX3_finds_17 : decode cX3_finds 17 = .ok (.getfield 9, 3) := by decide +kernel
theorem dX3_finds_20 : decode cX3_finds 20 = .ok (.iload_n 1, 1) := by decide +kernel
theorem dX3_finds_21 : decode cX3_finds 21 = .ok (.iaload, 1) := by decide +kernel
theorem dX3_finds_22 : decode cX3_finds 22 = .ok (.if_icmp .lt 8, 3) := by decide +kernel
theorem dX3_finds_25 : decode cX3_finds 25 = .ok (.bipush (-12), 2) := by decide +kernel
theorem dX3_finds_27 : decode cX3_finds 27 = .ok (.goto 4, 3) := by decide +kernel
theorem dX3_finds_30 : decode cX3_finds 30 = .ok (.iconst 1, 1) := by decide +kernel
theorem dX3_finds_31 : decode cX3_finds 31 = .ok (.ireturn, 1) := by decide +kernel
theorem bX3_finds_0 : tg_Snd mX3_finds 0 (fun k => ti_aload 0 (ti_iload 1 k)) 2 := tg_seq (si_aload_n (i := 0) dX3_finds_0 rfl) (si_iload_n (i := 1) dX3_finds_1 rfl)
theorem bX3_finds_8 : tg_Snd mX3_finds 8 (fun k => ti_push (.int (-11)) k) 10 := si_bipush (v := -11) dX3_finds_8 (by decide)
theorem bX3_finds_11 : tg_Snd mX3_finds 11 (fun k => ti_iload 2 k) 12 := si_iload_n (i := 2) dX3_finds_11 rfl
theorem bX3_finds_15 : tg_Snd mX3_finds 15 (fun k => ti_iload 2 (ti_aload 0 (ti_getf 2 0 (ti_iload 1 (ti_iald k))))) 22 := tg_seq (si_iload_n (i := 2) dX3_finds_15 rfl) (tg_seq (si_aload_n (i := 0) dX3_finds_16 rfl) (tg_seq (si_getf (ci := 2) (f := 0) clX3 (Nat.le_of_ble_eq_true rfl) rfl flX3_9 dX3_finds_17) (tg_seq (si_iload_n (i := 1) dX3_finds_20 rfl) (si_iald dX3_finds_21))))
theorem bX3_finds_25 : tg_Snd mX3_finds 25 (fun k => ti_push (.int (-12)) k) 27 := si_bipush (v := -12) dX3_finds_25 (by decide)
theorem bX3_finds_30 : tg_Snd mX3_finds 30 (fun k => ti_push (.int 1) k) 31 := si_iconst (v := 1) dX3_finds_30 (by decide)
theorem vX3_finds_2 : tg_VS mX3_finds 2 mX3_isMissing 1 := ⟨okX3_isMissing, ⟨24, dX3_finds_2, mlX3_24⟩, insX3_isMissing, selX3_isMissing, parX3_isMissing, rfl, rfl, Nat.le_of_ble_eq_true rfl, Nat.le_of_ble_eq_true rfl⟩
theorem dX3_put_0 : decode cX3_put 0 = .ok (.aload_n 0, 1) := by decide +kernel
theorem dX3_put_1 : decode cX3_put 1 = .ok (.iload_n 1, 1) := by decide +kernel
theorem dX3_put_2 : decode cX3_put 2 = .ok (.iload_n 2, 1) := by decide +kernel
theorem dX3_put_3 : decode cX3_put 3 = .ok (.invokevirtual 27, 3) := by decide +kernel
theorem dX3_put_6 : decode cX3_put 6 = .ok (.istore 5, 2) := by decide +kernel
theorem dX3_put_8 : decode cX3_put 8 = .ok (.iload 5, 2) := by decide +kernel
theorem dX3_put_10 : decode cX3_put 10 = .ok (.ifCond .le 12, 3) := by decide +kernel
theorem dX3_put_13 : decode cX3_put 13 = .ok (.aload_n 0, 1) := by decide +kernel
theorem dX3_put_14 : decode cX3_put 14 = .ok (.getfield 17, 3) := by decide +kernel
theorem dX3_put_17 : decode cX3_put 17 = .ok (.iload_n 1, 1) := by decide +kernel
theorem dX3_put_18 : decode cX3_put 18 = .ok (.aaload, 1) := by decide +kernel
theorem dX3_put_19 : decode cX3_put 19 = .ok (.iload_n 2, 1) := by decide +kernel
theorem dX3_put_20 : decode cX3_put 20 = .ok (.lload_n 3, 1) := by decide +kernel
theorem dX3_put_21 : decode cX3_put 21 = .ok (.lastore, 1) := by decide +kernel
theorem dX3_put_22 : decode cX3_put 22 = .ok (.iload 5, 2) := by decide +kernel
theorem dX3_put_24 : decode cX3_put 24 = .ok (.ireturn, 1) := by decide +kernel
theorem bX3_put_0 : tg_Snd mX3_put 0 (fun k => ti_aload 0 (ti_iload 1 (ti_iload 2 k))) 3 := tg_seq (si_aload_n (i := 0) dX3_put_0 rfl) (tg_seq (si_iload_n (i := 1) dX3_put_1 rfl) (si_iload_n (i := 2) dX3_put_2 rfl))
theorem bX3_put_6 : tg_Snd mX3_put 6 (fun k => ti_istore 5 (ti_iload 5 k)) 10 := tg_seq (si_istore (i := 5) dX3_put_6 (Nat.le_of_ble_eq_true rfl)) (si_iload (i := 5) dX3_put_8)
theorem bX3_put_13 : tg_Snd mX3_put 13 (fun k => ti_aload 0 (ti_getf 2 1 (ti_iload 1 (ti_aald (ti_iload 2 (ti_lload 3 (ti_last k))))))) 22 := tg_seq (si_aload_n (i := 0) dX3_put_13 rfl) (tg_seq (si_getf (ci := 2) (f := 1) clX3 (Nat.le_of_ble_eq_true rfl) rfl flX3_17 dX3_put_14) (tg_seq (si_iload_n (i := 1) dX3_put_17 rfl) (tg_seq (si_aald dX3_put_18) (tg_seq (si_iload_n (i := 2) dX3_put_19 rfl) (tg_seq (si_lload_n (i := 3) dX3_put_20 rfl) (si_last dX3_put_21))))))
theorem bX3_put_22 : tg_Snd mX3_put 22 (fun k => ti_iload 5 k) 24 := si_iload (i := 5) dX3_put_22
theorem vX3_put_3 : tg_VS mX3_put 3 mX3_finds 2 := ⟨okX3_finds, ⟨27, dX3_put_3, mlX3_27⟩, insX3_finds, selX3_finds, parX3_finds, rfl, rfl, Nat.le_of_ble_eq_true rfl, Nat.le_of_ble_eq_true rfl⟩
theorem dX3_placesInAll_0 : decode cX3_placesInAll 0 = .ok (.iconst 0, 1) := by decide +kernel
theorem dX3_placesInAll_1 : decode cX3_placesInAll 1 = .ok (.istore_n 1, 1) := by decide +kernel
theorem dX3_placesInAll_2 : decode cX3_placesInAll 2 = .ok (.iconst 0, 1) := by decide +kernel
theorem dX3_placesInAll_3 : decode cX3_placesInAll 3 = .ok (.istore_n 2, 1) := by decide +kernel
theorem dX3_placesInAll_4 : decode cX3_placesInAll 4 = .ok (.iload_n 2, 1) := by decide +kernel
theorem dX3_placesInAll_5 : decode cX3_placesInAll 5 = .ok (.iconst 3, 1) := by decide +kernel
theorem dX3_placesInAll_6 : decode cX3_placesInAll 6 = .ok (.if_icmp .ge 22, 3) := by decide +kernel
theorem dX3_placesInAll_9 : decode cX3_placesInAll 9 = .ok (.iload_n 1, 1) := by decide +kernel
theorem dX3_placesInAll_10 : decode cX3_placesInAll 10 = .ok (.aload_n 0, 1) := by decide +kernel
theorem dX3_placesInAll_11 : decode cX3_placesInAll 11 = .ok (.getfield 9, 3) := by decide +kernel
theorem dX3_placesInAll_14 : decode cX3_placesInAll 14 = .ok (.iload_n 2, 1) := by decide +kernel
theorem dX3_placesInAll_15 : decode cX3_placesInAll 15 = .ok (.iaload, 1) := by decide +kernel
theorem dX3_placesInAll_16 : decode cX3_placesInAll 16 = .ok (.iconst 0, 1) := by decide +kernel
theorem dX3_placesInAll_17 : decode cX3_placesInAll 17 = .ok (.invokestatic 31, 3) := by decide +kernel
theorem dX3_placesInAll_20 : decode cX3_placesInAll 20 = .ok (.iadd, 1) := by decide +kernel
theorem dX3_placesInAll_21 : decode cX3_placesInAll 21 = .ok (.istore_n 1, 1) := by decide +kernel
theorem dX3_placesInAll_22 : decode cX3_placesInAll 22 = .ok (.iinc 2 1, 3) := by decide +kernel
theorem dX3_placesInAll_25 : decode cX3_placesInAll 25 = .ok (.goto (-21), 3) := by decide +kernel
theorem dX3_placesInAll_28 : decode cX3_placesInAll 28 = .ok (.iload_n 1, 1) := by decide +kernel
theorem dX3_placesInAll_29 : decode cX3_placesInAll 29 = .ok (.ireturn, 1) := by decide +kernel
theorem bX3_placesInAll_0 : tg_Snd mX3_placesInAll 0 (fun k => ti_push (.int 0) (ti_istore 1 (ti_push (.int 0) (ti_istore 2 k)))) 4 := tg_seq (si_iconst (v := 0) dX3_placesInAll_0 (by decide)) (tg_seq (si_istore_n (i := 1) dX3_placesInAll_1 rfl (Nat.le_of_ble_eq_true rfl)) (tg_seq (si_iconst (v := 0) dX3_placesInAll_2 (by decide)) (si_istore_n (i := 2) dX3_placesInAll_3 rfl (Nat.le_of_ble_eq_true rfl))))
theorem bX3_placesInAll_4 : tg_Snd mX3_placesInAll 4 (fun k => ti_iload 2 (ti_push (.int 3) k)) 6 := tg_seq (si_iload_n (i := 2) dX3_placesInAll_4 rfl) (si_iconst (v := 3) dX3_placesInAll_5 (by decide))
theorem bX3_placesInAll_9 : tg_Snd mX3_placesInAll 9 (fun k => ti_iload 1 (ti_aload 0 (ti_getf 2 0 (ti_iload 2 (ti_iald (ti_push (.int 0) (ti_mmax (ti_iadd (ti_istore 1 (ti_iinc 2 1 k)))))))))) 25 := tg_seq (si_iload_n (i := 1) dX3_placesInAll_9 rfl) (tg_seq (si_aload_n (i := 0) dX3_placesInAll_10 rfl) (tg_seq (si_getf (ci := 2) (f := 0) clX3 (Nat.le_of_ble_eq_true rfl) rfl flX3_9 dX3_placesInAll_11) (tg_seq (si_iload_n (i := 2) dX3_placesInAll_14 rfl) (tg_seq (si_iald dX3_placesInAll_15) (tg_seq (si_iconst (v := 0) dX3_placesInAll_16 (by decide)) (tg_seq (si_mmax dX3_placesInAll_17 mlX3_31 staMax iniMath codMax (Nat.le_of_ble_eq_true rfl) (Nat.le_of_ble_eq_true rfl)) (tg_seq (si_iadd dX3_placesInAll_20) (tg_seq (si_istore_n (i := 1) dX3_placesInAll_21 rfl (Nat.le_of_ble_eq_true rfl)) (si_iinc (v := 1) dX3_placesInAll_22 (by decide) (Nat.le_of_ble_eq_true rfl))))))))))
theorem bX3_placesInAll_28 : tg_Snd mX3_placesInAll 28 (fun k => ti_iload 1 k) 29 := si_iload_n (i := 1) dX3_placesInAll_28 rfl
theorem dX7_append_0 : decode cX7_append 0 = .ok (.aload_n 0, 1) := by decide +kernel
theorem dX7_append_1 : decode cX7_append 1 = .ok (.getfield 15, 3) := by decide +kernel
theorem dX7_append_4 : decode cX7_append 4 = .ok (.sipush 200, 3) := by decide +kernel
theorem dX7_append_7 : decode cX7_append 7 = .ok (.if_icmp .lt 5, 3) := by decide +kernel
theorem dX7_append_10 : decode cX7_append 10 = .ok (.iconst 0, 1) := by decide +kernel
theorem dX7_append_11 : decode cX7_append 11 = .ok (.ireturn, 1) := by decide +kernel
theorem dX7_append_12 : decode cX7_append 12 = .ok (.aload_n 0, 1) := by decide +kernel
theorem dX7_append_13 : decode cX7_append 13 = .ok (.getfield 9, 3) := by decide +kernel
theorem dX7_append_16 : decode cX7_append 16 = .ok (.aload_n 0, 1) := by decide +kernel
theorem dX7_append_17 : decode cX7_append 17 = .ok (.getfield 15, 3) := by decide +kernel
theorem dX7_append_20 : decode cX7_append 20 = .ok (.iload_n 1, 1) := by decide +kernel
theorem dX7_append_21 : decode cX7_append 21 = .ok (.castore, 1) := by decide +kernel
theorem dX7_append_22 : decode cX7_append 22 = .ok (.aload_n 0, 1) := by decide +kernel
theorem dX7_append_23 : decode cX7_append 23 = .ok (.dup, 1) := by decide +kernel
theorem dX7_append_24 : decode cX7_append 24 = .ok (.getfield 15, 3) := by decide +kernel
theorem dX7_append_27 : decode cX7_append 27 = .ok (.iconst 1, 1) := by decide +kernel
theorem dX7_append_28 : decode cX7_append 28 = .ok (.iadd, 1) := by decide +kernel
theorem dX7_append_29 : decode cX7_append 29 = .ok (.putfield 15, 3) := by decide +kernel
theorem dX7_append_32 : decode cX7_append 32 = .ok (.iconst 1, 1) := by decide +kernel
theorem dX7_append_33 : decode cX7_append 33 = .ok (.ireturn, 1) := by decide +kernel
theorem bX7_append_0 : tg_Snd mX7_append 0 (fun k => ti_aload 0 (ti_getf 6 1 (ti_push (.int 200) k))) 7 := tg_seq (si_aload_n (i := 0) dX7_append_0 rfl) (tg_seq (si_getf (ci := 6) (f := 1) clX7 (Nat.le_of_ble_eq_true rfl) rfl flX7_15 dX7_append_1) (si_sipush (v := 200) dX7_append_4 (by decide)))
theorem bX7_append_10 : tg_Snd mX7_append 10 (fun k => ti_push (.int 0) k) 11 := si_iconst (v := 0) dX7_append_10 (by decide)
theorem bX7_append_12 : tg_Snd mX7_append 12 (fun k => ti_aload 0 (ti_getf 6 0 (ti_aload 0 (ti_getf 6 1 (ti_iload 1 (ti_cast (ti_aload 0 (ti_dup (ti_getf 6 1 (ti_push (.int 1) (ti_iadd (ti_putfI 6 1 (ti_push (.int 1) k))))))))))))) 33 := tg_seq (si_aload_n (i := 0) dX7_append_12 rfl) (tg_seq (si_getf (ci := 6) (f := 0) clX7 (Nat.le_of_ble_eq_true rfl) rfl flX7_9 dX7_append_13) (tg_seq (si_aload_n (i := 0) dX7_append_16 rfl) (tg_seq (si_getf (ci := 6) (f := 1) clX7 (Nat.le_of_ble_eq_true rfl) rfl flX7_15 dX7_append_17) (tg_seq (si_iload_n (i := 1) dX7_append_20 rfl) (tg_seq (si_cast dX7_append_21) (tg_seq (si_aload_n (i := 0) dX7_append_22 rfl) (tg_seq (si_dup dX7_append_23) (tg_seq (si_getf (ci := 6) (f := 1) clX7 (Nat.le_of_ble_eq_true rfl) rfl flX7_15 dX7_append_24) (tg_seq (si_iconst (v := 1) dX7_append_27 (by decide)) (tg_seq (si_iadd dX7_append_28) (tg_seq (si_putfI (ci := 6) (f := 1) (ty := .int) clX7 tyX7_ok nmX7 (Nat.le_of_ble_eq_true rfl) rfl (by decide +kernel) (fun _ _ => ⟨rfl, rfl⟩) flX7_15 dX7_append_29) (si_iconst (v := 1) dX7_append_32 (by decide)))))))))))))
theorem dX7_rewind_0 : decode cX7_rewind 0 = .ok (.aload_n 0, 1) := by decide +kernel
theorem dX7_rewind_1 : decode cX7_rewind 1 = .ok (.iconst 0, 1) := by decide +kernel
theorem dX7_rewind_2 : decode cX7_rewind 2 = .ok (.putfield 22, 3) := by decide +kernel
theorem dX7_rewind_5 : decode cX7_rewind 5 = .ok (.return_, 1) := by decide +kernel
theorem bX7_rewind_0 : tg_Snd mX7_rewind 0 (fun k => ti_aload 0 (ti_push (.int 0) (ti_putfI 6 3 k))) 5 := tg_seq (si_aload_n (i := 0) dX7_rewind_0 rfl) (tg_seq (si_iconst (v := 0) dX7_rewind_1 (by decide)) (si_putfI (ci := 6) (f := 3) (ty := .int) clX7 tyX7_ok nmX7 (Nat.le_of_ble_eq_true rfl) rfl (by decide +kernel) (fun _ _ => ⟨rfl, rfl⟩) flX7_22 dX7_rewind_2))
theorem dX7_toNextToken_0 : decode cX7_toNextToken 0 = .ok (.aload_n 0, 1) := by decide +kernel
theorem dX7_toNextToken_1 : decode cX7_toNextToken 1 = .ok (.aload_n 0, 1) := by decide +kernel
theorem dX7_toNextToken_2 : decode cX7_toNextToken 2 = .ok (.getfield 22, 3) := by decide +kernel
theorem dX7_toNextToken_5 : decode cX7_toNextToken 5 = .ok (.putfield 19, 3) := by decide +kernel
theorem dX7_toNextToken_8 : decode cX7_toNextToken 8 = .ok (.aload_n 0, 1) := by decide +kernel
theorem dX7_toNextToken_9 : decode cX7_toNextToken 9 = .ok (.getfield 19, 3) := by decide +kernel
theorem dX7_toNextToken_12 : decode cX7_toNextToken 12 = .ok (.aload_n 0, 1) := by decide +kernel
theorem dX7_toNextToken_13 : decode cX7_toNextToken 13 = .ok (.getfield 15, 3) := by decide +kernel
theorem dX7_toNextToken_16 : decode cX7_toNextToken 16 = .ok (.if_icmp .ge 30, 3) := by decide +kernel
theorem dX7_toNextToken_19 : decode cX7_toNextToken 19 = .ok (.aload_n 0, 1) := by decide +kernel
theorem dX7_toNextToken_20 : decode cX7_toNextToken 20 = .ok (.getfield 9, 3) := by decide +kernel
theorem dX7_toNextToken_23 : decode cX7_toNextToken 23 = .ok (.aload_n 0, 1) := by decide +kernel
theorem dX7_toNextToken_24 : decode cX7_toNextToken 24 = .ok (.getfield 19, 3) := by decide +kernel
theorem dX7_toNextToken_27 : decode cX7_toNextToken 27 = .ok (.caload, 1) := by decide +kernel
theorem dX7_toNextToken_28 : decode cX7_toNextToken 28 = .ok (.bipush 32, 2) := by decide +kernel
theorem dX7_toNextToken_30 : decode cX7_toNextToken 30 = .ok (.if_icmp .ne 16, 3) := by decide +kernel
theorem dX7_toNextToken_33 : decode cX7_toNextToken 33 = .ok (.aload_n 0, 1) := by decide +kernel
theorem dX7_toNextToken_34 : decode cX7_toNextToken 34 = .ok (.dup, 1) := by decide +kernel
theorem dX7_toNextToken_35 : decode cX7_toNextToken 35 = .ok (.getfield 19, 3) := by decide +kernel
theorem dX7_toNextToken_38 : decode cX7_toNextToken 38 = .ok (.iconst 1, 1) := by decide +kernel
theorem dX7_toNextToken_39 : decode cX7_toNextToken 39 = .ok (.iadd, 1) := by decide +kernel
theorem dX7_toNextToken_40 : decode cX7_toNextToken 40 = .ok (.putfield 19, 3) := by decide +kernel
theorem dX7_toNextToken_43 : decode cX7_toNextToken 43 = .ok (.goto (-35), 3) := by decide +kernel
theorem dX7_toNextToken_46 : decode cX7_toNextToken 46 = .ok (.aload_n 0, 1) := by decide +kernel
theorem dX7_toNextToken_47 : decode cX7_toNextToken 47 = .ok (.aload_n 0, 1) := by decide +kernel
theorem dX7_toNextToken_48 : decode cX7_toNextToken 48 = .ok (.getfield 19, 3) := by decide +kernel
theorem dX7_toNextToken_51 : decode cX7_toNextToken 51 = .ok (.putfield 22, 3) := by decide +kernel
theorem dX7_toNextToken_54 : decode cX7_toNextToken 54 = .ok (.aload_n 0, 1) := by decide +kernel
theorem dX7_toNextToken_55 : decode cX7_toNextToken 55 = .ok (.getfield 19, 3) := by decide +kernel
theorem dX7_toNextToken_58 : decode cX7_toNextToken 58 = .ok (.aload_n 0, 1) := by decide +kernel
theorem dX7_toNextToken_59 : decode cX7_toNextToken 59 = .ok (.getfield 15, 3) := by decide +kernel
theorem dX7_toNextToken_62 : decode cX7_toNextToken 62 = .ok (.if_icmp .lt 4, 3) := by decide +kernel
theorem dX7_toNextToken_65 : decode cX7_toNextToken 65 = .ok (.return_, 1) := by decide +kernel
theorem dX7_toNextToken_66 : decode cX7_toNextToken 66 = .ok (.aload_n 0, 1) := by decide +kernel
theorem dX7_toNextToken_67 : decode cX7_toNextToken 67 = .ok (.dup, 1) := by decide +kernel
theorem dX7_toNextToken_68 : decode cX7_toNextToken 68 = .ok (.getfield 22, 3) := by decide +kernel
theorem dX7_toNextToken_71 : decode cX7_toNextToken 71 = .ok (.iconst 1, 1) := by decide +kernel
theorem dX7_toNextToken_72 : decode cX7_toNextToken 72 = .ok (.iadd, 1) := by decide +kernel
theorem dX7_toNextToken_73 : decode cX7_toNextToken 73 = .ok (.putfield 22, 3) := by decide +kernel
theorem dX7_toNextToken_76 : decode cX7_toNextToken 76 = .ok (.aload_n 0, 1) := by decide +kernel
theorem dX7_toNextToken_77 : decode cX7_toNextToken 77 = .ok (.getfield 9, 3) := by decide +kernel
theorem dX7_toNextToken_80 : decode cX7_toNextToken 80 = .ok (.aload_n 0, 1) := by decide +kernel
theorem dX7_toNextToken_81 : decode cX7_toNextToken 81 = .ok (.getfield 19, 3) := by decide +kernel
theorem dX7_toNextToken_84 : decode cX7_toNextToken 84 = .ok (.caload, 1) := by decide +kernel
theorem dX7_toNextToken_85 : decode cX7_toNextToken 85 = .ok (.invokestatic 25, 3) := by decide +kernel
theorem dX7_toNextToken_88 : decode cX7_toNextToken 88 = .ok (.ifCond .eq 42, 3) := by decide +kernel
theorem dX7_toNextToken_91 : decode cX7_toNextToken 91 = .ok (.aload_n 0, 1) := by decide +kernel
theorem dX7_toNextToken_92 : decode cX7_toNextToken 92 = .ok (.getfield 22, 3) := by decide +kernel
theorem dX7_toNextToken_95 : decode cX7_toNextToken 95 = .ok (.aload_n 0, 1) := by decide +kernel
theorem dX7_toNextToken_96 : decode cX7_toNextToken 96 = .ok (.getfield 15, 3) := by decide +kernel
theorem dX7_toNextToken_99 : decode cX7_toNextToken 99 = .ok (.if_icmp .ge 85, 3) := by decide +kernel
theorem dX7_toNextToken_102 : decode cX7_toNextToken 102 = .ok (.aload_n 0, 1) := by decide +kernel
theorem dX7_toNextToken_103 : decode cX7_toNextToken 103 = .ok (.getfield 9, 3) := by decide +kernel
theorem dX7_toNextToken_106 : decode cX7_toNextToken 106 = .ok (.aload_n 0, 1) := by decide +kernel
theorem dX7_toNextToken_107 : decode cX7_toNextToken 107 = .ok (.getfield 22, 3) := by decide +kernel
theorem dX7_toNextToken_110 : decode cX7_toNextToken 110 = .ok (.caload, 1) := by decide +kernel
theorem dX7_toNextToken_111 : decode cX7_toNextToken 111 = .ok (.invokestatic 25, 3) := by decide +kernel
theorem dX7_toNextToken_114 : decode cX7_toNextToken 114 = .ok (.ifCond .eq 70, 3) := by decide +kernel
theorem dX7_toNextToken_117 : decode cX7_toNextToken 117 = .ok (.aload_n 0, 1) := by decide +kernel
theorem dX7_toNextToken_118 : decode cX7_toNextToken 118 = .ok (.dup, 1) := by decide +kernel
theorem dX7_toNextToken_119 : decode cX7_toNextToken 119 = .ok (.getfield 22, 3) := by decide +kernel
theorem dX7_toNextToken_122 : decode cX7_toNextToken 122 = .ok (.iconst 1, 1) := by decide +kernel
theorem dX7_toNextToken_123 : decode cX7_toNextToken 123 = .ok (.iadd, 1) := by decide +kernel
theorem dX7_toNextToken_124 : decode cX7_toNextToken 124 = .ok (.putfield 22, 3) := by decide +kernel
theorem dX7_toNextToken_127 : decode cX7_toNextToken 127 = .ok (.goto (-36), 3) := by decide +kernel
theorem dX7_toNextToken_130 : decode cX7_toNextToken 130 = .ok (.aload_n 0, 1) := by decide +kernel
theorem dX7_toNextToken_131 : decode cX7_toNextToken 131 = .ok (.getfield 9, 3) := by decide +kernel
theorem dX7_toNextToken_134 : decode cX7_toNextToken 134 = .ok (.aload_n 0, 1) := by decide +kernel
theorem dX7_toNextToken_135 : decode cX7_toNextToken 135 = .ok (.getfield 19, 3) := by decide +kernel
theorem dX7_toNextToken_138 : decode cX7_toNextToken 138 = .ok (.caload, 1) := by decide +kernel
theorem dX7_toNextToken_139 : decode cX7_toNextToken 139 = .ok (.invokestatic 29, 3) := by decide +kernel
theorem dX7_toNextToken_142 : decode cX7_toNextToken 142 = .ok (.ifCond .eq 42, 3) := by decide +kernel
theorem dX7_toNextToken_145 : decode cX7_toNextToken 145 = .ok (.aload_n 0, 1) := by decide +kernel
theorem dX7_toNextToken_146 : decode cX7_toNextToken 146 = .ok (.getfield 22, 3) := by decide +kernel
theorem dX7_toNextToken_149 : decode cX7_toNextToken 149 = .ok (.aload_n 0, 1) := by decide +kernel
theorem dX7_toNextToken_150 : decode cX7_toNextToken 150 = .ok (.getfield 15, 3) := by decide +kernel
theorem dX7_toNextToken_153 : decode cX7_toNextToken 153 = .ok (.if_icmp .ge 31, 3) := by decide +kernel
theorem dX7_toNextToken_156 : decode cX7_toNextToken 156 = .ok (.aload_n 0, 1) := by decide +kernel
theorem dX7_toNextToken_157 : decode cX7_toNextToken 157 = .ok (.getfield 9, 3) := by decide +kernel
theorem dX7_toNextToken_160 : decode cX7_toNextToken 160 = .ok (.aload_n 0, 1) := by decide +kernel
theorem dX7_toNextToken_161 : decode cX7_toNextToken 161 = .ok (.getfield 22, 3) := by decide +kernel
theorem dX7_toNextToken_164 : decode cX7_toNextToken 164 = .ok (.caload, 1) := by decide +kernel
theorem dX7_toNextToken_165 : decode cX7_toNextToken 165 = .ok (.invokestatic 29, 3) := by decide +kernel
theorem dX7_toNextToken_168 : decode cX7_toNextToken 168 = .ok (.ifCond .eq 16, 3) := by decide +kernel
theorem dX7_toNextToken_171 : decode cX7_toNextToken 171 = .ok (.aload_n 0, 1) := by decide +kernel
theorem dX7_toNextToken_172 : decode cX7_toNextToken 172 = .ok (.dup, 1) := by decide +kernel
theorem dX7_toNextToken_173 : decode cX7_toNextToken 173 = .ok (.getfield 22, 3) := by decide +kernel
theorem dX7_toNextToken_176 : decode cX7_toNextToken 176 = .ok (.iconst 1, 1) := by decide +kernel
theorem dX7_toNextToken_177 : decode cX7_toNextToken 177 = .ok (.iadd, 1) := by decide +kernel
theorem dX7_toNextToken_178 : decode cX7_toNextToken 178 = .ok (.putfield 22, 3) := by decide +kernel
theorem dX7_toNextToken_181 : decode cX7_toNextToken 181 = .ok (.goto (-36), 3) := by decide +kernel
theorem dX7_toNextToken_184 : decode cX7_toNextToken 184 = .ok (.return_, 1) := by decide +kernel
theorem bX7_toNextToken_0 : tg_Snd mX7_toNextToken 0 (fun k => ti_aload 0 (ti_aload 0 (ti_getf 6 3 (ti_putfI 6 2 k)))) 8 := tg_seq (si_aload_n (i := 0) dX7_toNextToken_0 rfl) (tg_seq (si_aload_n (i := 0) dX7_toNextToken_1 rfl) (tg_seq (si_getf (ci := 6) (f := 3) clX7 (Nat.le_of_ble_eq_true rfl) rfl flX7_22 dX7_toNextToken_2) (si_putfI (ci := 6) (f := 2) (ty := .int) clX7 tyX7_ok nmX7 (Nat.le_of_ble_eq_true rfl) rfl (by decide +kernel) (fun _ _ => ⟨rfl, rfl⟩) flX7_19 dX7_toNextToken_5)))
theorem bX7_toNextToken_8 : tg_Snd mX7_toNextToken 8 (fun k => ti_aload 0 (ti_getf 6 2 (ti_aload 0 (ti_getf 6 1 k)))) 16 := tg_seq (si_aload_n (i := 0) dX7_toNextToken_8 rfl) (tg_seq (si_getf (ci := 6) (f := 2) clX7 (Nat.le_of_ble_eq_true rfl) rfl flX7_19 dX7_toNextToken_9) (tg_seq (si_aload_n (i := 0) dX7_toNextToken_12 rfl) (si_getf (ci := 6) (f := 1) clX7 (Nat.le_of_ble_eq_true rfl) rfl flX7_15 dX7_toNextToken_13)))
theorem bX7_toNextToken_19 : tg_Snd mX7_toNextToken 19 (fun k => ti_aload 0 (ti_getf 6 0 (ti_aload 0 (ti_getf 6 2 (ti_cald (ti_push (.int 32) k)))))) 30 := tg_seq (si_aload_n (i := 0) dX7_toNextToken_19 rfl) (tg_seq (si_getf (ci := 6) (f := 0) clX7 (Nat.le_of_ble_eq_true rfl) rfl flX7_9 dX7_toNextToken_20) (tg_seq (si_aload_n (i := 0) dX7_toNextToken_23 rfl) (tg_seq (si_getf (ci := 6) (f := 2) clX7 (Nat.le_of_ble_eq_true rfl) rfl flX7_19 dX7_toNextToken_24) (tg_seq (si_cald dX7_toNextToken_27) (si_bipush (v := 32) dX7_toNextToken_28 (by decide))))))
theorem bX7_toNextToken_33 : tg_Snd mX7_toNextToken 33 (fun k => ti_aload 0 (ti_dup (ti_getf 6 2 (ti_push (.int 1) (ti_iadd (ti_putfI 6 2 k)))))) 43 := tg_seq (si_aload_n (i := 0) dX7_toNextToken_33 rfl) (tg_seq (si_dup dX7_toNextToken_34) (tg_seq (si_getf (ci := 6) (f := 2) clX7 (Nat.le_of_ble_eq_true rfl) rfl flX7_19 dX7_toNextToken_35) (tg_seq (si_iconst (v := 1) dX7_toNextToken_38 (by decide)) (tg_seq (si_iadd dX7_toNextToken_39) (si_putfI (ci := 6) (f := 2) (ty := .int) clX7 tyX7_ok nmX7 (Nat.le_of_ble_eq_true rfl) rfl (by decide +kernel) (fun _ _ => ⟨rfl, rfl⟩) flX7_19 dX7_toNextToken_40)))))
theorem bX7_toNextToken_46 : tg_Snd mX7_toNextToken 46 (fun k => ti_aload 0 (ti_aload 0 (ti_getf 6 2 (ti_putfI 6 3 (ti_aload 0 (ti_getf 6 2 (ti_aload 0 (ti_getf 6 1 k)))))))) 62 := tg_seq (si_aload_n (i := 0) dX7_toNextToken_46 rfl) (tg_seq (si_aload_n (i := 0) dX7_toNextToken_47 rfl) (tg_seq (si_getf (ci := 6) (f := 2) clX7 (Nat.le_of_ble_eq_true rfl) rfl flX7_19 dX7_toNextToken_48) (tg_seq (si_putfI (ci := 6) (f := 3) (ty := .int) clX7 tyX7_ok nmX7 (Nat.le_of_ble_eq_true rfl) rfl (by decide +kernel) (fun _ _ => ⟨rfl, rfl⟩) flX7_22 dX7_toNextToken_51) (tg_seq (si_aload_n (i := 0) dX7_toNextToken_54 rfl) (tg_seq (si_getf (ci := 6) (f := 2) clX7 (Nat.le_of_ble_eq_true rfl) rfl flX7_19 dX7_toNextToken_55) (tg_seq (si_aload_n (i := 0) dX7_toNextToken_58 rfl) (si_getf (ci := 6) (f := 1) clX7 (Nat.le_of_ble_eq_true rfl) rfl flX7_15 dX7_toNextToken_59)))))))
theorem bX7_toNextToken_66 : tg_Snd mX7_toNextToken 66 (fun k => ti_aload 0 (ti_dup (ti_getf 6 3 (ti_push (.int 1) (ti_iadd (ti_putfI 6 3 (ti_aload 0 (ti_getf 6 0 (ti_aload 0 (ti_getf 6 2 (ti_cald k))))))))))) 85 := tg_seq (si_aload_n (i := 0) dX7_toNextToken_66 rfl) (tg_seq (si_dup dX7_toNextToken_67) (tg_seq (si_getf (ci := 6) (f := 3) clX7 (Nat.le_of_ble_eq_true rfl) rfl flX7_22 dX7_toNextToken_68) (tg_seq (si_iconst (v := 1) dX7_toNextToken_71 (by decide)) (tg_seq (si_iadd dX7_toNextToken_72) (tg_seq (si_putfI (ci := 6) (f := 3) (ty := .int) clX7 tyX7_ok nmX7 (Nat.le_of_ble_eq_true rfl) rfl (by decide +kernel) (fun _ _ => ⟨rfl, rfl⟩) flX7_22 dX7_toNextToken_73) (tg_seq (si_aload_n (i := 0) dX7_toNextToken_76 rfl) (tg_seq (si_getf (ci := 6) (f := 0) clX7 (Nat.le_of_ble_eq_true rfl) rfl flX7_9 dX7_toNextToken_77) (tg_seq (si_aload_n (i := 0) dX7_toNextToken_80 rfl) (tg_seq (si_getf (ci := 6) (f := 2) clX7 (Nat.le_of_ble_eq_true rfl) rfl flX7_19 dX7_toNextToken_81) (si_cald dX7_toNextToken_84))))))))))
theorem bX7_toNextToken_91 : tg_Snd mX7_toNextToken 91 (fun k => ti_aload 0 (ti_getf 6 3 (ti_aload 0 (ti_getf 6 1 k)))) 99 := tg_seq (si_aload_n (i := 0) dX7_toNextToken_91 rfl) (tg_seq (si_getf (ci := 6) (f := 3) clX7 (Nat.le_of_ble_eq_true rfl) rfl flX7_22 dX7_toNextToken_92) (tg_seq (si_aload_n (i := 0) dX7_toNextToken_95 rfl) (si_getf (ci := 6) (f := 1) clX7 (Nat.le_of_ble_eq_true rfl) rfl flX7_15 dX7_toNextToken_96)))
theorem bX7_toNextToken_102 : tg_Snd mX7_toNextToken 102 (fun k => ti_aload 0 (ti_getf 6 0 (ti_aload 0 (ti_getf 6 3 (ti_cald k))))) 111 := tg_seq (si_aload_n (i := 0) dX7_toNextToken_102 rfl) (tg_seq (si_getf (ci := 6) (f := 0) clX7 (Nat.le_of_ble_eq_true rfl) rfl flX7_9 dX7_toNextToken_103) (tg_seq (si_aload_n (i := 0) dX7_toNextToken_106 rfl) (tg_seq (si_getf (ci := 6) (f := 3) clX7 (Nat.le_of_ble_eq_true rfl) rfl flX7_22 dX7_toNextToken_107) (si_cald dX7_toNextToken_110))))
theorem bX7_toNextToken_117 : tg_Snd mX7_toNextToken 117 (fun k => ti_aload 0 (ti_dup (ti_getf 6 3 (ti_push (.int 1) (ti_iadd (ti_putfI 6 3 k)))))) 127 := tg_seq (si_aload_n (i := 0) dX7_toNextToken_117 rfl) (tg_seq (si_dup dX7_toNextToken_118) (tg_seq (si_getf (ci := 6) (f := 3) clX7 (Nat.le_of_ble_eq_true rfl) rfl flX7_22 dX7_toNextToken_119) (tg_seq (si_iconst (v := 1) dX7_toNextToken_122 (by decide)) (tg_seq (si_iadd dX7_toNextToken_123) (si_putfI (ci := 6) (f := 3) (ty := .int) clX7 tyX7_ok nmX7 (Nat.le_of_ble_eq_true rfl) rfl (by decide +kernel) (fun _ _ => ⟨rfl, rfl⟩) flX7_22 dX7_toNextToken_124)))))
theorem bX7_toNextToken_130 : tg_Snd mX7_toNextToken 130 (fun k => ti_aload 0 (ti_getf 6 0 (ti_aload 0 (ti_getf 6 2 (ti_cald k))))) 139 := tg_seq (si_aload_n (i := 0) dX7_toNextToken_130 rfl) (tg_seq (si_getf (ci := 6) (f := 0) clX7 (Nat.le_of_ble_eq_true rfl) rfl flX7_9 dX7_toNextToken_131) (tg_seq (si_aload_n (i := 0) dX7_toNextToken_134 rfl) (tg_seq (si_getf (ci := 6) (f := 2) clX7 (Nat.le_of_ble_eq_true rfl) rfl flX7_19 dX7_toNextToken_135) (si_cald dX7_toNextToken_138))))
theorem bX7_toNextToken_145 : tg_Snd mX7_toNextToken 145 (fun k => ti_aload 0 (ti_getf 6 3 (ti_aload 0 (ti_getf 6 1 k)))) 153 := tg_seq (si_aload_n (i := 0) dX7_toNextToken_145 rfl) (tg_seq (si_getf (ci := 6) (f := 3) clX7 (Nat.le_of_ble_eq_true rfl) rfl flX7_22 dX7_toNextToken_146) (tg_seq (si_aload_n (i := 0) dX7_toNextToken_149 rfl) (si_getf (ci := 6) (f := 1) clX7 (Nat.le_of_ble_eq_true rfl) rfl flX7_15 dX7_toNextToken_150)))
theorem bX7_toNextToken_156 : tg_Snd mX7_toNextToken 156 (fun k => ti_aload 0 (ti_getf 6 0 (ti_aload 0 (ti_getf 6 3 (ti_cald k))))) 165 := tg_seq (si_aload_n (i := 0) dX7_toNextToken_156 rfl) (tg_seq (si_getf (ci := 6) (f := 0) clX7 (Nat.le_of_ble_eq_true rfl) rfl flX7_9 dX7_toNextToken_157) (tg_seq (si_aload_n (i := 0) dX7_toNextToken_160 rfl) (tg_seq (si_getf (ci := 6) (f := 3) clX7 (Nat.le_of_ble_eq_true rfl) rfl flX7_22 dX7_toNextToken_161) (si_cald dX7_toNextToken_164))))
theorem bX7_toNextToken_171 : tg_Snd mX7_toNextToken 171 (fun k => ti_aload 0 (ti_dup (ti_getf 6 3 (ti_push (.int 1) (ti_iadd (ti_putfI 6 3 k)))))) 181 := tg_seq (si_aload_n (i := 0) dX7_toNextToken_171 rfl) (tg_seq (si_dup dX7_toNextToken_172) (tg_seq (si_getf (ci := 6) (f := 3) clX7 (Nat.le_of_ble_eq_true rfl) rfl flX7_22 dX7_toNextToken_173) (tg_seq (si_iconst (v := 1) dX7_toNextToken_176 (by decide)) (tg_seq (si_iadd dX7_toNextToken_177) (si_putfI (ci := 6) (f := 3) (ty := .int) clX7 tyX7_ok nmX7 (Nat.le_of_ble_eq_true rfl) rfl (by decide +kernel) (fun _ _ => ⟨rfl, rfl⟩) flX7_22 dX7_toNextToken_178)))))
theorem vX7_toNextToken_85 : tg_SS0 mX7_toNextToken 85 mX7_isSmall 1 := ⟨okX7_isSmall, ⟨25, dX7_toNextToken_85, mlX7_25⟩, staX7_isSmall, parX7_isSmall, rfl, rfl, Nat.le_of_ble_eq_true rfl, Nat.le_of_ble_eq_true rfl⟩
theorem vX7_toNextToken_111 : tg_SS0 mX7_toNextToken 111 mX7_isSmall 1 := ⟨okX7_isSmall, ⟨25, dX7_toNextToken_111, mlX7_25⟩, staX7_isSmall, parX7_isSmall, rfl, rfl, Nat.le_of_ble_eq_true rfl, Nat.le_of_ble_eq_true rfl⟩
theorem vX7_toNextToken_139 : tg_SS0 mX7_toNextToken 139 mX7_isDigit 1 := ⟨okX7_isDigit, ⟨29, dX7_toNextToken_139, mlX7_29⟩, staX7_isDigit, parX7_isDigit, rfl, rfl, Nat.le_of_ble_eq_true rfl, Nat.le_of_ble_eq_true rfl⟩
theorem vX7_toNextToken_165 : tg_SS0 mX7_toNextToken 165 mX7_isDigit 1 := ⟨okX7_isDigit, ⟨29, dX7_toNextToken_165, mlX7_29⟩, staX7_isDigit, parX7_isDigit, rfl, rfl, Nat.le_of_ble_eq_true rfl, Nat.le_of_ble_eq_true rfl⟩
theorem dX7_isAtEnd_0 : decode cX7_isAtEnd 0 = .ok (.aload_n 0, 1) := by decide +kernel
theorem dX7_isAtEnd_1 : decode cX7_isAtEnd 1 = .ok (.getfield 19, 3) := by decide +kernel
theorem dX7_isAtEnd_4 : decode cX7_isAtEnd 4 = .ok (.aload_n 0, 1) := by decide +kernel
theorem dX7_isAtEnd_5 : decode cX7_isAtEnd 5 = .ok (.getfield 15, 3) := by decide +kernel
theorem dX7_isAtEnd_8 : decode cX7_isAtEnd 8 = .ok (.if_icmp .lt 7, 3) := by decide +kernel
theorem dX7_isAtEnd_11 : decode cX7_isAtEnd 11 = .ok (.iconst 1, 1) := by decide +kernel
theorem dX7_isAtEnd_12 : decode cX7_isAtEnd 12 = .ok (.goto 4, 3) := by decide +kernel
theorem dX7_isAtEnd_15 : decode cX7_isAtEnd 15 = .ok (.iconst 0, 1) := by decide +kernel
theorem dX7_isAtEnd_16 : decode cX7_isAtEnd 16 = .ok (.ireturn, 1) := by decide +kernel
theorem bX7_isAtEnd_0 : tg_Snd mX7_isAtEnd 0 (fun k => ti_aload 0 (ti_getf 6 2 (ti_aload 0 (ti_getf 6 1 k)))) 8 := tg_seq (si_aload_n (i := 0) dX7_isAtEnd_0 rfl) (tg_seq (si_getf (ci := 6) (f := 2) clX7 (Nat.le_of_ble_eq_true rfl) rfl flX7_19 dX7_isAtEnd_1) (tg_seq (si_aload_n (i := 0) dX7_isAtEnd_4 rfl) (si_getf (ci := 6) (f := 1) clX7 (Nat.le_of_ble_eq_true rfl) rfl flX7_15 dX7_isAtEnd_5)))
theorem bX7_isAtEnd_11 : tg_Snd mX7_isAtEnd 11 (fun k => ti_push (.int 1) k) 12 := si_iconst (v := 1) dX7_isAtEnd_11 (by decide)
theorem bX7_isAtEnd_15 : tg_Snd mX7_isAtEnd 15 (fun k => ti_push (.int 0) k) 16 := si_iconst (v := 0) dX7_isAtEnd_15 (by decide)
theorem dX7_isToken_0 : decode cX7_isToken 0 = .ok (.aload_n 0, 1) := by decide +kernel
theorem dX7_isToken_1 : decode cX7_isToken 1 = .ok (.getfield 22, 3) := by decide +kernel
theorem dX7_isToken_4 : decode cX7_isToken 4 = .ok (.aload_n 0, 1) := by decide +kernel
theorem dX7_isToken_5 : decode cX7_isToken 5 = .ok (.getfield 19, 3) := by decide +kernel
theorem dX7_isToken_8 : decode cX7_isToken 8 = .ok (.isub, 1) := by decide +kernel
theorem dX7_isToken_9 : decode cX7_isToken 9 = .ok (.aload_n 1, 1) := by decide +kernel
theorem dX7_isToken_10 : decode cX7_isToken 10 = .ok (.invokevirtual 32, 3) := by decide +kernel
theorem dX7_isToken_13 : decode cX7_isToken 13 = .ok (.if_icmp .eq 5, 3) := by decide +kernel
theorem dX7_isToken_16 : decode cX7_isToken 16 = .ok (.iconst 0, 1) := by decide +kernel
theorem dX7_isToken_17 : decode cX7_isToken 17 = .ok (.ireturn, 1) := by decide +kernel
theorem dX7_isToken_18 : decode cX7_isToken 18 = .ok (.iconst 0, 1) := by decide +kernel
theorem dX7_isToken_19 : decode cX7_isToken 19 = .ok (.istore_n 2, 1) := by decide +kernel
theorem dX7_isToken_20 : decode cX7_isToken 20 = .ok (.iload_n 2, 1) := by decide +kernel
theorem dX7_isToken_21 : decode cX7_isToken 21 = .ok (.aload_n 1, 1) := by decide +kernel
theorem dX7_isToken_22 : decode cX7_isToken 22 = .ok (.invokevirtual 32, 3) := by decide +kernel
theorem dX7_isToken_25 : decode cX7_isToken 25 = .ok (.if_icmp .ge 43, 3) := by decide +kernel
theorem dX7_isToken_28 : decode cX7_isToken 28 = .ok (.aload_n 0, 1) := by decide +kernel
theorem dX7_isToken_29 : decode cX7_isToken 29 = .ok (.getfield 19, 3) := by decide +kernel
theorem dX7_isToken_32 : decode cX7_isToken 32 = .ok (.iload_n 2, 1) := by decide +kernel
theorem dX7_isToken_33 : decode cX7_isToken 33 = .ok (.iadd, 1) := by decide +kernel
theorem dX7_isToken_34 : decode cX7_isToken 34 = .ok (.aload_n 0, 1) := by decide +kernel
theorem dX7_isToken_35 : decode cX7_isToken 35 = .ok (.getfield 15, 3) := by decide +kernel
theorem dX7_isToken_38 : decode cX7_isToken 38 = .ok (.if_icmp .ge 30, 3) := by decide +kernel
theorem dX7_isToken_41 : decode cX7_isToken 41 = .ok (.aload_n 0, 1) := by decide +kernel
theorem dX7_isToken_42 : decode cX7_isToken 42 = .ok (.getfield 9, 3) := by decide +kernel
theorem dX7_isToken_45 : decode cX7_isToken 45 = .ok (.aload_n 0, 1) := by decide +kernel
theorem dX7_isToken_46 : decode cX7_isToken 46 = .ok (.getfield 19, 3) := by decide +kernel
theorem dX7_isToken_49 : decode cX7_isToken 49 = .ok (.iload_n 2, 1) := by decide +kernel
theorem dX7_isToken_50 : decode cX7_isToken 50 = .ok (.iadd, 1) := by decide +kernel
theorem dX7_isToken_51 : decode cX7_isToken 51 = .ok (.caload, 1) := by decide +kernel
theorem dX7_isToken_52 : decode cX7_isToken 52 = .ok (.aload_n 1, 1) := by decide +kernel
theorem dX7_isToken_53 : decode cX7_isToken 53 = .ok (.iload_n 2, 1) := by decide +kernel
theorem dX7_isToken_54 : decode cX7_isToken 54 = .ok (.invokevirtual 37, 3) := by decide +kernel
theorem dX7_isToken_57 : decode cX7_isToken 57 = .ok (.if_icmp .eq 5, 3) := by decide +kernel
theorem dX7_isToken_60 : decode cX7_isToken 60 = .ok (.iconst 0, 1) := by decide +kernel
theorem dX7_isToken_61 : decode cX7_isToken 61 = .ok (.ireturn, 1) := by decide +kernel
theorem dX7_isToken_62 : decode cX7_isToken 62 = .ok (.iinc 2 1, 3) := by decide +kernel
theorem dX7_isToken_65 : decode cX7_isToken 65 = .ok (.goto (-45), 3) := by decide +kernel
theorem dX7_isToken_68 : decode cX7_isToken 68 = .ok (.iconst 1, 1) := by decide +kernel
theorem dX7_isToken_69 : decode cX7_isToken 69 = .ok (.ireturn, 1) := by decide +kernel
theorem bX7_isToken_0 : tg_Snd mX7_isToken 0 (fun k => ti_aload 0 (ti_getf 6 3 (ti_aload 0 (ti_getf 6 2 (ti_isub (ti_aload 1 k)))))) 10 := tg_seq (si_aload_n (i := 0) dX7_isToken_0 rfl) (tg_seq (si_getf (ci := 6) (f := 3) clX7 (Nat.le_of_ble_eq_true rfl) rfl flX7_22 dX7_isToken_1) (tg_seq (si_aload_n (i := 0) dX7_isToken_4 rfl) (tg_seq (si_getf (ci := 6) (f := 2) clX7 (Nat.le_of_ble_eq_true rfl) rfl flX7_19 dX7_isToken_5) (tg_seq (si_isub dX7_isToken_8) (si_aload_n (i := 1) dX7_isToken_9 rfl)))))
theorem bX7_isToken_16 : tg_Snd mX7_isToken 16 (fun k => ti_push (.int 0) k) 17 := si_iconst (v := 0) dX7_isToken_16 (by decide)
theorem bX7_isToken_18 : tg_Snd mX7_isToken 18 (fun k => ti_push (.int 0) (ti_istore 2 k)) 20 := tg_seq (si_iconst (v := 0) dX7_isToken_18 (by decide)) (si_istore_n (i := 2) dX7_isToken_19 rfl (Nat.le_of_ble_eq_true rfl))
theorem bX7_isToken_20 : tg_Snd mX7_isToken 20 (fun k => ti_iload 2 (ti_aload 1 k)) 22 := tg_seq (si_iload_n (i := 2) dX7_isToken_20 rfl) (si_aload_n (i := 1) dX7_isToken_21 rfl)
theorem bX7_isToken_28 : tg_Snd mX7_isToken 28 (fun k => ti_aload 0 (ti_getf 6 2 (ti_iload 2 (ti_iadd (ti_aload 0 (ti_getf 6 1 k)))))) 38 := tg_seq (si_aload_n (i := 0) dX7_isToken_28 rfl) (tg_seq (si_getf (ci := 6) (f := 2) clX7 (Nat.le_of_ble_eq_true rfl) rfl flX7_19 dX7_isToken_29) (tg_seq (si_iload_n (i := 2) dX7_isToken_32 rfl) (tg_seq (si_iadd dX7_isToken_33) (tg_seq (si_aload_n (i := 0) dX7_isToken_34 rfl) (si_getf (ci := 6) (f := 1) clX7 (Nat.le_of_ble_eq_true rfl) rfl flX7_15 dX7_isToken_35)))))
theorem bX7_isToken_41 : tg_Snd mX7_isToken 41 (fun k => ti_aload 0 (ti_getf 6 0 (ti_aload 0 (ti_getf 6 2 (ti_iload 2 (ti_iadd (ti_cald (ti_aload 1 (ti_iload 2 k))))))))) 54 := tg_seq (si_aload_n (i := 0) dX7_isToken_41 rfl) (tg_seq (si_getf (ci := 6) (f := 0) clX7 (Nat.le_of_ble_eq_true rfl) rfl flX7_9 dX7_isToken_42) (tg_seq (si_aload_n (i := 0) dX7_isToken_45 rfl) (tg_seq (si_getf (ci := 6) (f := 2) clX7 (Nat.le_of_ble_eq_true rfl) rfl flX7_19 dX7_isToken_46) (tg_seq (si_iload_n (i := 2) dX7_isToken_49 rfl) (tg_seq (si_iadd dX7_isToken_50) (tg_seq (si_cald dX7_isToken_51) (tg_seq (si_aload_n (i := 1) dX7_isToken_52 rfl) (si_iload_n (i := 2) dX7_isToken_53 rfl))))))))
theorem bX7_isToken_60 : tg_Snd mX7_isToken 60 (fun k => ti_push (.int 0) k) 61 := si_iconst (v := 0) dX7_isToken_60 (by decide)
theorem bX7_isToken_62 : tg_Snd mX7_isToken 62 (fun k => ti_iinc 2 1 k) 65 := si_iinc (v := 1) dX7_isToken_62 (by decide) (Nat.le_of_ble_eq_true rfl)
theorem bX7_isToken_68 : tg_Snd mX7_isToken 68 (fun k => ti_push (.int 1) k) 69 := si_iconst (v := 1) dX7_isToken_68 (by decide)
theorem dX7_numberWithin_0 : decode cX7_numberWithin 0 = .ok (.aload_n 0, 1) := by decide +kernel
theorem dX7_numberWithin_1 : decode cX7_numberWithin 1 = .ok (.invokevirtual 41, 3) := by decide +kernel
theorem dX7_numberWithin_4 : decode cX7_numberWithin 4 = .ok (.ifCond .ne 31, 3) := by decide +kernel
theorem dX7_numberWithin_7 : decode cX7_numberWithin 7 = .ok (.aload_n 0, 1) := by decide +kernel
theorem dX7_numberWithin_8 : decode cX7_numberWithin 8 = .ok (.getfield 9, 3) := by decide +kernel
theorem dX7_numberWithin_11 : decode cX7_numberWithin 11 = .ok (.aload_n 0, 1) := by decide +kernel
theorem dX7_numberWithin_12 : decode cX7_numberWithin 12 = .ok (.getfield 19, 3) := by decide +kernel
theorem dX7_numberWithin_15 : decode cX7_numberWithin 15 = .ok (.caload, 1) := by decide +kernel
theorem dX7_numberWithin_16 : decode cX7_numberWithin 16 = .ok (.invokestatic 29, 3) := by decide +kernel
theorem dX7_numberWithin_19 : decode cX7_numberWithin 19 = .ok (.ifCond .eq 16, 3) := by decide +kernel
theorem dX7_numberWithin_22 : decode cX7_numberWithin 22 = .ok (.aload_n 0, 1) := by decide +kernel
theorem dX7_numberWithin_23 : decode cX7_numberWithin 23 = .ok (.getfield 22, 3) := by decide +kernel
theorem dX7_numberWithin_26 : decode cX7_numberWithin 26 = .ok (.aload_n 0, 1) := by decide +kernel
theorem dX7_numberWithin_27 : decode cX7_numberWithin 27 = .ok (.getfield 19, 3) := by decide +kernel
theorem dX7_numberWithin_30 : decode cX7_numberWithin 30 = .ok (.isub, 1) := by decide +kernel
theorem dX7_numberWithin_31 : decode cX7_numberWithin 31 = .ok (.iconst 2, 1) := by decide +kernel
theorem dX7_numberWithin_32 : decode cX7_numberWithin 32 = .ok (.if_icmp .le 5, 3) := by decide +kernel
theorem dX7_numberWithin_35 : decode cX7_numberWithin 35 = .ok (.iconst (-1), 1) := by decide +kernel
theorem dX7_numberWithin_36 : decode cX7_numberWithin 36 = .ok (.ireturn, 1) := by decide +kernel
theorem dX7_numberWithin_37 : decode cX7_numberWithin 37 = .ok (.iconst 0, 1) := by decide +kernel
theorem dX7_numberWithin_38 : decode cX7_numberWithin 38 = .ok (.istore_n 3, 1) := by decide +kernel
theorem dX7_numberWithin_39 : decode cX7_numberWithin 39 = .ok (.aload_n 0, 1) := by decide +kernel
theorem dX7_numberWithin_40 : decode cX7_numberWithin 40 = .ok (.getfield 19, 3) := by decide +kernel
theorem dX7_numberWithin_43 : decode cX7_numberWithin 43 = .ok (.istore 4, 2) := by decide +kernel
theorem dX7_numberWithin_45 : decode cX7_numberWithin 45 = .ok (.iload 4, 2) := by decide +kernel
theorem dX7_numberWithin_47 : decode cX7_numberWithin 47 = .ok (.aload_n 0, 1) := by decide +kernel
theorem dX7_numberWithin_48 : decode cX7_numberWithin 48 = .ok (.getfield 22, 3) := by decide +kernel
theorem dX7_numberWithin_51 : decode cX7_numberWithin 51 = .ok (.if_icmp .ge 34, 3) := by decide +kernel
theorem dX7_numberWithin_54 : decode cX7_numberWithin 54 = .ok (.iload 4, 2) := by decide +kernel
theorem dX7_numberWithin_56 : decode cX7_numberWithin 56 = .ok (.aload_n 0, 1) := by decide +kernel
theorem dX7_numberWithin_57 : decode cX7_numberWithin 57 = .ok (.getfield 15, 3) := by decide +kernel
theorem dX7_numberWithin_60 : decode cX7_numberWithin 60 = .ok (.if_icmp .ge 25, 3) := by decide +kernel
theorem dX7_numberWithin_63 : decode cX7_numberWithin 63 = .ok (.iload_n 3, 1) := by decide +kernel
theorem dX7_numberWithin_64 : decode cX7_numberWithin 64 = .ok (.bipush 10, 2) := by decide +kernel
theorem dX7_numberWithin_66 : decode cX7_numberWithin 66 = .ok (.imul, 1) := by decide +kernel
theorem dX7_numberWithin_67 : decode cX7_numberWithin 67 = .ok (.aload_n 0, 1) := by decide +kernel
theorem dX7_numberWithin_68 : decode cX7_numberWithin 68 = .ok (.getfield 9, 3) := by decide +kernel
theorem dX7_numberWithin_71 : decode cX7_numberWithin 71 = .ok (.iload 4, 2) := by decide +kernel
theorem dX7_numberWithin_73 : decode cX7_numberWithin 73 = .ok (.caload, 1) := by decide +kernel
theorem dX7_numberWithin_74 : decode cX7_numberWithin 74 = .ok (.iadd, 1) := by decide +kernel
theorem dX7_numberWithin_75 : decode cX7_numberWithin 75 = .ok (.bipush 48, 2) := by decide +kernel
theorem dX7_numberWithin_77 : decode cX7_numberWithin 77 = .ok (.isub, 1) := by decide +kernel
theorem dX7_numberWithin_78 : decode cX7_numberWithin 78 = .ok (.istore_n 3, 1) := by decide +kernel
theorem dX7_numberWithin_79 : decode cX7_numberWithin 79 = .ok (.iinc 4 1, 3) := by decide +kernel
theorem dX7_numberWithin_82 : decode cX7_numberWithin 82 = .ok (.goto (-37), 3) := by decide +kernel
theorem dX7_numberWithin_85 : decode cX7_numberWithin 85 = .ok (.iload_n 3, 1) := by decide +kernel
theorem dX7_numberWithin_86 : decode cX7_numberWithin 86 = .ok (.iload_n 1, 1) := by decide +kernel
theorem dX7_numberWithin_87 : decode cX7_numberWithin 87 = .ok (.if_icmp .lt 12, 3) := by decide +kernel
theorem dX7_numberWithin_90 : decode cX7_numberWithin 90 = .ok (.iload_n 3, 1) := by decide +kernel
theorem dX7_numberWithin_91 : decode cX7_numberWithin 91 = .ok (.iload_n 2, 1) := by decide +kernel
theorem dX7_numberWithin_92 : decode cX7_numberWithin 92 = .ok (.if_icmp .gt 7, 3) := by decide +kernel
theorem dX7_numberWithin_95 : decode cX7_numberWithin 95 = .ok (.iload_n 3, 1) := by decide +kernel
theorem dX7_numberWithin_96 : decode cX7_numberWithin 96 = .ok (.goto 4, 3) := by decide +kernel
theorem dX7_numberWithin_99 : decode cX7_numberWithin 99 = .ok (.iconst (-1), 1) := by decide +kernel
theorem dX7_numberWithin_100 : decode cX7_numberWithin 100 = .ok (.ireturn, 1) := by decide +kernel
theorem bX7_numberWithin_0 : tg_Snd mX7_numberWithin 0 (fun k => ti_aload 0 k) 1 := si_aload_n (i := 0) dX7_numberWithin_0 rfl
theorem bX7_numberWithin_7 : tg_Snd mX7_numberWithin 7 (fun k => ti_aload 0 (ti_getf 6 0 (ti_aload 0 (ti_getf 6 2 (ti_cald k))))) 16 := tg_seq (si_aload_n (i := 0) dX7_numberWithin_7 rfl) (tg_seq (si_getf (ci := 6) (f := 0) clX7 (Nat.le_of_ble_eq_true rfl) rfl flX7_9 dX7_numberWithin_8) (tg_seq (si_aload_n (i := 0) dX7_numberWithin_11 rfl) (tg_seq (si_getf (ci := 6) (f := 2) clX7 (Nat.le_of_ble_eq_true rfl) rfl flX7_19 dX7_numberWithin_12) (si_cald dX7_numberWithin_15))))
theorem bX7_numberWithin_22 : tg_Snd mX7_numberWithin 22 (fun k => ti_aload 0 (ti_getf 6 3 (ti_aload 0 (ti_getf 6 2 (ti_isub (ti_push (.int 2) k)))))) 32 := tg_seq (si_aload_n (i := 0) dX7_numberWithin_22 rfl) (tg_seq (si_getf (ci := 6) (f := 3) clX7 (Nat.le_of_ble_eq_true rfl) rfl flX7_22 dX7_numberWithin_23) (tg_seq (si_aload_n (i := 0) dX7_numberWithin_26 rfl) (tg_seq (si_getf (ci := 6) (f := 2) clX7 (Nat.le_of_ble_eq_true rfl) rfl flX7_19 dX7_numberWithin_27) (tg_seq (si_isub dX7_numberWithin_30) (si_iconst (v := 2) dX7_numberWithin_31 (by decide))))))
theorem bX7_numberWithin_35 : tg_Snd mX7_numberWithin 35 (fun k => ti_push (.int (-1)) k) 36 := si_iconst (v := -1) dX7_numberWithin_35 (by decide)
theorem bX7_numberWithin_37 : tg_Snd mX7_numberWithin 37 (fun k => ti_push (.int 0) (ti_istore 3 (ti_aload 0 (ti_getf 6 2 (ti_istore 4 k))))) 45 := tg_seq (si_iconst (v := 0) dX7_numberWithin_37 (by decide)) (tg_seq (si_istore_n (i := 3) dX7_numberWithin_38 rfl (Nat.le_of_ble_eq_true rfl)) (tg_seq (si_aload_n (i := 0) dX7_numberWithin_39 rfl) (tg_seq (si_getf (ci := 6) (f := 2) clX7 (Nat.le_of_ble_eq_true rfl) rfl flX7_19 dX7_numberWithin_40) (si_istore (i := 4) dX7_numberWithin_43 (Nat.le_of_ble_eq_true rfl)))))
theorem bX7_numberWithin_45 : tg_Snd mX7_numberWithin 45 (fun k => ti_iload 4 (ti_aload 0 (ti_getf 6 3 k))) 51 := tg_seq (si_iload (i := 4) dX7_numberWithin_45) (tg_seq (si_aload_n (i := 0) dX7_numberWithin_47 rfl) (si_getf (ci := 6) (f := 3) clX7 (Nat.le_of_ble_eq_true rfl) rfl flX7_22 dX7_numberWithin_48))
theorem bX7_numberWithin_54 : tg_Snd mX7_numberWithin 54 (fun k => ti_iload 4 (ti_aload 0 (ti_getf 6 1 k))) 60 := tg_seq (si_iload (i := 4) dX7_numberWithin_54) (tg_seq (si_aload_n (i := 0) dX7_numberWithin_56 rfl) (si_getf (ci := 6) (f := 1) clX7 (Nat.le_of_ble_eq_true rfl) rfl flX7_15 dX7_numberWithin_57))
theorem bX7_numberWithin_63 : tg_Snd mX7_numberWithin 63 (fun k => ti_iload 3 (ti_push (.int 10) (ti_imul (ti_aload 0 (ti_getf 6 0 (ti_iload 4 (ti_cald (ti_iadd (ti_push (.int 48) (ti_isub (ti_istore 3 (ti_iinc 4 1 k)))))))))))) 82 := tg_seq (si_iload_n (i := 3) dX7_numberWithin_63 rfl) (tg_seq (si_bipush (v := 10) dX7_numberWithin_64 (by decide)) (tg_seq (si_imul dX7_numberWithin_66) (tg_seq (si_aload_n (i := 0) dX7_numberWithin_67 rfl) (tg_seq (si_getf (ci := 6) (f := 0) clX7 (Nat.le_of_ble_eq_true rfl) rfl flX7_9 dX7_numberWithin_68) (tg_seq (si_iload (i := 4) dX7_numberWithin_71) (tg_seq (si_cald dX7_numberWithin_73) (tg_seq (si_iadd dX7_numberWithin_74) (tg_seq (si_bipush (v := 48) dX7_numberWithin_75 (by decide)) (tg_seq (si_isub dX7_numberWithin_77) (tg_seq (si_istore_n (i := 3) dX7_numberWithin_78 rfl (Nat.le_of_ble_eq_true rfl)) (si_iinc (v := 1) dX7_numberWithin_79 (by decide) (Nat.le_of_ble_eq_true rfl))))))))))))
theorem bX7_numberWithin_85 : tg_Snd mX7_numberWithin 85 (fun k => ti_iload 3 (ti_iload 1 k)) 87 := tg_seq (si_iload_n (i := 3) dX7_numberWithin_85 rfl) (si_iload_n (i := 1) dX7_numberWithin_86 rfl)
theorem bX7_numberWithin_90 : tg_Snd mX7_numberWithin 90 (fun k => ti_iload 3 (ti_iload 2 k)) 92 := tg_seq (si_iload_n (i := 3) dX7_numberWithin_90 rfl) (si_iload_n (i := 2) dX7_numberWithin_91 rfl)
theorem bX7_numberWithin_95 : tg_Snd mX7_numberWithin 95 (fun k => ti_iload 3 k) 96 := si_iload_n (i := 3) dX7_numberWithin_95 rfl
theorem bX7_numberWithin_99 : tg_Snd mX7_numberWithin 99 (fun k => ti_push (.int (-1)) k) 100 := si_iconst (v := -1) dX7_numberWithin_99 (by decide)
theorem vX7_numberWithin_1 : tg_VS mX7_numberWithin 1 mX7_isAtEnd 0 := ⟨okX7_isAtEnd, ⟨41, dX7_numberWithin_1, mlX7_41⟩, insX7_isAtEnd, selX7_isAtEnd, parX7_isAtEnd, rfl, rfl, Nat.le_of_ble_eq_true rfl, Nat.le_of_ble_eq_true rfl⟩
theorem vX7_numberWithin_16 : tg_SS0 mX7_numberWithin 16 mX7_isDigit 1 := ⟨okX7_isDigit, ⟨29, dX7_numberWithin_16, mlX7_29⟩, staX7_isDigit, parX7_isDigit, rfl, rfl, Nat.le_of_ble_eq_true rfl, Nat.le_of_ble_eq_true rfl⟩
theorem dX7_isSmall_0 : decode cX7_isSmall 0 = .ok (.iload_n 0, 1) := by decide +kernel
theorem dX7_isSmall_1 : decode cX7_isSmall 1 = .ok (.bipush 97, 2) := by decide +kernel
theorem dX7_isSmall_3 : decode cX7_isSmall 3 = .ok (.if_icmp .lt 13, 3) := by decide +kernel
theorem dX7_isSmall_6 : decode cX7_isSmall 6 = .ok (.iload_n 0, 1) := by decide +kernel
theorem dX7_isSmall_7 : decode cX7_isSmall 7 = .ok (.bipush 122, 2) := by decide +kernel
theorem dX7_isSmall_9 : decode cX7_isSmall 9 = .ok (.if_icmp .gt 7, 3) := by decide +kernel
theorem dX7_isSmall_12 : decode cX7_isSmall 12 = .ok (.iconst 1, 1) := by decide +kernel
theorem dX7_isSmall_13 : decode cX7_isSmall 13 = .ok (.goto 4, 3) := by decide +kernel
theorem dX7_isSmall_16 : decode cX7_isSmall 16 = .ok (.iconst 0, 1) := by decide +kernel
theorem dX7_isSmall_17 : decode cX7_isSmall 17 = .ok (.ireturn, 1) := by decide +kernel
theorem bX7_isSmall_0 : tg_Snd mX7_isSmall 0 (fun k => ti_iload 0 (ti_push (.int 97) k)) 3 := tg_seq (si_iload_n (i := 0) dX7_isSmall_0 rfl) (si_bipush (v := 97) dX7_isSmall_1 (by decide))
theorem bX7_isSmall_6 : tg_Snd mX7_isSmall 6 (fun k => ti_iload 0 (ti_push (.int 122) k)) 9 := tg_seq (si_iload_n (i := 0) dX7_isSmall_6 rfl) (si_bipush (v := 122) dX7_isSmall_7 (by decide))
theorem bX7_isSmall_12 : tg_Snd mX7_isSmall 12 (fun k => ti_push (.int 1) k) 13 := si_iconst (v := 1) dX7_isSmall_12 (by decide)
theorem bX7_isSmall_16 : tg_Snd mX7_isSmall 16 (fun k => ti_push (.int 0) k) 17 := si_iconst (v := 0) dX7_isSmall_16 (by decide)
theorem dX7_isDigit_0 : decode cX7_isDigit 0 = .ok (.iload_n 0, 1) := by decide +kernel
theorem dX7_isDigit_1 : decode cX7_isDigit 1 = .ok (.bipush 48, 2) := by decide +kernel
theorem dX7_isDigit_3 : decode cX7_isDigit 3 = .ok (.if_icmp .lt 13, 3) := by decide +kernel
theorem dX7_isDigit_6 : decode cX7_isDigit 6 = .ok (.iload_n 0, 1) := by decide +kernel
theorem dX7_isDigit_7 : decode cX7_isDigit 7 = .ok (.bipush 57, 2) := by decide +kernel
theorem dX7_isDigit_9 : decode cX7_isDigit 9 = .ok (.if_icmp .gt 7, 3) := by decide +kernel
theorem dX7_isDigit_12 : decode cX7_isDigit 12 = .ok (.iconst 1, 1) := by decide +kernel
theorem dX7_isDigit_13 : decode cX7_isDigit 13 = .ok (.goto 4, 3) := by decide +kernel
theorem dX7_isDigit_16 : decode cX7_isDigit 16 = .ok (.iconst 0, 1) := by decide +kernel
theorem dX7_isDigit_17 : decode cX7_isDigit 17 = .ok (.ireturn, 1) := by decide +kernel
theorem bX7_isDigit_0 : tg_Snd mX7_isDigit 0 (fun k => ti_iload 0 (ti_push (.int 48) k)) 3 := tg_seq (si_iload_n (i := 0) dX7_isDigit_0 rfl) (si_bipush (v := 48) dX7_isDigit_1 (by decide))
theorem bX7_isDigit_6 : tg_Snd mX7_isDigit 6 (fun k => ti_iload 0 (ti_push (.int 57) k)) 9 := tg_seq (si_iload_n (i := 0) dX7_isDigit_6 rfl) (si_bipush (v := 57) dX7_isDigit_7 (by decide))
theorem bX7_isDigit_12 : tg_Snd mX7_isDigit 12 (fun k => ti_push (.int 1) k) 13 := si_iconst (v := 1) dX7_isDigit_12 (by decide)
theorem bX7_isDigit_16 : tg_Snd mX7_isDigit 16 (fun k => ti_push (.int 0) k) 17 := si_iconst (v := 0) dX7_isDigit_16 (by decide)
theorem dJ6_bitCount_0f7a4_0 : decode cJ6_bitCount_0f7a4 0 = .ok (.iload_n 0, 1) := by decide +kernel
theorem dJ6_bitCount_0f7a4_1 : decode cJ6_bitCount_0f7a4 1 = .ok (.iload_n 0, 1) := by decide +kernel
theorem dJ6_bitCount_0f7a4_2 : decode cJ6_bitCount_0f7a4 2 = .ok (.iconst 1, 1) := by decide +kernel
theorem dJ6_bitCount_0f7a4_3 : decode cJ6_bitCount_0f7a4 3 = .ok (.iushr, 1) := by decide +kernel
theorem dJ6_bitCount_0f7a4_4 : decode cJ6_bitCount_0f7a4 4 = .ok (.ldc_w 265, 3) := by decide +kernel
theorem dJ6_bitCount_0f7a4_7 : decode cJ6_bitCount_0f7a4 7 = .ok (.iand, 1) := by decide +kernel
theorem dJ6_bitCount_0f7a4_8 : decode cJ6_bitCount_0f7a4 8 = .ok (.isub, 1) := by decide +kernel
theorem dJ6_bitCount_0f7a4_9 : decode cJ6_bitCount_0f7a4 9 = .ok (.istore_n 0, 1) := by decide +kernel
theorem dJ6_bitCount_0f7a4_10 : decode cJ6_bitCount_0f7a4 10 = .ok (.iload_n 0, 1) := by decide +kernel
theorem dJ6_bitCount_0f7a4_11 : decode cJ6_bitCount_0f7a4 11 = .ok (.ldc_w 266, 3) := by decide +kernel
theorem dJ6_bitCount_0f7a4_14 : decode cJ6_bitCount_0f7a4 14 = .ok (.iand, 1) := by decide +kernel
theorem dJ6_bitCount_0f7a4_15 : decode cJ6_bitCount_0f7a4 15 = .ok (.iload_n 0, 1) := by decide +kernel
theorem dJ6_bitCount_0f7a4_16 : decode cJ6_bitCount_0f7a4 16 = .ok (.iconst 2, 1) := by decide +kernel
theorem dJ6_bitCount_0f7a4_17 : decode cJ6_bitCount_0f7a4 17 = .ok (.iushr, 1) := by decide +kernel
theorem dJ6_bitCount_0f7a4_18 : decode cJ6_bitCount_0f7a4 18 = .ok (.ldc_w 266, 3) := by decide +kernel
theorem dJ6_bitCount_0f7a4_21 : decode cJ6_bitCount_0f7a4 21 = .ok (.iand, 1) := by decide +kernel
theorem dJ6_bitCount_0f7a4_22 : decode cJ6_bitCount_0f7a4 22 = .ok (.iadd, 1) := by decide +kernel
theorem dJ6_bitCount_0f7a4_23 : decode cJ6_bitCount_0f7a4 23 = .ok (.istore_n 0, 1) := by decide +kernel
theorem dJ6_bitCount_0f7a4_24 : decode cJ6_bitCount_0f7a4 24 = .ok (.iload_n 0, 1) := by decide +kernel
theorem dJ6_bitCount_0f7a4_25 : decode cJ6_bitCount_0f7a4 25 = .ok (.iload_n 0, 1) := by decide +kernel
theorem dJ6_bitCount_0f7a4_26 : decode cJ6_bitCount_0f7a4 26 = .ok (.iconst 4, 1) := by decide +kernel
theorem dJ6_bitCount_0f7a4_27 : decode cJ6_bitCount_0f7a4 27 = .ok (.iushr, 1) := by decide +kernel
theorem dJ6_bitCount_0f7a4_28 : decode cJ6_bitCount_0f7a4 28 = .ok (.iadd, 1) := by decide +kernel
theorem dJ6_bitCount_0f7a4_29 : decode cJ6_bitCount_0f7a4 29 = .ok (.ldc_w 267, 3) := by decide +kernel
theorem dJ6_bitCount_0f7a4_32 : decode cJ6_bitCount_0f7a4 32 = .ok (.iand, 1) := by decide +kernel
theorem dJ6_bitCount_0f7a4_33 : decode cJ6_bitCount_0f7a4 33 = .ok (.istore_n 0, 1) := by decide +kernel
theorem dJ6_bitCount_0f7a4_34 : decode cJ6_bitCount_0f7a4 34 = .ok (.iload_n 0, 1) := by decide +kernel
theorem dJ6_bitCount_0f7a4_35 : decode cJ6_bitCount_0f7a4 35 = .ok (.iload_n 0, 1) := by decide +kernel
theorem dJ6_bitCount_0f7a4_36 : decode cJ6_bitCount_0f7a4 36 = .ok (.bipush 8, 2) := by decide +kernel
theorem dJ6_bitCount_0f7a4_38 : decode cJ6_bitCount_0f7a4 38 = .ok (.iushr, 1) := by decide +kernel
theorem dJ6_bitCount_0f7a4_39 : decode cJ6_bitCount_0f7a4 39 = .ok (.iadd, 1) := by decide +kernel
theorem dJ6_bitCount_0f7a4_40 : decode cJ6_bitCount_0f7a4 40 = .ok (.istore_n 0, 1) := by decide +kernel
theorem dJ6_bitCount_0f7a4_41 : decode cJ6_bitCount_0f7a4 41 = .ok (.iload_n 0, 1) := by decide +kernel
theorem dJ6_bitCount_0f7a4_42 : decode cJ6_bitCount_0f7a4 42 = .ok (.iload_n 0, 1) := by decide +kernel
theorem dJ6_bitCount_0f7a4_43 : decode cJ6_bitCount_0f7a4 43 = .ok (.bipush 16, 2) := by decide +kernel
theorem dJ6_bitCount_0f7a4_45 : decode cJ6_bitCount_0f7a4 45 = .ok (.iushr, 1) := by decide +kernel
theorem dJ6_bitCount_0f7a4_46 : decode cJ6_bitCount_0f7a4 46 = .ok (.iadd, 1) := by decide +kernel
theorem dJ6_bitCount_0f7a4_47 : decode cJ6_bitCount_0f7a4 47 = .ok (.istore_n 0, 1) := by decide +kernel
theorem dJ6_bitCount_0f7a4_48 : decode cJ6_bitCount_0f7a4 48 = .ok (.iload_n 0, 1) := by decide +kernel
theorem dJ6_bitCount_0f7a4_49 : decode cJ6_bitCount_0f7a4 49 = .ok (.bipush 63, 2) := by decide +kernel
theorem dJ6_bitCount_0f7a4_51 : decode cJ6_bitCount_0f7a4 51 = .ok (.iand, 1) := by decide +kernel
theorem dJ6_bitCount_0f7a4_52 : decode cJ6_bitCount_0f7a4 52 = .ok (.ireturn, 1) := by decide +kernel
theorem bJ6_bitCount_0f7a4_0 : tg_Snd mJ6_bitCount_0f7a4 0 (fun k => ti_iload 0 (ti_iload 0 (ti_push (.int 1) (ti_iushr (ti_push (.int 1431655765) (ti_iand (ti_isub (ti_istore 0 (ti_iload 0 (ti_push (.int 858993459) (ti_iand (ti_iload 0 (ti_push (.int 2) (ti_iushr (ti_push (.int 858993459) (ti_iand (ti_iadd (ti_istore 0 (ti_iload 0 (ti_iload 0 (ti_push (.int 4) (ti_iushr (ti_iadd (ti_push (.int 252645135) (ti_iand (ti_istore 0 (ti_iload 0 (ti_iload 0 (ti_push (.int 8) (ti_iushr (ti_iadd (ti_istore 0 (ti_iload 0 (ti_iload 0 (ti_push (.int 16) (ti_iushr (ti_iadd (ti_istore 0 (ti_iload 0 (ti_push (.int 63) (ti_iand k))))))))))))))))))))))))))))))))))))))))) 52 := tg_seq (si_iload_n (i := 0) dJ6_bitCount_0f7a4_0 rfl) (tg_seq (si_iload_n (i := 0) dJ6_bitCount_0f7a4_1 rfl) (tg_seq (si_iconst (v := 1) dJ6_bitCount_0f7a4_2 (by decide)) (tg_seq (si_iushr dJ6_bitCount_0f7a4_3) (tg_seq (si_ldcw (v := 1431655765) dJ6_bitCount_0f7a4_4 kcJ6_265) (tg_seq (si_iand dJ6_bitCount_0f7a4_7) (tg_seq (si_isub dJ6_bitCount_0f7a4_8) (tg_seq (si_istore_n (i := 0) dJ6_bitCount_0f7a4_9 rfl (Nat.le_of_ble_eq_true rfl)) (tg_seq (si_iload_n (i := 0) dJ6_bitCount_0f7a4_10 rfl) (tg_seq (si_ldcw (v := 858993459) dJ6_bitCount_0f7a4_11 kcJ6_266) (tg_seq (si_iand dJ6_bitCount_0f7a4_14) (tg_seq (si_iload_n (i := 0) dJ6_bitCount_0f7a4_15 rfl) (tg_seq (si_iconst (v := 2) dJ6_bitCount_0f7a4_16 (by decide)) (tg_seq (si_iushr dJ6_bitCount_0f7a4_17) (tg_seq (si_ldcw (v := 858993459) dJ6_bitCount_0f7a4_18 kcJ6_266) (tg_seq (si_iand dJ6_bitCount_0f7a4_21) (tg_seq (si_iadd dJ6_bitCount_0f7a4_22) (tg_seq (si_istore_n (i := 0) dJ6_bitCount_0f7a4_23 rfl (Nat.le_of_ble_eq_true rfl)) (tg_seq (si_iload_n (i := 0) dJ6_bitCount_0f7a4_24 rfl) (tg_seq (si_iload_n (i := 0) dJ6_bitCount_0f7a4_25 rfl) (tg_seq (si_iconst (v := 4) dJ6_bitCount_0f7a4_26 (by decide)) (tg_seq (si_iushr dJ6_bitCount_0f7a4_27) (tg_seq (si_iadd dJ6_bitCount_0f7a4_28) (tg_seq (si_ldcw (v := 252645135) dJ6_bitCount_0f7a4_29 kcJ6_267) (tg_seq (si_iand dJ6_bitCount_0f7a4_32) (tg_seq (si_istore_n (i := 0) dJ6_bitCount_0f7a4_33 rfl (Nat.le_of_ble_eq_true rfl)) (tg_seq (si_iload_n (i := 0) dJ6_bitCount_0f7a4_34 rfl) (tg_seq (si_iload_n (i := 0) dJ6_bitCount_0f7a4_35 rfl) (tg_seq (si_bipush (v := 8) dJ6_bitCount_0f7a4_36 (by decide)) (tg_seq (si_iushr dJ6_bitCount_0f7a4_38) (tg_seq (si_iadd dJ6_bitCount_0f7a4_39) (tg_seq (si_istore_n (i := 0) dJ6_bitCount_0f7a4_40 rfl (Nat.le_of_ble_eq_true rfl)) (tg_seq (si_iload_n (i := 0) dJ6_bitCount_0f7a4_41 rfl) (tg_seq (si_iload_n (i := 0) dJ6_bitCount_0f7a4_42 rfl) (tg_seq (si_bipush (v := 16) dJ6_bitCount_0f7a4_43 (by decide)) (tg_seq (si_iushr dJ6_bitCount_0f7a4_45) (tg_seq (si_iadd dJ6_bitCount_0f7a4_46) (tg_seq (si_istore_n (i := 0) dJ6_bitCount_0f7a4_47 rfl (Nat.le_of_ble_eq_true rfl)) (tg_seq (si_iload_n (i := 0) dJ6_bitCount_0f7a4_48 rfl) (tg_seq (si_bipush (v := 63) dJ6_bitCount_0f7a4_49 (by decide)) (si_iand dJ6_bitCount_0f7a4_51))))))))))))))))))))))))))))))))))))))))
theorem dJ13_bitCount_95d88_0 : decode cJ13_bitCount_95d88 0 = .ok (.lload_n 0, 1) := by decide +kernel
theorem dJ13_bitCount_95d88_1 : decode cJ13_bitCount_95d88 1 = .ok (.lload_n 0, 1) := by decide +kernel
theorem dJ13_bitCount_95d88_2 : decode cJ13_bitCount_95d88 2 = .ok (.iconst 1, 1) := by decide +kernel
theorem dJ13_bitCount_95d88_3 : decode cJ13_bitCount_95d88 3 = .ok (.lushr, 1) := by decide +kernel
theorem dJ13_bitCount_95d88_4 : decode cJ13_bitCount_95d88 4 = .ok (.ldc2_w 314, 3) := by decide +kernel
theorem dJ13_bitCount_95d88_7 : decode cJ13_bitCount_95d88 7 = .ok (.land, 1) := by decide +kernel
theorem dJ13_bitCount_95d88_8 : decode cJ13_bitCount_95d88 8 = .ok (.lsub, 1) := by decide +kernel
theorem dJ13_bitCount_95d88_9 : decode cJ13_bitCount_95d88 9 = .ok (.lstore_n 0, 1) := by decide +kernel
theorem dJ13_bitCount_95d88_10 : decode cJ13_bitCount_95d88 10 = .ok (.lload_n 0, 1) := by decide +kernel
theorem dJ13_bitCount_95d88_11 : decode cJ13_bitCount_95d88 11 = .ok (.ldc2_w 316, 3) := by decide +kernel
theorem dJ13_bitCount_95d88_14 : decode cJ13_bitCount_95d88 14 = .ok (.land, 1) := by decide +kernel
theorem dJ13_bitCount_95d88_15 : decode cJ13_bitCount_95d88 15 = .ok (.lload_n 0, 1) := by decide +kernel
theorem dJ13_bitCount_95d88_16 : decode cJ13_bitCount_95d88 16 = .ok (.iconst 2, 1) := by decide +kernel
theorem dJ13_bitCount_95d88_17 : decode cJ13_bitCount_95d88 17 = .ok (.lushr, 1) := by decide +kernel
theorem dJ13_bitCount_95d88_18 : decode cJ13_bitCount_95d88 18 = .ok (.ldc2_w 316, 3) := by decide +kernel
theorem dJ13_bitCount_95d88_21 : decode cJ13_bitCount_95d88 21 = .ok (.land, 1) := by decide +kernel
theorem dJ13_bitCount_95d88_22 : decode cJ13_bitCount_95d88 22 = .ok (.ladd, 1) := by decide +kernel
theorem dJ13_bitCount_95d88_23 : decode cJ13_bitCount_95d88 23 = .ok (.lstore_n 0, 1) := by decide +kernel
theorem dJ13_bitCount_95d88_24 : decode cJ13_bitCount_95d88 24 = .ok (.lload_n 0, 1) := by decide +kernel
theorem dJ13_bitCount_95d88_25 : decode cJ13_bitCount_95d88 25 = .ok (.lload_n 0, 1) := by decide +kernel
theorem dJ13_bitCount_95d88_26 : decode cJ13_bitCount_95d88 26 = .ok (.iconst 4, 1) := by decide +kernel
theorem dJ13_bitCount_95d88_27 : decode cJ13_bitCount_95d88 27 = .ok (.lushr, 1) := by decide +kernel
theorem dJ13_bitCount_95d88_28 : decode cJ13_bitCount_95d88 28 = .ok (.ladd, 1) := by decide +kernel
theorem dJ13_bitCount_95d88_29 : decode cJ13_bitCount_95d88 29 = .ok (.ldc2_w 318, 3) := by decide +kernel
theorem dJ13_bitCount_95d88_32 : decode cJ13_bitCount_95d88 32 = .ok (.land, 1) := by decide +kernel
theorem dJ13_bitCount_95d88_33 : decode cJ13_bitCount_95d88 33 = .ok (.lstore_n 0, 1) := by decide +kernel
theorem dJ13_bitCount_95d88_34 : decode cJ13_bitCount_95d88 34 = .ok (.lload_n 0, 1) := by decide +kernel
theorem dJ13_bitCount_95d88_35 : decode cJ13_bitCount_95d88 35 = .ok (.lload_n 0, 1) := by decide +kernel
theorem dJ13_bitCount_95d88_36 : decode cJ13_bitCount_95d88 36 = .ok (.bipush 8, 2) := by decide +kernel
theorem dJ13_bitCount_95d88_38 : decode cJ13_bitCount_95d88 38 = .ok (.lushr, 1) := by decide +kernel
theorem dJ13_bitCount_95d88_39 : decode cJ13_bitCount_95d88 39 = .ok (.ladd, 1) := by decide +kernel
theorem dJ13_bitCount_95d88_40 : decode cJ13_bitCount_95d88 40 = .ok (.lstore_n 0, 1) := by decide +kernel
theorem dJ13_bitCount_95d88_41 : decode cJ13_bitCount_95d88 41 = .ok (.lload_n 0, 1) := by decide +kernel
theorem dJ13_bitCount_95d88_42 : decode cJ13_bitCount_95d88 42 = .ok (.lload_n 0, 1) := by decide +kernel
theorem dJ13_bitCount_95d88_43 : decode cJ13_bitCount_95d88 43 = .ok (.bipush 16, 2) := by decide +kernel
theorem dJ13_bitCount_95d88_45 : decode cJ13_bitCount_95d88 45 = .ok (.lushr, 1) := by decide +kernel
theorem dJ13_bitCount_95d88_46 : decode cJ13_bitCount_95d88 46 = .ok (.ladd, 1) := by decide +kernel
theorem dJ13_bitCount_95d88_47 : decode cJ13_bitCount_95d88 47 = .ok (.lstore_n 0, 1) := by decide +kernel
theorem dJ13_bitCount_95d88_48 : decode cJ13_bitCount_95d88 48 = .ok (.lload_n 0, 1) := by decide +kernel
theorem dJ13_bitCount_95d88_49 : decode cJ13_bitCount_95d88 49 = .ok (.lload_n 0, 1) := by decide +kernel
theorem dJ13_bitCount_95d88_50 : decode cJ13_bitCount_95d88 50 = .ok (.bipush 32, 2) := by decide +kernel
theorem dJ13_bitCount_95d88_52 : decode cJ13_bitCount_95d88 52 = .ok (.lushr, 1) := by decide +kernel
theorem dJ13_bitCount_95d88_53 : decode cJ13_bitCount_95d88 53 = .ok (.ladd, 1) := by decide +kernel
theorem dJ13_bitCount_95d88_54 : decode cJ13_bitCount_95d88 54 = .ok (.lstore_n 0, 1) := by decide +kernel
theorem dJ13_bitCount_95d88_55 : decode cJ13_bitCount_95d88 55 = .ok (.lload_n 0, 1) := by decide +kernel
theorem dJ13_bitCount_95d88_56 : decode cJ13_bitCount_95d88 56 = .ok (.l2i, 1) := by decide +kernel
theorem dJ13_bitCount_95d88_57 : decode cJ13_bitCount_95d88 57 = .ok (.bipush 127, 2) := by decide +kernel
theorem dJ13_bitCount_95d88_59 : decode cJ13_bitCount_95d88 59 = .ok (.iand, 1) := by decide +kernel
theorem dJ13_bitCount_95d88_60 : decode cJ13_bitCount_95d88 60 = .ok (.ireturn, 1) := by decide +kernel
theorem bJ13_bitCount_95d88_0 : tg_Snd mJ13_bitCount_95d88 0 (fun k => ti_lload 0 (ti_lload 0 (ti_push (.int 1) (ti_lushr (ti_push (.long 6148914691236517205) (ti_land (ti_lsub (ti_lstore 0 (ti_lload 0 (ti_push (.long 3689348814741910323) (ti_land (ti_lload 0 (ti_push (.int 2) (ti_lushr (ti_push (.long 3689348814741910323) (ti_land (ti_ladd (ti_lstore 0 (ti_lload 0 (ti_lload 0 (ti_push (.int 4) (ti_lushr (ti_ladd (ti_push (.long 1085102592571150095) (ti_land (ti_lstore 0 (ti_lload 0 (ti_lload 0 (ti_push (.int 8) (ti_lushr (ti_ladd (ti_lstore 0 (ti_lload 0 (ti_lload 0 (ti_push (.int 16) (ti_lushr (ti_ladd (ti_lstore 0 (ti_lload 0 (ti_lload 0 (ti_push (.int 32) (ti_lushr (ti_ladd (ti_lstore 0 (ti_lload 0 (ti_l2i (ti_push (.int 127) (ti_iand k)))))))))))))))))))))))))))))))))))))))))))))))) 60 := tg_seq (si_lload_n (i := 0) dJ13_bitCount_95d88_0 rfl) (tg_seq (si_lload_n (i := 0) dJ13_bitCount_95d88_1 rfl) (tg_seq (si_iconst (v := 1) dJ13_bitCount_95d88_2 (by decide)) (tg_seq (si_lushr dJ13_bitCount_95d88_3) (tg_seq (si_ldc2 (v := 6148914691236517205) dJ13_bitCount_95d88_4 klJ13_314) (tg_seq (si_land dJ13_bitCount_95d88_7) (tg_seq (si_lsub dJ13_bitCount_95d88_8) (tg_seq (si_lstore_n (i := 0) dJ13_bitCount_95d88_9 rfl (Nat.le_of_ble_eq_true rfl)) (tg_seq (si_lload_n (i := 0) dJ13_bitCount_95d88_10 rfl) (tg_seq (si_ldc2 (v := 3689348814741910323) dJ13_bitCount_95d88_11 klJ13_316) (tg_seq (si_land dJ13_bitCount_95d88_14) (tg_seq (si_lload_n (i := 0) dJ13_bitCount_95d88_15 rfl) (tg_seq (si_iconst (v := 2) dJ13_bitCount_95d88_16 (by decide)) (tg_seq (si_lushr dJ13_bitCount_95d88_17) (tg_seq (si_ldc2 (v := 3689348814741910323) dJ13_bitCount_95d88_18 klJ13_316) (tg_seq (si_land dJ13_bitCount_95d88_21) (tg_seq (si_ladd dJ13_bitCount_95d88_22) (tg_seq (si_lstore_n (i := 0) dJ13_bitCount_95d88_23 rfl (Nat.le_of_ble_eq_true rfl)) (tg_seq (si_lload_n (i := 0) dJ13_bitCount_95d88_24 rfl) (tg_seq (si_lload_n (i := 0) dJ13_bitCount_95d88_25 rfl) (tg_seq (si_iconst (v := 4) dJ13_bitCount_95d88_26 (by decide)) (tg_seq (si_lushr dJ13_bitCount_95d88_27) (tg_seq (si_ladd dJ13_bitCount_95d88_28) (tg_seq (si_ldc2 (v := 1085102592571150095) dJ13_bitCount_95d88_29 klJ13_318) (tg_seq (si_land dJ13_bitCount_95d88_32) (tg_seq (si_lstore_n (i := 0) dJ13_bitCount_95d88_33 rfl (Nat.le_of_ble_eq_true rfl)) (tg_seq (si_lload_n (i := 0) dJ13_bitCount_95d88_34 rfl) (tg_seq (si_lload_n (i := 0) dJ13_bitCount_95d88_35 rfl) (tg_seq (si_bipush (v := 8) dJ13_bitCount_95d88_36 (by decide)) (tg_seq (si_lushr dJ13_bitCount_95d88_38) (tg_seq (si_ladd dJ13_bitCount_95d88_39) (tg_seq (si_lstore_n (i := 0) dJ13_bitCount_95d88_40 rfl (Nat.le_of_ble_eq_true rfl)) (tg_seq (si_lload_n (i := 0) dJ13_bitCount_95d88_41 rfl) (tg_seq (si_lload_n (i := 0) dJ13_bitCount_95d88_42 rfl) (tg_seq (si_bipush (v := 16) dJ13_bitCount_95d88_43 (by decide)) (tg_seq (si_lushr dJ13_bitCount_95d88_45) (tg_seq (si_ladd dJ13_bitCount_95d88_46) (tg_seq (si_lstore_n (i := 0) dJ13_bitCount_95d88_47 rfl (Nat.le_of_ble_eq_true rfl)) (tg_seq (si_lload_n (i := 0) dJ13_bitCount_95d88_48 rfl) (tg_seq (si_lload_n (i := 0) dJ13_bitCount_95d88_49 rfl) (tg_seq (si_bipush (v := 32) dJ13_bitCount_95d88_50 (by decide)) (tg_seq (si_lushr dJ13_bitCount_95d88_52) (tg_seq (si_ladd dJ13_bitCount_95d88_53) (tg_seq (si_lstore_n (i := 0) dJ13_bitCount_95d88_54 rfl (Nat.le_of_ble_eq_true rfl)) (tg_seq (si_lload_n (i := 0) dJ13_bitCount_95d88_55 rfl) (tg_seq (si_l2i dJ13_bitCount_95d88_56) (tg_seq (si_bipush (v := 127) dJ13_bitCount_95d88_57 (by decide)) (si_iand dJ13_bitCount_95d88_59)))))))))))))))))))))))))))))))))))))))))))))))
