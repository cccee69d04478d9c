theorem dX9_remove_0 : decode cX9_remove 0 = .ok (.aload_n 0, 1) := by decide +kernel
theorem dX9_remove_1 : decode cX9_remove 1 = .ok (.iload_n 1, 1) := by decide +kernel
theorem dX9_remove_2 : decode cX9_remove 2 = .ok (.invokevirtual 164, 3) := by decide +kernel
theorem dX9_remove_5 : decode cX9_remove 5 = .ok (.ifCond .ne 6, 3) := by decide +kernel
theorem dX9_remove_8 : decode cX9_remove 8 = .ok (.bipush (-2), 2) := by decide +kernel
theorem dX9_remove_10 : decode cX9_remove 10 = .ok (.ireturn, 1) := by decide +kernel
theorem dX9_remove_11 : decode cX9_remove 11 = .ok (.aload_n 0, 1) := by decide +kernel
theorem dX9_remove_12 : decode cX9_remove 12 = .ok (.invokevirtual 161, 3) := by decide +kernel
theorem dX9_remove_15 : decode cX9_remove 15 = .ok (.aload_n 0, 1) := by decide +kernel
theorem dX9_remove_16 : decode cX9_remove 16 = .ok (.iconst 0, 1) := by decide +kernel
theorem dX9_remove_17 : decode cX9_remove 17 = .ok (.iload_n 1, 1) := by decide +kernel
theorem dX9_remove_18 : decode cX9_remove 18 = .ok (.invokevirtual 167, 3) := by decide +kernel
theorem dX9_remove_21 : decode cX9_remove 21 = .ok (.aload_n 0, 1) := by decide +kernel
theorem dX9_remove_22 : decode cX9_remove 22 = .ok (.getfield 7, 3) := by decide +kernel
theorem dX9_remove_25 : decode cX9_remove 25 = .ok (.iconst 0, 1) := by decide +kernel
theorem dX9_remove_26 : decode cX9_remove 26 = .ok (.iaload, 1) := by decide +kernel
theorem dX9_remove_27 : decode cX9_remove 27 = .ok (.ireturn, 1) := by decide +kernel
theorem bX9_remove_0 : tg_Snd mX9_remove 0 (fun k => ti_aload 0 (ti_iload 1 k)) 2 := tg_seq (si_aload_n (i := 0) dX9_remove_0 rfl) (si_iload_n (i := 1) dX9_remove_1 rfl)
theorem bX9_remove_8 : tg_Snd mX9_remove 8 (fun k => ti_push (.int (-2)) k) 10 := si_bipush (v := -2) dX9_remove_8 (by decide)
theorem bX9_remove_11 : tg_Snd mX9_remove 11 (fun k => ti_aload 0 k) 12 := si_aload_n (i := 0) dX9_remove_11 rfl
theorem bX9_remove_15 : tg_Snd mX9_remove 15 (fun k => ti_aload 0 (ti_push (.int 0) (ti_iload 1 k))) 18 := tg_seq (si_aload_n (i := 0) dX9_remove_15 rfl) (tg_seq (si_iconst (v := 0) dX9_remove_16 (by decide)) (si_iload_n (i := 1) dX9_remove_17 rfl))
theorem bX9_remove_21 : tg_Snd mX9_remove 21 (fun k => ti_aload 0 (ti_getf 8 0 (ti_push (.int 0) (ti_iald k)))) 27 := tg_seq (si_aload_n (i := 0) dX9_remove_21 rfl) (tg_seq (si_getf (ci := 8) (f := 0) clX9 (Nat.le_of_ble_eq_true rfl) rfl flX9_7 dX9_remove_22) (tg_seq (si_iconst (v := 0) dX9_remove_25 (by decide)) (si_iald dX9_remove_26)))
theorem vX9_remove_2 : tg_VS mX9_remove 2 mX9_isEntry 1 := ⟨okX9_isEntry, ⟨164, dX9_remove_2, mlX9_164⟩, insX9_isEntry, selX9_isEntry, parX9_isEntry, rfl, rfl, Nat.le_of_ble_eq_true rfl, Nat.le_of_ble_eq_true rfl⟩
theorem vX9_remove_12 : tg_VS mX9_remove 12 mX9_keepPast 0 := ⟨okX9_keepPast, ⟨161, dX9_remove_12, mlX9_161⟩, insX9_keepPast, selX9_keepPast, parX9_keepPast, rfl, rfl, Nat.le_of_ble_eq_true rfl, Nat.le_of_ble_eq_true rfl⟩
theorem vX9_remove_18 : tg_VS mX9_remove 18 mX9_takeOut 2 := ⟨okX9_takeOut, ⟨167, dX9_remove_18, mlX9_167⟩, insX9_takeOut, selX9_takeOut, parX9_takeOut, rfl, rfl, Nat.le_of_ble_eq_true rfl, Nat.le_of_ble_eq_true rfl⟩
theorem dX9_support_0 : decode cX9_support 0 = .ok (.iload_n 1, 1) := by decide +kernel
theorem dX9_support_1 : decode cX9_support 1 = .ok (.i2l, 1) := by decide +kernel
theorem dX9_support_2 : decode cX9_support 2 = .ok (.lconst 1, 1) := by decide +kernel
theorem dX9_support_3 : decode cX9_support 3 = .ok (.ldc2_w 170, 3) := by decide +kernel
theorem dX9_support_6 : decode cX9_support 6 = .ok (.invokestatic 54, 3) := by decide +kernel
theorem dX9_support_9 : decode cX9_support 9 = .ok (.ifCond .ne 6, 3) := by decide +kernel
theorem dX9_support_12 : decode cX9_support 12 = .ok (.bipush (-3), 2) := by decide +kernel
theorem dX9_support_14 : decode cX9_support 14 = .ok (.ireturn, 1) := by decide +kernel
theorem dX9_support_15 : decode cX9_support 15 = .ok (.aload_n 0, 1) := by decide +kernel
theorem dX9_support_16 : decode cX9_support 16 = .ok (.getfield 7, 3) := by decide +kernel
theorem dX9_support_19 : decode cX9_support 19 = .ok (.iconst 1, 1) := by decide +kernel
theorem dX9_support_20 : decode cX9_support 20 = .ok (.iaload, 1) := by decide +kernel
theorem dX9_support_21 : decode cX9_support 21 = .ok (.istore_n 2, 1) := by decide +kernel
theorem dX9_support_22 : decode cX9_support 22 = .ok (.iload_n 2, 1) := by decide +kernel
theorem dX9_support_23 : decode cX9_support 23 = .ok (.iload_n 1, 1) := by decide +kernel
theorem dX9_support_24 : decode cX9_support 24 = .ok (.if_icmp .ne 6, 3) := by decide +kernel
theorem dX9_support_27 : decode cX9_support 27 = .ok (.bipush (-4), 2) := by decide +kernel
theorem dX9_support_29 : decode cX9_support 29 = .ok (.ireturn, 1) := by decide +kernel
theorem dX9_support_30 : decode cX9_support 30 = .ok (.aload_n 0, 1) := by decide +kernel
theorem dX9_support_31 : decode cX9_support 31 = .ok (.invokevirtual 161, 3) := by decide +kernel
theorem dX9_support_34 : decode cX9_support 34 = .ok (.aload_n 0, 1) := by decide +kernel
theorem dX9_support_35 : decode cX9_support 35 = .ok (.getfield 7, 3) := by decide +kernel
theorem dX9_support_38 : decode cX9_support 38 = .ok (.iconst 1, 1) := by decide +kernel
theorem dX9_support_39 : decode cX9_support 39 = .ok (.iload_n 1, 1) := by decide +kernel
theorem dX9_support_40 : decode cX9_support 40 = .ok (.iastore, 1) := by decide +kernel
theorem dX9_support_41 : decode cX9_support 41 = .ok (.iload_n 2, 1) := by decide +kernel
theorem dX9_support_42 : decode cX9_support 42 = .ok (.ireturn, 1) := by decide +kernel
theorem bX9_support_0 : tg_Snd mX9_support 0 (fun k => ti_iload 1 (ti_i2l (ti_push (.long 1) (ti_push (.long 9) k)))) 6 := tg_seq (si_iload_n (i := 1) dX9_support_0 rfl) (tg_seq (si_i2l dX9_support_1) (tg_seq (si_lconst (v := 1) dX9_support_2 (by decide)) (si_ldc2 (v := 9) dX9_support_3 klX9_170)))
theorem bX9_support_12 : tg_Snd mX9_support 12 (fun k => ti_push (.int (-3)) k) 14 := si_bipush (v := -3) dX9_support_12 (by decide)
theorem bX9_support_15 : tg_Snd mX9_support 15 (fun k => ti_aload 0 (ti_getf 8 0 (ti_push (.int 1) (ti_iald (ti_istore 2 (ti_iload 2 (ti_iload 1 k))))))) 24 := tg_seq (si_aload_n (i := 0) dX9_support_15 rfl) (tg_seq (si_getf (ci := 8) (f := 0) clX9 (Nat.le_of_ble_eq_true rfl) rfl flX9_7 dX9_support_16) (tg_seq (si_iconst (v := 1) dX9_support_19 (by decide)) (tg_seq (si_iald dX9_support_20) (tg_seq (si_istore_n (i := 2) dX9_support_21 rfl (Nat.le_of_ble_eq_true rfl)) (tg_seq (si_iload_n (i := 2) dX9_support_22 rfl) (si_iload_n (i := 1) dX9_support_23 rfl))))))
theorem bX9_support_27 : tg_Snd mX9_support 27 (fun k => ti_push (.int (-4)) k) 29 := si_bipush (v := -4) dX9_support_27 (by decide)
theorem bX9_support_30 : tg_Snd mX9_support 30 (fun k => ti_aload 0 k) 31 := si_aload_n (i := 0) dX9_support_30 rfl
theorem bX9_support_34 : tg_Snd mX9_support 34 (fun k => ti_aload 0 (ti_getf 8 0 (ti_push (.int 1) (ti_iload 1 (ti_iast (ti_iload 2 k)))))) 42 := tg_seq (si_aload_n (i := 0) dX9_support_34 rfl) (tg_seq (si_getf (ci := 8) (f := 0) clX9 (Nat.le_of_ble_eq_true rfl) rfl flX9_7 dX9_support_35) (tg_seq (si_iconst (v := 1) dX9_support_38 (by decide)) (tg_seq (si_iload_n (i := 1) dX9_support_39 rfl) (tg_seq (si_iast dX9_support_40) (si_iload_n (i := 2) dX9_support_41 rfl)))))
theorem vX9_support_6 : tg_SS0 mX9_support 6 mX9_in 3 := ⟨okX9_in, ⟨54, dX9_support_6, mlX9_54⟩, staX9_in, parX9_in, rfl, rfl, Nat.le_of_ble_eq_true rfl, Nat.le_of_ble_eq_true rfl⟩
theorem vX9_support_31 : tg_VS mX9_support 31 mX9_keepPast 0 := ⟨okX9_keepPast, ⟨161, dX9_support_31, mlX9_161⟩, insX9_keepPast, selX9_keepPast, parX9_keepPast, rfl, rfl, Nat.le_of_ble_eq_true rfl, Nat.le_of_ble_eq_true rfl⟩
theorem dX9_undo_0 : decode cX9_undo 0 = .ok (.aload_n 0, 1) := by decide +kernel
theorem dX9_undo_1 : decode cX9_undo 1 = .ok (.getfield 137, 3) := by decide +kernel
theorem dX9_undo_4 : decode cX9_undo 4 = .ok (.ifCond .ne 6, 3) := by decide +kernel
theorem dX9_undo_7 : decode cX9_undo 7 = .ok (.bipush (-4), 2) := by decide +kernel
theorem dX9_undo_9 : decode cX9_undo 9 = .ok (.ireturn, 1) := by decide +kernel
theorem dX9_undo_10 : decode cX9_undo 10 = .ok (.aload_n 0, 1) := by decide +kernel
theorem dX9_undo_11 : decode cX9_undo 11 = .ok (.dup, 1) := by decide +kernel
theorem dX9_undo_12 : decode cX9_undo 12 = .ok (.getfield 137, 3) := by decide +kernel
theorem dX9_undo_15 : decode cX9_undo 15 = .ok (.iconst 1, 1) := by decide +kernel
theorem dX9_undo_16 : decode cX9_undo 16 = .ok (.isub, 1) := by decide +kernel
theorem dX9_undo_17 : decode cX9_undo 17 = .ok (.putfield 137, 3) := by decide +kernel
theorem dX9_undo_20 : decode cX9_undo 20 = .ok (.aload_n 0, 1) := by decide +kernel
theorem dX9_undo_21 : decode cX9_undo 21 = .ok (.bipush 82, 2) := by decide +kernel
theorem dX9_undo_23 : decode cX9_undo 23 = .ok (.bipush 82, 2) := by decide +kernel
theorem dX9_undo_25 : decode cX9_undo 25 = .ok (.aload_n 0, 1) := by decide +kernel
theorem dX9_undo_26 : decode cX9_undo 26 = .ok (.getfield 137, 3) := by decide +kernel
theorem dX9_undo_29 : decode cX9_undo 29 = .ok (.imul, 1) := by decide +kernel
theorem dX9_undo_30 : decode cX9_undo 30 = .ok (.iadd, 1) := by decide +kernel
theorem dX9_undo_31 : decode cX9_undo 31 = .ok (.iconst 0, 1) := by decide +kernel
theorem dX9_undo_32 : decode cX9_undo 32 = .ok (.invokevirtual 150, 3) := by decide +kernel
theorem dX9_undo_35 : decode cX9_undo 35 = .ok (.aload_n 0, 1) := by decide +kernel
theorem dX9_undo_36 : decode cX9_undo 36 = .ok (.getfield 137, 3) := by decide +kernel
theorem dX9_undo_39 : decode cX9_undo 39 = .ok (.ireturn, 1) := by decide +kernel
theorem bX9_undo_0 : tg_Snd mX9_undo 0 (fun k => ti_aload 0 (ti_getf 8 3 k)) 4 := tg_seq (si_aload_n (i := 0) dX9_undo_0 rfl) (si_getf (ci := 8) (f := 3) clX9 (Nat.le_of_ble_eq_true rfl) rfl flX9_137 dX9_undo_1)
theorem bX9_undo_7 : tg_Snd mX9_undo 7 (fun k => ti_push (.int (-4)) k) 9 := si_bipush (v := -4) dX9_undo_7 (by decide)
theorem bX9_undo_10 : tg_Snd mX9_undo 10 (fun k => ti_aload 0 (ti_dup (ti_getf 8 3 (ti_push (.int 1) (ti_isub (ti_putfI 8 3 (ti_aload 0 (ti_push (.int 82) (ti_push (.int 82) (ti_aload 0 (ti_getf 8 3 (ti_imul (ti_iadd (ti_push (.int 0) k)))))))))))))) 32 := tg_seq (si_aload_n (i := 0) dX9_undo_10 rfl) (tg_seq (si_dup dX9_undo_11) (tg_seq (si_getf (ci := 8) (f := 3) clX9 (Nat.le_of_ble_eq_true rfl) rfl flX9_137 dX9_undo_12) (tg_seq (si_iconst (v := 1) dX9_undo_15 (by decide)) (tg_seq (si_isub dX9_undo_16) (tg_seq (si_putfI (ci := 8) (f := 3) (ty := .int) clX9 tyX9_ok nmX9 (Nat.le_of_ble_eq_true rfl) rfl (by decide +kernel) (fun _ _ => ⟨rfl, rfl⟩) flX9_137 dX9_undo_17) (tg_seq (si_aload_n (i := 0) dX9_undo_20 rfl) (tg_seq (si_bipush (v := 82) dX9_undo_21 (by decide)) (tg_seq (si_bipush (v := 82) dX9_undo_23 (by decide)) (tg_seq (si_aload_n (i := 0) dX9_undo_25 rfl) (tg_seq (si_getf (ci := 8) (f := 3) clX9 (Nat.le_of_ble_eq_true rfl) rfl flX9_137 dX9_undo_26) (tg_seq (si_imul dX9_undo_29) (tg_seq (si_iadd dX9_undo_30) (si_iconst (v := 0) dX9_undo_31 (by decide))))))))))))))
theorem bX9_undo_35 : tg_Snd mX9_undo 35 (fun k => ti_aload 0 (ti_getf 8 3 k)) 39 := tg_seq (si_aload_n (i := 0) dX9_undo_35 rfl) (si_getf (ci := 8) (f := 3) clX9 (Nat.le_of_ble_eq_true rfl) rfl flX9_137 dX9_undo_36)
theorem vX9_undo_32 : tg_VS mX9_undo 32 mX9_copyRow 2 := ⟨okX9_copyRow, ⟨150, dX9_undo_32, mlX9_150⟩, insX9_copyRow, selX9_copyRow, parX9_copyRow, rfl, rfl, Nat.le_of_ble_eq_true rfl, Nat.le_of_ble_eq_true rfl⟩
theorem dX9_keep_0 : decode cX9_keep 0 = .ok (.iload_n 1, 1) := by decide +kernel
theorem dX9_keep_1 : decode cX9_keep 1 = .ok (.i2l, 1) := by decide +kernel
theorem dX9_keep_2 : decode cX9_keep 2 = .ok (.lconst 0, 1) := by decide +kernel
theorem dX9_keep_3 : decode cX9_keep 3 = .ok (.lconst 1, 1) := by decide +kernel
theorem dX9_keep_4 : decode cX9_keep 4 = .ok (.invokestatic 54, 3) := by decide +kernel
theorem dX9_keep_7 : decode cX9_keep 7 = .ok (.ifCond .ne 6, 3) := by decide +kernel
theorem dX9_keep_10 : decode cX9_keep 10 = .ok (.bipush (-2), 2) := by decide +kernel
theorem dX9_keep_12 : decode cX9_keep 12 = .ok (.ireturn, 1) := by decide +kernel
theorem dX9_keep_13 : decode cX9_keep 13 = .ok (.aload_n 0, 1) := by decide +kernel
theorem dX9_keep_14 : decode cX9_keep 14 = .ok (.iconst 0, 1) := by decide +kernel
theorem dX9_keep_15 : decode cX9_keep 15 = .ok (.sipush 738, 3) := by decide +kernel
theorem dX9_keep_18 : decode cX9_keep 18 = .ok (.bipush 82, 2) := by decide +kernel
theorem dX9_keep_20 : decode cX9_keep 20 = .ok (.iload_n 1, 1) := by decide +kernel
theorem dX9_keep_21 : decode cX9_keep 21 = .ok (.imul, 1) := by decide +kernel
theorem dX9_keep_22 : decode cX9_keep 22 = .ok (.iadd, 1) := by decide +kernel
theorem dX9_keep_23 : decode cX9_keep 23 = .ok (.invokevirtual 150, 3) := by decide +kernel
theorem dX9_keep_26 : decode cX9_keep 26 = .ok (.aload_n 0, 1) := by decide +kernel
theorem dX9_keep_27 : decode cX9_keep 27 = .ok (.getfield 20, 3) := by decide +kernel
theorem dX9_keep_30 : decode cX9_keep 30 = .ok (.iload_n 1, 1) := by decide +kernel
theorem dX9_keep_31 : decode cX9_keep 31 = .ok (.iconst 1, 1) := by decide +kernel
theorem dX9_keep_32 : decode cX9_keep 32 = .ok (.bastore, 1) := by decide +kernel
theorem dX9_keep_33 : decode cX9_keep 33 = .ok (.aload_n 0, 1) := by decide +kernel
theorem dX9_keep_34 : decode cX9_keep 34 = .ok (.getfield 7, 3) := by decide +kernel
theorem dX9_keep_37 : decode cX9_keep 37 = .ok (.iconst 0, 1) := by decide +kernel
theorem dX9_keep_38 : decode cX9_keep 38 = .ok (.iaload, 1) := by decide +kernel
theorem dX9_keep_39 : decode cX9_keep 39 = .ok (.ireturn, 1) := by decide +kernel
theorem bX9_keep_0 : tg_Snd mX9_keep 0 (fun k => ti_iload 1 (ti_i2l (ti_push (.long 0) (ti_push (.long 1) k)))) 4 := tg_seq (si_iload_n (i := 1) dX9_keep_0 rfl) (tg_seq (si_i2l dX9_keep_1) (tg_seq (si_lconst (v := 0) dX9_keep_2 (by decide)) (si_lconst (v := 1) dX9_keep_3 (by decide))))
theorem bX9_keep_10 : tg_Snd mX9_keep 10 (fun k => ti_push (.int (-2)) k) 12 := si_bipush (v := -2) dX9_keep_10 (by decide)
theorem bX9_keep_13 : tg_Snd mX9_keep 13 (fun k => ti_aload 0 (ti_push (.int 0) (ti_push (.int 738) (ti_push (.int 82) (ti_iload 1 (ti_imul (ti_iadd k))))))) 23 := tg_seq (si_aload_n (i := 0) dX9_keep_13 rfl) (tg_seq (si_iconst (v := 0) dX9_keep_14 (by decide)) (tg_seq (si_sipush (v := 738) dX9_keep_15 (by decide)) (tg_seq (si_bipush (v := 82) dX9_keep_18 (by decide)) (tg_seq (si_iload_n (i := 1) dX9_keep_20 rfl) (tg_seq (si_imul dX9_keep_21) (si_iadd dX9_keep_22))))))
theorem bX9_keep_26 : tg_Snd mX9_keep 26 (fun k => ti_aload 0 (ti_getf 8 4 (ti_iload 1 (ti_push (.int 1) (ti_zast (ti_aload 0 (ti_getf 8 0 (ti_push (.int 0) (ti_iald k))))))))) 39 := tg_seq (si_aload_n (i := 0) dX9_keep_26 rfl) (tg_seq (si_getf (ci := 8) (f := 4) clX9 (Nat.le_of_ble_eq_true rfl) rfl flX9_20 dX9_keep_27) (tg_seq (si_iload_n (i := 1) dX9_keep_30 rfl) (tg_seq (si_iconst (v := 1) dX9_keep_31 (by decide)) (tg_seq (si_zast dX9_keep_32) (tg_seq (si_aload_n (i := 0) dX9_keep_33 rfl) (tg_seq (si_getf (ci := 8) (f := 0) clX9 (Nat.le_of_ble_eq_true rfl) rfl flX9_7 dX9_keep_34) (tg_seq (si_iconst (v := 0) dX9_keep_37 (by decide)) (si_iald dX9_keep_38))))))))
theorem vX9_keep_4 : tg_SS0 mX9_keep 4 mX9_in 3 := ⟨okX9_in, ⟨54, dX9_keep_4, mlX9_54⟩, staX9_in, parX9_in, rfl, rfl, Nat.le_of_ble_eq_true rfl, Nat.le_of_ble_eq_true rfl⟩
theorem vX9_keep_23 : tg_VS mX9_keep 23 mX9_copyRow 2 := ⟨okX9_copyRow, ⟨150, dX9_keep_23, mlX9_150⟩, insX9_copyRow, selX9_copyRow, parX9_copyRow, rfl, rfl, Nat.le_of_ble_eq_true rfl, Nat.le_of_ble_eq_true rfl⟩
theorem dX9_back_0 : decode cX9_back 0 = .ok (.iload_n 1, 1) := by decide +kernel
theorem dX9_back_1 : decode cX9_back 1 = .ok (.i2l, 1) := by decide +kernel
theorem dX9_back_2 : decode cX9_back 2 = .ok (.lconst 0, 1) := by decide +kernel
theorem dX9_back_3 : decode cX9_back 3 = .ok (.lconst 1, 1) := by decide +kernel
theorem dX9_back_4 : decode cX9_back 4 = .ok (.invokestatic 54, 3) := by decide +kernel
theorem dX9_back_7 : decode cX9_back 7 = .ok (.ifCond .ne 6, 3) := by decide +kernel
theorem dX9_back_10 : decode cX9_back 10 = .ok (.bipush (-2), 2) := by decide +kernel
theorem dX9_back_12 : decode cX9_back 12 = .ok (.ireturn, 1) := by decide +kernel
theorem dX9_back_13 : decode cX9_back 13 = .ok (.aload_n 0, 1) := by decide +kernel
theorem dX9_back_14 : decode cX9_back 14 = .ok (.getfield 20, 3) := by decide +kernel
theorem dX9_back_17 : decode cX9_back 17 = .ok (.iload_n 1, 1) := by decide +kernel
theorem dX9_back_18 : decode cX9_back 18 = .ok (.baload, 1) := by decide +kernel
theorem dX9_back_19 : decode cX9_back 19 = .ok (.ifCond .ne 6, 3) := by decide +kernel
theorem dX9_back_22 : decode cX9_back 22 = .ok (.bipush (-4), 2) := by decide +kernel
theorem dX9_back_24 : decode cX9_back 24 = .ok (.ireturn, 1) := by decide +kernel
theorem dX9_back_25 : decode cX9_back 25 = .ok (.aload_n 0, 1) := by decide +kernel
theorem dX9_back_26 : decode cX9_back 26 = .ok (.sipush 738, 3) := by decide +kernel
theorem dX9_back_29 : decode cX9_back 29 = .ok (.bipush 82, 2) := by decide +kernel
theorem dX9_back_31 : decode cX9_back 31 = .ok (.iload_n 1, 1) := by decide +kernel
theorem dX9_back_32 : decode cX9_back 32 = .ok (.imul, 1) := by decide +kernel
theorem dX9_back_33 : decode cX9_back 33 = .ok (.iadd, 1) := by decide +kernel
theorem dX9_back_34 : decode cX9_back 34 = .ok (.iconst 0, 1) := by decide +kernel
theorem dX9_back_35 : decode cX9_back 35 = .ok (.invokevirtual 150, 3) := by decide +kernel
theorem dX9_back_38 : decode cX9_back 38 = .ok (.aload_n 0, 1) := by decide +kernel
theorem dX9_back_39 : decode cX9_back 39 = .ok (.iconst 0, 1) := by decide +kernel
theorem dX9_back_40 : decode cX9_back 40 = .ok (.putfield 137, 3) := by decide +kernel
theorem dX9_back_43 : decode cX9_back 43 = .ok (.aload_n 0, 1) := by decide +kernel
theorem dX9_back_44 : decode cX9_back 44 = .ok (.getfield 7, 3) := by decide +kernel
theorem dX9_back_47 : decode cX9_back 47 = .ok (.iconst 0, 1) := by decide +kernel
theorem dX9_back_48 : decode cX9_back 48 = .ok (.iaload, 1) := by decide +kernel
theorem dX9_back_49 : decode cX9_back 49 = .ok (.ireturn, 1) := by decide +kernel
theorem bX9_back_0 : tg_Snd mX9_back 0 (fun k => ti_iload 1 (ti_i2l (ti_push (.long 0) (ti_push (.long 1) k)))) 4 := tg_seq (si_iload_n (i := 1) dX9_back_0 rfl) (tg_seq (si_i2l dX9_back_1) (tg_seq (si_lconst (v := 0) dX9_back_2 (by decide)) (si_lconst (v := 1) dX9_back_3 (by decide))))
theorem bX9_back_10 : tg_Snd mX9_back 10 (fun k => ti_push (.int (-2)) k) 12 := si_bipush (v := -2) dX9_back_10 (by decide)
theorem bX9_back_13 : tg_Snd mX9_back 13 (fun k => ti_aload 0 (ti_getf 8 4 (ti_iload 1 (ti_zald k)))) 19 := tg_seq (si_aload_n (i := 0) dX9_back_13 rfl) (tg_seq (si_getf (ci := 8) (f := 4) clX9 (Nat.le_of_ble_eq_true rfl) rfl flX9_20 dX9_back_14) (tg_seq (si_iload_n (i := 1) dX9_back_17 rfl) (si_zald dX9_back_18)))
theorem bX9_back_22 : tg_Snd mX9_back 22 (fun k => ti_push (.int (-4)) k) 24 := si_bipush (v := -4) dX9_back_22 (by decide)
theorem bX9_back_25 : tg_Snd mX9_back 25 (fun k => ti_aload 0 (ti_push (.int 738) (ti_push (.int 82) (ti_iload 1 (ti_imul (ti_iadd (ti_push (.int 0) k))))))) 35 := tg_seq (si_aload_n (i := 0) dX9_back_25 rfl) (tg_seq (si_sipush (v := 738) dX9_back_26 (by decide)) (tg_seq (si_bipush (v := 82) dX9_back_29 (by decide)) (tg_seq (si_iload_n (i := 1) dX9_back_31 rfl) (tg_seq (si_imul dX9_back_32) (tg_seq (si_iadd dX9_back_33) (si_iconst (v := 0) dX9_back_34 (by decide)))))))
theorem bX9_back_38 : tg_Snd mX9_back 38 (fun k => ti_aload 0 (ti_push (.int 0) (ti_putfI 8 3 (ti_aload 0 (ti_getf 8 0 (ti_push (.int 0) (ti_iald k))))))) 49 := tg_seq (si_aload_n (i := 0) dX9_back_38 rfl) (tg_seq (si_iconst (v := 0) dX9_back_39 (by decide)) (tg_seq (si_putfI (ci := 8) (f := 3) (ty := .int) clX9 tyX9_ok nmX9 (Nat.le_of_ble_eq_true rfl) rfl (by decide +kernel) (fun _ _ => ⟨rfl, rfl⟩) flX9_137 dX9_back_40) (tg_seq (si_aload_n (i := 0) dX9_back_43 rfl) (tg_seq (si_getf (ci := 8) (f := 0) clX9 (Nat.le_of_ble_eq_true rfl) rfl flX9_7 dX9_back_44) (tg_seq (si_iconst (v := 0) dX9_back_47 (by decide)) (si_iald dX9_back_48))))))
theorem vX9_back_4 : tg_SS0 mX9_back 4 mX9_in 3 := ⟨okX9_in, ⟨54, dX9_back_4, mlX9_54⟩, staX9_in, parX9_in, rfl, rfl, Nat.le_of_ble_eq_true rfl, Nat.le_of_ble_eq_true rfl⟩
theorem vX9_back_35 : tg_VS mX9_back 35 mX9_copyRow 2 := ⟨okX9_copyRow, ⟨150, dX9_back_35, mlX9_150⟩, insX9_copyRow, selX9_copyRow, parX9_copyRow, rfl, rfl, Nat.le_of_ble_eq_true rfl, Nat.le_of_ble_eq_true rfl⟩
theorem dX9_entry_0 : decode cX9_entry 0 = .ok (.aload_n 0, 1) := by decide +kernel
theorem dX9_entry_1 : decode cX9_entry 1 = .ok (.iload_n 1, 1) := by decide +kernel
theorem dX9_entry_2 : decode cX9_entry 2 = .ok (.invokevirtual 164, 3) := by decide +kernel
theorem dX9_entry_5 : decode cX9_entry 5 = .ok (.ifCond .ne 8, 3) := by decide +kernel
theorem dX9_entry_8 : decode cX9_entry 8 = .ok (.bipush (-2), 2) := by decide +kernel
theorem dX9_entry_10 : decode cX9_entry 10 = .ok (.goto 41, 3) := by decide +kernel
theorem dX9_entry_13 : decode cX9_entry 13 = .ok (.iload_n 2, 1) := by decide +kernel
theorem dX9_entry_14 : decode cX9_entry 14 = .ok (.ifCond .ne 14, 3) := by decide +kernel
theorem dX9_entry_17 : decode cX9_entry 17 = .ok (.aload_n 0, 1) := by decide +kernel
theorem dX9_entry_18 : decode cX9_entry 18 = .ok (.getfield 7, 3) := by decide +kernel
theorem dX9_entry_21 : decode cX9_entry 21 = .ok (.iconst 2, 1) := by decide +kernel
theorem dX9_entry_22 : decode cX9_entry 22 = .ok (.iload_n 1, 1) := by decide +kernel
theorem dX9_entry_23 : decode cX9_entry 23 = .ok (.iadd, 1) := by decide +kernel
theorem dX9_entry_24 : decode cX9_entry 24 = .ok (.iaload, 1) := by decide +kernel
theorem dX9_entry_25 : decode cX9_entry 25 = .ok (.goto 26, 3) := by decide +kernel
theorem dX9_entry_28 : decode cX9_entry 28 = .ok (.iload_n 2, 1) := by decide +kernel
theorem dX9_entry_29 : decode cX9_entry 29 = .ok (.iconst 1, 1) := by decide +kernel
theorem dX9_entry_30 : decode cX9_entry 30 = .ok (.if_icmp .ne 19, 3) := by decide +kernel
theorem dX9_entry_33 : decode cX9_entry 33 = .ok (.aload_n 0, 1) := by decide +kernel
theorem dX9_entry_34 : decode cX9_entry 34 = .ok (.getfield 7, 3) := by decide +kernel
theorem dX9_entry_37 : decode cX9_entry 37 = .ok (.bipush 42, 2) := by decide +kernel
theorem dX9_entry_39 : decode cX9_entry 39 = .ok (.iload_n 1, 1) := by decide +kernel
theorem dX9_entry_40 : decode cX9_entry 40 = .ok (.iadd, 1) := by decide +kernel
theorem dX9_entry_41 : decode cX9_entry 41 = .ok (.iaload, 1) := by decide +kernel
theorem dX9_entry_42 : decode cX9_entry 42 = .ok (.sipush 1000, 3) := by decide +kernel
theorem dX9_entry_45 : decode cX9_entry 45 = .ok (.iadd, 1) := by decide +kernel
theorem dX9_entry_46 : decode cX9_entry 46 = .ok (.goto 5, 3) := by decide +kernel
theorem dX9_entry_49 : decode cX9_entry 49 = .ok (.bipush (-3), 2) := by decide +kernel
theorem dX9_entry_51 : decode cX9_entry 51 = .ok (.ireturn, 1) := by decide +kernel
theorem bX9_entry_0 : tg_Snd mX9_entry 0 (fun k => ti_aload 0 (ti_iload 1 k)) 2 := tg_seq (si_aload_n (i := 0) dX9_entry_0 rfl) (si_iload_n (i := 1) dX9_entry_1 rfl)
theorem bX9_entry_8 : tg_Snd mX9_entry 8 (fun k => ti_push (.int (-2)) k) 10 := si_bipush (v := -2) dX9_entry_8 (by decide)
theorem bX9_entry_13 : tg_Snd mX9_entry 13 (fun k => ti_iload 2 k) 14 := si_iload_n (i := 2) dX9_entry_13 rfl
theorem bX9_entry_17 : tg_Snd mX9_entry 17 (fun k => ti_aload 0 (ti_getf 8 0 (ti_push (.int 2) (ti_iload 1 (ti_iadd (ti_iald k)))))) 25 := tg_seq (si_aload_n (i := 0) dX9_entry_17 rfl) (tg_seq (si_getf (ci := 8) (f := 0) clX9 (Nat.le_of_ble_eq_true rfl) rfl flX9_7 dX9_entry_18) (tg_seq (si_iconst (v := 2) dX9_entry_21 (by decide)) (tg_seq (si_iload_n (i := 1) dX9_entry_22 rfl) (tg_seq (si_iadd dX9_entry_23) (si_iald dX9_entry_24)))))
theorem bX9_entry_28 : tg_Snd mX9_entry 28 (fun k => ti_iload 2 (ti_push (.int 1) k)) 30 := tg_seq (si_iload_n (i := 2) dX9_entry_28 rfl) (si_iconst (v := 1) dX9_entry_29 (by decide))
theorem bX9_entry_33 : tg_Snd mX9_entry 33 (fun k => ti_aload 0 (ti_getf 8 0 (ti_push (.int 42) (ti_iload 1 (ti_iadd (ti_iald (ti_push (.int 1000) (ti_iadd k)))))))) 46 := tg_seq (si_aload_n (i := 0) dX9_entry_33 rfl) (tg_seq (si_getf (ci := 8) (f := 0) clX9 (Nat.le_of_ble_eq_true rfl) rfl flX9_7 dX9_entry_34) (tg_seq (si_bipush (v := 42) dX9_entry_37 (by decide)) (tg_seq (si_iload_n (i := 1) dX9_entry_39 rfl) (tg_seq (si_iadd dX9_entry_40) (tg_seq (si_iald dX9_entry_41) (tg_seq (si_sipush (v := 1000) dX9_entry_42 (by decide)) (si_iadd dX9_entry_45)))))))
theorem bX9_entry_49 : tg_Snd mX9_entry 49 (fun k => ti_push (.int (-3)) k) 51 := si_bipush (v := -3) dX9_entry_49 (by decide)
theorem vX9_entry_2 : tg_VS mX9_entry 2 mX9_isEntry 1 := ⟨okX9_isEntry, ⟨164, dX9_entry_2, mlX9_164⟩, insX9_isEntry, selX9_isEntry, parX9_isEntry, rfl, rfl, Nat.le_of_ble_eq_true rfl, Nat.le_of_ble_eq_true rfl⟩
theorem dX9_covers_0 : decode cX9_covers 0 = .ok (.iload_n 1, 1) := by decide +kernel
theorem dX9_covers_1 : decode cX9_covers 1 = .ok (.istore_n 3, 1) := by decide +kernel
theorem dX9_covers_2 : decode cX9_covers 2 = .ok (.iload_n 2, 1) := by decide +kernel
theorem dX9_covers_3 : decode cX9_covers 3 = .ok (.istore 4, 2) := by decide +kernel
theorem dX9_covers_5 : decode cX9_covers 5 = .ok (.iconst 1, 1) := by decide +kernel
theorem dX9_covers_6 : decode cX9_covers 6 = .ok (.istore 5, 2) := by decide +kernel
theorem dX9_covers_8 : decode cX9_covers 8 = .ok (.iconst 0, 1) := by decide +kernel
theorem dX9_covers_9 : decode cX9_covers 9 = .ok (.istore 6, 2) := by decide +kernel
theorem dX9_covers_11 : decode cX9_covers 11 = .ok (.iload 6, 2) := by decide +kernel
theorem dX9_covers_13 : decode cX9_covers 13 = .ok (.aload_n 0, 1) := by decide +kernel
theorem dX9_covers_14 : decode cX9_covers 14 = .ok (.getfield 13, 3) := by decide +kernel
theorem dX9_covers_17 : decode cX9_covers 17 = .ok (.if_icmp .ge 52, 3) := by decide +kernel
theorem dX9_covers_20 : decode cX9_covers 20 = .ok (.iload 5, 2) := by decide +kernel
theorem dX9_covers_22 : decode cX9_covers 22 = .ok (.ifCond .eq 26, 3) := by decide +kernel
theorem dX9_covers_25 : decode cX9_covers 25 = .ok (.iload_n 3, 1) := by decide +kernel
theorem dX9_covers_26 : decode cX9_covers 26 = .ok (.bipush 7, 2) := by decide +kernel
theorem dX9_covers_28 : decode cX9_covers 28 = .ok (.irem, 1) := by decide +kernel
theorem dX9_covers_29 : decode cX9_covers 29 = .ok (.ifCond .eq 15, 3) := by decide +kernel
theorem dX9_covers_32 : decode cX9_covers 32 = .ok (.iload_n 3, 1) := by decide +kernel
theorem dX9_covers_33 : decode cX9_covers 33 = .ok (.bipush 7, 2) := by decide +kernel
theorem dX9_covers_35 : decode cX9_covers 35 = .ok (.irem, 1) := by decide +kernel
theorem dX9_covers_36 : decode cX9_covers 36 = .ok (.iload 4, 2) := by decide +kernel
theorem dX9_covers_38 : decode cX9_covers 38 = .ok (.bipush 7, 2) := by decide +kernel
theorem dX9_covers_40 : decode cX9_covers 40 = .ok (.irem, 1) := by decide +kernel
theorem dX9_covers_41 : decode cX9_covers 41 = .ok (.if_icmp .ne 7, 3) := by decide +kernel
theorem dX9_covers_44 : decode cX9_covers 44 = .ok (.iconst 1, 1) := by decide +kernel
theorem dX9_covers_45 : decode cX9_covers 45 = .ok (.goto 4, 3) := by decide +kernel
theorem dX9_covers_48 : decode cX9_covers 48 = .ok (.iconst 0, 1) := by decide +kernel
theorem dX9_covers_49 : decode cX9_covers 49 = .ok (.istore 5, 2) := by decide +kernel
theorem dX9_covers_51 : decode cX9_covers 51 = .ok (.iload_n 3, 1) := by decide +kernel
theorem dX9_covers_52 : decode cX9_covers 52 = .ok (.bipush 7, 2) := by decide +kernel
theorem dX9_covers_54 : decode cX9_covers 54 = .ok (.idiv, 1) := by decide +kernel
theorem dX9_covers_55 : decode cX9_covers 55 = .ok (.istore_n 3, 1) := by decide +kernel
theorem dX9_covers_56 : decode cX9_covers 56 = .ok (.iload 4, 2) := by decide +kernel
theorem dX9_covers_58 : decode cX9_covers 58 = .ok (.bipush 7, 2) := by decide +kernel
theorem dX9_covers_60 : decode cX9_covers 60 = .ok (.idiv, 1) := by decide +kernel
theorem dX9_covers_61 : decode cX9_covers 61 = .ok (.istore 4, 2) := by decide +kernel
theorem dX9_covers_63 : decode cX9_covers 63 = .ok (.iinc 6 1, 3) := by decide +kernel
theorem dX9_covers_66 : decode cX9_covers 66 = .ok (.goto (-55), 3) := by decide +kernel
theorem dX9_covers_69 : decode cX9_covers 69 = .ok (.iload 5, 2) := by decide +kernel
theorem dX9_covers_71 : decode cX9_covers 71 = .ok (.ireturn, 1) := by decide +kernel
theorem bX9_covers_0 : tg_Snd mX9_covers 0 (fun k => ti_iload 1 (ti_istore 3 (ti_iload 2 (ti_istore 4 (ti_push (.int 1) (ti_istore 5 (ti_push (.int 0) (ti_istore 6 k)))))))) 11 := tg_seq (si_iload_n (i := 1) dX9_covers_0 rfl) (tg_seq (si_istore_n (i := 3) dX9_covers_1 rfl (Nat.le_of_ble_eq_true rfl)) (tg_seq (si_iload_n (i := 2) dX9_covers_2 rfl) (tg_seq (si_istore (i := 4) dX9_covers_3 (Nat.le_of_ble_eq_true rfl)) (tg_seq (si_iconst (v := 1) dX9_covers_5 (by decide)) (tg_seq (si_istore (i := 5) dX9_covers_6 (Nat.le_of_ble_eq_true rfl)) (tg_seq (si_iconst (v := 0) dX9_covers_8 (by decide)) (si_istore (i := 6) dX9_covers_9 (Nat.le_of_ble_eq_true rfl))))))))
theorem bX9_covers_11 : tg_Snd mX9_covers 11 (fun k => ti_iload 6 (ti_aload 0 (ti_getf 8 1 k))) 17 := tg_seq (si_iload (i := 6) dX9_covers_11) (tg_seq (si_aload_n (i := 0) dX9_covers_13 rfl) (si_getf (ci := 8) (f := 1) clX9 (Nat.le_of_ble_eq_true rfl) rfl flX9_13 dX9_covers_14))
theorem bX9_covers_20 : tg_Snd mX9_covers 20 (fun k => ti_iload 5 k) 22 := si_iload (i := 5) dX9_covers_20
theorem bX9_covers_25 : tg_Snd mX9_covers 25 (fun k => ti_iload 3 (ti_push (.int 7) (ti_irem k))) 29 := tg_seq (si_iload_n (i := 3) dX9_covers_25 rfl) (tg_seq (si_bipush (v := 7) dX9_covers_26 (by decide)) (si_irem dX9_covers_28))
theorem bX9_covers_32 : tg_Snd mX9_covers 32 (fun k => ti_iload 3 (ti_push (.int 7) (ti_irem (ti_iload 4 (ti_push (.int 7) (ti_irem k)))))) 41 := tg_seq (si_iload_n (i := 3) dX9_covers_32 rfl) (tg_seq (si_bipush (v := 7) dX9_covers_33 (by decide)) (tg_seq (si_irem dX9_covers_35) (tg_seq (si_iload (i := 4) dX9_covers_36) (tg_seq (si_bipush (v := 7) dX9_covers_38 (by decide)) (si_irem dX9_covers_40)))))
theorem bX9_covers_44 : tg_Snd mX9_covers 44 (fun k => ti_push (.int 1) k) 45 := si_iconst (v := 1) dX9_covers_44 (by decide)
theorem bX9_covers_48 : tg_Snd mX9_covers 48 (fun k => ti_push (.int 0) k) 49 := si_iconst (v := 0) dX9_covers_48 (by decide)
theorem bX9_covers_49 : tg_Snd mX9_covers 49 (fun k => ti_istore 5 (ti_iload 3 (ti_push (.int 7) (ti_idiv (ti_istore 3 (ti_iload 4 (ti_push (.int 7) (ti_idiv (ti_istore 4 (ti_iinc 6 1 k)))))))))) 66 := tg_seq (si_istore (i := 5) dX9_covers_49 (Nat.le_of_ble_eq_true rfl)) (tg_seq (si_iload_n (i := 3) dX9_covers_51 rfl) (tg_seq (si_bipush (v := 7) dX9_covers_52 (by decide)) (tg_seq (si_idiv dX9_covers_54) (tg_seq (si_istore_n (i := 3) dX9_covers_55 rfl (Nat.le_of_ble_eq_true rfl)) (tg_seq (si_iload (i := 4) dX9_covers_56) (tg_seq (si_bipush (v := 7) dX9_covers_58 (by decide)) (tg_seq (si_idiv dX9_covers_60) (tg_seq (si_istore (i := 4) dX9_covers_61 (Nat.le_of_ble_eq_true rfl)) (si_iinc (v := 1) dX9_covers_63 (by decide) (Nat.le_of_ble_eq_true rfl))))))))))
theorem bX9_covers_69 : tg_Snd mX9_covers 69 (fun k => ti_iload 5 k) 71 := si_iload (i := 5) dX9_covers_69
theorem dX9_common_0 : decode cX9_common 0 = .ok (.iconst 0, 1) := by decide +kernel
theorem dX9_common_1 : decode cX9_common 1 = .ok (.istore_n 3, 1) := by decide +kernel
theorem dX9_common_2 : decode cX9_common 2 = .ok (.iconst 1, 1) := by decide +kernel
theorem dX9_common_3 : decode cX9_common 3 = .ok (.istore 4, 2) := by decide +kernel
theorem dX9_common_5 : decode cX9_common 5 = .ok (.iload_n 1, 1) := by decide +kernel
theorem dX9_common_6 : decode cX9_common 6 = .ok (.istore 5, 2) := by decide +kernel
theorem dX9_common_8 : decode cX9_common 8 = .ok (.iload_n 2, 1) := by decide +kernel
theorem dX9_common_9 : decode cX9_common 9 = .ok (.istore 6, 2) := by decide +kernel
theorem dX9_common_11 : decode cX9_common 11 = .ok (.iconst 0, 1) := by decide +kernel
theorem dX9_common_12 : decode cX9_common 12 = .ok (.istore 7, 2) := by decide +kernel
theorem dX9_common_14 : decode cX9_common 14 = .ok (.iload 7, 2) := by decide +kernel
theorem dX9_common_16 : decode cX9_common 16 = .ok (.aload_n 0, 1) := by decide +kernel
theorem dX9_common_17 : decode cX9_common 17 = .ok (.getfield 13, 3) := by decide +kernel
theorem dX9_common_20 : decode cX9_common 20 = .ok (.if_icmp .ge 58, 3) := by decide +kernel
theorem dX9_common_23 : decode cX9_common 23 = .ok (.iload_n 3, 1) := by decide +kernel
theorem dX9_common_24 : decode cX9_common 24 = .ok (.iload 5, 2) := by decide +kernel
theorem dX9_common_26 : decode cX9_common 26 = .ok (.bipush 7, 2) := by decide +kernel
theorem dX9_common_28 : decode cX9_common 28 = .ok (.irem, 1) := by decide +kernel
theorem dX9_common_29 : decode cX9_common 29 = .ok (.iload 6, 2) := by decide +kernel
theorem dX9_common_31 : decode cX9_common 31 = .ok (.bipush 7, 2) := by decide +kernel
theorem dX9_common_33 : decode cX9_common 33 = .ok (.irem, 1) := by decide +kernel
theorem dX9_common_34 : decode cX9_common 34 = .ok (.if_icmp .ne 14, 3) := by decide +kernel
theorem dX9_common_37 : decode cX9_common 37 = .ok (.iload 5, 2) := by decide +kernel
theorem dX9_common_39 : decode cX9_common 39 = .ok (.bipush 7, 2) := by decide +kernel
theorem dX9_common_41 : decode cX9_common 41 = .ok (.irem, 1) := by decide +kernel
theorem dX9_common_42 : decode cX9_common 42 = .ok (.iload 4, 2) := by decide +kernel
theorem dX9_common_44 : decode cX9_common 44 = .ok (.imul, 1) := by decide +kernel
theorem dX9_common_45 : decode cX9_common 45 = .ok (.goto 4, 3) := by decide +kernel
theorem dX9_common_48 : decode cX9_common 48 = .ok (.iconst 0, 1) := by decide +kernel
theorem dX9_common_49 : decode cX9_common 49 = .ok (.iadd, 1) := by decide +kernel
theorem dX9_common_50 : decode cX9_common 50 = .ok (.istore_n 3, 1) := by decide +kernel
theorem dX9_common_51 : decode cX9_common 51 = .ok (.iload 5, 2) := by decide +kernel
theorem dX9_common_53 : decode cX9_common 53 = .ok (.bipush 7, 2) := by decide +kernel
theorem dX9_common_55 : decode cX9_common 55 = .ok (.idiv, 1) := by decide +kernel
theorem dX9_common_56 : decode cX9_common 56 = .ok (.istore 5, 2) := by decide +kernel
theorem dX9_common_58 : decode cX9_common 58 = .ok (.iload 6, 2) := by decide +kernel
theorem dX9_common_60 : decode cX9_common 60 = .ok (.bipush 7, 2) := by decide +kernel
theorem dX9_common_62 : decode cX9_common 62 = .ok (.idiv, 1) := by decide +kernel
theorem dX9_common_63 : decode cX9_common 63 = .ok (.istore 6, 2) := by decide +kernel
theorem dX9_common_65 : decode cX9_common 65 = .ok (.iload 4, 2) := by decide +kernel
theorem dX9_common_67 : decode cX9_common 67 = .ok (.bipush 7, 2) := by decide +kernel
theorem dX9_common_69 : decode cX9_common 69 = .ok (.imul, 1) := by decide +kernel
theorem dX9_common_70 : decode cX9_common 70 = .ok (.istore 4, 2) := by decide +kernel
theorem dX9_common_72 : decode cX9_common 72 = .ok (.iinc 7 1, 3) := by decide +kernel
theorem dX9_common_75 : decode cX9_common 75 = .ok (.goto (-61), 3) := by decide +kernel
theorem dX9_common_78 : decode cX9_common 78 = .ok (.iload_n 3, 1) := by decide +kernel
theorem dX9_common_79 : decode cX9_common 79 = .ok (.ireturn, 1) := by decide +kernel
theorem bX9_common_0 : tg_Snd mX9_common 0 (fun k => ti_push (.int 0) (ti_istore 3 (ti_push (.int 1) (ti_istore 4 (ti_iload 1 (ti_istore 5 (ti_iload 2 (ti_istore 6 (ti_push (.int 0) (ti_istore 7 k)))))))))) 14 := tg_seq (si_iconst (v := 0) dX9_common_0 (by decide)) (tg_seq (si_istore_n (i := 3) dX9_common_1 rfl (Nat.le_of_ble_eq_true rfl)) (tg_seq (si_iconst (v := 1) dX9_common_2 (by decide)) (tg_seq (si_istore (i := 4) dX9_common_3 (Nat.le_of_ble_eq_true rfl)) (tg_seq (si_iload_n (i := 1) dX9_common_5 rfl) (tg_seq (si_istore (i := 5) dX9_common_6 (Nat.le_of_ble_eq_true rfl)) (tg_seq (si_iload_n (i := 2) dX9_common_8 rfl) (tg_seq (si_istore (i := 6) dX9_common_9 (Nat.le_of_ble_eq_true rfl)) (tg_seq (si_iconst (v := 0) dX9_common_11 (by decide)) (si_istore (i := 7) dX9_common_12 (Nat.le_of_ble_eq_true rfl))))))))))
theorem bX9_common_14 : tg_Snd mX9_common 14 (fun k => ti_iload 7 (ti_aload 0 (ti_getf 8 1 k))) 20 := tg_seq (si_iload (i := 7) dX9_common_14) (tg_seq (si_aload_n (i := 0) dX9_common_16 rfl) (si_getf (ci := 8) (f := 1) clX9 (Nat.le_of_ble_eq_true rfl) rfl flX9_13 dX9_common_17))
theorem bX9_common_23 : tg_Snd mX9_common 23 (fun k => ti_iload 3 (ti_iload 5 (ti_push (.int 7) (ti_irem (ti_iload 6 (ti_push (.int 7) (ti_irem k))))))) 34 := tg_seq (si_iload_n (i := 3) dX9_common_23 rfl) (tg_seq (si_iload (i := 5) dX9_common_24) (tg_seq (si_bipush (v := 7) dX9_common_26 (by decide)) (tg_seq (si_irem dX9_common_28) (tg_seq (si_iload (i := 6) dX9_common_29) (tg_seq (si_bipush (v := 7) dX9_common_31 (by decide)) (si_irem dX9_common_33))))))
theorem bX9_common_37 : tg_Snd mX9_common 37 (fun k => ti_iload 5 (ti_push (.int 7) (ti_irem (ti_iload 4 (ti_imul k))))) 45 := tg_seq (si_iload (i := 5) dX9_common_37) (tg_seq (si_bipush (v := 7) dX9_common_39 (by decide)) (tg_seq (si_irem dX9_common_41) (tg_seq (si_iload (i := 4) dX9_common_42) (si_imul dX9_common_44))))
theorem bX9_common_48 : tg_Snd mX9_common 48 (fun k => ti_push (.int 0) k) 49 := si_iconst (v := 0) dX9_common_48 (by decide)
theorem bX9_common_49 : tg_Snd mX9_common 49 (fun k => ti_iadd (ti_istore 3 (ti_iload 5 (ti_push (.int 7) (ti_idiv (ti_istore 5 (ti_iload 6 (ti_push (.int 7) (ti_idiv (ti_istore 6 (ti_iload 4 (ti_push (.int 7) (ti_imul (ti_istore 4 (ti_iinc 7 1 k))))))))))))))) 75 := tg_seq (si_iadd dX9_common_49) (tg_seq (si_istore_n (i := 3) dX9_common_50 rfl (Nat.le_of_ble_eq_true rfl)) (tg_seq (si_iload (i := 5) dX9_common_51) (tg_seq (si_bipush (v := 7) dX9_common_53 (by decide)) (tg_seq (si_idiv dX9_common_55) (tg_seq (si_istore (i := 5) dX9_common_56 (Nat.le_of_ble_eq_true rfl)) (tg_seq (si_iload (i := 6) dX9_common_58) (tg_seq (si_bipush (v := 7) dX9_common_60 (by decide)) (tg_seq (si_idiv dX9_common_62) (tg_seq (si_istore (i := 6) dX9_common_63 (Nat.le_of_ble_eq_true rfl)) (tg_seq (si_iload (i := 4) dX9_common_65) (tg_seq (si_bipush (v := 7) dX9_common_67 (by decide)) (tg_seq (si_imul dX9_common_69) (tg_seq (si_istore (i := 4) dX9_common_70 (Nat.le_of_ble_eq_true rfl)) (si_iinc (v := 1) dX9_common_72 (by decide) (Nat.le_of_ble_eq_true rfl)))))))))))))))
theorem bX9_common_78 : tg_Snd mX9_common 78 (fun k => ti_iload 3 k) 79 := si_iload_n (i := 3) dX9_common_78 rfl
theorem dX9_gather_0 : decode cX9_gather 0 = .ok (.aload_n 0, 1) := by decide +kernel
theorem dX9_gather_1 : decode cX9_gather 1 = .ok (.iconst 0, 1) := by decide +kernel
theorem dX9_gather_2 : decode cX9_gather 2 = .ok (.putfield 172, 3) := by decide +kernel
theorem dX9_gather_5 : decode cX9_gather 5 = .ok (.aload_n 0, 1) := by decide +kernel
theorem dX9_gather_6 : decode cX9_gather 6 = .ok (.iconst 0, 1) := by decide +kernel
theorem dX9_gather_7 : decode cX9_gather 7 = .ok (.putfield 175, 3) := by decide +kernel
theorem dX9_gather_10 : decode cX9_gather 10 = .ok (.aload_n 0, 1) := by decide +kernel
theorem dX9_gather_11 : decode cX9_gather 11 = .ok (.ldc 178, 2) := by decide +kernel
theorem dX9_gather_13 : decode cX9_gather 13 = .ok (.putfield 179, 3) := by decide +kernel
theorem dX9_gather_16 : decode cX9_gather 16 = .ok (.aload_n 0, 1) := by decide +kernel
theorem dX9_gather_17 : decode cX9_gather 17 = .ok (.ldc 182, 2) := by decide +kernel
theorem dX9_gather_19 : decode cX9_gather 19 = .ok (.putfield 183, 3) := by decide +kernel
theorem dX9_gather_22 : decode cX9_gather 22 = .ok (.aload_n 0, 1) := by decide +kernel
theorem dX9_gather_23 : decode cX9_gather 23 = .ok (.iconst (-1), 1) := by decide +kernel
theorem dX9_gather_24 : decode cX9_gather 24 = .ok (.putfield 186, 3) := by decide +kernel
theorem dX9_gather_27 : decode cX9_gather 27 = .ok (.iconst 0, 1) := by decide +kernel
theorem dX9_gather_28 : decode cX9_gather 28 = .ok (.istore_n 3, 1) := by decide +kernel
theorem dX9_gather_29 : decode cX9_gather 29 = .ok (.iload_n 3, 1) := by decide +kernel
theorem dX9_gather_30 : decode cX9_gather 30 = .ok (.aload_n 0, 1) := by decide +kernel
theorem dX9_gather_31 : decode cX9_gather 31 = .ok (.getfield 7, 3) := by decide +kernel
theorem dX9_gather_34 : decode cX9_gather 34 = .ok (.iload_n 1, 1) := by decide +kernel
theorem dX9_gather_35 : decode cX9_gather 35 = .ok (.iconst 0, 1) := by decide +kernel
theorem dX9_gather_36 : decode cX9_gather 36 = .ok (.iadd, 1) := by decide +kernel
theorem dX9_gather_37 : decode cX9_gather 37 = .ok (.iaload, 1) := by decide +kernel
theorem dX9_gather_38 : decode cX9_gather 38 = .ok (.if_icmp .ge 136, 3) := by decide +kernel
theorem dX9_gather_41 : decode cX9_gather 41 = .ok (.aload_n 0, 1) := by decide +kernel
theorem dX9_gather_42 : decode cX9_gather 42 = .ok (.getfield 7, 3) := by decide +kernel
theorem dX9_gather_45 : decode cX9_gather 45 = .ok (.iload_n 1, 1) := by decide +kernel
theorem dX9_gather_46 : decode cX9_gather 46 = .ok (.iconst 2, 1) := by decide +kernel
theorem dX9_gather_47 : decode cX9_gather 47 = .ok (.iadd, 1) := by decide +kernel
theorem dX9_gather_48 : decode cX9_gather 48 = .ok (.iload_n 3, 1) := by decide +kernel
theorem dX9_gather_49 : decode cX9_gather 49 = .ok (.iadd, 1) := by decide +kernel
theorem dX9_gather_50 : decode cX9_gather 50 = .ok (.iaload, 1) := by decide +kernel
theorem dX9_gather_51 : decode cX9_gather 51 = .ok (.istore 4, 2) := by decide +kernel
theorem dX9_gather_53 : decode cX9_gather 53 = .ok (.aload_n 0, 1) := by decide +kernel
theorem dX9_gather_54 : decode cX9_gather 54 = .ok (.iload_n 2, 1) := by decide +kernel
theorem dX9_gather_55 : decode cX9_gather 55 = .ok (.iload 4, 2) := by decide +kernel
theorem dX9_gather_57 : decode cX9_gather 57 = .ok (.invokevirtual 189, 3) := by decide +kernel
theorem dX9_gather_60 : decode cX9_gather 60 = .ok (.ifCond .eq 108, 3) := by decide +kernel
theorem dX9_gather_63 : decode cX9_gather 63 = .ok (.aload_n 0, 1) := by decide +kernel
theorem dX9_gather_64 : decode cX9_gather 64 = .ok (.getfield 7, 3) := by decide +kernel
theorem dX9_gather_67 : decode cX9_gather 67 = .ok (.iload_n 1, 1) := by decide +kernel
theorem dX9_gather_68 : decode cX9_gather 68 = .ok (.bipush 42, 2) := by decide +kernel
theorem dX9_gather_70 : decode cX9_gather 70 = .ok (.iadd, 1) := by decide +kernel
theorem dX9_gather_71 : decode cX9_gather 71 = .ok (.iload_n 3, 1) := by decide +kernel
theorem dX9_gather_72 : decode cX9_gather 72 = .ok (.iadd, 1) := by decide +kernel
theorem dX9_gather_73 : decode cX9_gather 73 = .ok (.iaload, 1) := by decide +kernel
theorem dX9_gather_74 : decode cX9_gather 74 = .ok (.istore 5, 2) := by decide +kernel
theorem dX9_gather_76 : decode cX9_gather 76 = .ok (.aload_n 0, 1) := by decide +kernel
theorem dX9_gather_77 : decode cX9_gather 77 = .ok (.dup, 1) := by decide +kernel
theorem dX9_gather_78 : decode cX9_gather 78 = .ok (.getfield 172, 3) := by decide +kernel
theorem dX9_gather_81 : decode cX9_gather 81 = .ok (.iconst 1, 1) := by decide +kernel
theorem dX9_gather_82 : decode cX9_gather 82 = .ok (.iadd, 1) := by decide +kernel
theorem dX9_gather_83 : decode cX9_gather 83 = .ok (.putfield 172, 3) := by decide +kernel
theorem dX9_gather_86 : decode cX9_gather 86 = .ok (.aload_n 0, 1) := by decide +kernel
theorem dX9_gather_87 : decode cX9_gather 87 = .ok (.dup, 1) := by decide +kernel
theorem dX9_gather_88 : decode cX9_gather 88 = .ok (.getfield 175, 3) := by decide +kernel
theorem dX9_gather_91 : decode cX9_gather 91 = .ok (.iload 5, 2) := by decide +kernel
theorem dX9_gather_93 : decode cX9_gather 93 = .ok (.iadd, 1) := by decide +kernel
theorem dX9_gather_94 : decode cX9_gather 94 = .ok (.putfield 175, 3) := by decide +kernel
theorem dX9_gather_97 : decode cX9_gather 97 = .ok (.aload_n 0, 1) := by decide +kernel
theorem dX9_gather_98 : decode cX9_gather 98 = .ok (.iload 5, 2) := by decide +kernel
theorem dX9_gather_100 : decode cX9_gather 100 = .ok (.aload_n 0, 1) := by decide +kernel
theorem dX9_gather_101 : decode cX9_gather 101 = .ok (.getfield 179, 3) := by decide +kernel
theorem dX9_gather_104 : decode cX9_gather 104 = .ok (.if_icmp .ge 8, 3) := by decide +kernel
theorem dX9_gather_107 : decode cX9_gather 107 = .ok (.iload 5, 2) := by decide +kernel
theorem dX9_gather_109 : decode cX9_gather 109 = .ok (.goto 7, 3) := by decide +kernel
theorem dX9_gather_112 : decode cX9_gather 112 = .ok (.aload_n 0, 1) := by decide +kernel
theorem dX9_gather_113 : decode cX9_gather 113 = .ok (.getfield 179, 3) := by decide +kernel
theorem dX9_gather_116 : decode cX9_gather 116 = .ok (.putfield 179, 3) := by decide +kernel
theorem dX9_gather_119 : decode cX9_gather 119 = .ok (.aload_n 0, 1) := by decide +kernel
theorem dX9_gather_120 : decode cX9_gather 120 = .ok (.iload 5, 2) := by decide +kernel
theorem dX9_gather_122 : decode cX9_gather 122 = .ok (.aload_n 0, 1) := by decide +kernel
theorem dX9_gather_123 : decode cX9_gather 123 = .ok (.getfield 183, 3) := by decide +kernel
theorem dX9_gather_126 : decode cX9_gather 126 = .ok (.if_icmp .le 8, 3) := by decide +kernel
theorem dX9_gather_129 : decode cX9_gather 129 = .ok (.iload 5, 2) := by decide +kernel
theorem dX9_gather_131 : decode cX9_gather 131 = .ok (.goto 7, 3) := by decide +kernel
theorem dX9_gather_134 : decode cX9_gather 134 = .ok (.aload_n 0, 1) := by decide +kernel
theorem dX9_gather_135 : decode cX9_gather 135 = .ok (.getfield 183, 3) := by decide +kernel
theorem dX9_gather_138 : decode cX9_gather 138 = .ok (.putfield 183, 3) := by decide +kernel
theorem dX9_gather_141 : decode cX9_gather 141 = .ok (.aload_n 0, 1) := by decide +kernel
theorem dX9_gather_142 : decode cX9_gather 142 = .ok (.aload_n 0, 1) := by decide +kernel
theorem dX9_gather_143 : decode cX9_gather 143 = .ok (.getfield 186, 3) := by decide +kernel
theorem dX9_gather_146 : decode cX9_gather 146 = .ok (.iconst (-1), 1) := by decide +kernel
theorem dX9_gather_147 : decode cX9_gather 147 = .ok (.if_icmp .ne 8, 3) := by decide +kernel
theorem dX9_gather_150 : decode cX9_gather 150 = .ok (.iload 4, 2) := by decide +kernel
theorem dX9_gather_152 : decode cX9_gather 152 = .ok (.goto 13, 3) := by decide +kernel
theorem dX9_gather_155 : decode cX9_gather 155 = .ok (.aload_n 0, 1) := by decide +kernel
theorem dX9_gather_156 : decode cX9_gather 156 = .ok (.aload_n 0, 1) := by decide +kernel
theorem dX9_gather_157 : decode cX9_gather 157 = .ok (.getfield 186, 3) := by decide +kernel
theorem dX9_gather_160 : decode cX9_gather 160 = .ok (.iload 4, 2) := by decide +kernel
theorem dX9_gather_162 : decode cX9_gather 162 = .ok (.invokevirtual 192, 3) := by decide +kernel
theorem dX9_gather_165 : decode cX9_gather 165 = .ok (.putfield 186, 3) := by decide +kernel
theorem dX9_gather_168 : decode cX9_gather 168 = .ok (.iinc 3 1, 3) := by decide +kernel
theorem dX9_gather_171 : decode cX9_gather 171 = .ok (.goto (-142), 3) := by decide +kernel
theorem dX9_gather_174 : decode cX9_gather 174 = .ok (.return_, 1) := by decide +kernel
theorem bX9_gather_0 : tg_Snd mX9_gather 0 (fun k => ti_aload 0 (ti_push (.int 0) (ti_putfI 8 21 (ti_aload 0 (ti_push (.int 0) (ti_putfI 8 22 (ti_aload 0 (ti_push (.int 999999) (ti_putfI 8 23 (ti_aload 0 (ti_push (.int (-999999)) (ti_putfI 8 24 (ti_aload 0 (ti_push (.int (-1)) (ti_putfI 8 25 (ti_push (.int 0) (ti_istore 3 k))))))))))))))))) 29 := tg_seq (si_aload_n (i := 0) dX9_gather_0 rfl) (tg_seq (si_iconst (v := 0) dX9_gather_1 (by decide)) (tg_seq (si_putfI (ci := 8) (f := 21) (ty := .int) clX9 tyX9_ok nmX9 (Nat.le_of_ble_eq_true rfl) rfl (by decide +kernel) (fun _ _ => ⟨rfl, rfl⟩) flX9_172 dX9_gather_2) (tg_seq (si_aload_n (i := 0) dX9_gather_5 rfl) (tg_seq (si_iconst (v := 0) dX9_gather_6 (by decide)) (tg_seq (si_putfI (ci := 8) (f := 22) (ty := .int) clX9 tyX9_ok nmX9 (Nat.le_of_ble_eq_true rfl) rfl (by decide +kernel) (fun _ _ => ⟨rfl, rfl⟩) flX9_175 dX9_gather_7) (tg_seq (si_aload_n (i := 0) dX9_gather_10 rfl) (tg_seq (si_ldc (v := 999999) dX9_gather_11 kcX9_178) (tg_seq (si_putfI (ci := 8) (f := 23) (ty := .int) clX9 tyX9_ok nmX9 (Nat.le_of_ble_eq_true rfl) rfl (by decide +kernel) (fun _ _ => ⟨rfl, rfl⟩) flX9_179 dX9_gather_13) (tg_seq (si_aload_n (i := 0) dX9_gather_16 rfl) (tg_seq (si_ldc (v := -999999) dX9_gather_17 kcX9_182) (tg_seq (si_putfI (ci := 8) (f := 24) (ty := .int) clX9 tyX9_ok nmX9 (Nat.le_of_ble_eq_true rfl) rfl (by decide +kernel) (fun _ _ => ⟨rfl, rfl⟩) flX9_183 dX9_gather_19) (tg_seq (si_aload_n (i := 0) dX9_gather_22 rfl) (tg_seq (si_iconst (v := -1) dX9_gather_23 (by decide)) (tg_seq (si_putfI (ci := 8) (f := 25) (ty := .int) clX9 tyX9_ok nmX9 (Nat.le_of_ble_eq_true rfl) rfl (by decide +kernel) (fun _ _ => ⟨rfl, rfl⟩) flX9_186 dX9_gather_24) (tg_seq (si_iconst (v := 0) dX9_gather_27 (by decide)) (si_istore_n (i := 3) dX9_gather_28 rfl (Nat.le_of_ble_eq_true rfl)))))))))))))))))
theorem bX9_gather_29 : tg_Snd mX9_gather 29 (fun k => ti_iload 3 (ti_aload 0 (ti_getf 8 0 (ti_iload 1 (ti_push (.int 0) (ti_iadd (ti_iald k))))))) 38 := tg_seq (si_iload_n (i := 3) dX9_gather_29 rfl) (tg_seq (si_aload_n (i := 0) dX9_gather_30 rfl) (tg_seq (si_getf (ci := 8) (f := 0) clX9 (Nat.le_of_ble_eq_true rfl) rfl flX9_7 dX9_gather_31) (tg_seq (si_iload_n (i := 1) dX9_gather_34 rfl) (tg_seq (si_iconst (v := 0) dX9_gather_35 (by decide)) (tg_seq (si_iadd dX9_gather_36) (si_iald dX9_gather_37))))))
theorem bX9_gather_41 : tg_Snd mX9_gather 41 (fun k => ti_aload 0 (ti_getf 8 0 (ti_iload 1 (ti_push (.int 2) (ti_iadd (ti_iload 3 (ti_iadd (ti_iald (ti_istore 4 (ti_aload 0 (ti_iload 2 (ti_iload 4 k)))))))))))) 57 := tg_seq (si_aload_n (i := 0) dX9_gather_41 rfl) (tg_seq (si_getf (ci := 8) (f := 0) clX9 (Nat.le_of_ble_eq_true rfl) rfl flX9_7 dX9_gather_42) (tg_seq (si_iload_n (i := 1) dX9_gather_45 rfl) (tg_seq (si_iconst (v := 2) dX9_gather_46 (by decide)) (tg_seq (si_iadd dX9_gather_47) (tg_seq (si_iload_n (i := 3) dX9_gather_48 rfl) (tg_seq (si_iadd dX9_gather_49) (tg_seq (si_iald dX9_gather_50) (tg_seq (si_istore (i := 4) dX9_gather_51 (Nat.le_of_ble_eq_true rfl)) (tg_seq (si_aload_n (i := 0) dX9_gather_53 rfl) (tg_seq (si_iload_n (i := 2) dX9_gather_54 rfl) (si_iload (i := 4) dX9_gather_55)))))))))))
theorem bX9_gather_63 : tg_Snd mX9_gather 63 (fun k => ti_aload 0 (ti_getf 8 0 (ti_iload 1 (ti_push (.int 42) (ti_iadd (ti_iload 3 (ti_iadd (ti_iald (ti_istore 5 (ti_aload 0 (ti_dup (ti_getf 8 21 (ti_push (.int 1) (ti_iadd (ti_putfI 8 21 (ti_aload 0 (ti_dup (ti_getf 8 22 (ti_iload 5 (ti_iadd (ti_putfI 8 22 (ti_aload 0 (ti_iload 5 (ti_aload 0 (ti_getf 8 23 k))))))))))))))))))))))))) 104 := tg_seq (si_aload_n (i := 0) dX9_gather_63 rfl) (tg_seq (si_getf (ci := 8) (f := 0) clX9 (Nat.le_of_ble_eq_true rfl) rfl flX9_7 dX9_gather_64) (tg_seq (si_iload_n (i := 1) dX9_gather_67 rfl) (tg_seq (si_bipush (v := 42) dX9_gather_68 (by decide)) (tg_seq (si_iadd dX9_gather_70) (tg_seq (si_iload_n (i := 3) dX9_gather_71 rfl) (tg_seq (si_iadd dX9_gather_72) (tg_seq (si_iald dX9_gather_73) (tg_seq (si_istore (i := 5) dX9_gather_74 (Nat.le_of_ble_eq_true rfl)) (tg_seq (si_aload_n (i := 0) dX9_gather_76 rfl) (tg_seq (si_dup dX9_gather_77) (tg_seq (si_getf (ci := 8) (f := 21) clX9 (Nat.le_of_ble_eq_true rfl) rfl flX9_172 dX9_gather_78) (tg_seq (si_iconst (v := 1) dX9_gather_81 (by decide)) (tg_seq (si_iadd dX9_gather_82) (tg_seq (si_putfI (ci := 8) (f := 21) (ty := .int) clX9 tyX9_ok nmX9 (Nat.le_of_ble_eq_true rfl) rfl (by decide +kernel) (fun _ _ => ⟨rfl, rfl⟩) flX9_172 dX9_gather_83) (tg_seq (si_aload_n (i := 0) dX9_gather_86 rfl) (tg_seq (si_dup dX9_gather_87) (tg_seq (si_getf (ci := 8) (f := 22) clX9 (Nat.le_of_ble_eq_true rfl) rfl flX9_175 dX9_gather_88) (tg_seq (si_iload (i := 5) dX9_gather_91) (tg_seq (si_iadd dX9_gather_93) (tg_seq (si_putfI (ci := 8) (f := 22) (ty := .int) clX9 tyX9_ok nmX9 (Nat.le_of_ble_eq_true rfl) rfl (by decide +kernel) (fun _ _ => ⟨rfl, rfl⟩) flX9_175 dX9_gather_94) (tg_seq (si_aload_n (i := 0) dX9_gather_97 rfl) (tg_seq (si_iload (i := 5) dX9_gather_98) (tg_seq (si_aload_n (i := 0) dX9_gather_100 rfl) (si_getf (ci := 8) (f := 23) clX9 (Nat.le_of_ble_eq_true rfl) rfl flX9_179 dX9_gather_101))))))))))))))))))))))))
theorem bX9_gather_107 : tg_Snd mX9_gather 107 (fun k => ti_iload 5 k) 109 := si_iload (i := 5) dX9_gather_107
theorem bX9_gather_112 : tg_Snd mX9_gather 112 (fun k => ti_aload 0 (ti_getf 8 23 k)) 116 := tg_seq (si_aload_n (i := 0) dX9_gather_112 rfl) (si_getf (ci := 8) (f := 23) clX9 (Nat.le_of_ble_eq_true rfl) rfl flX9_179 dX9_gather_113)
theorem bX9_gather_116 : tg_Snd mX9_gather 116 (fun k => ti_putfI 8 23 (ti_aload 0 (ti_iload 5 (ti_aload 0 (ti_getf 8 24 k))))) 126 := tg_seq (si_putfI (ci := 8) (f := 23) (ty := .int) clX9 tyX9_ok nmX9 (Nat.le_of_ble_eq_true rfl) rfl (by decide +kernel) (fun _ _ => ⟨rfl, rfl⟩) flX9_179 dX9_gather_116) (tg_seq (si_aload_n (i := 0) dX9_gather_119 rfl) (tg_seq (si_iload (i := 5) dX9_gather_120) (tg_seq (si_aload_n (i := 0) dX9_gather_122 rfl) (si_getf (ci := 8) (f := 24) clX9 (Nat.le_of_ble_eq_true rfl) rfl flX9_183 dX9_gather_123))))
theorem bX9_gather_129 : tg_Snd mX9_gather 129 (fun k => ti_iload 5 k) 131 := si_iload (i := 5) dX9_gather_129
theorem bX9_gather_134 : tg_Snd mX9_gather 134 (fun k => ti_aload 0 (ti_getf 8 24 k)) 138 := tg_seq (si_aload_n (i := 0) dX9_gather_134 rfl) (si_getf (ci := 8) (f := 24) clX9 (Nat.le_of_ble_eq_true rfl) rfl flX9_183 dX9_gather_135)
theorem bX9_gather_138 : tg_Snd mX9_gather 138 (fun k => ti_putfI 8 24 (ti_aload 0 (ti_aload 0 (ti_getf 8 25 (ti_push (.int (-1)) k))))) 147 := tg_seq (si_putfI (ci := 8) (f := 24) (ty := .int) clX9 tyX9_ok nmX9 (Nat.le_of_ble_eq_true rfl) rfl (by decide +kernel) (fun _ _ => ⟨rfl, rfl⟩) flX9_183 dX9_gather_138) (tg_seq (si_aload_n (i := 0) dX9_gather_141 rfl) (tg_seq (si_aload_n (i := 0) dX9_gather_142 rfl) (tg_seq (si_getf (ci := 8) (f := 25) clX9 (Nat.le_of_ble_eq_true rfl) rfl flX9_186 dX9_gather_143) (si_iconst (v := -1) dX9_gather_146 (by decide)))))
theorem bX9_gather_150 : tg_Snd mX9_gather 150 (fun k => ti_iload 4 k) 152 := si_iload (i := 4) dX9_gather_150
theorem bX9_gather_155 : tg_Snd mX9_gather 155 (fun k => ti_aload 0 (ti_aload 0 (ti_getf 8 25 (ti_iload 4 k)))) 162 := tg_seq (si_aload_n (i := 0) dX9_gather_155 rfl) (tg_seq (si_aload_n (i := 0) dX9_gather_156 rfl) (tg_seq (si_getf (ci := 8) (f := 25) clX9 (Nat.le_of_ble_eq_true rfl) rfl flX9_186 dX9_gather_157) (si_iload (i := 4) dX9_gather_160)))
theorem bX9_gather_165 : tg_Snd mX9_gather 165 (fun k => ti_putfI 8 25 k) 168 := si_putfI (ci := 8) (f := 25) (ty := .int) clX9 tyX9_ok nmX9 (Nat.le_of_ble_eq_true rfl) rfl (by decide +kernel) (fun _ _ => ⟨rfl, rfl⟩) flX9_186 dX9_gather_165
theorem bX9_gather_168 : tg_Snd mX9_gather 168 (fun k => ti_iinc 3 1 k) 171 := si_iinc (v := 1) dX9_gather_168 (by decide) (Nat.le_of_ble_eq_true rfl)
theorem vX9_gather_57 : tg_VS mX9_gather 57 mX9_covers 2 := ⟨okX9_covers, ⟨189, dX9_gather_57, mlX9_189⟩, insX9_covers, selX9_covers, parX9_covers, rfl, rfl, Nat.le_of_ble_eq_true rfl, Nat.le_of_ble_eq_true rfl⟩
theorem vX9_gather_162 : tg_VS mX9_gather 162 mX9_common 2 := ⟨okX9_common, ⟨192, dX9_gather_162, mlX9_192⟩, insX9_common, selX9_common, parX9_common, rfl, rfl, Nat.le_of_ble_eq_true rfl, Nat.le_of_ble_eq_true rfl⟩
theorem dX9_cell_0 : decode cX9_cell 0 = .ok (.aload_n 0, 1) := by decide +kernel
theorem dX9_cell_1 : decode cX9_cell 1 = .ok (.iload_n 1, 1) := by decide +kernel
theorem dX9_cell_2 : decode cX9_cell 2 = .ok (.invokevirtual 147, 3) := by decide +kernel
theorem dX9_cell_5 : decode cX9_cell 5 = .ok (.ifCond .eq 15, 3) := by decide +kernel
theorem dX9_cell_8 : decode cX9_cell 8 = .ok (.iload_n 2, 1) := by decide +kernel
theorem dX9_cell_9 : decode cX9_cell 9 = .ok (.i2l, 1) := by decide +kernel
theorem dX9_cell_10 : decode cX9_cell 10 = .ok (.lconst 0, 1) := by decide +kernel
theorem dX9_cell_11 : decode cX9_cell 11 = .ok (.ldc2_w 195, 3) := by decide +kernel
theorem dX9_cell_14 : decode cX9_cell 14 = .ok (.invokestatic 54, 3) := by decide +kernel
theorem dX9_cell_17 : decode cX9_cell 17 = .ok (.ifCond .ne 6, 3) := by decide +kernel
theorem dX9_cell_20 : decode cX9_cell 20 = .ok (.bipush (-3), 2) := by decide +kernel
theorem dX9_cell_22 : decode cX9_cell 22 = .ok (.ireturn, 1) := by decide +kernel
theorem dX9_cell_23 : decode cX9_cell 23 = .ok (.aload_n 0, 1) := by decide +kernel
theorem dX9_cell_24 : decode cX9_cell 24 = .ok (.iconst 0, 1) := by decide +kernel
theorem dX9_cell_25 : decode cX9_cell 25 = .ok (.iload_n 1, 1) := by decide +kernel
theorem dX9_cell_26 : decode cX9_cell 26 = .ok (.invokevirtual 197, 3) := by decide +kernel
theorem dX9_cell_29 : decode cX9_cell 29 = .ok (.iload_n 2, 1) := by decide +kernel
theorem dX9_cell_30 : decode cX9_cell 30 = .ok (.ifCond .ne 10, 3) := by decide +kernel
theorem dX9_cell_33 : decode cX9_cell 33 = .ok (.aload_n 0, 1) := by decide +kernel
theorem dX9_cell_34 : decode cX9_cell 34 = .ok (.getfield 172, 3) := by decide +kernel
theorem dX9_cell_37 : decode cX9_cell 37 = .ok (.goto 50, 3) := by decide +kernel
theorem dX9_cell_40 : decode cX9_cell 40 = .ok (.iload_n 2, 1) := by decide +kernel
theorem dX9_cell_41 : decode cX9_cell 41 = .ok (.iconst 1, 1) := by decide +kernel
theorem dX9_cell_42 : decode cX9_cell 42 = .ok (.if_icmp .ne 14, 3) := by decide +kernel
theorem dX9_cell_45 : decode cX9_cell 45 = .ok (.aload_n 0, 1) := by decide +kernel
theorem dX9_cell_46 : decode cX9_cell 46 = .ok (.getfield 175, 3) := by decide +kernel
theorem dX9_cell_49 : decode cX9_cell 49 = .ok (.sipush 10000, 3) := by decide +kernel
theorem dX9_cell_52 : decode cX9_cell 52 = .ok (.iadd, 1) := by decide +kernel
theorem dX9_cell_53 : decode cX9_cell 53 = .ok (.goto 34, 3) := by decide +kernel
theorem dX9_cell_56 : decode cX9_cell 56 = .ok (.aload_n 0, 1) := by decide +kernel
theorem dX9_cell_57 : decode cX9_cell 57 = .ok (.getfield 172, 3) := by decide +kernel
theorem dX9_cell_60 : decode cX9_cell 60 = .ok (.ifCond .ne 7, 3) := by decide +kernel
theorem dX9_cell_63 : decode cX9_cell 63 = .ok (.iconst (-1), 1) := by decide +kernel
theorem dX9_cell_64 : decode cX9_cell 64 = .ok (.goto 23, 3) := by decide +kernel
theorem dX9_cell_67 : decode cX9_cell 67 = .ok (.sipush 10000, 3) := by decide +kernel
theorem dX9_cell_70 : decode cX9_cell 70 = .ok (.iload_n 2, 1) := by decide +kernel
theorem dX9_cell_71 : decode cX9_cell 71 = .ok (.iconst 2, 1) := by decide +kernel
theorem dX9_cell_72 : decode cX9_cell 72 = .ok (.if_icmp .ne 10, 3) := by decide +kernel
theorem dX9_cell_75 : decode cX9_cell 75 = .ok (.aload_n 0, 1) := by decide +kernel
theorem dX9_cell_76 : decode cX9_cell 76 = .ok (.getfield 179, 3) := by decide +kernel
theorem dX9_cell_79 : decode cX9_cell 79 = .ok (.goto 7, 3) := by decide +kernel
theorem dX9_cell_82 : decode cX9_cell 82 = .ok (.aload_n 0, 1) := by decide +kernel
theorem dX9_cell_83 : decode cX9_cell 83 = .ok (.getfield 183, 3) := by decide +kernel
theorem dX9_cell_86 : decode cX9_cell 86 = .ok (.iadd, 1) := by decide +kernel
theorem dX9_cell_87 : decode cX9_cell 87 = .ok (.ireturn, 1) := by decide +kernel
theorem bX9_cell_0 : tg_Snd mX9_cell 0 (fun k => ti_aload 0 (ti_iload 1 k)) 2 := tg_seq (si_aload_n (i := 0) dX9_cell_0 rfl) (si_iload_n (i := 1) dX9_cell_1 rfl)
theorem bX9_cell_8 : tg_Snd mX9_cell 8 (fun k => ti_iload 2 (ti_i2l (ti_push (.long 0) (ti_push (.long 3) k)))) 14 := tg_seq (si_iload_n (i := 2) dX9_cell_8 rfl) (tg_seq (si_i2l dX9_cell_9) (tg_seq (si_lconst (v := 0) dX9_cell_10 (by decide)) (si_ldc2 (v := 3) dX9_cell_11 klX9_195)))
theorem bX9_cell_20 : tg_Snd mX9_cell 20 (fun k => ti_push (.int (-3)) k) 22 := si_bipush (v := -3) dX9_cell_20 (by decide)
theorem bX9_cell_23 : tg_Snd mX9_cell 23 (fun k => ti_aload 0 (ti_push (.int 0) (ti_iload 1 k))) 26 := tg_seq (si_aload_n (i := 0) dX9_cell_23 rfl) (tg_seq (si_iconst (v := 0) dX9_cell_24 (by decide)) (si_iload_n (i := 1) dX9_cell_25 rfl))
theorem bX9_cell_29 : tg_Snd mX9_cell 29 (fun k => ti_iload 2 k) 30 := si_iload_n (i := 2) dX9_cell_29 rfl
theorem bX9_cell_33 : tg_Snd mX9_cell 33 (fun k => ti_aload 0 (ti_getf 8 21 k)) 37 := tg_seq (si_aload_n (i := 0) dX9_cell_33 rfl) (si_getf (ci := 8) (f := 21) clX9 (Nat.le_of_ble_eq_true rfl) rfl flX9_172 dX9_cell_34)
theorem bX9_cell_40 : tg_Snd mX9_cell 40 (fun k => ti_iload 2 (ti_push (.int 1) k)) 42 := tg_seq (si_iload_n (i := 2) dX9_cell_40 rfl) (si_iconst (v := 1) dX9_cell_41 (by decide))
theorem bX9_cell_45 : tg_Snd mX9_cell 45 (fun k => ti_aload 0 (ti_getf 8 22 (ti_push (.int 10000) (ti_iadd k)))) 53 := tg_seq (si_aload_n (i := 0) dX9_cell_45 rfl) (tg_seq (si_getf (ci := 8) (f := 22) clX9 (Nat.le_of_ble_eq_true rfl) rfl flX9_175 dX9_cell_46) (tg_seq (si_sipush (v := 10000) dX9_cell_49 (by decide)) (si_iadd dX9_cell_52)))
theorem bX9_cell_56 : tg_Snd mX9_cell 56 (fun k => ti_aload 0 (ti_getf 8 21 k)) 60 := tg_seq (si_aload_n (i := 0) dX9_cell_56 rfl) (si_getf (ci := 8) (f := 21) clX9 (Nat.le_of_ble_eq_true rfl) rfl flX9_172 dX9_cell_57)
theorem bX9_cell_63 : tg_Snd mX9_cell 63 (fun k => ti_push (.int (-1)) k) 64 := si_iconst (v := -1) dX9_cell_63 (by decide)
theorem bX9_cell_67 : tg_Snd mX9_cell 67 (fun k => ti_push (.int 10000) (ti_iload 2 (ti_push (.int 2) k))) 72 := tg_seq (si_sipush (v := 10000) dX9_cell_67 (by decide)) (tg_seq (si_iload_n (i := 2) dX9_cell_70 rfl) (si_iconst (v := 2) dX9_cell_71 (by decide)))
theorem bX9_cell_75 : tg_Snd mX9_cell 75 (fun k => ti_aload 0 (ti_getf 8 23 k)) 79 := tg_seq (si_aload_n (i := 0) dX9_cell_75 rfl) (si_getf (ci := 8) (f := 23) clX9 (Nat.le_of_ble_eq_true rfl) rfl flX9_179 dX9_cell_76)
theorem bX9_cell_82 : tg_Snd mX9_cell 82 (fun k => ti_aload 0 (ti_getf 8 24 k)) 86 := tg_seq (si_aload_n (i := 0) dX9_cell_82 rfl) (si_getf (ci := 8) (f := 24) clX9 (Nat.le_of_ble_eq_true rfl) rfl flX9_183 dX9_cell_83)
theorem bX9_cell_86 : tg_Snd mX9_cell 86 (fun k => ti_iadd k) 87 := si_iadd dX9_cell_86
theorem vX9_cell_2 : tg_VS mX9_cell 2 mX9_isCell 1 := ⟨okX9_isCell, ⟨147, dX9_cell_2, mlX9_147⟩, insX9_isCell, selX9_isCell, parX9_isCell, rfl, rfl, Nat.le_of_ble_eq_true rfl, Nat.le_of_ble_eq_true rfl⟩
theorem vX9_cell_14 : tg_SS0 mX9_cell 14 mX9_in 3 := ⟨okX9_in, ⟨54, dX9_cell_14, mlX9_54⟩, staX9_in, parX9_in, rfl, rfl, Nat.le_of_ble_eq_true rfl, Nat.le_of_ble_eq_true rfl⟩
theorem vX9_cell_26 : tg_VS mX9_cell 26 mX9_gather 2 := ⟨okX9_gather, ⟨197, dX9_cell_26, mlX9_197⟩, insX9_gather, selX9_gather, parX9_gather, rfl, rfl, Nat.le_of_ble_eq_true rfl, Nat.le_of_ble_eq_true rfl⟩
theorem dX9_closure_0 : decode cX9_closure 0 = .ok (.aload_n 0, 1) := by decide +kernel
theorem dX9_closure_1 : decode cX9_closure 1 = .ok (.iload_n 1, 1) := by decide +kernel
theorem dX9_closure_2 : decode cX9_closure 2 = .ok (.invokevirtual 147, 3) := by decide +kernel
theorem dX9_closure_5 : decode cX9_closure 5 = .ok (.ifCond .ne 6, 3) := by decide +kernel
theorem dX9_closure_8 : decode cX9_closure 8 = .ok (.bipush (-3), 2) := by decide +kernel
theorem dX9_closure_10 : decode cX9_closure 10 = .ok (.ireturn, 1) := by decide +kernel
theorem dX9_closure_11 : decode cX9_closure 11 = .ok (.aload_n 0, 1) := by decide +kernel
theorem dX9_closure_12 : decode cX9_closure 12 = .ok (.iconst 0, 1) := by decide +kernel
theorem dX9_closure_13 : decode cX9_closure 13 = .ok (.iload_n 1, 1) := by decide +kernel
theorem dX9_closure_14 : decode cX9_closure 14 = .ok (.invokevirtual 197, 3) := by decide +kernel
theorem dX9_closure_17 : decode cX9_closure 17 = .ok (.aload_n 0, 1) := by decide +kernel
theorem dX9_closure_18 : decode cX9_closure 18 = .ok (.getfield 186, 3) := by decide +kernel
theorem dX9_closure_21 : decode cX9_closure 21 = .ok (.ireturn, 1) := by decide +kernel
theorem bX9_closure_0 : tg_Snd mX9_closure 0 (fun k => ti_aload 0 (ti_iload 1 k)) 2 := tg_seq (si_aload_n (i := 0) dX9_closure_0 rfl) (si_iload_n (i := 1) dX9_closure_1 rfl)
theorem bX9_closure_8 : tg_Snd mX9_closure 8 (fun k => ti_push (.int (-3)) k) 10 := si_bipush (v := -3) dX9_closure_8 (by decide)
theorem bX9_closure_11 : tg_Snd mX9_closure 11 (fun k => ti_aload 0 (ti_push (.int 0) (ti_iload 1 k))) 14 := tg_seq (si_aload_n (i := 0) dX9_closure_11 rfl) (tg_seq (si_iconst (v := 0) dX9_closure_12 (by decide)) (si_iload_n (i := 1) dX9_closure_13 rfl))
theorem bX9_closure_17 : tg_Snd mX9_closure 17 (fun k => ti_aload 0 (ti_getf 8 25 k)) 21 := tg_seq (si_aload_n (i := 0) dX9_closure_17 rfl) (si_getf (ci := 8) (f := 25) clX9 (Nat.le_of_ble_eq_true rfl) rfl flX9_186 dX9_closure_18)
theorem vX9_closure_2 : tg_VS mX9_closure 2 mX9_isCell 1 := ⟨okX9_isCell, ⟨147, dX9_closure_2, mlX9_147⟩, insX9_isCell, selX9_isCell, parX9_isCell, rfl, rfl, Nat.le_of_ble_eq_true rfl, Nat.le_of_ble_eq_true rfl⟩
theorem vX9_closure_14 : tg_VS mX9_closure 14 mX9_gather 2 := ⟨okX9_gather, ⟨197, dX9_closure_14, mlX9_197⟩, insX9_gather, selX9_gather, parX9_gather, rfl, rfl, Nat.le_of_ble_eq_true rfl, Nat.le_of_ble_eq_true rfl⟩
theorem dX9_isIn_0 : decode cX9_isIn 0 = .ok (.aload_n 0, 1) := by decide +kernel
theorem dX9_isIn_1 : decode cX9_isIn 1 = .ok (.iload_n 2, 1) := by decide +kernel
theorem dX9_isIn_2 : decode cX9_isIn 2 = .ok (.invokevirtual 147, 3) := by decide +kernel
theorem dX9_isIn_5 : decode cX9_isIn 5 = .ok (.ifCond .ne 5, 3) := by decide +kernel
theorem dX9_isIn_8 : decode cX9_isIn 8 = .ok (.iconst 0, 1) := by decide +kernel
theorem dX9_isIn_9 : decode cX9_isIn 9 = .ok (.ireturn, 1) := by decide +kernel
theorem dX9_isIn_10 : decode cX9_isIn 10 = .ok (.aload_n 0, 1) := by decide +kernel
theorem dX9_isIn_11 : decode cX9_isIn 11 = .ok (.iload_n 1, 1) := by decide +kernel
theorem dX9_isIn_12 : decode cX9_isIn 12 = .ok (.iload_n 2, 1) := by decide +kernel
theorem dX9_isIn_13 : decode cX9_isIn 13 = .ok (.invokevirtual 197, 3) := by decide +kernel
theorem dX9_isIn_16 : decode cX9_isIn 16 = .ok (.aload_n 0, 1) := by decide +kernel
theorem dX9_isIn_17 : decode cX9_isIn 17 = .ok (.getfield 186, 3) := by decide +kernel
theorem dX9_isIn_20 : decode cX9_isIn 20 = .ok (.iload_n 2, 1) := by decide +kernel
theorem dX9_isIn_21 : decode cX9_isIn 21 = .ok (.if_icmp .ne 22, 3) := by decide +kernel
theorem dX9_isIn_24 : decode cX9_isIn 24 = .ok (.aload_n 0, 1) := by decide +kernel
theorem dX9_isIn_25 : decode cX9_isIn 25 = .ok (.getfield 172, 3) := by decide +kernel
theorem dX9_isIn_28 : decode cX9_isIn 28 = .ok (.aload_n 0, 1) := by decide +kernel
theorem dX9_isIn_29 : decode cX9_isIn 29 = .ok (.getfield 7, 3) := by decide +kernel
theorem dX9_isIn_32 : decode cX9_isIn 32 = .ok (.iload_n 1, 1) := by decide +kernel
theorem dX9_isIn_33 : decode cX9_isIn 33 = .ok (.iconst 1, 1) := by decide +kernel
theorem dX9_isIn_34 : decode cX9_isIn 34 = .ok (.iadd, 1) := by decide +kernel
theorem dX9_isIn_35 : decode cX9_isIn 35 = .ok (.iaload, 1) := by decide +kernel
theorem dX9_isIn_36 : decode cX9_isIn 36 = .ok (.if_icmp .lt 7, 3) := by decide +kernel
theorem dX9_isIn_39 : decode cX9_isIn 39 = .ok (.iconst 1, 1) := by decide +kernel
theorem dX9_isIn_40 : decode cX9_isIn 40 = .ok (.goto 4, 3) := by decide +kernel
theorem dX9_isIn_43 : decode cX9_isIn 43 = .ok (.iconst 0, 1) := by decide +kernel
theorem dX9_isIn_44 : decode cX9_isIn 44 = .ok (.ireturn, 1) := by decide +kernel
theorem bX9_isIn_0 : tg_Snd mX9_isIn 0 (fun k => ti_aload 0 (ti_iload 2 k)) 2 := tg_seq (si_aload_n (i := 0) dX9_isIn_0 rfl) (si_iload_n (i := 2) dX9_isIn_1 rfl)
theorem bX9_isIn_8 : tg_Snd mX9_isIn 8 (fun k => ti_push (.int 0) k) 9 := si_iconst (v := 0) dX9_isIn_8 (by decide)
theorem bX9_isIn_10 : tg_Snd mX9_isIn 10 (fun k => ti_aload 0 (ti_iload 1 (ti_iload 2 k))) 13 := tg_seq (si_aload_n (i := 0) dX9_isIn_10 rfl) (tg_seq (si_iload_n (i := 1) dX9_isIn_11 rfl) (si_iload_n (i := 2) dX9_isIn_12 rfl))
theorem bX9_isIn_16 : tg_Snd mX9_isIn 16 (fun k => ti_aload 0 (ti_getf 8 25 (ti_iload 2 k))) 21 := tg_seq (si_aload_n (i := 0) dX9_isIn_16 rfl) (tg_seq (si_getf (ci := 8) (f := 25) clX9 (Nat.le_of_ble_eq_true rfl) rfl flX9_186 dX9_isIn_17) (si_iload_n (i := 2) dX9_isIn_20 rfl))
theorem bX9_isIn_24 : tg_Snd mX9_isIn 24 (fun k => ti_aload 0 (ti_getf 8 21 (ti_aload 0 (ti_getf 8 0 (ti_iload 1 (ti_push (.int 1) (ti_iadd (ti_iald k)))))))) 36 := tg_seq (si_aload_n (i := 0) dX9_isIn_24 rfl) (tg_seq (si_getf (ci := 8) (f := 21) clX9 (Nat.le_of_ble_eq_true rfl) rfl flX9_172 dX9_isIn_25) (tg_seq (si_aload_n (i := 0) dX9_isIn_28 rfl) (tg_seq (si_getf (ci := 8) (f := 0) clX9 (Nat.le_of_ble_eq_true rfl) rfl flX9_7 dX9_isIn_29) (tg_seq (si_iload_n (i := 1) dX9_isIn_32 rfl) (tg_seq (si_iconst (v := 1) dX9_isIn_33 (by decide)) (tg_seq (si_iadd dX9_isIn_34) (si_iald dX9_isIn_35)))))))
theorem bX9_isIn_39 : tg_Snd mX9_isIn 39 (fun k => ti_push (.int 1) k) 40 := si_iconst (v := 1) dX9_isIn_39 (by decide)
theorem bX9_isIn_43 : tg_Snd mX9_isIn 43 (fun k => ti_push (.int 0) k) 44 := si_iconst (v := 0) dX9_isIn_43 (by decide)
theorem vX9_isIn_2 : tg_VS mX9_isIn 2 mX9_isCell 1 := ⟨okX9_isCell, ⟨147, dX9_isIn_2, mlX9_147⟩, insX9_isCell, selX9_isCell, parX9_isCell, rfl, rfl, Nat.le_of_ble_eq_true rfl, Nat.le_of_ble_eq_true rfl⟩
theorem vX9_isIn_13 : tg_VS mX9_isIn 13 mX9_gather 2 := ⟨okX9_gather, ⟨197, dX9_isIn_13, mlX9_197⟩, insX9_gather, selX9_gather, parX9_gather, rfl, rfl, Nat.le_of_ble_eq_true rfl, Nat.le_of_ble_eq_true rfl⟩
theorem dX9_cubeOf_0 : decode cX9_cubeOf 0 = .ok (.iconst 0, 1) := by decide +kernel
theorem dX9_cubeOf_1 : decode cX9_cubeOf 1 = .ok (.istore_n 2, 1) := by decide +kernel
theorem dX9_cubeOf_2 : decode cX9_cubeOf 2 = .ok (.aload_n 0, 1) := by decide +kernel
theorem dX9_cubeOf_3 : decode cX9_cubeOf 3 = .ok (.invokevirtual 140, 3) := by decide +kernel
theorem dX9_cubeOf_6 : decode cX9_cubeOf 6 = .ok (.istore_n 3, 1) := by decide +kernel
theorem dX9_cubeOf_7 : decode cX9_cubeOf 7 = .ok (.iconst 0, 1) := by decide +kernel
theorem dX9_cubeOf_8 : decode cX9_cubeOf 8 = .ok (.istore 4, 2) := by decide +kernel
theorem dX9_cubeOf_10 : decode cX9_cubeOf 10 = .ok (.iload 4, 2) := by decide +kernel
theorem dX9_cubeOf_12 : decode cX9_cubeOf 12 = .ok (.iload_n 3, 1) := by decide +kernel
theorem dX9_cubeOf_13 : decode cX9_cubeOf 13 = .ok (.if_icmp .ge 27, 3) := by decide +kernel
theorem dX9_cubeOf_16 : decode cX9_cubeOf 16 = .ok (.iload_n 2, 1) := by decide +kernel
theorem dX9_cubeOf_17 : decode cX9_cubeOf 17 = .ok (.aload_n 0, 1) := by decide +kernel
theorem dX9_cubeOf_18 : decode cX9_cubeOf 18 = .ok (.iload_n 1, 1) := by decide +kernel
theorem dX9_cubeOf_19 : decode cX9_cubeOf 19 = .ok (.iload 4, 2) := by decide +kernel
theorem dX9_cubeOf_21 : decode cX9_cubeOf 21 = .ok (.invokevirtual 200, 3) := by decide +kernel
theorem dX9_cubeOf_24 : decode cX9_cubeOf 24 = .ok (.ifCond .eq 7, 3) := by decide +kernel
theorem dX9_cubeOf_27 : decode cX9_cubeOf 27 = .ok (.iconst 1, 1) := by decide +kernel
theorem dX9_cubeOf_28 : decode cX9_cubeOf 28 = .ok (.goto 4, 3) := by decide +kernel
theorem dX9_cubeOf_31 : decode cX9_cubeOf 31 = .ok (.iconst 0, 1) := by decide +kernel
theorem dX9_cubeOf_32 : decode cX9_cubeOf 32 = .ok (.iadd, 1) := by decide +kernel
theorem dX9_cubeOf_33 : decode cX9_cubeOf 33 = .ok (.istore_n 2, 1) := by decide +kernel
theorem dX9_cubeOf_34 : decode cX9_cubeOf 34 = .ok (.iinc 4 1, 3) := by decide +kernel
theorem dX9_cubeOf_37 : decode cX9_cubeOf 37 = .ok (.goto (-27), 3) := by decide +kernel
theorem dX9_cubeOf_40 : decode cX9_cubeOf 40 = .ok (.iload_n 2, 1) := by decide +kernel
theorem dX9_cubeOf_41 : decode cX9_cubeOf 41 = .ok (.ireturn, 1) := by decide +kernel
theorem bX9_cubeOf_0 : tg_Snd mX9_cubeOf 0 (fun k => ti_push (.int 0) (ti_istore 2 (ti_aload 0 k))) 3 := tg_seq (si_iconst (v := 0) dX9_cubeOf_0 (by decide)) (tg_seq (si_istore_n (i := 2) dX9_cubeOf_1 rfl (Nat.le_of_ble_eq_true rfl)) (si_aload_n (i := 0) dX9_cubeOf_2 rfl))
theorem bX9_cubeOf_6 : tg_Snd mX9_cubeOf 6 (fun k => ti_istore 3 (ti_push (.int 0) (ti_istore 4 k))) 10 := tg_seq (si_istore_n (i := 3) dX9_cubeOf_6 rfl (Nat.le_of_ble_eq_true rfl)) (tg_seq (si_iconst (v := 0) dX9_cubeOf_7 (by decide)) (si_istore (i := 4) dX9_cubeOf_8 (Nat.le_of_ble_eq_true rfl)))
theorem bX9_cubeOf_10 : tg_Snd mX9_cubeOf 10 (fun k => ti_iload 4 (ti_iload 3 k)) 13 := tg_seq (si_iload (i := 4) dX9_cubeOf_10) (si_iload_n (i := 3) dX9_cubeOf_12 rfl)
theorem bX9_cubeOf_16 : tg_Snd mX9_cubeOf 16 (fun k => ti_iload 2 (ti_aload 0 (ti_iload 1 (ti_iload 4 k)))) 21 := tg_seq (si_iload_n (i := 2) dX9_cubeOf_16 rfl) (tg_seq (si_aload_n (i := 0) dX9_cubeOf_17 rfl) (tg_seq (si_iload_n (i := 1) dX9_cubeOf_18 rfl) (si_iload (i := 4) dX9_cubeOf_19)))
theorem bX9_cubeOf_27 : tg_Snd mX9_cubeOf 27 (fun k => ti_push (.int 1) k) 28 := si_iconst (v := 1) dX9_cubeOf_27 (by decide)
theorem bX9_cubeOf_31 : tg_Snd mX9_cubeOf 31 (fun k => ti_push (.int 0) k) 32 := si_iconst (v := 0) dX9_cubeOf_31 (by decide)
theorem bX9_cubeOf_32 : tg_Snd mX9_cubeOf 32 (fun k => ti_iadd (ti_istore 2 (ti_iinc 4 1 k))) 37 := tg_seq (si_iadd dX9_cubeOf_32) (tg_seq (si_istore_n (i := 2) dX9_cubeOf_33 rfl (Nat.le_of_ble_eq_true rfl)) (si_iinc (v := 1) dX9_cubeOf_34 (by decide) (Nat.le_of_ble_eq_true rfl)))
theorem bX9_cubeOf_40 : tg_Snd mX9_cubeOf 40 (fun k => ti_iload 2 k) 41 := si_iload_n (i := 2) dX9_cubeOf_40 rfl
theorem vX9_cubeOf_3 : tg_VS mX9_cubeOf 3 mX9_codes 0 := ⟨okX9_codes, ⟨140, dX9_cubeOf_3, mlX9_140⟩, insX9_codes, selX9_codes, parX9_codes, rfl, rfl, Nat.le_of_ble_eq_true rfl, Nat.le_of_ble_eq_true rfl⟩
theorem vX9_cubeOf_21 : tg_VS mX9_cubeOf 21 mX9_isIn 2 := ⟨okX9_isIn, ⟨200, dX9_cubeOf_21, mlX9_200⟩, insX9_isIn, selX9_isIn, parX9_isIn, rfl, rfl, Nat.le_of_ble_eq_true rfl, Nat.le_of_ble_eq_true rfl⟩
theorem dX9_kept_0 : decode cX9_kept 0 = .ok (.iload_n 1, 1) := by decide +kernel
theorem dX9_kept_1 : decode cX9_kept 1 = .ok (.ifCond .ge 6, 3) := by decide +kernel
theorem dX9_kept_4 : decode cX9_kept 4 = .ok (.bipush (-3), 2) := by decide +kernel
theorem dX9_kept_6 : decode cX9_kept 6 = .ok (.ireturn, 1) := by decide +kernel
theorem dX9_kept_7 : decode cX9_kept 7 = .ok (.iconst 0, 1) := by decide +kernel
theorem dX9_kept_8 : decode cX9_kept 8 = .ok (.istore_n 2, 1) := by decide +kernel
theorem dX9_kept_9 : decode cX9_kept 9 = .ok (.aload_n 0, 1) := by decide +kernel
theorem dX9_kept_10 : decode cX9_kept 10 = .ok (.invokevirtual 140, 3) := by decide +kernel
theorem dX9_kept_13 : decode cX9_kept 13 = .ok (.istore_n 3, 1) := by decide +kernel
theorem dX9_kept_14 : decode cX9_kept 14 = .ok (.iconst 0, 1) := by decide +kernel
theorem dX9_kept_15 : decode cX9_kept 15 = .ok (.istore 4, 2) := by decide +kernel
theorem dX9_kept_17 : decode cX9_kept 17 = .ok (.iload 4, 2) := by decide +kernel
theorem dX9_kept_19 : decode cX9_kept 19 = .ok (.iload_n 3, 1) := by decide +kernel
theorem dX9_kept_20 : decode cX9_kept 20 = .ok (.if_icmp .ge 30, 3) := by decide +kernel
theorem dX9_kept_23 : decode cX9_kept 23 = .ok (.aload_n 0, 1) := by decide +kernel
theorem dX9_kept_24 : decode cX9_kept 24 = .ok (.iconst 0, 1) := by decide +kernel
theorem dX9_kept_25 : decode cX9_kept 25 = .ok (.iload 4, 2) := by decide +kernel
theorem dX9_kept_27 : decode cX9_kept 27 = .ok (.invokevirtual 200, 3) := by decide +kernel
theorem dX9_kept_30 : decode cX9_kept 30 = .ok (.ifCond .eq 14, 3) := by decide +kernel
theorem dX9_kept_33 : decode cX9_kept 33 = .ok (.iload_n 2, 1) := by decide +kernel
theorem dX9_kept_34 : decode cX9_kept 34 = .ok (.iload_n 1, 1) := by decide +kernel
theorem dX9_kept_35 : decode cX9_kept 35 = .ok (.if_icmp .ne 6, 3) := by decide +kernel
theorem dX9_kept_38 : decode cX9_kept 38 = .ok (.iload 4, 2) := by decide +kernel
theorem dX9_kept_40 : decode cX9_kept 40 = .ok (.ireturn, 1) := by decide +kernel
theorem dX9_kept_41 : decode cX9_kept 41 = .ok (.iinc 2 1, 3) := by decide +kernel
theorem dX9_kept_44 : decode cX9_kept 44 = .ok (.iinc 4 1, 3) := by decide +kernel
theorem dX9_kept_47 : decode cX9_kept 47 = .ok (.goto (-30), 3) := by decide +kernel
theorem dX9_kept_50 : decode cX9_kept 50 = .ok (.iconst (-1), 1) := by decide +kernel
theorem dX9_kept_51 : decode cX9_kept 51 = .ok (.ireturn, 1) := by decide +kernel
theorem bX9_kept_0 : tg_Snd mX9_kept 0 (fun k => ti_iload 1 k) 1 := si_iload_n (i := 1) dX9_kept_0 rfl
theorem bX9_kept_4 : tg_Snd mX9_kept 4 (fun k => ti_push (.int (-3)) k) 6 := si_bipush (v := -3) dX9_kept_4 (by decide)
theorem bX9_kept_7 : tg_Snd mX9_kept 7 (fun k => ti_push (.int 0) (ti_istore 2 (ti_aload 0 k))) 10 := tg_seq (si_iconst (v := 0) dX9_kept_7 (by decide)) (tg_seq (si_istore_n (i := 2) dX9_kept_8 rfl (Nat.le_of_ble_eq_true rfl)) (si_aload_n (i := 0) dX9_kept_9 rfl))
theorem bX9_kept_13 : tg_Snd mX9_kept 13 (fun k => ti_istore 3 (ti_push (.int 0) (ti_istore 4 k))) 17 := tg_seq (si_istore_n (i := 3) dX9_kept_13 rfl (Nat.le_of_ble_eq_true rfl)) (tg_seq (si_iconst (v := 0) dX9_kept_14 (by decide)) (si_istore (i := 4) dX9_kept_15 (Nat.le_of_ble_eq_true rfl)))
theorem bX9_kept_17 : tg_Snd mX9_kept 17 (fun k => ti_iload 4 (ti_iload 3 k)) 20 := tg_seq (si_iload (i := 4) dX9_kept_17) (si_iload_n (i := 3) dX9_kept_19 rfl)
theorem bX9_kept_23 : tg_Snd mX9_kept 23 (fun k => ti_aload 0 (ti_push (.int 0) (ti_iload 4 k))) 27 := tg_seq (si_aload_n (i := 0) dX9_kept_23 rfl) (tg_seq (si_iconst (v := 0) dX9_kept_24 (by decide)) (si_iload (i := 4) dX9_kept_25))
theorem bX9_kept_33 : tg_Snd mX9_kept 33 (fun k => ti_iload 2 (ti_iload 1 k)) 35 := tg_seq (si_iload_n (i := 2) dX9_kept_33 rfl) (si_iload_n (i := 1) dX9_kept_34 rfl)
theorem bX9_kept_38 : tg_Snd mX9_kept 38 (fun k => ti_iload 4 k) 40 := si_iload (i := 4) dX9_kept_38
theorem bX9_kept_41 : tg_Snd mX9_kept 41 (fun k => ti_iinc 2 1 k) 44 := si_iinc (v := 1) dX9_kept_41 (by decide) (Nat.le_of_ble_eq_true rfl)
theorem bX9_kept_44 : tg_Snd mX9_kept 44 (fun k => ti_iinc 4 1 k) 47 := si_iinc (v := 1) dX9_kept_44 (by decide) (Nat.le_of_ble_eq_true rfl)
theorem bX9_kept_50 : tg_Snd mX9_kept 50 (fun k => ti_push (.int (-1)) k) 51 := si_iconst (v := -1) dX9_kept_50 (by decide)
theorem vX9_kept_10 : tg_VS mX9_kept 10 mX9_codes 0 := ⟨okX9_codes, ⟨140, dX9_kept_10, mlX9_140⟩, insX9_codes, selX9_codes, parX9_codes, rfl, rfl, Nat.le_of_ble_eq_true rfl, Nat.le_of_ble_eq_true rfl⟩
theorem vX9_kept_27 : tg_VS mX9_kept 27 mX9_isIn 2 := ⟨okX9_isIn, ⟨200, dX9_kept_27, mlX9_200⟩, insX9_isIn, selX9_isIn, parX9_isIn, rfl, rfl, Nat.le_of_ble_eq_true rfl, Nat.le_of_ble_eq_true rfl⟩
theorem dX9_ask_0 : decode cX9_ask 0 = .ok (.aload_n 0, 1) := by decide +kernel
theorem dX9_ask_1 : decode cX9_ask 1 = .ok (.iload_n 1, 1) := by decide +kernel
theorem dX9_ask_2 : decode cX9_ask 2 = .ok (.invokevirtual 147, 3) := by decide +kernel
theorem dX9_ask_5 : decode cX9_ask 5 = .ok (.ifCond .eq 13, 3) := by decide +kernel
theorem dX9_ask_8 : decode cX9_ask 8 = .ok (.iload_n 2, 1) := by decide +kernel
theorem dX9_ask_9 : decode cX9_ask 9 = .ok (.i2l, 1) := by decide +kernel
theorem dX9_ask_10 : decode cX9_ask 10 = .ok (.lconst 0, 1) := by decide +kernel
theorem dX9_ask_11 : decode cX9_ask 11 = .ok (.lconst 1, 1) := by decide +kernel
theorem dX9_ask_12 : decode cX9_ask 12 = .ok (.invokestatic 54, 3) := by decide +kernel
theorem dX9_ask_15 : decode cX9_ask 15 = .ok (.ifCond .ne 6, 3) := by decide +kernel
theorem dX9_ask_18 : decode cX9_ask 18 = .ok (.bipush (-3), 2) := by decide +kernel
theorem dX9_ask_20 : decode cX9_ask 20 = .ok (.ireturn, 1) := by decide +kernel
theorem dX9_ask_21 : decode cX9_ask 21 = .ok (.aload_n 0, 1) := by decide +kernel
theorem dX9_ask_22 : decode cX9_ask 22 = .ok (.iconst 0, 1) := by decide +kernel
theorem dX9_ask_23 : decode cX9_ask 23 = .ok (.iload_n 1, 1) := by decide +kernel
theorem dX9_ask_24 : decode cX9_ask 24 = .ok (.invokevirtual 197, 3) := by decide +kernel
theorem dX9_ask_27 : decode cX9_ask 27 = .ok (.aload_n 0, 1) := by decide +kernel
theorem dX9_ask_28 : decode cX9_ask 28 = .ok (.getfield 172, 3) := by decide +kernel
theorem dX9_ask_31 : decode cX9_ask 31 = .ok (.ifCond .eq 16, 3) := by decide +kernel
theorem dX9_ask_34 : decode cX9_ask 34 = .ok (.aload_n 0, 1) := by decide +kernel
theorem dX9_ask_35 : decode cX9_ask 35 = .ok (.getfield 172, 3) := by decide +kernel
theorem dX9_ask_38 : decode cX9_ask 38 = .ok (.aload_n 0, 1) := by decide +kernel
theorem dX9_ask_39 : decode cX9_ask 39 = .ok (.getfield 7, 3) := by decide +kernel
theorem dX9_ask_42 : decode cX9_ask 42 = .ok (.iconst 1, 1) := by decide +kernel
theorem dX9_ask_43 : decode cX9_ask 43 = .ok (.iaload, 1) := by decide +kernel
theorem dX9_ask_44 : decode cX9_ask 44 = .ok (.if_icmp .ge 7, 3) := by decide +kernel
theorem dX9_ask_47 : decode cX9_ask 47 = .ok (.iconst (-1), 1) := by decide +kernel
theorem dX9_ask_48 : decode cX9_ask 48 = .ok (.goto 22, 3) := by decide +kernel
theorem dX9_ask_51 : decode cX9_ask 51 = .ok (.iload_n 2, 1) := by decide +kernel
theorem dX9_ask_52 : decode cX9_ask 52 = .ok (.ifCond .ne 10, 3) := by decide +kernel
theorem dX9_ask_55 : decode cX9_ask 55 = .ok (.aload_n 0, 1) := by decide +kernel
theorem dX9_ask_56 : decode cX9_ask 56 = .ok (.getfield 172, 3) := by decide +kernel
theorem dX9_ask_59 : decode cX9_ask 59 = .ok (.goto 11, 3) := by decide +kernel
theorem dX9_ask_62 : decode cX9_ask 62 = .ok (.aload_n 0, 1) := by decide +kernel
theorem dX9_ask_63 : decode cX9_ask 63 = .ok (.getfield 175, 3) := by decide +kernel
theorem dX9_ask_66 : decode cX9_ask 66 = .ok (.sipush 10000, 3) := by decide +kernel
theorem dX9_ask_69 : decode cX9_ask 69 = .ok (.iadd, 1) := by decide +kernel
theorem dX9_ask_70 : decode cX9_ask 70 = .ok (.ireturn, 1) := by decide +kernel
theorem bX9_ask_0 : tg_Snd mX9_ask 0 (fun k => ti_aload 0 (ti_iload 1 k)) 2 := tg_seq (si_aload_n (i := 0) dX9_ask_0 rfl) (si_iload_n (i := 1) dX9_ask_1 rfl)
theorem bX9_ask_8 : tg_Snd mX9_ask 8 (fun k => ti_iload 2 (ti_i2l (ti_push (.long 0) (ti_push (.long 1) k)))) 12 := tg_seq (si_iload_n (i := 2) dX9_ask_8 rfl) (tg_seq (si_i2l dX9_ask_9) (tg_seq (si_lconst (v := 0) dX9_ask_10 (by decide)) (si_lconst (v := 1) dX9_ask_11 (by decide))))
theorem bX9_ask_18 : tg_Snd mX9_ask 18 (fun k => ti_push (.int (-3)) k) 20 := si_bipush (v := -3) dX9_ask_18 (by decide)
theorem bX9_ask_21 : tg_Snd mX9_ask 21 (fun k => ti_aload 0 (ti_push (.int 0) (ti_iload 1 k))) 24 := tg_seq (si_aload_n (i := 0) dX9_ask_21 rfl) (tg_seq (si_iconst (v := 0) dX9_ask_22 (by decide)) (si_iload_n (i := 1) dX9_ask_23 rfl))
theorem bX9_ask_27 : tg_Snd mX9_ask 27 (fun k => ti_aload 0 (ti_getf 8 21 k)) 31 := tg_seq (si_aload_n (i := 0) dX9_ask_27 rfl) (si_getf (ci := 8) (f := 21) clX9 (Nat.le_of_ble_eq_true rfl) rfl flX9_172 dX9_ask_28)
theorem bX9_ask_34 : tg_Snd mX9_ask 34 (fun k => ti_aload 0 (ti_getf 8 21 (ti_aload 0 (ti_getf 8 0 (ti_push (.int 1) (ti_iald k)))))) 44 := tg_seq (si_aload_n (i := 0) dX9_ask_34 rfl) (tg_seq (si_getf (ci := 8) (f := 21) clX9 (Nat.le_of_ble_eq_true rfl) rfl flX9_172 dX9_ask_35) (tg_seq (si_aload_n (i := 0) dX9_ask_38 rfl) (tg_seq (si_getf (ci := 8) (f := 0) clX9 (Nat.le_of_ble_eq_true rfl) rfl flX9_7 dX9_ask_39) (tg_seq (si_iconst (v := 1) dX9_ask_42 (by decide)) (si_iald dX9_ask_43)))))
theorem bX9_ask_47 : tg_Snd mX9_ask 47 (fun k => ti_push (.int (-1)) k) 48 := si_iconst (v := -1) dX9_ask_47 (by decide)
theorem bX9_ask_51 : tg_Snd mX9_ask 51 (fun k => ti_iload 2 k) 52 := si_iload_n (i := 2) dX9_ask_51 rfl
theorem bX9_ask_55 : tg_Snd mX9_ask 55 (fun k => ti_aload 0 (ti_getf 8 21 k)) 59 := tg_seq (si_aload_n (i := 0) dX9_ask_55 rfl) (si_getf (ci := 8) (f := 21) clX9 (Nat.le_of_ble_eq_true rfl) rfl flX9_172 dX9_ask_56)
theorem bX9_ask_62 : tg_Snd mX9_ask 62 (fun k => ti_aload 0 (ti_getf 8 22 (ti_push (.int 10000) (ti_iadd k)))) 70 := tg_seq (si_aload_n (i := 0) dX9_ask_62 rfl) (tg_seq (si_getf (ci := 8) (f := 22) clX9 (Nat.le_of_ble_eq_true rfl) rfl flX9_175 dX9_ask_63) (tg_seq (si_sipush (v := 10000) dX9_ask_66 (by decide)) (si_iadd dX9_ask_69)))
theorem vX9_ask_2 : tg_VS mX9_ask 2 mX9_isCell 1 := ⟨okX9_isCell, ⟨147, dX9_ask_2, mlX9_147⟩, insX9_isCell, selX9_isCell, parX9_isCell, rfl, rfl, Nat.le_of_ble_eq_true rfl, Nat.le_of_ble_eq_true rfl⟩
theorem vX9_ask_12 : tg_SS0 mX9_ask 12 mX9_in 3 := ⟨okX9_in, ⟨54, dX9_ask_12, mlX9_54⟩, staX9_in, parX9_in, rfl, rfl, Nat.le_of_ble_eq_true rfl, Nat.le_of_ble_eq_true rfl⟩
theorem vX9_ask_24 : tg_VS mX9_ask 24 mX9_gather 2 := ⟨okX9_gather, ⟨197, dX9_ask_24, mlX9_197⟩, insX9_gather, selX9_gather, parX9_gather, rfl, rfl, Nat.le_of_ble_eq_true rfl, Nat.le_of_ble_eq_true rfl⟩
theorem dX9_placeIn_0 : decode cX9_placeIn 0 = .ok (.iload_n 1, 1) := by decide +kernel
theorem dX9_placeIn_1 : decode cX9_placeIn 1 = .ok (.istore_n 3, 1) := by decide +kernel
theorem dX9_placeIn_2 : decode cX9_placeIn 2 = .ok (.iconst (-1), 1) := by decide +kernel
theorem dX9_placeIn_3 : decode cX9_placeIn 3 = .ok (.istore 4, 2) := by decide +kernel
theorem dX9_placeIn_5 : decode cX9_placeIn 5 = .ok (.aload_n 0, 1) := by decide +kernel
theorem dX9_placeIn_6 : decode cX9_placeIn 6 = .ok (.getfield 13, 3) := by decide +kernel
theorem dX9_placeIn_9 : decode cX9_placeIn 9 = .ok (.iconst 1, 1) := by decide +kernel
theorem dX9_placeIn_10 : decode cX9_placeIn 10 = .ok (.isub, 1) := by decide +kernel
theorem dX9_placeIn_11 : decode cX9_placeIn 11 = .ok (.istore 5, 2) := by decide +kernel
theorem dX9_placeIn_13 : decode cX9_placeIn 13 = .ok (.iload 5, 2) := by decide +kernel
theorem dX9_placeIn_15 : decode cX9_placeIn 15 = .ok (.ifCond .lt 31, 3) := by decide +kernel
theorem dX9_placeIn_18 : decode cX9_placeIn 18 = .ok (.iload_n 3, 1) := by decide +kernel
theorem dX9_placeIn_19 : decode cX9_placeIn 19 = .ok (.bipush 10, 2) := by decide +kernel
theorem dX9_placeIn_21 : decode cX9_placeIn 21 = .ok (.irem, 1) := by decide +kernel
theorem dX9_placeIn_22 : decode cX9_placeIn 22 = .ok (.iload_n 2, 1) := by decide +kernel
theorem dX9_placeIn_23 : decode cX9_placeIn 23 = .ok (.if_icmp .ne 8, 3) := by decide +kernel
theorem dX9_placeIn_26 : decode cX9_placeIn 26 = .ok (.iload 5, 2) := by decide +kernel
theorem dX9_placeIn_28 : decode cX9_placeIn 28 = .ok (.goto 5, 3) := by decide +kernel
theorem dX9_placeIn_31 : decode cX9_placeIn 31 = .ok (.iload 4, 2) := by decide +kernel
theorem dX9_placeIn_33 : decode cX9_placeIn 33 = .ok (.istore 4, 2) := by decide +kernel
theorem dX9_placeIn_35 : decode cX9_placeIn 35 = .ok (.iload_n 3, 1) := by decide +kernel
theorem dX9_placeIn_36 : decode cX9_placeIn 36 = .ok (.bipush 10, 2) := by decide +kernel
theorem dX9_placeIn_38 : decode cX9_placeIn 38 = .ok (.idiv, 1) := by decide +kernel
theorem dX9_placeIn_39 : decode cX9_placeIn 39 = .ok (.istore_n 3, 1) := by decide +kernel
theorem dX9_placeIn_40 : decode cX9_placeIn 40 = .ok (.iinc 5 (-1), 3) := by decide +kernel
theorem dX9_placeIn_43 : decode cX9_placeIn 43 = .ok (.goto (-30), 3) := by decide +kernel
theorem dX9_placeIn_46 : decode cX9_placeIn 46 = .ok (.iload 4, 2) := by decide +kernel
theorem dX9_placeIn_48 : decode cX9_placeIn 48 = .ok (.ireturn, 1) := by decide +kernel
theorem bX9_placeIn_0 : tg_Snd mX9_placeIn 0 (fun k => ti_iload 1 (ti_istore 3 (ti_push (.int (-1)) (ti_istore 4 (ti_aload 0 (ti_getf 8 1 (ti_push (.int 1) (ti_isub (ti_istore 5 k))))))))) 13 := tg_seq (si_iload_n (i := 1) dX9_placeIn_0 rfl) (tg_seq (si_istore_n (i := 3) dX9_placeIn_1 rfl (Nat.le_of_ble_eq_true rfl)) (tg_seq (si_iconst (v := -1) dX9_placeIn_2 (by decide)) (tg_seq (si_istore (i := 4) dX9_placeIn_3 (Nat.le_of_ble_eq_true rfl)) (tg_seq (si_aload_n (i := 0) dX9_placeIn_5 rfl) (tg_seq (si_getf (ci := 8) (f := 1) clX9 (Nat.le_of_ble_eq_true rfl) rfl flX9_13 dX9_placeIn_6) (tg_seq (si_iconst (v := 1) dX9_placeIn_9 (by decide)) (tg_seq (si_isub dX9_placeIn_10) (si_istore (i := 5) dX9_placeIn_11 (Nat.le_of_ble_eq_true rfl)))))))))
theorem bX9_placeIn_13 : tg_Snd mX9_placeIn 13 (fun k => ti_iload 5 k) 15 := si_iload (i := 5) dX9_placeIn_13
theorem bX9_placeIn_18 : tg_Snd mX9_placeIn 18 (fun k => ti_iload 3 (ti_push (.int 10) (ti_irem (ti_iload 2 k)))) 23 := tg_seq (si_iload_n (i := 3) dX9_placeIn_18 rfl) (tg_seq (si_bipush (v := 10) dX9_placeIn_19 (by decide)) (tg_seq (si_irem dX9_placeIn_21) (si_iload_n (i := 2) dX9_placeIn_22 rfl)))
theorem bX9_placeIn_26 : tg_Snd mX9_placeIn 26 (fun k => ti_iload 5 k) 28 := si_iload (i := 5) dX9_placeIn_26
theorem bX9_placeIn_31 : tg_Snd mX9_placeIn 31 (fun k => ti_iload 4 k) 33 := si_iload (i := 4) dX9_placeIn_31
theorem bX9_placeIn_33 : tg_Snd mX9_placeIn 33 (fun k => ti_istore 4 (ti_iload 3 (ti_push (.int 10) (ti_idiv (ti_istore 3 (ti_iinc 5 (-1) k)))))) 43 := tg_seq (si_istore (i := 4) dX9_placeIn_33 (Nat.le_of_ble_eq_true rfl)) (tg_seq (si_iload_n (i := 3) dX9_placeIn_35 rfl) (tg_seq (si_bipush (v := 10) dX9_placeIn_36 (by decide)) (tg_seq (si_idiv dX9_placeIn_38) (tg_seq (si_istore_n (i := 3) dX9_placeIn_39 rfl (Nat.le_of_ble_eq_true rfl)) (si_iinc (v := -1) dX9_placeIn_40 (by decide) (Nat.le_of_ble_eq_true rfl))))))
theorem bX9_placeIn_46 : tg_Snd mX9_placeIn 46 (fun k => ti_iload 4 k) 48 := si_iload (i := 4) dX9_placeIn_46
theorem dX9_isOrder_0 : decode cX9_isOrder 0 = .ok (.iconst 1, 1) := by decide +kernel
theorem dX9_isOrder_1 : decode cX9_isOrder 1 = .ok (.istore_n 2, 1) := by decide +kernel
theorem dX9_isOrder_2 : decode cX9_isOrder 2 = .ok (.iconst 0, 1) := by decide +kernel
theorem dX9_isOrder_3 : decode cX9_isOrder 3 = .ok (.istore_n 3, 1) := by decide +kernel
theorem dX9_isOrder_4 : decode cX9_isOrder 4 = .ok (.iload_n 3, 1) := by decide +kernel
theorem dX9_isOrder_5 : decode cX9_isOrder 5 = .ok (.aload_n 0, 1) := by decide +kernel
theorem dX9_isOrder_6 : decode cX9_isOrder 6 = .ok (.getfield 13, 3) := by decide +kernel
theorem dX9_isOrder_9 : decode cX9_isOrder 9 = .ok (.if_icmp .ge 14, 3) := by decide +kernel
theorem dX9_isOrder_12 : decode cX9_isOrder 12 = .ok (.iload_n 2, 1) := by decide +kernel
theorem dX9_isOrder_13 : decode cX9_isOrder 13 = .ok (.bipush 10, 2) := by decide +kernel
theorem dX9_isOrder_15 : decode cX9_isOrder 15 = .ok (.imul, 1) := by decide +kernel
theorem dX9_isOrder_16 : decode cX9_isOrder 16 = .ok (.istore_n 2, 1) := by decide +kernel
theorem dX9_isOrder_17 : decode cX9_isOrder 17 = .ok (.iinc 3 1, 3) := by decide +kernel
theorem dX9_isOrder_20 : decode cX9_isOrder 20 = .ok (.goto (-16), 3) := by decide +kernel
theorem dX9_isOrder_23 : decode cX9_isOrder 23 = .ok (.iload_n 1, 1) := by decide +kernel
theorem dX9_isOrder_24 : decode cX9_isOrder 24 = .ok (.i2l, 1) := by decide +kernel
theorem dX9_isOrder_25 : decode cX9_isOrder 25 = .ok (.lconst 0, 1) := by decide +kernel
theorem dX9_isOrder_26 : decode cX9_isOrder 26 = .ok (.iload_n 2, 1) := by decide +kernel
theorem dX9_isOrder_27 : decode cX9_isOrder 27 = .ok (.iconst 1, 1) := by decide +kernel
theorem dX9_isOrder_28 : decode cX9_isOrder 28 = .ok (.isub, 1) := by decide +kernel
theorem dX9_isOrder_29 : decode cX9_isOrder 29 = .ok (.i2l, 1) := by decide +kernel
theorem dX9_isOrder_30 : decode cX9_isOrder 30 = .ok (.invokestatic 54, 3) := by decide +kernel
theorem dX9_isOrder_33 : decode cX9_isOrder 33 = .ok (.istore_n 3, 1) := by decide +kernel
theorem dX9_isOrder_34 : decode cX9_isOrder 34 = .ok (.iconst 0, 1) := by decide +kernel
theorem dX9_isOrder_35 : decode cX9_isOrder 35 = .ok (.istore 4, 2) := by decide +kernel
theorem dX9_isOrder_37 : decode cX9_isOrder 37 = .ok (.iload 4, 2) := by decide +kernel
theorem dX9_isOrder_39 : decode cX9_isOrder 39 = .ok (.aload_n 0, 1) := by decide +kernel
theorem dX9_isOrder_40 : decode cX9_isOrder 40 = .ok (.getfield 13, 3) := by decide +kernel
theorem dX9_isOrder_43 : decode cX9_isOrder 43 = .ok (.if_icmp .ge 30, 3) := by decide +kernel
theorem dX9_isOrder_46 : decode cX9_isOrder 46 = .ok (.iload_n 3, 1) := by decide +kernel
theorem dX9_isOrder_47 : decode cX9_isOrder 47 = .ok (.ifCond .eq 26, 3) := by decide +kernel
theorem dX9_isOrder_50 : decode cX9_isOrder 50 = .ok (.aload_n 0, 1) := by decide +kernel
theorem dX9_isOrder_51 : decode cX9_isOrder 51 = .ok (.iload_n 1, 1) := by decide +kernel
theorem dX9_isOrder_52 : decode cX9_isOrder 52 = .ok (.iload 4, 2) := by decide +kernel
theorem dX9_isOrder_54 : decode cX9_isOrder 54 = .ok (.invokevirtual 203, 3) := by decide +kernel
theorem dX9_isOrder_57 : decode cX9_isOrder 57 = .ok (.iconst (-1), 1) := by decide +kernel
theorem dX9_isOrder_58 : decode cX9_isOrder 58 = .ok (.if_icmp .eq 7, 3) := by decide +kernel
theorem dX9_isOrder_61 : decode cX9_isOrder 61 = .ok (.iconst 1, 1) := by decide +kernel
theorem dX9_isOrder_62 : decode cX9_isOrder 62 = .ok (.goto 4, 3) := by decide +kernel
theorem dX9_isOrder_65 : decode cX9_isOrder 65 = .ok (.iconst 0, 1) := by decide +kernel
theorem dX9_isOrder_66 : decode cX9_isOrder 66 = .ok (.istore_n 3, 1) := by decide +kernel
theorem dX9_isOrder_67 : decode cX9_isOrder 67 = .ok (.iinc 4 1, 3) := by decide +kernel
theorem dX9_isOrder_70 : decode cX9_isOrder 70 = .ok (.goto (-33), 3) := by decide +kernel
theorem dX9_isOrder_73 : decode cX9_isOrder 73 = .ok (.iload_n 3, 1) := by decide +kernel
theorem dX9_isOrder_74 : decode cX9_isOrder 74 = .ok (.ireturn, 1) := by decide +kernel
theorem bX9_isOrder_0 : tg_Snd mX9_isOrder 0 (fun k => ti_push (.int 1) (ti_istore 2 (ti_push (.int 0) (ti_istore 3 k)))) 4 := tg_seq (si_iconst (v := 1) dX9_isOrder_0 (by decide)) (tg_seq (si_istore_n (i := 2) dX9_isOrder_1 rfl (Nat.le_of_ble_eq_true rfl)) (tg_seq (si_iconst (v := 0) dX9_isOrder_2 (by decide)) (si_istore_n (i := 3) dX9_isOrder_3 rfl (Nat.le_of_ble_eq_true rfl))))
theorem bX9_isOrder_4 : tg_Snd mX9_isOrder 4 (fun k => ti_iload 3 (ti_aload 0 (ti_getf 8 1 k))) 9 := tg_seq (si_iload_n (i := 3) dX9_isOrder_4 rfl) (tg_seq (si_aload_n (i := 0) dX9_isOrder_5 rfl) (si_getf (ci := 8) (f := 1) clX9 (Nat.le_of_ble_eq_true rfl) rfl flX9_13 dX9_isOrder_6))
theorem bX9_isOrder_12 : tg_Snd mX9_isOrder 12 (fun k => ti_iload 2 (ti_push (.int 10) (ti_imul (ti_istore 2 (ti_iinc 3 1 k))))) 20 := tg_seq (si_iload_n (i := 2) dX9_isOrder_12 rfl) (tg_seq (si_bipush (v := 10) dX9_isOrder_13 (by decide)) (tg_seq (si_imul dX9_isOrder_15) (tg_seq (si_istore_n (i := 2) dX9_isOrder_16 rfl (Nat.le_of_ble_eq_true rfl)) (si_iinc (v := 1) dX9_isOrder_17 (by decide) (Nat.le_of_ble_eq_true rfl)))))
theorem bX9_isOrder_23 : tg_Snd mX9_isOrder 23 (fun k => ti_iload 1 (ti_i2l (ti_push (.long 0) (ti_iload 2 (ti_push (.int 1) (ti_isub (ti_i2l k))))))) 30 := tg_seq (si_iload_n (i := 1) dX9_isOrder_23 rfl) (tg_seq (si_i2l dX9_isOrder_24) (tg_seq (si_lconst (v := 0) dX9_isOrder_25 (by decide)) (tg_seq (si_iload_n (i := 2) dX9_isOrder_26 rfl) (tg_seq (si_iconst (v := 1) dX9_isOrder_27 (by decide)) (tg_seq (si_isub dX9_isOrder_28) (si_i2l dX9_isOrder_29))))))
theorem bX9_isOrder_33 : tg_Snd mX9_isOrder 33 (fun k => ti_istore 3 (ti_push (.int 0) (ti_istore 4 k))) 37 := tg_seq (si_istore_n (i := 3) dX9_isOrder_33 rfl (Nat.le_of_ble_eq_true rfl)) (tg_seq (si_iconst (v := 0) dX9_isOrder_34 (by decide)) (si_istore (i := 4) dX9_isOrder_35 (Nat.le_of_ble_eq_true rfl)))
theorem bX9_isOrder_37 : tg_Snd mX9_isOrder 37 (fun k => ti_iload 4 (ti_aload 0 (ti_getf 8 1 k))) 43 := tg_seq (si_iload (i := 4) dX9_isOrder_37) (tg_seq (si_aload_n (i := 0) dX9_isOrder_39 rfl) (si_getf (ci := 8) (f := 1) clX9 (Nat.le_of_ble_eq_true rfl) rfl flX9_13 dX9_isOrder_40))
theorem bX9_isOrder_46 : tg_Snd mX9_isOrder 46 (fun k => ti_iload 3 k) 47 := si_iload_n (i := 3) dX9_isOrder_46 rfl
theorem bX9_isOrder_50 : tg_Snd mX9_isOrder 50 (fun k => ti_aload 0 (ti_iload 1 (ti_iload 4 k))) 54 := tg_seq (si_aload_n (i := 0) dX9_isOrder_50 rfl) (tg_seq (si_iload_n (i := 1) dX9_isOrder_51 rfl) (si_iload (i := 4) dX9_isOrder_52))
theorem bX9_isOrder_57 : tg_Snd mX9_isOrder 57 (fun k => ti_push (.int (-1)) k) 58 := si_iconst (v := -1) dX9_isOrder_57 (by decide)
theorem bX9_isOrder_61 : tg_Snd mX9_isOrder 61 (fun k => ti_push (.int 1) k) 62 := si_iconst (v := 1) dX9_isOrder_61 (by decide)
theorem bX9_isOrder_65 : tg_Snd mX9_isOrder 65 (fun k => ti_push (.int 0) k) 66 := si_iconst (v := 0) dX9_isOrder_65 (by decide)
theorem bX9_isOrder_66 : tg_Snd mX9_isOrder 66 (fun k => ti_istore 3 (ti_iinc 4 1 k)) 70 := tg_seq (si_istore_n (i := 3) dX9_isOrder_66 rfl (Nat.le_of_ble_eq_true rfl)) (si_iinc (v := 1) dX9_isOrder_67 (by decide) (Nat.le_of_ble_eq_true rfl))
theorem bX9_isOrder_73 : tg_Snd mX9_isOrder 73 (fun k => ti_iload 3 k) 74 := si_iload_n (i := 3) dX9_isOrder_73 rfl
theorem vX9_isOrder_30 : tg_SS0 mX9_isOrder 30 mX9_in 3 := ⟨okX9_in, ⟨54, dX9_isOrder_30, mlX9_54⟩, staX9_in, parX9_in, rfl, rfl, Nat.le_of_ble_eq_true rfl, Nat.le_of_ble_eq_true rfl⟩
theorem vX9_isOrder_54 : tg_VS mX9_isOrder 54 mX9_placeIn 2 := ⟨okX9_placeIn, ⟨203, dX9_isOrder_54, mlX9_203⟩, insX9_placeIn, selX9_placeIn, parX9_placeIn, rfl, rfl, Nat.le_of_ble_eq_true rfl, Nat.le_of_ble_eq_true rfl⟩
theorem dX9_layCounts_0 : decode cX9_layCounts 0 = .ok (.aload_n 0, 1) := by decide +kernel
theorem dX9_layCounts_1 : decode cX9_layCounts 1 = .ok (.invokevirtual 140, 3) := by decide +kernel
theorem dX9_layCounts_4 : decode cX9_layCounts 4 = .ok (.istore_n 1, 1) := by decide +kernel
theorem dX9_layCounts_5 : decode cX9_layCounts 5 = .ok (.iconst 0, 1) := by decide +kernel
theorem dX9_layCounts_6 : decode cX9_layCounts 6 = .ok (.istore_n 2, 1) := by decide +kernel
theorem dX9_layCounts_7 : decode cX9_layCounts 7 = .ok (.iload_n 2, 1) := by decide +kernel
theorem dX9_layCounts_8 : decode cX9_layCounts 8 = .ok (.iload_n 1, 1) := by decide +kernel
theorem dX9_layCounts_9 : decode cX9_layCounts 9 = .ok (.if_icmp .ge 25, 3) := by decide +kernel
theorem dX9_layCounts_12 : decode cX9_layCounts 12 = .ok (.aload_n 0, 1) := by decide +kernel
theorem dX9_layCounts_13 : decode cX9_layCounts 13 = .ok (.iconst 0, 1) := by decide +kernel
theorem dX9_layCounts_14 : decode cX9_layCounts 14 = .ok (.iload_n 2, 1) := by decide +kernel
theorem dX9_layCounts_15 : decode cX9_layCounts 15 = .ok (.invokevirtual 197, 3) := by decide +kernel
theorem dX9_layCounts_18 : decode cX9_layCounts 18 = .ok (.aload_n 0, 1) := by decide +kernel
theorem dX9_layCounts_19 : decode cX9_layCounts 19 = .ok (.getfield 46, 3) := by decide +kernel
theorem dX9_layCounts_22 : decode cX9_layCounts 22 = .ok (.iload_n 2, 1) := by decide +kernel
theorem dX9_layCounts_23 : decode cX9_layCounts 23 = .ok (.aload_n 0, 1) := by decide +kernel
theorem dX9_layCounts_24 : decode cX9_layCounts 24 = .ok (.getfield 172, 3) := by decide +kernel
theorem dX9_layCounts_27 : decode cX9_layCounts 27 = .ok (.iastore, 1) := by decide +kernel
theorem dX9_layCounts_28 : decode cX9_layCounts 28 = .ok (.iinc 2 1, 3) := by decide +kernel
theorem dX9_layCounts_31 : decode cX9_layCounts 31 = .ok (.goto (-24), 3) := by decide +kernel
theorem dX9_layCounts_34 : decode cX9_layCounts 34 = .ok (.return_, 1) := by decide +kernel
theorem bX9_layCounts_0 : tg_Snd mX9_layCounts 0 (fun k => ti_aload 0 k) 1 := si_aload_n (i := 0) dX9_layCounts_0 rfl
theorem bX9_layCounts_4 : tg_Snd mX9_layCounts 4 (fun k => ti_istore 1 (ti_push (.int 0) (ti_istore 2 k))) 7 := tg_seq (si_istore_n (i := 1) dX9_layCounts_4 rfl (Nat.le_of_ble_eq_true rfl)) (tg_seq (si_iconst (v := 0) dX9_layCounts_5 (by decide)) (si_istore_n (i := 2) dX9_layCounts_6 rfl (Nat.le_of_ble_eq_true rfl)))
theorem bX9_layCounts_7 : tg_Snd mX9_layCounts 7 (fun k => ti_iload 2 (ti_iload 1 k)) 9 := tg_seq (si_iload_n (i := 2) dX9_layCounts_7 rfl) (si_iload_n (i := 1) dX9_layCounts_8 rfl)
theorem bX9_layCounts_12 : tg_Snd mX9_layCounts 12 (fun k => ti_aload 0 (ti_push (.int 0) (ti_iload 2 k))) 15 := tg_seq (si_aload_n (i := 0) dX9_layCounts_12 rfl) (tg_seq (si_iconst (v := 0) dX9_layCounts_13 (by decide)) (si_iload_n (i := 2) dX9_layCounts_14 rfl))
theorem bX9_layCounts_18 : tg_Snd mX9_layCounts 18 (fun k => ti_aload 0 (ti_getf 8 27 (ti_iload 2 (ti_aload 0 (ti_getf 8 21 (ti_iast (ti_iinc 2 1 k))))))) 31 := tg_seq (si_aload_n (i := 0) dX9_layCounts_18 rfl) (tg_seq (si_getf (ci := 8) (f := 27) clX9 (Nat.le_of_ble_eq_true rfl) rfl flX9_46 dX9_layCounts_19) (tg_seq (si_iload_n (i := 2) dX9_layCounts_22 rfl) (tg_seq (si_aload_n (i := 0) dX9_layCounts_23 rfl) (tg_seq (si_getf (ci := 8) (f := 21) clX9 (Nat.le_of_ble_eq_true rfl) rfl flX9_172 dX9_layCounts_24) (tg_seq (si_iast dX9_layCounts_27) (si_iinc (v := 1) dX9_layCounts_28 (by decide) (Nat.le_of_ble_eq_true rfl)))))))
theorem vX9_layCounts_1 : tg_VS mX9_layCounts 1 mX9_codes 0 := ⟨okX9_codes, ⟨140, dX9_layCounts_1, mlX9_140⟩, insX9_codes, selX9_codes, parX9_codes, rfl, rfl, Nat.le_of_ble_eq_true rfl, Nat.le_of_ble_eq_true rfl⟩
theorem vX9_layCounts_15 : tg_VS mX9_layCounts 15 mX9_gather 2 := ⟨okX9_gather, ⟨197, dX9_layCounts_15, mlX9_197⟩, insX9_gather, selX9_gather, parX9_gather, rfl, rfl, Nat.le_of_ble_eq_true rfl, Nat.le_of_ble_eq_true rfl⟩
theorem dX9_workBy_0 : decode cX9_workBy 0 = .ok (.aload_n 0, 1) := by decide +kernel
theorem dX9_workBy_1 : decode cX9_workBy 1 = .ok (.getfield 7, 3) := by decide +kernel
theorem dX9_workBy_4 : decode cX9_workBy 4 = .ok (.iconst 0, 1) := by decide +kernel
theorem dX9_workBy_5 : decode cX9_workBy 5 = .ok (.iaload, 1) := by decide +kernel
theorem dX9_workBy_6 : decode cX9_workBy 6 = .ok (.aload_n 0, 1) := by decide +kernel
theorem dX9_workBy_7 : decode cX9_workBy 7 = .ok (.getfield 13, 3) := by decide +kernel
theorem dX9_workBy_10 : decode cX9_workBy 10 = .ok (.imul, 1) := by decide +kernel
theorem dX9_workBy_11 : decode cX9_workBy 11 = .ok (.istore_n 2, 1) := by decide +kernel
theorem dX9_workBy_12 : decode cX9_workBy 12 = .ok (.aload_n 0, 1) := by decide +kernel
theorem dX9_workBy_13 : decode cX9_workBy 13 = .ok (.invokevirtual 140, 3) := by decide +kernel
theorem dX9_workBy_16 : decode cX9_workBy 16 = .ok (.istore_n 3, 1) := by decide +kernel
theorem dX9_workBy_17 : decode cX9_workBy 17 = .ok (.aload_n 0, 1) := by decide +kernel
theorem dX9_workBy_18 : decode cX9_workBy 18 = .ok (.iconst 0, 1) := by decide +kernel
theorem dX9_workBy_19 : decode cX9_workBy 19 = .ok (.putfield 206, 3) := by decide +kernel
theorem dX9_workBy_22 : decode cX9_workBy 22 = .ok (.iconst 1, 1) := by decide +kernel
theorem dX9_workBy_23 : decode cX9_workBy 23 = .ok (.istore 4, 2) := by decide +kernel
theorem dX9_workBy_25 : decode cX9_workBy 25 = .ok (.iload 4, 2) := by decide +kernel
theorem dX9_workBy_27 : decode cX9_workBy 27 = .ok (.iload_n 3, 1) := by decide +kernel
theorem dX9_workBy_28 : decode cX9_workBy 28 = .ok (.if_icmp .ge 120, 3) := by decide +kernel
theorem dX9_workBy_31 : decode cX9_workBy 31 = .ok (.iconst 0, 1) := by decide +kernel
theorem dX9_workBy_32 : decode cX9_workBy 32 = .ok (.istore 5, 2) := by decide +kernel
theorem dX9_workBy_34 : decode cX9_workBy 34 = .ok (.iconst 0, 1) := by decide +kernel
theorem dX9_workBy_35 : decode cX9_workBy 35 = .ok (.istore 6, 2) := by decide +kernel
theorem dX9_workBy_37 : decode cX9_workBy 37 = .ok (.iload 6, 2) := by decide +kernel
theorem dX9_workBy_39 : decode cX9_workBy 39 = .ok (.aload_n 0, 1) := by decide +kernel
theorem dX9_workBy_40 : decode cX9_workBy 40 = .ok (.getfield 13, 3) := by decide +kernel
theorem dX9_workBy_43 : decode cX9_workBy 43 = .ok (.if_icmp .ge 51, 3) := by decide +kernel
theorem dX9_workBy_46 : decode cX9_workBy 46 = .ok (.aload_n 0, 1) := by decide +kernel
theorem dX9_workBy_47 : decode cX9_workBy 47 = .ok (.iload 4, 2) := by decide +kernel
theorem dX9_workBy_49 : decode cX9_workBy 49 = .ok (.iload 6, 2) := by decide +kernel
theorem dX9_workBy_51 : decode cX9_workBy 51 = .ok (.invokevirtual 143, 3) := by decide +kernel
theorem dX9_workBy_54 : decode cX9_workBy 54 = .ok (.ifCond .le 15, 3) := by decide +kernel
theorem dX9_workBy_57 : decode cX9_workBy 57 = .ok (.aload_n 0, 1) := by decide +kernel
theorem dX9_workBy_58 : decode cX9_workBy 58 = .ok (.iload_n 1, 1) := by decide +kernel
theorem dX9_workBy_59 : decode cX9_workBy 59 = .ok (.iload 6, 2) := by decide +kernel
theorem dX9_workBy_61 : decode cX9_workBy 61 = .ok (.invokevirtual 203, 3) := by decide +kernel
theorem dX9_workBy_64 : decode cX9_workBy 64 = .ok (.iconst 1, 1) := by decide +kernel
theorem dX9_workBy_65 : decode cX9_workBy 65 = .ok (.iadd, 1) := by decide +kernel
theorem dX9_workBy_66 : decode cX9_workBy 66 = .ok (.goto 4, 3) := by decide +kernel
theorem dX9_workBy_69 : decode cX9_workBy 69 = .ok (.iconst 0, 1) := by decide +kernel
theorem dX9_workBy_70 : decode cX9_workBy 70 = .ok (.istore 7, 2) := by decide +kernel
theorem dX9_workBy_72 : decode cX9_workBy 72 = .ok (.iload 7, 2) := by decide +kernel
theorem dX9_workBy_74 : decode cX9_workBy 74 = .ok (.iload 5, 2) := by decide +kernel
theorem dX9_workBy_76 : decode cX9_workBy 76 = .ok (.if_icmp .le 8, 3) := by decide +kernel
theorem dX9_workBy_79 : decode cX9_workBy 79 = .ok (.iload 7, 2) := by decide +kernel
theorem dX9_workBy_81 : decode cX9_workBy 81 = .ok (.goto 5, 3) := by decide +kernel
theorem dX9_workBy_84 : decode cX9_workBy 84 = .ok (.iload 5, 2) := by decide +kernel
theorem dX9_workBy_86 : decode cX9_workBy 86 = .ok (.istore 5, 2) := by decide +kernel
theorem dX9_workBy_88 : decode cX9_workBy 88 = .ok (.iinc 6 1, 3) := by decide +kernel
theorem dX9_workBy_91 : decode cX9_workBy 91 = .ok (.goto (-54), 3) := by decide +kernel
theorem dX9_workBy_94 : decode cX9_workBy 94 = .ok (.aload_n 0, 1) := by decide +kernel
theorem dX9_workBy_95 : decode cX9_workBy 95 = .ok (.getfield 46, 3) := by decide +kernel
theorem dX9_workBy_98 : decode cX9_workBy 98 = .ok (.iload 4, 2) := by decide +kernel
theorem dX9_workBy_100 : decode cX9_workBy 100 = .ok (.iaload, 1) := by decide +kernel
theorem dX9_workBy_101 : decode cX9_workBy 101 = .ok (.istore 6, 2) := by decide +kernel
theorem dX9_workBy_103 : decode cX9_workBy 103 = .ok (.iload 6, 2) := by decide +kernel
theorem dX9_workBy_105 : decode cX9_workBy 105 = .ok (.ifCond .le 37, 3) := by decide +kernel
theorem dX9_workBy_108 : decode cX9_workBy 108 = .ok (.iload 6, 2) := by decide +kernel
theorem dX9_workBy_110 : decode cX9_workBy 110 = .ok (.aload_n 0, 1) := by decide +kernel
theorem dX9_workBy_111 : decode cX9_workBy 111 = .ok (.getfield 7, 3) := by decide +kernel
theorem dX9_workBy_114 : decode cX9_workBy 114 = .ok (.iconst 1, 1) := by decide +kernel
theorem dX9_workBy_115 : decode cX9_workBy 115 = .ok (.iaload, 1) := by decide +kernel
theorem dX9_workBy_116 : decode cX9_workBy 116 = .ok (.if_icmp .lt 26, 3) := by decide +kernel
theorem dX9_workBy_119 : decode cX9_workBy 119 = .ok (.aload_n 0, 1) := by decide +kernel
theorem dX9_workBy_120 : decode cX9_workBy 120 = .ok (.dup, 1) := by decide +kernel
theorem dX9_workBy_121 : decode cX9_workBy 121 = .ok (.getfield 206, 3) := by decide +kernel
theorem dX9_workBy_124 : decode cX9_workBy 124 = .ok (.iconst 1, 1) := by decide +kernel
theorem dX9_workBy_125 : decode cX9_workBy 125 = .ok (.iadd, 1) := by decide +kernel
theorem dX9_workBy_126 : decode cX9_workBy 126 = .ok (.putfield 206, 3) := by decide +kernel
theorem dX9_workBy_129 : decode cX9_workBy 129 = .ok (.iload_n 2, 1) := by decide +kernel
theorem dX9_workBy_130 : decode cX9_workBy 130 = .ok (.iload 6, 2) := by decide +kernel
theorem dX9_workBy_132 : decode cX9_workBy 132 = .ok (.aload_n 0, 1) := by decide +kernel
theorem dX9_workBy_133 : decode cX9_workBy 133 = .ok (.getfield 13, 3) := by decide +kernel
theorem dX9_workBy_136 : decode cX9_workBy 136 = .ok (.iload 5, 2) := by decide +kernel
theorem dX9_workBy_138 : decode cX9_workBy 138 = .ok (.isub, 1) := by decide +kernel
theorem dX9_workBy_139 : decode cX9_workBy 139 = .ok (.imul, 1) := by decide +kernel
theorem dX9_workBy_140 : decode cX9_workBy 140 = .ok (.iadd, 1) := by decide +kernel
theorem dX9_workBy_141 : decode cX9_workBy 141 = .ok (.istore_n 2, 1) := by decide +kernel
theorem dX9_workBy_142 : decode cX9_workBy 142 = .ok (.iinc 4 1, 3) := by decide +kernel
theorem dX9_workBy_145 : decode cX9_workBy 145 = .ok (.goto (-120), 3) := by decide +kernel
theorem dX9_workBy_148 : decode cX9_workBy 148 = .ok (.iload_n 2, 1) := by decide +kernel
theorem dX9_workBy_149 : decode cX9_workBy 149 = .ok (.ireturn, 1) := by decide +kernel
theorem bX9_workBy_0 : tg_Snd mX9_workBy 0 (fun k => ti_aload 0 (ti_getf 8 0 (ti_push (.int 0) (ti_iald (ti_aload 0 (ti_getf 8 1 (ti_imul (ti_istore 2 (ti_aload 0 k))))))))) 13 := tg_seq (si_aload_n (i := 0) dX9_workBy_0 rfl) (tg_seq (si_getf (ci := 8) (f := 0) clX9 (Nat.le_of_ble_eq_true rfl) rfl flX9_7 dX9_workBy_1) (tg_seq (si_iconst (v := 0) dX9_workBy_4 (by decide)) (tg_seq (si_iald dX9_workBy_5) (tg_seq (si_aload_n (i := 0) dX9_workBy_6 rfl) (tg_seq (si_getf (ci := 8) (f := 1) clX9 (Nat.le_of_ble_eq_true rfl) rfl flX9_13 dX9_workBy_7) (tg_seq (si_imul dX9_workBy_10) (tg_seq (si_istore_n (i := 2) dX9_workBy_11 rfl (Nat.le_of_ble_eq_true rfl)) (si_aload_n (i := 0) dX9_workBy_12 rfl))))))))
theorem bX9_workBy_16 : tg_Snd mX9_workBy 16 (fun k => ti_istore 3 (ti_aload 0 (ti_push (.int 0) (ti_putfI 8 26 (ti_push (.int 1) (ti_istore 4 k)))))) 25 := tg_seq (si_istore_n (i := 3) dX9_workBy_16 rfl (Nat.le_of_ble_eq_true rfl)) (tg_seq (si_aload_n (i := 0) dX9_workBy_17 rfl) (tg_seq (si_iconst (v := 0) dX9_workBy_18 (by decide)) (tg_seq (si_putfI (ci := 8) (f := 26) (ty := .int) clX9 tyX9_ok nmX9 (Nat.le_of_ble_eq_true rfl) rfl (by decide +kernel) (fun _ _ => ⟨rfl, rfl⟩) flX9_206 dX9_workBy_19) (tg_seq (si_iconst (v := 1) dX9_workBy_22 (by decide)) (si_istore (i := 4) dX9_workBy_23 (Nat.le_of_ble_eq_true rfl))))))
theorem bX9_workBy_25 : tg_Snd mX9_workBy 25 (fun k => ti_iload 4 (ti_iload 3 k)) 28 := tg_seq (si_iload (i := 4) dX9_workBy_25) (si_iload_n (i := 3) dX9_workBy_27 rfl)
theorem bX9_workBy_31 : tg_Snd mX9_workBy 31 (fun k => ti_push (.int 0) (ti_istore 5 (ti_push (.int 0) (ti_istore 6 k)))) 37 := tg_seq (si_iconst (v := 0) dX9_workBy_31 (by decide)) (tg_seq (si_istore (i := 5) dX9_workBy_32 (Nat.le_of_ble_eq_true rfl)) (tg_seq (si_iconst (v := 0) dX9_workBy_34 (by decide)) (si_istore (i := 6) dX9_workBy_35 (Nat.le_of_ble_eq_true rfl))))
theorem bX9_workBy_37 : tg_Snd mX9_workBy 37 (fun k => ti_iload 6 (ti_aload 0 (ti_getf 8 1 k))) 43 := tg_seq (si_iload (i := 6) dX9_workBy_37) (tg_seq (si_aload_n (i := 0) dX9_workBy_39 rfl) (si_getf (ci := 8) (f := 1) clX9 (Nat.le_of_ble_eq_true rfl) rfl flX9_13 dX9_workBy_40))
theorem bX9_workBy_46 : tg_Snd mX9_workBy 46 (fun k => ti_aload 0 (ti_iload 4 (ti_iload 6 k))) 51 := tg_seq (si_aload_n (i := 0) dX9_workBy_46 rfl) (tg_seq (si_iload (i := 4) dX9_workBy_47) (si_iload (i := 6) dX9_workBy_49))
theorem bX9_workBy_57 : tg_Snd mX9_workBy 57 (fun k => ti_aload 0 (ti_iload 1 (ti_iload 6 k))) 61 := tg_seq (si_aload_n (i := 0) dX9_workBy_57 rfl) (tg_seq (si_iload_n (i := 1) dX9_workBy_58 rfl) (si_iload (i := 6) dX9_workBy_59))
theorem bX9_workBy_64 : tg_Snd mX9_workBy 64 (fun k => ti_push (.int 1) (ti_iadd k)) 66 := tg_seq (si_iconst (v := 1) dX9_workBy_64 (by decide)) (si_iadd dX9_workBy_65)
theorem bX9_workBy_69 : tg_Snd mX9_workBy 69 (fun k => ti_push (.int 0) k) 70 := si_iconst (v := 0) dX9_workBy_69 (by decide)
theorem bX9_workBy_70 : tg_Snd mX9_workBy 70 (fun k => ti_istore 7 (ti_iload 7 (ti_iload 5 k))) 76 := tg_seq (si_istore (i := 7) dX9_workBy_70 (Nat.le_of_ble_eq_true rfl)) (tg_seq (si_iload (i := 7) dX9_workBy_72) (si_iload (i := 5) dX9_workBy_74))
theorem bX9_workBy_79 : tg_Snd mX9_workBy 79 (fun k => ti_iload 7 k) 81 := si_iload (i := 7) dX9_workBy_79
theorem bX9_workBy_84 : tg_Snd mX9_workBy 84 (fun k => ti_iload 5 k) 86 := si_iload (i := 5) dX9_workBy_84
theorem bX9_workBy_86 : tg_Snd mX9_workBy 86 (fun k => ti_istore 5 (ti_iinc 6 1 k)) 91 := tg_seq (si_istore (i := 5) dX9_workBy_86 (Nat.le_of_ble_eq_true rfl)) (si_iinc (v := 1) dX9_workBy_88 (by decide) (Nat.le_of_ble_eq_true rfl))
theorem bX9_workBy_94 : tg_Snd mX9_workBy 94 (fun k => ti_aload 0 (ti_getf 8 27 (ti_iload 4 (ti_iald (ti_istore 6 (ti_iload 6 k)))))) 105 := tg_seq (si_aload_n (i := 0) dX9_workBy_94 rfl) (tg_seq (si_getf (ci := 8) (f := 27) clX9 (Nat.le_of_ble_eq_true rfl) rfl flX9_46 dX9_workBy_95) (tg_seq (si_iload (i := 4) dX9_workBy_98) (tg_seq (si_iald dX9_workBy_100) (tg_seq (si_istore (i := 6) dX9_workBy_101 (Nat.le_of_ble_eq_true rfl)) (si_iload (i := 6) dX9_workBy_103)))))
theorem bX9_workBy_108 : tg_Snd mX9_workBy 108 (fun k => ti_iload 6 (ti_aload 0 (ti_getf 8 0 (ti_push (.int 1) (ti_iald k))))) 116 := tg_seq (si_iload (i := 6) dX9_workBy_108) (tg_seq (si_aload_n (i := 0) dX9_workBy_110 rfl) (tg_seq (si_getf (ci := 8) (f := 0) clX9 (Nat.le_of_ble_eq_true rfl) rfl flX9_7 dX9_workBy_111) (tg_seq (si_iconst (v := 1) dX9_workBy_114 (by decide)) (si_iald dX9_workBy_115))))
theorem bX9_workBy_119 : tg_Snd mX9_workBy 119 (fun k => ti_aload 0 (ti_dup (ti_getf 8 26 (ti_push (.int 1) (ti_iadd (ti_putfI 8 26 (ti_iload 2 (ti_iload 6 (ti_aload 0 (ti_getf 8 1 (ti_iload 5 (ti_isub (ti_imul (ti_iadd (ti_istore 2 k))))))))))))))) 142 := tg_seq (si_aload_n (i := 0) dX9_workBy_119 rfl) (tg_seq (si_dup dX9_workBy_120) (tg_seq (si_getf (ci := 8) (f := 26) clX9 (Nat.le_of_ble_eq_true rfl) rfl flX9_206 dX9_workBy_121) (tg_seq (si_iconst (v := 1) dX9_workBy_124 (by decide)) (tg_seq (si_iadd dX9_workBy_125) (tg_seq (si_putfI (ci := 8) (f := 26) (ty := .int) clX9 tyX9_ok nmX9 (Nat.le_of_ble_eq_true rfl) rfl (by decide +kernel) (fun _ _ => ⟨rfl, rfl⟩) flX9_206 dX9_workBy_126) (tg_seq (si_iload_n (i := 2) dX9_workBy_129 rfl) (tg_seq (si_iload (i := 6) dX9_workBy_130) (tg_seq (si_aload_n (i := 0) dX9_workBy_132 rfl) (tg_seq (si_getf (ci := 8) (f := 1) clX9 (Nat.le_of_ble_eq_true rfl) rfl flX9_13 dX9_workBy_133) (tg_seq (si_iload (i := 5) dX9_workBy_136) (tg_seq (si_isub dX9_workBy_138) (tg_seq (si_imul dX9_workBy_139) (tg_seq (si_iadd dX9_workBy_140) (si_istore_n (i := 2) dX9_workBy_141 rfl (Nat.le_of_ble_eq_true rfl)))))))))))))))
theorem bX9_workBy_142 : tg_Snd mX9_workBy 142 (fun k => ti_iinc 4 1 k) 145 := si_iinc (v := 1) dX9_workBy_142 (by decide) (Nat.le_of_ble_eq_true rfl)
theorem bX9_workBy_148 : tg_Snd mX9_workBy 148 (fun k => ti_iload 2 k) 149 := si_iload_n (i := 2) dX9_workBy_148 rfl
theorem vX9_workBy_13 : tg_VS mX9_workBy 13 mX9_codes 0 := ⟨okX9_codes, ⟨140, dX9_workBy_13, mlX9_140⟩, insX9_codes, selX9_codes, parX9_codes, rfl, rfl, Nat.le_of_ble_eq_true rfl, Nat.le_of_ble_eq_true rfl⟩
theorem vX9_workBy_51 : tg_VS mX9_workBy 51 mX9_figure 2 := ⟨okX9_figure, ⟨143, dX9_workBy_51, mlX9_143⟩, insX9_figure, selX9_figure, parX9_figure, rfl, rfl, Nat.le_of_ble_eq_true rfl, Nat.le_of_ble_eq_true rfl⟩
theorem vX9_workBy_61 : tg_VS mX9_workBy 61 mX9_placeIn 2 := ⟨okX9_placeIn, ⟨203, dX9_workBy_61, mlX9_203⟩, insX9_placeIn, selX9_placeIn, parX9_placeIn, rfl, rfl, Nat.le_of_ble_eq_true rfl, Nat.le_of_ble_eq_true rfl⟩
theorem dX9_part_0 : decode cX9_part 0 = .ok (.aload_n 0, 1) := by decide +kernel
theorem dX9_part_1 : decode cX9_part 1 = .ok (.iload_n 1, 1) := by decide +kernel
theorem dX9_part_2 : decode cX9_part 2 = .ok (.invokevirtual 209, 3) := by decide +kernel
theorem dX9_part_5 : decode cX9_part 5 = .ok (.ifCond .eq 13, 3) := by decide +kernel
theorem dX9_part_8 : decode cX9_part 8 = .ok (.iload_n 2, 1) := by decide +kernel
theorem dX9_part_9 : decode cX9_part 9 = .ok (.i2l, 1) := by decide +kernel
theorem dX9_part_10 : decode cX9_part 10 = .ok (.lconst 0, 1) := by decide +kernel
theorem dX9_part_11 : decode cX9_part 11 = .ok (.lconst 1, 1) := by decide +kernel
theorem dX9_part_12 : decode cX9_part 12 = .ok (.invokestatic 54, 3) := by decide +kernel
theorem dX9_part_15 : decode cX9_part 15 = .ok (.ifCond .ne 6, 3) := by decide +kernel
theorem dX9_part_18 : decode cX9_part 18 = .ok (.bipush (-3), 2) := by decide +kernel
theorem dX9_part_20 : decode cX9_part 20 = .ok (.ireturn, 1) := by decide +kernel
theorem dX9_part_21 : decode cX9_part 21 = .ok (.aload_n 0, 1) := by decide +kernel
theorem dX9_part_22 : decode cX9_part 22 = .ok (.invokevirtual 212, 3) := by decide +kernel
theorem dX9_part_25 : decode cX9_part 25 = .ok (.aload_n 0, 1) := by decide +kernel
theorem dX9_part_26 : decode cX9_part 26 = .ok (.iload_n 1, 1) := by decide +kernel
theorem dX9_part_27 : decode cX9_part 27 = .ok (.invokevirtual 215, 3) := by decide +kernel
theorem dX9_part_30 : decode cX9_part 30 = .ok (.istore_n 3, 1) := by decide +kernel
theorem dX9_part_31 : decode cX9_part 31 = .ok (.iload_n 2, 1) := by decide +kernel
theorem dX9_part_32 : decode cX9_part 32 = .ok (.ifCond .ne 7, 3) := by decide +kernel
theorem dX9_part_35 : decode cX9_part 35 = .ok (.iload_n 3, 1) := by decide +kernel
theorem dX9_part_36 : decode cX9_part 36 = .ok (.goto 7, 3) := by decide +kernel
theorem dX9_part_39 : decode cX9_part 39 = .ok (.aload_n 0, 1) := by decide +kernel
theorem dX9_part_40 : decode cX9_part 40 = .ok (.getfield 206, 3) := by decide +kernel
theorem dX9_part_43 : decode cX9_part 43 = .ok (.ireturn, 1) := by decide +kernel
theorem bX9_part_0 : tg_Snd mX9_part 0 (fun k => ti_aload 0 (ti_iload 1 k)) 2 := tg_seq (si_aload_n (i := 0) dX9_part_0 rfl) (si_iload_n (i := 1) dX9_part_1 rfl)
theorem bX9_part_8 : tg_Snd mX9_part 8 (fun k => ti_iload 2 (ti_i2l (ti_push (.long 0) (ti_push (.long 1) k)))) 12 := tg_seq (si_iload_n (i := 2) dX9_part_8 rfl) (tg_seq (si_i2l dX9_part_9) (tg_seq (si_lconst (v := 0) dX9_part_10 (by decide)) (si_lconst (v := 1) dX9_part_11 (by decide))))
theorem bX9_part_18 : tg_Snd mX9_part 18 (fun k => ti_push (.int (-3)) k) 20 := si_bipush (v := -3) dX9_part_18 (by decide)
theorem bX9_part_21 : tg_Snd mX9_part 21 (fun k => ti_aload 0 k) 22 := si_aload_n (i := 0) dX9_part_21 rfl
theorem bX9_part_25 : tg_Snd mX9_part 25 (fun k => ti_aload 0 (ti_iload 1 k)) 27 := tg_seq (si_aload_n (i := 0) dX9_part_25 rfl) (si_iload_n (i := 1) dX9_part_26 rfl)
theorem bX9_part_30 : tg_Snd mX9_part 30 (fun k => ti_istore 3 (ti_iload 2 k)) 32 := tg_seq (si_istore_n (i := 3) dX9_part_30 rfl (Nat.le_of_ble_eq_true rfl)) (si_iload_n (i := 2) dX9_part_31 rfl)
theorem bX9_part_35 : tg_Snd mX9_part 35 (fun k => ti_iload 3 k) 36 := si_iload_n (i := 3) dX9_part_35 rfl
theorem bX9_part_39 : tg_Snd mX9_part 39 (fun k => ti_aload 0 (ti_getf 8 26 k)) 43 := tg_seq (si_aload_n (i := 0) dX9_part_39 rfl) (si_getf (ci := 8) (f := 26) clX9 (Nat.le_of_ble_eq_true rfl) rfl flX9_206 dX9_part_40)
theorem vX9_part_2 : tg_VS mX9_part 2 mX9_isOrder 1 := ⟨okX9_isOrder, ⟨209, dX9_part_2, mlX9_209⟩, insX9_isOrder, selX9_isOrder, parX9_isOrder, rfl, rfl, Nat.le_of_ble_eq_true rfl, Nat.le_of_ble_eq_true rfl⟩
theorem vX9_part_12 : tg_SS0 mX9_part 12 mX9_in 3 := ⟨okX9_in, ⟨54, dX9_part_12, mlX9_54⟩, staX9_in, parX9_in, rfl, rfl, Nat.le_of_ble_eq_true rfl, Nat.le_of_ble_eq_true rfl⟩
theorem vX9_part_22 : tg_VS mX9_part 22 mX9_layCounts 0 := ⟨okX9_layCounts, ⟨212, dX9_part_22, mlX9_212⟩, insX9_layCounts, selX9_layCounts, parX9_layCounts, rfl, rfl, Nat.le_of_ble_eq_true rfl, Nat.le_of_ble_eq_true rfl⟩
theorem vX9_part_27 : tg_VS mX9_part 27 mX9_workBy 1 := ⟨okX9_workBy, ⟨215, dX9_part_27, mlX9_215⟩, insX9_workBy, selX9_workBy, parX9_workBy, rfl, rfl, Nat.le_of_ble_eq_true rfl, Nat.le_of_ble_eq_true rfl⟩
theorem dX9_best_0 : decode cX9_best 0 = .ok (.iload_n 1, 1) := by decide +kernel
theorem dX9_best_1 : decode cX9_best 1 = .ok (.i2l, 1) := by decide +kernel
theorem dX9_best_2 : decode cX9_best 2 = .ok (.lconst 0, 1) := by decide +kernel
theorem dX9_best_3 : decode cX9_best 3 = .ok (.lconst 1, 1) := by decide +kernel
theorem dX9_best_4 : decode cX9_best 4 = .ok (.invokestatic 54, 3) := by decide +kernel
theorem dX9_best_7 : decode cX9_best 7 = .ok (.ifCond .ne 6, 3) := by decide +kernel
theorem dX9_best_10 : decode cX9_best 10 = .ok (.bipush (-3), 2) := by decide +kernel
theorem dX9_best_12 : decode cX9_best 12 = .ok (.ireturn, 1) := by decide +kernel
theorem dX9_best_13 : decode cX9_best 13 = .ok (.aload_n 0, 1) := by decide +kernel
theorem dX9_best_14 : decode cX9_best 14 = .ok (.invokevirtual 212, 3) := by decide +kernel
theorem dX9_best_17 : decode cX9_best 17 = .ok (.iconst (-1), 1) := by decide +kernel
theorem dX9_best_18 : decode cX9_best 18 = .ok (.istore_n 2, 1) := by decide +kernel
theorem dX9_best_19 : decode cX9_best 19 = .ok (.ldc 178, 2) := by decide +kernel
theorem dX9_best_21 : decode cX9_best 21 = .ok (.istore_n 3, 1) := by decide +kernel
theorem dX9_best_22 : decode cX9_best 22 = .ok (.iconst 0, 1) := by decide +kernel
theorem dX9_best_23 : decode cX9_best 23 = .ok (.istore 4, 2) := by decide +kernel
theorem dX9_best_25 : decode cX9_best 25 = .ok (.iload 4, 2) := by decide +kernel
theorem dX9_best_27 : decode cX9_best 27 = .ok (.sipush 3211, 3) := by decide +kernel
theorem dX9_best_30 : decode cX9_best 30 = .ok (.if_icmp .ge 52, 3) := by decide +kernel
theorem dX9_best_33 : decode cX9_best 33 = .ok (.aload_n 0, 1) := by decide +kernel
theorem dX9_best_34 : decode cX9_best 34 = .ok (.iload 4, 2) := by decide +kernel
theorem dX9_best_36 : decode cX9_best 36 = .ok (.invokevirtual 209, 3) := by decide +kernel
theorem dX9_best_39 : decode cX9_best 39 = .ok (.ifCond .eq 37, 3) := by decide +kernel
theorem dX9_best_42 : decode cX9_best 42 = .ok (.aload_n 0, 1) := by decide +kernel
theorem dX9_best_43 : decode cX9_best 43 = .ok (.iload 4, 2) := by decide +kernel
theorem dX9_best_45 : decode cX9_best 45 = .ok (.invokevirtual 215, 3) := by decide +kernel
theorem dX9_best_48 : decode cX9_best 48 = .ok (.istore 5, 2) := by decide +kernel
theorem dX9_best_50 : decode cX9_best 50 = .ok (.iload 5, 2) := by decide +kernel
theorem dX9_best_52 : decode cX9_best 52 = .ok (.iload_n 3, 1) := by decide +kernel
theorem dX9_best_53 : decode cX9_best 53 = .ok (.if_icmp .ge 8, 3) := by decide +kernel
theorem dX9_best_56 : decode cX9_best 56 = .ok (.iload 4, 2) := by decide +kernel
theorem dX9_best_58 : decode cX9_best 58 = .ok (.goto 4, 3) := by decide +kernel
theorem dX9_best_61 : decode cX9_best 61 = .ok (.iload_n 2, 1) := by decide +kernel
theorem dX9_best_62 : decode cX9_best 62 = .ok (.istore_n 2, 1) := by decide +kernel
theorem dX9_best_63 : decode cX9_best 63 = .ok (.iload 5, 2) := by decide +kernel
theorem dX9_best_65 : decode cX9_best 65 = .ok (.iload_n 3, 1) := by decide +kernel
theorem dX9_best_66 : decode cX9_best 66 = .ok (.if_icmp .ge 8, 3) := by decide +kernel
theorem dX9_best_69 : decode cX9_best 69 = .ok (.iload 5, 2) := by decide +kernel
theorem dX9_best_71 : decode cX9_best 71 = .ok (.goto 4, 3) := by decide +kernel
theorem dX9_best_74 : decode cX9_best 74 = .ok (.iload_n 3, 1) := by decide +kernel
theorem dX9_best_75 : decode cX9_best 75 = .ok (.istore_n 3, 1) := by decide +kernel
theorem dX9_best_76 : decode cX9_best 76 = .ok (.iinc 4 1, 3) := by decide +kernel
theorem dX9_best_79 : decode cX9_best 79 = .ok (.goto (-54), 3) := by decide +kernel
theorem dX9_best_82 : decode cX9_best 82 = .ok (.iload_n 1, 1) := by decide +kernel
theorem dX9_best_83 : decode cX9_best 83 = .ok (.ifCond .ne 7, 3) := by decide +kernel
theorem dX9_best_86 : decode cX9_best 86 = .ok (.iload_n 2, 1) := by decide +kernel
theorem dX9_best_87 : decode cX9_best 87 = .ok (.goto 4, 3) := by decide +kernel
theorem dX9_best_90 : decode cX9_best 90 = .ok (.iload_n 3, 1) := by decide +kernel
theorem dX9_best_91 : decode cX9_best 91 = .ok (.ireturn, 1) := by decide +kernel
theorem bX9_best_0 : tg_Snd mX9_best 0 (fun k => ti_iload 1 (ti_i2l (ti_push (.long 0) (ti_push (.long 1) k)))) 4 := tg_seq (si_iload_n (i := 1) dX9_best_0 rfl) (tg_seq (si_i2l dX9_best_1) (tg_seq (si_lconst (v := 0) dX9_best_2 (by decide)) (si_lconst (v := 1) dX9_best_3 (by decide))))
theorem bX9_best_10 : tg_Snd mX9_best 10 (fun k => ti_push (.int (-3)) k) 12 := si_bipush (v := -3) dX9_best_10 (by decide)
theorem bX9_best_13 : tg_Snd mX9_best 13 (fun k => ti_aload 0 k) 14 := si_aload_n (i := 0) dX9_best_13 rfl
theorem bX9_best_17 : tg_Snd mX9_best 17 (fun k => ti_push (.int (-1)) (ti_istore 2 (ti_push (.int 999999) (ti_istore 3 (ti_push (.int 0) (ti_istore 4 k)))))) 25 := tg_seq (si_iconst (v := -1) dX9_best_17 (by decide)) (tg_seq (si_istore_n (i := 2) dX9_best_18 rfl (Nat.le_of_ble_eq_true rfl)) (tg_seq (si_ldc (v := 999999) dX9_best_19 kcX9_178) (tg_seq (si_istore_n (i := 3) dX9_best_21 rfl (Nat.le_of_ble_eq_true rfl)) (tg_seq (si_iconst (v := 0) dX9_best_22 (by decide)) (si_istore (i := 4) dX9_best_23 (Nat.le_of_ble_eq_true rfl))))))
theorem bX9_best_25 : tg_Snd mX9_best 25 (fun k => ti_iload 4 (ti_push (.int 3211) k)) 30 := tg_seq (si_iload (i := 4) dX9_best_25) (si_sipush (v := 3211) dX9_best_27 (by decide))
theorem bX9_best_33 : tg_Snd mX9_best 33 (fun k => ti_aload 0 (ti_iload 4 k)) 36 := tg_seq (si_aload_n (i := 0) dX9_best_33 rfl) (si_iload (i := 4) dX9_best_34)
theorem bX9_best_42 : tg_Snd mX9_best 42 (fun k => ti_aload 0 (ti_iload 4 k)) 45 := tg_seq (si_aload_n (i := 0) dX9_best_42 rfl) (si_iload (i := 4) dX9_best_43)
theorem bX9_best_48 : tg_Snd mX9_best 48 (fun k => ti_istore 5 (ti_iload 5 (ti_iload 3 k))) 53 := tg_seq (si_istore (i := 5) dX9_best_48 (Nat.le_of_ble_eq_true rfl)) (tg_seq (si_iload (i := 5) dX9_best_50) (si_iload_n (i := 3) dX9_best_52 rfl))
theorem bX9_best_56 : tg_Snd mX9_best 56 (fun k => ti_iload 4 k) 58 := si_iload (i := 4) dX9_best_56
theorem bX9_best_61 : tg_Snd mX9_best 61 (fun k => ti_iload 2 k) 62 := si_iload_n (i := 2) dX9_best_61 rfl
theorem bX9_best_62 : tg_Snd mX9_best 62 (fun k => ti_istore 2 (ti_iload 5 (ti_iload 3 k))) 66 := tg_seq (si_istore_n (i := 2) dX9_best_62 rfl (Nat.le_of_ble_eq_true rfl)) (tg_seq (si_iload (i := 5) dX9_best_63) (si_iload_n (i := 3) dX9_best_65 rfl))
theorem bX9_best_69 : tg_Snd mX9_best 69 (fun k => ti_iload 5 k) 71 := si_iload (i := 5) dX9_best_69
theorem bX9_best_74 : tg_Snd mX9_best 74 (fun k => ti_iload 3 k) 75 := si_iload_n (i := 3) dX9_best_74 rfl
theorem bX9_best_75 : tg_Snd mX9_best 75 (fun k => ti_istore 3 k) 76 := si_istore_n (i := 3) dX9_best_75 rfl (Nat.le_of_ble_eq_true rfl)
theorem bX9_best_76 : tg_Snd mX9_best 76 (fun k => ti_iinc 4 1 k) 79 := si_iinc (v := 1) dX9_best_76 (by decide) (Nat.le_of_ble_eq_true rfl)
theorem bX9_best_82 : tg_Snd mX9_best 82 (fun k => ti_iload 1 k) 83 := si_iload_n (i := 1) dX9_best_82 rfl
theorem bX9_best_86 : tg_Snd mX9_best 86 (fun k => ti_iload 2 k) 87 := si_iload_n (i := 2) dX9_best_86 rfl
theorem bX9_best_90 : tg_Snd mX9_best 90 (fun k => ti_iload 3 k) 91 := si_iload_n (i := 3) dX9_best_90 rfl
theorem vX9_best_4 : tg_SS0 mX9_best 4 mX9_in 3 := ⟨okX9_in, ⟨54, dX9_best_4, mlX9_54⟩, staX9_in, parX9_in, rfl, rfl, Nat.le_of_ble_eq_true rfl, Nat.le_of_ble_eq_true rfl⟩
theorem vX9_best_14 : tg_VS mX9_best 14 mX9_layCounts 0 := ⟨okX9_layCounts, ⟨212, dX9_best_14, mlX9_212⟩, insX9_layCounts, selX9_layCounts, parX9_layCounts, rfl, rfl, Nat.le_of_ble_eq_true rfl, Nat.le_of_ble_eq_true rfl⟩
theorem vX9_best_36 : tg_VS mX9_best 36 mX9_isOrder 1 := ⟨okX9_isOrder, ⟨209, dX9_best_36, mlX9_209⟩, insX9_isOrder, selX9_isOrder, parX9_isOrder, rfl, rfl, Nat.le_of_ble_eq_true rfl, Nat.le_of_ble_eq_true rfl⟩
theorem vX9_best_45 : tg_VS mX9_best 45 mX9_workBy 1 := ⟨okX9_workBy, ⟨215, dX9_best_45, mlX9_215⟩, insX9_workBy, selX9_workBy, parX9_workBy, rfl, rfl, Nat.le_of_ble_eq_true rfl, Nat.le_of_ble_eq_true rfl⟩
theorem dX9_only_0 : decode cX9_only 0 = .ok (.iconst 0, 1) := by decide +kernel
theorem dX9_only_1 : decode cX9_only 1 = .ok (.istore_n 3, 1) := by decide +kernel
theorem dX9_only_2 : decode cX9_only 2 = .ok (.aload_n 0, 1) := by decide +kernel
theorem dX9_only_3 : decode cX9_only 3 = .ok (.invokevirtual 140, 3) := by decide +kernel
theorem dX9_only_6 : decode cX9_only 6 = .ok (.istore 4, 2) := by decide +kernel
theorem dX9_only_8 : decode cX9_only 8 = .ok (.iconst 0, 1) := by decide +kernel
theorem dX9_only_9 : decode cX9_only 9 = .ok (.istore 5, 2) := by decide +kernel
theorem dX9_only_11 : decode cX9_only 11 = .ok (.iload 5, 2) := by decide +kernel
theorem dX9_only_13 : decode cX9_only 13 = .ok (.iload 4, 2) := by decide +kernel
theorem dX9_only_15 : decode cX9_only 15 = .ok (.if_icmp .ge 37, 3) := by decide +kernel
theorem dX9_only_18 : decode cX9_only 18 = .ok (.iload_n 3, 1) := by decide +kernel
theorem dX9_only_19 : decode cX9_only 19 = .ok (.aload_n 0, 1) := by decide +kernel
theorem dX9_only_20 : decode cX9_only 20 = .ok (.iload_n 1, 1) := by decide +kernel
theorem dX9_only_21 : decode cX9_only 21 = .ok (.iload 5, 2) := by decide +kernel
theorem dX9_only_23 : decode cX9_only 23 = .ok (.invokevirtual 200, 3) := by decide +kernel
theorem dX9_only_26 : decode cX9_only 26 = .ok (.ifCond .eq 17, 3) := by decide +kernel
theorem dX9_only_29 : decode cX9_only 29 = .ok (.aload_n 0, 1) := by decide +kernel
theorem dX9_only_30 : decode cX9_only 30 = .ok (.iload_n 2, 1) := by decide +kernel
theorem dX9_only_31 : decode cX9_only 31 = .ok (.iload 5, 2) := by decide +kernel
theorem dX9_only_33 : decode cX9_only 33 = .ok (.invokevirtual 200, 3) := by decide +kernel
theorem dX9_only_36 : decode cX9_only 36 = .ok (.ifCond .ne 7, 3) := by decide +kernel
theorem dX9_only_39 : decode cX9_only 39 = .ok (.iconst 1, 1) := by decide +kernel
theorem dX9_only_40 : decode cX9_only 40 = .ok (.goto 4, 3) := by decide +kernel
theorem dX9_only_43 : decode cX9_only 43 = .ok (.iconst 0, 1) := by decide +kernel
theorem dX9_only_44 : decode cX9_only 44 = .ok (.iadd, 1) := by decide +kernel
theorem dX9_only_45 : decode cX9_only 45 = .ok (.istore_n 3, 1) := by decide +kernel
theorem dX9_only_46 : decode cX9_only 46 = .ok (.iinc 5 1, 3) := by decide +kernel
theorem dX9_only_49 : decode cX9_only 49 = .ok (.goto (-38), 3) := by decide +kernel
theorem dX9_only_52 : decode cX9_only 52 = .ok (.iload_n 3, 1) := by decide +kernel
theorem dX9_only_53 : decode cX9_only 53 = .ok (.ireturn, 1) := by decide +kernel
theorem bX9_only_0 : tg_Snd mX9_only 0 (fun k => ti_push (.int 0) (ti_istore 3 (ti_aload 0 k))) 3 := tg_seq (si_iconst (v := 0) dX9_only_0 (by decide)) (tg_seq (si_istore_n (i := 3) dX9_only_1 rfl (Nat.le_of_ble_eq_true rfl)) (si_aload_n (i := 0) dX9_only_2 rfl))
theorem bX9_only_6 : tg_Snd mX9_only 6 (fun k => ti_istore 4 (ti_push (.int 0) (ti_istore 5 k))) 11 := tg_seq (si_istore (i := 4) dX9_only_6 (Nat.le_of_ble_eq_true rfl)) (tg_seq (si_iconst (v := 0) dX9_only_8 (by decide)) (si_istore (i := 5) dX9_only_9 (Nat.le_of_ble_eq_true rfl)))
theorem bX9_only_11 : tg_Snd mX9_only 11 (fun k => ti_iload 5 (ti_iload 4 k)) 15 := tg_seq (si_iload (i := 5) dX9_only_11) (si_iload (i := 4) dX9_only_13)
theorem bX9_only_18 : tg_Snd mX9_only 18 (fun k => ti_iload 3 (ti_aload 0 (ti_iload 1 (ti_iload 5 k)))) 23 := tg_seq (si_iload_n (i := 3) dX9_only_18 rfl) (tg_seq (si_aload_n (i := 0) dX9_only_19 rfl) (tg_seq (si_iload_n (i := 1) dX9_only_20 rfl) (si_iload (i := 5) dX9_only_21)))
theorem bX9_only_29 : tg_Snd mX9_only 29 (fun k => ti_aload 0 (ti_iload 2 (ti_iload 5 k))) 33 := tg_seq (si_aload_n (i := 0) dX9_only_29 rfl) (tg_seq (si_iload_n (i := 2) dX9_only_30 rfl) (si_iload (i := 5) dX9_only_31))
theorem bX9_only_39 : tg_Snd mX9_only 39 (fun k => ti_push (.int 1) k) 40 := si_iconst (v := 1) dX9_only_39 (by decide)
theorem bX9_only_43 : tg_Snd mX9_only 43 (fun k => ti_push (.int 0) k) 44 := si_iconst (v := 0) dX9_only_43 (by decide)
theorem bX9_only_44 : tg_Snd mX9_only 44 (fun k => ti_iadd (ti_istore 3 (ti_iinc 5 1 k))) 49 := tg_seq (si_iadd dX9_only_44) (tg_seq (si_istore_n (i := 3) dX9_only_45 rfl (Nat.le_of_ble_eq_true rfl)) (si_iinc (v := 1) dX9_only_46 (by decide) (Nat.le_of_ble_eq_true rfl)))
theorem bX9_only_52 : tg_Snd mX9_only 52 (fun k => ti_iload 3 k) 53 := si_iload_n (i := 3) dX9_only_52 rfl
theorem vX9_only_3 : tg_VS mX9_only 3 mX9_codes 0 := ⟨okX9_codes, ⟨140, dX9_only_3, mlX9_140⟩, insX9_codes, selX9_codes, parX9_codes, rfl, rfl, Nat.le_of_ble_eq_true rfl, Nat.le_of_ble_eq_true rfl⟩
theorem vX9_only_23 : tg_VS mX9_only 23 mX9_isIn 2 := ⟨okX9_isIn, ⟨200, dX9_only_23, mlX9_200⟩, insX9_isIn, selX9_isIn, parX9_isIn, rfl, rfl, Nat.le_of_ble_eq_true rfl, Nat.le_of_ble_eq_true rfl⟩
theorem vX9_only_33 : tg_VS mX9_only 33 mX9_isIn 2 := ⟨okX9_isIn, ⟨200, dX9_only_33, mlX9_200⟩, insX9_isIn, selX9_isIn, parX9_isIn, rfl, rfl, Nat.le_of_ble_eq_true rfl, Nat.le_of_ble_eq_true rfl⟩
theorem dX9_more_0 : decode cX9_more 0 = .ok (.aload_n 0, 1) := by decide +kernel
theorem dX9_more_1 : decode cX9_more 1 = .ok (.iload_n 1, 1) := by decide +kernel
theorem dX9_more_2 : decode cX9_more 2 = .ok (.invokevirtual 154, 3) := by decide +kernel
theorem dX9_more_5 : decode cX9_more 5 = .ok (.ifCond .eq 13, 3) := by decide +kernel
theorem dX9_more_8 : decode cX9_more 8 = .ok (.iload_n 2, 1) := by decide +kernel
theorem dX9_more_9 : decode cX9_more 9 = .ok (.i2l, 1) := by decide +kernel
theorem dX9_more_10 : decode cX9_more 10 = .ok (.lconst 0, 1) := by decide +kernel
theorem dX9_more_11 : decode cX9_more 11 = .ok (.lconst 1, 1) := by decide +kernel
theorem dX9_more_12 : decode cX9_more 12 = .ok (.invokestatic 54, 3) := by decide +kernel
theorem dX9_more_15 : decode cX9_more 15 = .ok (.ifCond .ne 6, 3) := by decide +kernel
theorem dX9_more_18 : decode cX9_more 18 = .ok (.bipush (-3), 2) := by decide +kernel
theorem dX9_more_20 : decode cX9_more 20 = .ok (.ireturn, 1) := by decide +kernel
theorem dX9_more_21 : decode cX9_more 21 = .ok (.aload_n 0, 1) := by decide +kernel
theorem dX9_more_22 : decode cX9_more 22 = .ok (.getfield 7, 3) := by decide +kernel
theorem dX9_more_25 : decode cX9_more 25 = .ok (.iconst 0, 1) := by decide +kernel
theorem dX9_more_26 : decode cX9_more 26 = .ok (.iaload, 1) := by decide +kernel
theorem dX9_more_27 : decode cX9_more 27 = .ok (.bipush 40, 2) := by decide +kernel
theorem dX9_more_29 : decode cX9_more 29 = .ok (.if_icmp .ne 6, 3) := by decide +kernel
theorem dX9_more_32 : decode cX9_more 32 = .ok (.bipush (-5), 2) := by decide +kernel
theorem dX9_more_34 : decode cX9_more 34 = .ok (.ireturn, 1) := by decide +kernel
theorem dX9_more_35 : decode cX9_more 35 = .ok (.aload_n 0, 1) := by decide +kernel
theorem dX9_more_36 : decode cX9_more 36 = .ok (.iconst 0, 1) := by decide +kernel
theorem dX9_more_37 : decode cX9_more 37 = .ok (.sipush 902, 3) := by decide +kernel
theorem dX9_more_40 : decode cX9_more 40 = .ok (.invokevirtual 150, 3) := by decide +kernel
theorem dX9_more_43 : decode cX9_more 43 = .ok (.aload_n 0, 1) := by decide +kernel
theorem dX9_more_44 : decode cX9_more 44 = .ok (.sipush 902, 3) := by decide +kernel
theorem dX9_more_47 : decode cX9_more 47 = .ok (.iload_n 1, 1) := by decide +kernel
theorem dX9_more_48 : decode cX9_more 48 = .ok (.iconst 0, 1) := by decide +kernel
theorem dX9_more_49 : decode cX9_more 49 = .ok (.invokevirtual 106, 3) := by decide +kernel
theorem dX9_more_52 : decode cX9_more 52 = .ok (.iload_n 2, 1) := by decide +kernel
theorem dX9_more_53 : decode cX9_more 53 = .ok (.ifCond .ne 13, 3) := by decide +kernel
theorem dX9_more_56 : decode cX9_more 56 = .ok (.aload_n 0, 1) := by decide +kernel
theorem dX9_more_57 : decode cX9_more 57 = .ok (.sipush 902, 3) := by decide +kernel
theorem dX9_more_60 : decode cX9_more 60 = .ok (.invokevirtual 219, 3) := by decide +kernel
theorem dX9_more_63 : decode cX9_more 63 = .ok (.goto 11, 3) := by decide +kernel
theorem dX9_more_66 : decode cX9_more 66 = .ok (.aload_n 0, 1) := by decide +kernel
theorem dX9_more_67 : decode cX9_more 67 = .ok (.sipush 902, 3) := by decide +kernel
theorem dX9_more_70 : decode cX9_more 70 = .ok (.iconst 0, 1) := by decide +kernel
theorem dX9_more_71 : decode cX9_more 71 = .ok (.invokevirtual 222, 3) := by decide +kernel
theorem dX9_more_74 : decode cX9_more 74 = .ok (.ireturn, 1) := by decide +kernel
theorem bX9_more_0 : tg_Snd mX9_more 0 (fun k => ti_aload 0 (ti_iload 1 k)) 2 := tg_seq (si_aload_n (i := 0) dX9_more_0 rfl) (si_iload_n (i := 1) dX9_more_1 rfl)
theorem bX9_more_8 : tg_Snd mX9_more 8 (fun k => ti_iload 2 (ti_i2l (ti_push (.long 0) (ti_push (.long 1) k)))) 12 := tg_seq (si_iload_n (i := 2) dX9_more_8 rfl) (tg_seq (si_i2l dX9_more_9) (tg_seq (si_lconst (v := 0) dX9_more_10 (by decide)) (si_lconst (v := 1) dX9_more_11 (by decide))))
theorem bX9_more_18 : tg_Snd mX9_more 18 (fun k => ti_push (.int (-3)) k) 20 := si_bipush (v := -3) dX9_more_18 (by decide)
theorem bX9_more_21 : tg_Snd mX9_more 21 (fun k => ti_aload 0 (ti_getf 8 0 (ti_push (.int 0) (ti_iald (ti_push (.int 40) k))))) 29 := tg_seq (si_aload_n (i := 0) dX9_more_21 rfl) (tg_seq (si_getf (ci := 8) (f := 0) clX9 (Nat.le_of_ble_eq_true rfl) rfl flX9_7 dX9_more_22) (tg_seq (si_iconst (v := 0) dX9_more_25 (by decide)) (tg_seq (si_iald dX9_more_26) (si_bipush (v := 40) dX9_more_27 (by decide)))))
theorem bX9_more_32 : tg_Snd mX9_more 32 (fun k => ti_push (.int (-5)) k) 34 := si_bipush (v := -5) dX9_more_32 (by decide)
theorem bX9_more_35 : tg_Snd mX9_more 35 (fun k => ti_aload 0 (ti_push (.int 0) (ti_push (.int 902) k))) 40 := tg_seq (si_aload_n (i := 0) dX9_more_35 rfl) (tg_seq (si_iconst (v := 0) dX9_more_36 (by decide)) (si_sipush (v := 902) dX9_more_37 (by decide)))
theorem bX9_more_43 : tg_Snd mX9_more 43 (fun k => ti_aload 0 (ti_push (.int 902) (ti_iload 1 (ti_push (.int 0) k)))) 49 := tg_seq (si_aload_n (i := 0) dX9_more_43 rfl) (tg_seq (si_sipush (v := 902) dX9_more_44 (by decide)) (tg_seq (si_iload_n (i := 1) dX9_more_47 rfl) (si_iconst (v := 0) dX9_more_48 (by decide))))
theorem bX9_more_52 : tg_Snd mX9_more 52 (fun k => ti_iload 2 k) 53 := si_iload_n (i := 2) dX9_more_52 rfl
theorem bX9_more_56 : tg_Snd mX9_more 56 (fun k => ti_aload 0 (ti_push (.int 902) k)) 60 := tg_seq (si_aload_n (i := 0) dX9_more_56 rfl) (si_sipush (v := 902) dX9_more_57 (by decide))
theorem bX9_more_66 : tg_Snd mX9_more 66 (fun k => ti_aload 0 (ti_push (.int 902) (ti_push (.int 0) k))) 71 := tg_seq (si_aload_n (i := 0) dX9_more_66 rfl) (tg_seq (si_sipush (v := 902) dX9_more_67 (by decide)) (si_iconst (v := 0) dX9_more_70 (by decide)))
theorem vX9_more_2 : tg_VS mX9_more 2 mX9_isWhole 1 := ⟨okX9_isWhole, ⟨154, dX9_more_2, mlX9_154⟩, insX9_isWhole, selX9_isWhole, parX9_isWhole, rfl, rfl, Nat.le_of_ble_eq_true rfl, Nat.le_of_ble_eq_true rfl⟩
theorem vX9_more_12 : tg_SS0 mX9_more 12 mX9_in 3 := ⟨okX9_in, ⟨54, dX9_more_12, mlX9_54⟩, staX9_in, parX9_in, rfl, rfl, Nat.le_of_ble_eq_true rfl, Nat.le_of_ble_eq_true rfl⟩
theorem vX9_more_40 : tg_VS mX9_more 40 mX9_copyRow 2 := ⟨okX9_copyRow, ⟨150, dX9_more_40, mlX9_150⟩, insX9_copyRow, selX9_copyRow, parX9_copyRow, rfl, rfl, Nat.le_of_ble_eq_true rfl, Nat.le_of_ble_eq_true rfl⟩
theorem vX9_more_49 : tg_VS mX9_more 49 mX9_put 3 := ⟨okX9_put, ⟨106, dX9_more_49, mlX9_106⟩, insX9_put, selX9_put, parX9_put, rfl, rfl, Nat.le_of_ble_eq_true rfl, Nat.le_of_ble_eq_true rfl⟩
theorem vX9_more_60 : tg_VS mX9_more 60 mX9_cubeOf 1 := ⟨okX9_cubeOf, ⟨219, dX9_more_60, mlX9_219⟩, insX9_cubeOf, selX9_cubeOf, parX9_cubeOf, rfl, rfl, Nat.le_of_ble_eq_true rfl, Nat.le_of_ble_eq_true rfl⟩
theorem vX9_more_71 : tg_VS mX9_more 71 mX9_only 2 := ⟨okX9_only, ⟨222, dX9_more_71, mlX9_222⟩, insX9_only, selX9_only, parX9_only, rfl, rfl, Nat.le_of_ble_eq_true rfl, Nat.le_of_ble_eq_true rfl⟩
theorem dX9_less_0 : decode cX9_less 0 = .ok (.aload_n 0, 1) := by decide +kernel
theorem dX9_less_1 : decode cX9_less 1 = .ok (.iload_n 1, 1) := by decide +kernel
theorem dX9_less_2 : decode cX9_less 2 = .ok (.invokevirtual 164, 3) := by decide +kernel
theorem dX9_less_5 : decode cX9_less 5 = .ok (.ifCond .ne 6, 3) := by decide +kernel
theorem dX9_less_8 : decode cX9_less 8 = .ok (.bipush (-2), 2) := by decide +kernel
theorem dX9_less_10 : decode cX9_less 10 = .ok (.ireturn, 1) := by decide +kernel
theorem dX9_less_11 : decode cX9_less 11 = .ok (.iload_n 2, 1) := by decide +kernel
theorem dX9_less_12 : decode cX9_less 12 = .ok (.i2l, 1) := by decide +kernel
theorem dX9_less_13 : decode cX9_less 13 = .ok (.lconst 0, 1) := by decide +kernel
theorem dX9_less_14 : decode cX9_less 14 = .ok (.lconst 1, 1) := by decide +kernel
theorem dX9_less_15 : decode cX9_less 15 = .ok (.invokestatic 54, 3) := by decide +kernel
theorem dX9_less_18 : decode cX9_less 18 = .ok (.ifCond .ne 6, 3) := by decide +kernel
theorem dX9_less_21 : decode cX9_less 21 = .ok (.bipush (-3), 2) := by decide +kernel
theorem dX9_less_23 : decode cX9_less 23 = .ok (.ireturn, 1) := by decide +kernel
theorem dX9_less_24 : decode cX9_less 24 = .ok (.aload_n 0, 1) := by decide +kernel
theorem dX9_less_25 : decode cX9_less 25 = .ok (.iconst 0, 1) := by decide +kernel
theorem dX9_less_26 : decode cX9_less 26 = .ok (.sipush 902, 3) := by decide +kernel
theorem dX9_less_29 : decode cX9_less 29 = .ok (.invokevirtual 150, 3) := by decide +kernel
theorem dX9_less_32 : decode cX9_less 32 = .ok (.aload_n 0, 1) := by decide +kernel
theorem dX9_less_33 : decode cX9_less 33 = .ok (.sipush 902, 3) := by decide +kernel
theorem dX9_less_36 : decode cX9_less 36 = .ok (.iload_n 1, 1) := by decide +kernel
theorem dX9_less_37 : decode cX9_less 37 = .ok (.invokevirtual 167, 3) := by decide +kernel
theorem dX9_less_40 : decode cX9_less 40 = .ok (.iload_n 2, 1) := by decide +kernel
theorem dX9_less_41 : decode cX9_less 41 = .ok (.ifCond .ne 13, 3) := by decide +kernel
theorem dX9_less_44 : decode cX9_less 44 = .ok (.aload_n 0, 1) := by decide +kernel
theorem dX9_less_45 : decode cX9_less 45 = .ok (.sipush 902, 3) := by decide +kernel
theorem dX9_less_48 : decode cX9_less 48 = .ok (.invokevirtual 219, 3) := by decide +kernel
theorem dX9_less_51 : decode cX9_less 51 = .ok (.goto 11, 3) := by decide +kernel
theorem dX9_less_54 : decode cX9_less 54 = .ok (.aload_n 0, 1) := by decide +kernel
theorem dX9_less_55 : decode cX9_less 55 = .ok (.iconst 0, 1) := by decide +kernel
theorem dX9_less_56 : decode cX9_less 56 = .ok (.sipush 902, 3) := by decide +kernel
theorem dX9_less_59 : decode cX9_less 59 = .ok (.invokevirtual 222, 3) := by decide +kernel
theorem dX9_less_62 : decode cX9_less 62 = .ok (.ireturn, 1) := by decide +kernel
theorem bX9_less_0 : tg_Snd mX9_less 0 (fun k => ti_aload 0 (ti_iload 1 k)) 2 := tg_seq (si_aload_n (i := 0) dX9_less_0 rfl) (si_iload_n (i := 1) dX9_less_1 rfl)
theorem bX9_less_8 : tg_Snd mX9_less 8 (fun k => ti_push (.int (-2)) k) 10 := si_bipush (v := -2) dX9_less_8 (by decide)
theorem bX9_less_11 : tg_Snd mX9_less 11 (fun k => ti_iload 2 (ti_i2l (ti_push (.long 0) (ti_push (.long 1) k)))) 15 := tg_seq (si_iload_n (i := 2) dX9_less_11 rfl) (tg_seq (si_i2l dX9_less_12) (tg_seq (si_lconst (v := 0) dX9_less_13 (by decide)) (si_lconst (v := 1) dX9_less_14 (by decide))))
theorem bX9_less_21 : tg_Snd mX9_less 21 (fun k => ti_push (.int (-3)) k) 23 := si_bipush (v := -3) dX9_less_21 (by decide)
theorem bX9_less_24 : tg_Snd mX9_less 24 (fun k => ti_aload 0 (ti_push (.int 0) (ti_push (.int 902) k))) 29 := tg_seq (si_aload_n (i := 0) dX9_less_24 rfl) (tg_seq (si_iconst (v := 0) dX9_less_25 (by decide)) (si_sipush (v := 902) dX9_less_26 (by decide)))
theorem bX9_less_32 : tg_Snd mX9_less 32 (fun k => ti_aload 0 (ti_push (.int 902) (ti_iload 1 k))) 37 := tg_seq (si_aload_n (i := 0) dX9_less_32 rfl) (tg_seq (si_sipush (v := 902) dX9_less_33 (by decide)) (si_iload_n (i := 1) dX9_less_36 rfl))
theorem bX9_less_40 : tg_Snd mX9_less 40 (fun k => ti_iload 2 k) 41 := si_iload_n (i := 2) dX9_less_40 rfl
theorem bX9_less_44 : tg_Snd mX9_less 44 (fun k => ti_aload 0 (ti_push (.int 902) k)) 48 := tg_seq (si_aload_n (i := 0) dX9_less_44 rfl) (si_sipush (v := 902) dX9_less_45 (by decide))
theorem bX9_less_54 : tg_Snd mX9_less 54 (fun k => ti_aload 0 (ti_push (.int 0) (ti_push (.int 902) k))) 59 := tg_seq (si_aload_n (i := 0) dX9_less_54 rfl) (tg_seq (si_iconst (v := 0) dX9_less_55 (by decide)) (si_sipush (v := 902) dX9_less_56 (by decide)))
theorem vX9_less_2 : tg_VS mX9_less 2 mX9_isEntry 1 := ⟨okX9_isEntry, ⟨164, dX9_less_2, mlX9_164⟩, insX9_isEntry, selX9_isEntry, parX9_isEntry, rfl, rfl, Nat.le_of_ble_eq_true rfl, Nat.le_of_ble_eq_true rfl⟩
theorem vX9_less_15 : tg_SS0 mX9_less 15 mX9_in 3 := ⟨okX9_in, ⟨54, dX9_less_15, mlX9_54⟩, staX9_in, parX9_in, rfl, rfl, Nat.le_of_ble_eq_true rfl, Nat.le_of_ble_eq_true rfl⟩
theorem vX9_less_29 : tg_VS mX9_less 29 mX9_copyRow 2 := ⟨okX9_copyRow, ⟨150, dX9_less_29, mlX9_150⟩, insX9_copyRow, selX9_copyRow, parX9_copyRow, rfl, rfl, Nat.le_of_ble_eq_true rfl, Nat.le_of_ble_eq_true rfl⟩
theorem vX9_less_37 : tg_VS mX9_less 37 mX9_takeOut 2 := ⟨okX9_takeOut, ⟨167, dX9_less_37, mlX9_167⟩, insX9_takeOut, selX9_takeOut, parX9_takeOut, rfl, rfl, Nat.le_of_ble_eq_true rfl, Nat.le_of_ble_eq_true rfl⟩
theorem vX9_less_48 : tg_VS mX9_less 48 mX9_cubeOf 1 := ⟨okX9_cubeOf, ⟨219, dX9_less_48, mlX9_219⟩, insX9_cubeOf, selX9_cubeOf, parX9_cubeOf, rfl, rfl, Nat.le_of_ble_eq_true rfl, Nat.le_of_ble_eq_true rfl⟩
theorem vX9_less_59 : tg_VS mX9_less 59 mX9_only 2 := ⟨okX9_only, ⟨222, dX9_less_59, mlX9_222⟩, insX9_only, selX9_only, parX9_only, rfl, rfl, Nat.le_of_ble_eq_true rfl, Nat.le_of_ble_eq_true rfl⟩
theorem dX9_cap_0 : decode cX9_cap 0 = .ok (.iload_n 1, 1) := by decide +kernel
theorem dX9_cap_1 : decode cX9_cap 1 = .ok (.i2l, 1) := by decide +kernel
theorem dX9_cap_2 : decode cX9_cap 2 = .ok (.lconst 0, 1) := by decide +kernel
theorem dX9_cap_3 : decode cX9_cap 3 = .ok (.ldc2_w 225, 3) := by decide +kernel
theorem dX9_cap_6 : decode cX9_cap 6 = .ok (.invokestatic 54, 3) := by decide +kernel
theorem dX9_cap_9 : decode cX9_cap 9 = .ok (.ifCond .ne 6, 3) := by decide +kernel
theorem dX9_cap_12 : decode cX9_cap 12 = .ok (.bipush (-3), 2) := by decide +kernel
theorem dX9_cap_14 : decode cX9_cap 14 = .ok (.ireturn, 1) := by decide +kernel
theorem dX9_cap_15 : decode cX9_cap 15 = .ok (.iconst 0, 1) := by decide +kernel
theorem dX9_cap_16 : decode cX9_cap 16 = .ok (.istore_n 2, 1) := by decide +kernel
theorem dX9_cap_17 : decode cX9_cap 17 = .ok (.iload_n 2, 1) := by decide +kernel
theorem dX9_cap_18 : decode cX9_cap 18 = .ok (.bipush 42, 2) := by decide +kernel
theorem dX9_cap_20 : decode cX9_cap 20 = .ok (.if_icmp .ge 16, 3) := by decide +kernel
theorem dX9_cap_23 : decode cX9_cap 23 = .ok (.aload_n 0, 1) := by decide +kernel
theorem dX9_cap_24 : decode cX9_cap 24 = .ok (.getfield 49, 3) := by decide +kernel
theorem dX9_cap_27 : decode cX9_cap 27 = .ok (.iload_n 2, 1) := by decide +kernel
theorem dX9_cap_28 : decode cX9_cap 28 = .ok (.iconst 0, 1) := by decide +kernel
theorem dX9_cap_29 : decode cX9_cap 29 = .ok (.iastore, 1) := by decide +kernel
theorem dX9_cap_30 : decode cX9_cap 30 = .ok (.iinc 2 1, 3) := by decide +kernel
theorem dX9_cap_33 : decode cX9_cap 33 = .ok (.goto (-16), 3) := by decide +kernel
theorem dX9_cap_36 : decode cX9_cap 36 = .ok (.aload_n 0, 1) := by decide +kernel
theorem dX9_cap_37 : decode cX9_cap 37 = .ok (.invokevirtual 140, 3) := by decide +kernel
theorem dX9_cap_40 : decode cX9_cap 40 = .ok (.istore_n 2, 1) := by decide +kernel
theorem dX9_cap_41 : decode cX9_cap 41 = .ok (.iconst 0, 1) := by decide +kernel
theorem dX9_cap_42 : decode cX9_cap 42 = .ok (.istore_n 3, 1) := by decide +kernel
theorem dX9_cap_43 : decode cX9_cap 43 = .ok (.iload_n 3, 1) := by decide +kernel
theorem dX9_cap_44 : decode cX9_cap 44 = .ok (.iload_n 2, 1) := by decide +kernel
theorem dX9_cap_45 : decode cX9_cap 45 = .ok (.if_icmp .ge 48, 3) := by decide +kernel
theorem dX9_cap_48 : decode cX9_cap 48 = .ok (.aload_n 0, 1) := by decide +kernel
theorem dX9_cap_49 : decode cX9_cap 49 = .ok (.iload_n 3, 1) := by decide +kernel
theorem dX9_cap_50 : decode cX9_cap 50 = .ok (.invokevirtual 147, 3) := by decide +kernel
theorem dX9_cap_53 : decode cX9_cap 53 = .ok (.ifCond .eq 34, 3) := by decide +kernel
theorem dX9_cap_56 : decode cX9_cap 56 = .ok (.aload_n 0, 1) := by decide +kernel
theorem dX9_cap_57 : decode cX9_cap 57 = .ok (.iconst 0, 1) := by decide +kernel
theorem dX9_cap_58 : decode cX9_cap 58 = .ok (.iload_n 3, 1) := by decide +kernel
theorem dX9_cap_59 : decode cX9_cap 59 = .ok (.invokevirtual 197, 3) := by decide +kernel
theorem dX9_cap_62 : decode cX9_cap 62 = .ok (.aload_n 0, 1) := by decide +kernel
theorem dX9_cap_63 : decode cX9_cap 63 = .ok (.getfield 49, 3) := by decide +kernel
theorem dX9_cap_66 : decode cX9_cap 66 = .ok (.aload_n 0, 1) := by decide +kernel
theorem dX9_cap_67 : decode cX9_cap 67 = .ok (.getfield 172, 3) := by decide +kernel
theorem dX9_cap_70 : decode cX9_cap 70 = .ok (.dup2, 1) := by decide +kernel
theorem dX9_cap_71 : decode cX9_cap 71 = .ok (.iaload, 1) := by decide +kernel
theorem dX9_cap_72 : decode cX9_cap 72 = .ok (.aload_n 0, 1) := by decide +kernel
theorem dX9_cap_73 : decode cX9_cap 73 = .ok (.getfield 186, 3) := by decide +kernel
theorem dX9_cap_76 : decode cX9_cap 76 = .ok (.iload_n 3, 1) := by decide +kernel
theorem dX9_cap_77 : decode cX9_cap 77 = .ok (.if_icmp .ne 7, 3) := by decide +kernel
theorem dX9_cap_80 : decode cX9_cap 80 = .ok (.iconst 1, 1) := by decide +kernel
theorem dX9_cap_81 : decode cX9_cap 81 = .ok (.goto 4, 3) := by decide +kernel
theorem dX9_cap_84 : decode cX9_cap 84 = .ok (.iconst 0, 1) := by decide +kernel
theorem dX9_cap_85 : decode cX9_cap 85 = .ok (.iadd, 1) := by decide +kernel
theorem dX9_cap_86 : decode cX9_cap 86 = .ok (.iastore, 1) := by decide +kernel
theorem dX9_cap_87 : decode cX9_cap 87 = .ok (.iinc 3 1, 3) := by decide +kernel
theorem dX9_cap_90 : decode cX9_cap 90 = .ok (.goto (-47), 3) := by decide +kernel
theorem dX9_cap_93 : decode cX9_cap 93 = .ok (.bipush 41, 2) := by decide +kernel
theorem dX9_cap_95 : decode cX9_cap 95 = .ok (.istore_n 3, 1) := by decide +kernel
theorem dX9_cap_96 : decode cX9_cap 96 = .ok (.iconst 0, 1) := by decide +kernel
theorem dX9_cap_97 : decode cX9_cap 97 = .ok (.istore 4, 2) := by decide +kernel
theorem dX9_cap_99 : decode cX9_cap 99 = .ok (.iload_n 3, 1) := by decide +kernel
theorem dX9_cap_100 : decode cX9_cap 100 = .ok (.iconst 1, 1) := by decide +kernel
theorem dX9_cap_101 : decode cX9_cap 101 = .ok (.if_icmp .le 35, 3) := by decide +kernel
theorem dX9_cap_104 : decode cX9_cap 104 = .ok (.iload 4, 2) := by decide +kernel
theorem dX9_cap_106 : decode cX9_cap 106 = .ok (.aload_n 0, 1) := by decide +kernel
theorem dX9_cap_107 : decode cX9_cap 107 = .ok (.getfield 49, 3) := by decide +kernel
theorem dX9_cap_110 : decode cX9_cap 110 = .ok (.iload_n 3, 1) := by decide +kernel
theorem dX9_cap_111 : decode cX9_cap 111 = .ok (.iconst 1, 1) := by decide +kernel
theorem dX9_cap_112 : decode cX9_cap 112 = .ok (.isub, 1) := by decide +kernel
theorem dX9_cap_113 : decode cX9_cap 113 = .ok (.iaload, 1) := by decide +kernel
theorem dX9_cap_114 : decode cX9_cap 114 = .ok (.iadd, 1) := by decide +kernel
theorem dX9_cap_115 : decode cX9_cap 115 = .ok (.iload_n 1, 1) := by decide +kernel
theorem dX9_cap_116 : decode cX9_cap 116 = .ok (.if_icmp .gt 20, 3) := by decide +kernel
theorem dX9_cap_119 : decode cX9_cap 119 = .ok (.iinc 3 (-1), 3) := by decide +kernel
theorem dX9_cap_122 : decode cX9_cap 122 = .ok (.iload 4, 2) := by decide +kernel
theorem dX9_cap_124 : decode cX9_cap 124 = .ok (.aload_n 0, 1) := by decide +kernel
theorem dX9_cap_125 : decode cX9_cap 125 = .ok (.getfield 49, 3) := by decide +kernel
theorem dX9_cap_128 : decode cX9_cap 128 = .ok (.iload_n 3, 1) := by decide +kernel
theorem dX9_cap_129 : decode cX9_cap 129 = .ok (.iaload, 1) := by decide +kernel
theorem dX9_cap_130 : decode cX9_cap 130 = .ok (.iadd, 1) := by decide +kernel
theorem dX9_cap_131 : decode cX9_cap 131 = .ok (.istore 4, 2) := by decide +kernel
theorem dX9_cap_133 : decode cX9_cap 133 = .ok (.goto (-34), 3) := by decide +kernel
theorem dX9_cap_136 : decode cX9_cap 136 = .ok (.iload_n 3, 1) := by decide +kernel
theorem dX9_cap_137 : decode cX9_cap 137 = .ok (.ireturn, 1) := by decide +kernel
theorem bX9_cap_0 : tg_Snd mX9_cap 0 (fun k => ti_iload 1 (ti_i2l (ti_push (.long 0) (ti_push (.long 2400) k)))) 6 := tg_seq (si_iload_n (i := 1) dX9_cap_0 rfl) (tg_seq (si_i2l dX9_cap_1) (tg_seq (si_lconst (v := 0) dX9_cap_2 (by decide)) (si_ldc2 (v := 2400) dX9_cap_3 klX9_225)))
theorem bX9_cap_12 : tg_Snd mX9_cap 12 (fun k => ti_push (.int (-3)) k) 14 := si_bipush (v := -3) dX9_cap_12 (by decide)
theorem bX9_cap_15 : tg_Snd mX9_cap 15 (fun k => ti_push (.int 0) (ti_istore 2 k)) 17 := tg_seq (si_iconst (v := 0) dX9_cap_15 (by decide)) (si_istore_n (i := 2) dX9_cap_16 rfl (Nat.le_of_ble_eq_true rfl))
theorem bX9_cap_17 : tg_Snd mX9_cap 17 (fun k => ti_iload 2 (ti_push (.int 42) k)) 20 := tg_seq (si_iload_n (i := 2) dX9_cap_17 rfl) (si_bipush (v := 42) dX9_cap_18 (by decide))
theorem bX9_cap_23 : tg_Snd mX9_cap 23 (fun k => ti_aload 0 (ti_getf 8 28 (ti_iload 2 (ti_push (.int 0) (ti_iast (ti_iinc 2 1 k)))))) 33 := tg_seq (si_aload_n (i := 0) dX9_cap_23 rfl) (tg_seq (si_getf (ci := 8) (f := 28) clX9 (Nat.le_of_ble_eq_true rfl) rfl flX9_49 dX9_cap_24) (tg_seq (si_iload_n (i := 2) dX9_cap_27 rfl) (tg_seq (si_iconst (v := 0) dX9_cap_28 (by decide)) (tg_seq (si_iast dX9_cap_29) (si_iinc (v := 1) dX9_cap_30 (by decide) (Nat.le_of_ble_eq_true rfl))))))
theorem bX9_cap_36 : tg_Snd mX9_cap 36 (fun k => ti_aload 0 k) 37 := si_aload_n (i := 0) dX9_cap_36 rfl
theorem bX9_cap_40 : tg_Snd mX9_cap 40 (fun k => ti_istore 2 (ti_push (.int 0) (ti_istore 3 k))) 43 := tg_seq (si_istore_n (i := 2) dX9_cap_40 rfl (Nat.le_of_ble_eq_true rfl)) (tg_seq (si_iconst (v := 0) dX9_cap_41 (by decide)) (si_istore_n (i := 3) dX9_cap_42 rfl (Nat.le_of_ble_eq_true rfl)))
theorem bX9_cap_43 : tg_Snd mX9_cap 43 (fun k => ti_iload 3 (ti_iload 2 k)) 45 := tg_seq (si_iload_n (i := 3) dX9_cap_43 rfl) (si_iload_n (i := 2) dX9_cap_44 rfl)
theorem bX9_cap_48 : tg_Snd mX9_cap 48 (fun k => ti_aload 0 (ti_iload 3 k)) 50 := tg_seq (si_aload_n (i := 0) dX9_cap_48 rfl) (si_iload_n (i := 3) dX9_cap_49 rfl)
theorem bX9_cap_56 : tg_Snd mX9_cap 56 (fun k => ti_aload 0 (ti_push (.int 0) (ti_iload 3 k))) 59 := tg_seq (si_aload_n (i := 0) dX9_cap_56 rfl) (tg_seq (si_iconst (v := 0) dX9_cap_57 (by decide)) (si_iload_n (i := 3) dX9_cap_58 rfl))
theorem bX9_cap_62 : tg_Snd mX9_cap 62 (fun k => ti_aload 0 (ti_getf 8 28 (ti_aload 0 (ti_getf 8 21 (ti_dup2 (ti_iald (ti_aload 0 (ti_getf 8 25 (ti_iload 3 k))))))))) 77 := tg_seq (si_aload_n (i := 0) dX9_cap_62 rfl) (tg_seq (si_getf (ci := 8) (f := 28) clX9 (Nat.le_of_ble_eq_true rfl) rfl flX9_49 dX9_cap_63) (tg_seq (si_aload_n (i := 0) dX9_cap_66 rfl) (tg_seq (si_getf (ci := 8) (f := 21) clX9 (Nat.le_of_ble_eq_true rfl) rfl flX9_172 dX9_cap_67) (tg_seq (si_dup2 dX9_cap_70) (tg_seq (si_iald dX9_cap_71) (tg_seq (si_aload_n (i := 0) dX9_cap_72 rfl) (tg_seq (si_getf (ci := 8) (f := 25) clX9 (Nat.le_of_ble_eq_true rfl) rfl flX9_186 dX9_cap_73) (si_iload_n (i := 3) dX9_cap_76 rfl))))))))
theorem bX9_cap_80 : tg_Snd mX9_cap 80 (fun k => ti_push (.int 1) k) 81 := si_iconst (v := 1) dX9_cap_80 (by decide)
theorem bX9_cap_84 : tg_Snd mX9_cap 84 (fun k => ti_push (.int 0) k) 85 := si_iconst (v := 0) dX9_cap_84 (by decide)
theorem bX9_cap_85 : tg_Snd mX9_cap 85 (fun k => ti_iadd (ti_iast k)) 87 := tg_seq (si_iadd dX9_cap_85) (si_iast dX9_cap_86)
theorem bX9_cap_87 : tg_Snd mX9_cap 87 (fun k => ti_iinc 3 1 k) 90 := si_iinc (v := 1) dX9_cap_87 (by decide) (Nat.le_of_ble_eq_true rfl)
theorem bX9_cap_93 : tg_Snd mX9_cap 93 (fun k => ti_push (.int 41) (ti_istore 3 (ti_push (.int 0) (ti_istore 4 k)))) 99 := tg_seq (si_bipush (v := 41) dX9_cap_93 (by decide)) (tg_seq (si_istore_n (i := 3) dX9_cap_95 rfl (Nat.le_of_ble_eq_true rfl)) (tg_seq (si_iconst (v := 0) dX9_cap_96 (by decide)) (si_istore (i := 4) dX9_cap_97 (Nat.le_of_ble_eq_true rfl))))
theorem bX9_cap_99 : tg_Snd mX9_cap 99 (fun k => ti_iload 3 (ti_push (.int 1) k)) 101 := tg_seq (si_iload_n (i := 3) dX9_cap_99 rfl) (si_iconst (v := 1) dX9_cap_100 (by decide))
theorem bX9_cap_104 : tg_Snd mX9_cap 104 (fun k => ti_iload 4 (ti_aload 0 (ti_getf 8 28 (ti_iload 3 (ti_push (.int 1) (ti_isub (ti_iald (ti_iadd (ti_iload 1 k))))))))) 116 := tg_seq (si_iload (i := 4) dX9_cap_104) (tg_seq (si_aload_n (i := 0) dX9_cap_106 rfl) (tg_seq (si_getf (ci := 8) (f := 28) clX9 (Nat.le_of_ble_eq_true rfl) rfl flX9_49 dX9_cap_107) (tg_seq (si_iload_n (i := 3) dX9_cap_110 rfl) (tg_seq (si_iconst (v := 1) dX9_cap_111 (by decide)) (tg_seq (si_isub dX9_cap_112) (tg_seq (si_iald dX9_cap_113) (tg_seq (si_iadd dX9_cap_114) (si_iload_n (i := 1) dX9_cap_115 rfl))))))))
theorem bX9_cap_119 : tg_Snd mX9_cap 119 (fun k => ti_iinc 3 (-1) (ti_iload 4 (ti_aload 0 (ti_getf 8 28 (ti_iload 3 (ti_iald (ti_iadd (ti_istore 4 k)))))))) 133 := tg_seq (si_iinc (v := -1) dX9_cap_119 (by decide) (Nat.le_of_ble_eq_true rfl)) (tg_seq (si_iload (i := 4) dX9_cap_122) (tg_seq (si_aload_n (i := 0) dX9_cap_124 rfl) (tg_seq (si_getf (ci := 8) (f := 28) clX9 (Nat.le_of_ble_eq_true rfl) rfl flX9_49 dX9_cap_125) (tg_seq (si_iload_n (i := 3) dX9_cap_128 rfl) (tg_seq (si_iald dX9_cap_129) (tg_seq (si_iadd dX9_cap_130) (si_istore (i := 4) dX9_cap_131 (Nat.le_of_ble_eq_true rfl))))))))
theorem bX9_cap_136 : tg_Snd mX9_cap 136 (fun k => ti_iload 3 k) 137 := si_iload_n (i := 3) dX9_cap_136 rfl
theorem vX9_cap_6 : tg_SS0 mX9_cap 6 mX9_in 3 := ⟨okX9_in, ⟨54, dX9_cap_6, mlX9_54⟩, staX9_in, parX9_in, rfl, rfl, Nat.le_of_ble_eq_true rfl, Nat.le_of_ble_eq_true rfl⟩
theorem vX9_cap_37 : tg_VS mX9_cap 37 mX9_codes 0 := ⟨okX9_codes, ⟨140, dX9_cap_37, mlX9_140⟩, insX9_codes, selX9_codes, parX9_codes, rfl, rfl, Nat.le_of_ble_eq_true rfl, Nat.le_of_ble_eq_true rfl⟩
theorem vX9_cap_50 : tg_VS mX9_cap 50 mX9_isCell 1 := ⟨okX9_isCell, ⟨147, dX9_cap_50, mlX9_147⟩, insX9_isCell, selX9_isCell, parX9_isCell, rfl, rfl, Nat.le_of_ble_eq_true rfl, Nat.le_of_ble_eq_true rfl⟩
theorem vX9_cap_59 : tg_VS mX9_cap 59 mX9_gather 2 := ⟨okX9_gather, ⟨197, dX9_cap_59, mlX9_197⟩, insX9_gather, selX9_gather, parX9_gather, rfl, rfl, Nat.le_of_ble_eq_true rfl, Nat.le_of_ble_eq_true rfl⟩
