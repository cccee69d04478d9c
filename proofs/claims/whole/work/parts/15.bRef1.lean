theorem dX9_in_0 : decode cX9_in 0 = .ok (.lload_n 0, 1) := by decide +kernel
theorem dX9_in_1 : decode cX9_in 1 = .ok (.lload_n 2, 1) := by decide +kernel
theorem dX9_in_2 : decode cX9_in 2 = .ok (.lcmp, 1) := by decide +kernel
theorem dX9_in_3 : decode cX9_in 3 = .ok (.ifCond .lt 14, 3) := by decide +kernel
theorem dX9_in_6 : decode cX9_in 6 = .ok (.lload_n 0, 1) := by decide +kernel
theorem dX9_in_7 : decode cX9_in 7 = .ok (.lload 4, 2) := by decide +kernel
theorem dX9_in_9 : decode cX9_in 9 = .ok (.lcmp, 1) := by decide +kernel
theorem dX9_in_10 : decode cX9_in 10 = .ok (.ifCond .gt 7, 3) := by decide +kernel
theorem dX9_in_13 : decode cX9_in 13 = .ok (.iconst 1, 1) := by decide +kernel
theorem dX9_in_14 : decode cX9_in 14 = .ok (.goto 4, 3) := by decide +kernel
theorem dX9_in_17 : decode cX9_in 17 = .ok (.iconst 0, 1) := by decide +kernel
theorem dX9_in_18 : decode cX9_in 18 = .ok (.ireturn, 1) := by decide +kernel
theorem bX9_in_0 : tg_Snd mX9_in 0 (fun k => ti_lload 0 (ti_lload 2 (ti_lcmp k))) 3 := tg_seq (si_lload_n (i := 0) dX9_in_0 rfl) (tg_seq (si_lload_n (i := 2) dX9_in_1 rfl) (si_lcmp dX9_in_2))
theorem bX9_in_6 : tg_Snd mX9_in 6 (fun k => ti_lload 0 (ti_lload 4 (ti_lcmp k))) 10 := tg_seq (si_lload_n (i := 0) dX9_in_6 rfl) (tg_seq (si_lload (i := 4) dX9_in_7) (si_lcmp dX9_in_9))
theorem bX9_in_13 : tg_Snd mX9_in 13 (fun k => ti_push (.int 1) k) 14 := si_iconst (v := 1) dX9_in_13 (by decide)
theorem bX9_in_17 : tg_Snd mX9_in 17 (fun k => ti_push (.int 0) k) 18 := si_iconst (v := 0) dX9_in_17 (by decide)
theorem dX9_has_0 : decode cX9_has 0 = .ok (.iload_n 0, 1) := by decide +kernel
theorem dX9_has_1 : decode cX9_has 1 = .ok (.iload_n 1, 1) := by decide +kernel
theorem dX9_has_2 : decode cX9_has 2 = .ok (.ishr, 1) := by decide +kernel
theorem dX9_has_3 : decode cX9_has 3 = .ok (.iconst 1, 1) := by decide +kernel
theorem dX9_has_4 : decode cX9_has 4 = .ok (.iand, 1) := by decide +kernel
theorem dX9_has_5 : decode cX9_has 5 = .ok (.iconst 1, 1) := by decide +kernel
theorem dX9_has_6 : decode cX9_has 6 = .ok (.if_icmp .ne 7, 3) := by decide +kernel
theorem dX9_has_9 : decode cX9_has 9 = .ok (.iconst 1, 1) := by decide +kernel
theorem dX9_has_10 : decode cX9_has 10 = .ok (.goto 4, 3) := by decide +kernel
theorem dX9_has_13 : decode cX9_has 13 = .ok (.iconst 0, 1) := by decide +kernel
theorem dX9_has_14 : decode cX9_has 14 = .ok (.ireturn, 1) := by decide +kernel
theorem bX9_has_0 : tg_Snd mX9_has 0 (fun k => ti_iload 0 (ti_iload 1 (ti_ishr (ti_push (.int 1) (ti_iand (ti_push (.int 1) k)))))) 6 := tg_seq (si_iload_n (i := 0) dX9_has_0 rfl) (tg_seq (si_iload_n (i := 1) dX9_has_1 rfl) (tg_seq (si_ishr dX9_has_2) (tg_seq (si_iconst (v := 1) dX9_has_3 (by decide)) (tg_seq (si_iand dX9_has_4) (si_iconst (v := 1) dX9_has_5 (by decide))))))
theorem bX9_has_9 : tg_Snd mX9_has 9 (fun k => ti_push (.int 1) k) 10 := si_iconst (v := 1) dX9_has_9 (by decide)
theorem bX9_has_13 : tg_Snd mX9_has 13 (fun k => ti_push (.int 0) k) 14 := si_iconst (v := 0) dX9_has_13 (by decide)
theorem dX9_copyRow_0 : decode cX9_copyRow 0 = .ok (.iconst 0, 1) := by decide +kernel
theorem dX9_copyRow_1 : decode cX9_copyRow 1 = .ok (.istore_n 3, 1) := by decide +kernel
theorem dX9_copyRow_2 : decode cX9_copyRow 2 = .ok (.iload_n 3, 1) := by decide +kernel
theorem dX9_copyRow_3 : decode cX9_copyRow 3 = .ok (.bipush 82, 2) := by decide +kernel
theorem dX9_copyRow_5 : decode cX9_copyRow 5 = .ok (.if_icmp .ge 25, 3) := by decide +kernel
theorem dX9_copyRow_8 : decode cX9_copyRow 8 = .ok (.aload_n 0, 1) := by decide +kernel
theorem dX9_copyRow_9 : decode cX9_copyRow 9 = .ok (.getfield 7, 3) := by decide +kernel
theorem dX9_copyRow_12 : decode cX9_copyRow 12 = .ok (.iload_n 2, 1) := by decide +kernel
theorem dX9_copyRow_13 : decode cX9_copyRow 13 = .ok (.iload_n 3, 1) := by decide +kernel
theorem dX9_copyRow_14 : decode cX9_copyRow 14 = .ok (.iadd, 1) := by decide +kernel
theorem dX9_copyRow_15 : decode cX9_copyRow 15 = .ok (.aload_n 0, 1) := by decide +kernel
theorem dX9_copyRow_16 : decode cX9_copyRow 16 = .ok (.getfield 7, 3) := by decide +kernel
theorem dX9_copyRow_19 : decode cX9_copyRow 19 = .ok (.iload_n 1, 1) := by decide +kernel
theorem dX9_copyRow_20 : decode cX9_copyRow 20 = .ok (.iload_n 3, 1) := by decide +kernel
theorem dX9_copyRow_21 : decode cX9_copyRow 21 = .ok (.iadd, 1) := by decide +kernel
theorem dX9_copyRow_22 : decode cX9_copyRow 22 = .ok (.iaload, 1) := by decide +kernel
theorem dX9_copyRow_23 : decode cX9_copyRow 23 = .ok (.iastore, 1) := by decide +kernel
theorem dX9_copyRow_24 : decode cX9_copyRow 24 = .ok (.iinc 3 1, 3) := by decide +kernel
theorem dX9_copyRow_27 : decode cX9_copyRow 27 = .ok (.goto (-25), 3) := by decide +kernel
theorem dX9_copyRow_30 : decode cX9_copyRow 30 = .ok (.return_, 1) := by decide +kernel
theorem bX9_copyRow_0 : tg_Snd mX9_copyRow 0 (fun k => ti_push (.int 0) (ti_istore 3 k)) 2 := tg_seq (si_iconst (v := 0) dX9_copyRow_0 (by decide)) (si_istore_n (i := 3) dX9_copyRow_1 rfl (Nat.le_of_ble_eq_true rfl))
theorem bX9_copyRow_2 : tg_Snd mX9_copyRow 2 (fun k => ti_iload 3 (ti_push (.int 82) k)) 5 := tg_seq (si_iload_n (i := 3) dX9_copyRow_2 rfl) (si_bipush (v := 82) dX9_copyRow_3 (by decide))
theorem bX9_copyRow_8 : tg_Snd mX9_copyRow 8 (fun k => ti_aload 0 (ti_getf 8 0 (ti_iload 2 (ti_iload 3 (ti_iadd (ti_aload 0 (ti_getf 8 0 (ti_iload 1 (ti_iload 3 (ti_iadd (ti_iald (ti_iast (ti_iinc 3 1 k))))))))))))) 27 := tg_seq (si_aload_n (i := 0) dX9_copyRow_8 rfl) (tg_seq (si_getf (ci := 8) (f := 0) clX9 (Nat.le_of_ble_eq_true rfl) rfl flX9_7 dX9_copyRow_9) (tg_seq (si_iload_n (i := 2) dX9_copyRow_12 rfl) (tg_seq (si_iload_n (i := 3) dX9_copyRow_13 rfl) (tg_seq (si_iadd dX9_copyRow_14) (tg_seq (si_aload_n (i := 0) dX9_copyRow_15 rfl) (tg_seq (si_getf (ci := 8) (f := 0) clX9 (Nat.le_of_ble_eq_true rfl) rfl flX9_7 dX9_copyRow_16) (tg_seq (si_iload_n (i := 1) dX9_copyRow_19 rfl) (tg_seq (si_iload_n (i := 3) dX9_copyRow_20 rfl) (tg_seq (si_iadd dX9_copyRow_21) (tg_seq (si_iald dX9_copyRow_22) (tg_seq (si_iast dX9_copyRow_23) (si_iinc (v := 1) dX9_copyRow_24 (by decide) (Nat.le_of_ble_eq_true rfl)))))))))))))
theorem dX9_write_0 : decode cX9_write 0 = .ok (.iload_n 1, 1) := by decide +kernel
theorem dX9_write_1 : decode cX9_write 1 = .ok (.i2l, 1) := by decide +kernel
theorem dX9_write_2 : decode cX9_write 2 = .ok (.lconst 0, 1) := by decide +kernel
theorem dX9_write_3 : decode cX9_write 3 = .ok (.ldc2_w 52, 3) := by decide +kernel
theorem dX9_write_6 : decode cX9_write 6 = .ok (.invokestatic 54, 3) := by decide +kernel
theorem dX9_write_9 : decode cX9_write 9 = .ok (.ifCond .ne 6, 3) := by decide +kernel
theorem dX9_write_12 : decode cX9_write 12 = .ok (.bipush (-3), 2) := by decide +kernel
theorem dX9_write_14 : decode cX9_write 14 = .ok (.ireturn, 1) := by decide +kernel
theorem dX9_write_15 : decode cX9_write 15 = .ok (.aload_n 0, 1) := by decide +kernel
theorem dX9_write_16 : decode cX9_write 16 = .ok (.getfield 58, 3) := by decide +kernel
theorem dX9_write_19 : decode cX9_write 19 = .ok (.sipush 200, 3) := by decide +kernel
theorem dX9_write_22 : decode cX9_write 22 = .ok (.if_icmp .ne 6, 3) := by decide +kernel
theorem dX9_write_25 : decode cX9_write 25 = .ok (.bipush (-5), 2) := by decide +kernel
theorem dX9_write_27 : decode cX9_write 27 = .ok (.ireturn, 1) := by decide +kernel
theorem dX9_write_28 : decode cX9_write 28 = .ok (.aload_n 0, 1) := by decide +kernel
theorem dX9_write_29 : decode cX9_write 29 = .ok (.getfield 24, 3) := by decide +kernel
theorem dX9_write_32 : decode cX9_write 32 = .ok (.aload_n 0, 1) := by decide +kernel
theorem dX9_write_33 : decode cX9_write 33 = .ok (.getfield 58, 3) := by decide +kernel
theorem dX9_write_36 : decode cX9_write 36 = .ok (.iload_n 1, 1) := by decide +kernel
theorem dX9_write_37 : decode cX9_write 37 = .ok (.iastore, 1) := by decide +kernel
theorem dX9_write_38 : decode cX9_write 38 = .ok (.aload_n 0, 1) := by decide +kernel
theorem dX9_write_39 : decode cX9_write 39 = .ok (.dup, 1) := by decide +kernel
theorem dX9_write_40 : decode cX9_write 40 = .ok (.getfield 58, 3) := by decide +kernel
theorem dX9_write_43 : decode cX9_write 43 = .ok (.iconst 1, 1) := by decide +kernel
theorem dX9_write_44 : decode cX9_write 44 = .ok (.iadd, 1) := by decide +kernel
theorem dX9_write_45 : decode cX9_write 45 = .ok (.putfield 58, 3) := by decide +kernel
theorem dX9_write_48 : decode cX9_write 48 = .ok (.aload_n 0, 1) := by decide +kernel
theorem dX9_write_49 : decode cX9_write 49 = .ok (.getfield 58, 3) := by decide +kernel
theorem dX9_write_52 : decode cX9_write 52 = .ok (.ireturn, 1) := by decide +kernel
theorem bX9_write_0 : tg_Snd mX9_write 0 (fun k => ti_iload 1 (ti_i2l (ti_push (.long 0) (ti_push (.long 255) k)))) 6 := tg_seq (si_iload_n (i := 1) dX9_write_0 rfl) (tg_seq (si_i2l dX9_write_1) (tg_seq (si_lconst (v := 0) dX9_write_2 (by decide)) (si_ldc2 (v := 255) dX9_write_3 klX9_52)))
theorem bX9_write_12 : tg_Snd mX9_write 12 (fun k => ti_push (.int (-3)) k) 14 := si_bipush (v := -3) dX9_write_12 (by decide)
theorem bX9_write_15 : tg_Snd mX9_write 15 (fun k => ti_aload 0 (ti_getf 8 6 (ti_push (.int 200) k))) 22 := tg_seq (si_aload_n (i := 0) dX9_write_15 rfl) (tg_seq (si_getf (ci := 8) (f := 6) clX9 (Nat.le_of_ble_eq_true rfl) rfl flX9_58 dX9_write_16) (si_sipush (v := 200) dX9_write_19 (by decide)))
theorem bX9_write_25 : tg_Snd mX9_write 25 (fun k => ti_push (.int (-5)) k) 27 := si_bipush (v := -5) dX9_write_25 (by decide)
theorem bX9_write_28 : tg_Snd mX9_write 28 (fun k => ti_aload 0 (ti_getf 8 5 (ti_aload 0 (ti_getf 8 6 (ti_iload 1 (ti_iast (ti_aload 0 (ti_dup (ti_getf 8 6 (ti_push (.int 1) (ti_iadd (ti_putfI 8 6 (ti_aload 0 (ti_getf 8 6 k)))))))))))))) 52 := tg_seq (si_aload_n (i := 0) dX9_write_28 rfl) (tg_seq (si_getf (ci := 8) (f := 5) clX9 (Nat.le_of_ble_eq_true rfl) rfl flX9_24 dX9_write_29) (tg_seq (si_aload_n (i := 0) dX9_write_32 rfl) (tg_seq (si_getf (ci := 8) (f := 6) clX9 (Nat.le_of_ble_eq_true rfl) rfl flX9_58 dX9_write_33) (tg_seq (si_iload_n (i := 1) dX9_write_36 rfl) (tg_seq (si_iast dX9_write_37) (tg_seq (si_aload_n (i := 0) dX9_write_38 rfl) (tg_seq (si_dup dX9_write_39) (tg_seq (si_getf (ci := 8) (f := 6) clX9 (Nat.le_of_ble_eq_true rfl) rfl flX9_58 dX9_write_40) (tg_seq (si_iconst (v := 1) dX9_write_43 (by decide)) (tg_seq (si_iadd dX9_write_44) (tg_seq (si_putfI (ci := 8) (f := 6) (ty := .int) clX9 tyX9_ok nmX9 (Nat.le_of_ble_eq_true rfl) rfl (by decide +kernel) (fun _ _ => ⟨rfl, rfl⟩) flX9_58 dX9_write_45) (tg_seq (si_aload_n (i := 0) dX9_write_48 rfl) (si_getf (ci := 8) (f := 6) clX9 (Nat.le_of_ble_eq_true rfl) rfl flX9_58 dX9_write_49)))))))))))))
theorem vX9_write_6 : tg_SS0 mX9_write 6 mX9_in 3 := ⟨okX9_in, ⟨54, dX9_write_6, mlX9_54⟩, staX9_in, parX9_in, rfl, rfl, Nat.le_of_ble_eq_true rfl, Nat.le_of_ble_eq_true rfl⟩
theorem dX9_erase_0 : decode cX9_erase 0 = .ok (.aload_n 0, 1) := by decide +kernel
theorem dX9_erase_1 : decode cX9_erase 1 = .ok (.getfield 58, 3) := by decide +kernel
theorem dX9_erase_4 : decode cX9_erase 4 = .ok (.istore_n 1, 1) := by decide +kernel
theorem dX9_erase_5 : decode cX9_erase 5 = .ok (.aload_n 0, 1) := by decide +kernel
theorem dX9_erase_6 : decode cX9_erase 6 = .ok (.iconst 0, 1) := by decide +kernel
theorem dX9_erase_7 : decode cX9_erase 7 = .ok (.putfield 58, 3) := by decide +kernel
theorem dX9_erase_10 : decode cX9_erase 10 = .ok (.iload_n 1, 1) := by decide +kernel
theorem dX9_erase_11 : decode cX9_erase 11 = .ok (.ireturn, 1) := by decide +kernel
theorem bX9_erase_0 : tg_Snd mX9_erase 0 (fun k => ti_aload 0 (ti_getf 8 6 (ti_istore 1 (ti_aload 0 (ti_push (.int 0) (ti_putfI 8 6 (ti_iload 1 k))))))) 11 := tg_seq (si_aload_n (i := 0) dX9_erase_0 rfl) (tg_seq (si_getf (ci := 8) (f := 6) clX9 (Nat.le_of_ble_eq_true rfl) rfl flX9_58 dX9_erase_1) (tg_seq (si_istore_n (i := 1) dX9_erase_4 rfl (Nat.le_of_ble_eq_true rfl)) (tg_seq (si_aload_n (i := 0) dX9_erase_5 rfl) (tg_seq (si_iconst (v := 0) dX9_erase_6 (by decide)) (tg_seq (si_putfI (ci := 8) (f := 6) (ty := .int) clX9 tyX9_ok nmX9 (Nat.le_of_ble_eq_true rfl) rfl (by decide +kernel) (fun _ _ => ⟨rfl, rfl⟩) flX9_58 dX9_erase_7) (si_iload_n (i := 1) dX9_erase_10 rfl))))))
theorem dX9_isLetter_0 : decode cX9_isLetter 0 = .ok (.iload_n 0, 1) := by decide +kernel
theorem dX9_isLetter_1 : decode cX9_isLetter 1 = .ok (.i2l, 1) := by decide +kernel
theorem dX9_isLetter_2 : decode cX9_isLetter 2 = .ok (.ldc2_w 61, 3) := by decide +kernel
theorem dX9_isLetter_5 : decode cX9_isLetter 5 = .ok (.ldc2_w 63, 3) := by decide +kernel
theorem dX9_isLetter_8 : decode cX9_isLetter 8 = .ok (.invokestatic 54, 3) := by decide +kernel
theorem dX9_isLetter_11 : decode cX9_isLetter 11 = .ok (.ireturn, 1) := by decide +kernel
theorem bX9_isLetter_0 : tg_Snd mX9_isLetter 0 (fun k => ti_iload 0 (ti_i2l (ti_push (.long 97) (ti_push (.long 122) k)))) 8 := tg_seq (si_iload_n (i := 0) dX9_isLetter_0 rfl) (tg_seq (si_i2l dX9_isLetter_1) (tg_seq (si_ldc2 (v := 97) dX9_isLetter_2 klX9_61) (si_ldc2 (v := 122) dX9_isLetter_5 klX9_63)))
theorem vX9_isLetter_8 : tg_SS0 mX9_isLetter 8 mX9_in 3 := ⟨okX9_in, ⟨54, dX9_isLetter_8, mlX9_54⟩, staX9_in, parX9_in, rfl, rfl, Nat.le_of_ble_eq_true rfl, Nat.le_of_ble_eq_true rfl⟩
theorem dX9_isDigit_0 : decode cX9_isDigit 0 = .ok (.iload_n 0, 1) := by decide +kernel
theorem dX9_isDigit_1 : decode cX9_isDigit 1 = .ok (.i2l, 1) := by decide +kernel
theorem dX9_isDigit_2 : decode cX9_isDigit 2 = .ok (.ldc2_w 65, 3) := by decide +kernel
theorem dX9_isDigit_5 : decode cX9_isDigit 5 = .ok (.ldc2_w 67, 3) := by decide +kernel
theorem dX9_isDigit_8 : decode cX9_isDigit 8 = .ok (.invokestatic 54, 3) := by decide +kernel
theorem dX9_isDigit_11 : decode cX9_isDigit 11 = .ok (.ireturn, 1) := by decide +kernel
theorem bX9_isDigit_0 : tg_Snd mX9_isDigit 0 (fun k => ti_iload 0 (ti_i2l (ti_push (.long 48) (ti_push (.long 57) k)))) 8 := tg_seq (si_iload_n (i := 0) dX9_isDigit_0 rfl) (tg_seq (si_i2l dX9_isDigit_1) (tg_seq (si_ldc2 (v := 48) dX9_isDigit_2 klX9_65) (si_ldc2 (v := 57) dX9_isDigit_5 klX9_67)))
theorem vX9_isDigit_8 : tg_SS0 mX9_isDigit 8 mX9_in 3 := ⟨okX9_in, ⟨54, dX9_isDigit_8, mlX9_54⟩, staX9_in, parX9_in, rfl, rfl, Nat.le_of_ble_eq_true rfl, Nat.le_of_ble_eq_true rfl⟩
theorem dX9_nextToken_0 : decode cX9_nextToken 0 = .ok (.aload_n 0, 1) := by decide +kernel
theorem dX9_nextToken_1 : decode cX9_nextToken 1 = .ok (.aload_n 0, 1) := by decide +kernel
theorem dX9_nextToken_2 : decode cX9_nextToken 2 = .ok (.getfield 69, 3) := by decide +kernel
theorem dX9_nextToken_5 : decode cX9_nextToken 5 = .ok (.putfield 72, 3) := by decide +kernel
theorem dX9_nextToken_8 : decode cX9_nextToken 8 = .ok (.aload_n 0, 1) := by decide +kernel
theorem dX9_nextToken_9 : decode cX9_nextToken 9 = .ok (.getfield 72, 3) := by decide +kernel
theorem dX9_nextToken_12 : decode cX9_nextToken 12 = .ok (.aload_n 0, 1) := by decide +kernel
theorem dX9_nextToken_13 : decode cX9_nextToken 13 = .ok (.getfield 58, 3) := by decide +kernel
theorem dX9_nextToken_16 : decode cX9_nextToken 16 = .ok (.if_icmp .ge 30, 3) := by decide +kernel
theorem dX9_nextToken_19 : decode cX9_nextToken 19 = .ok (.aload_n 0, 1) := by decide +kernel
theorem dX9_nextToken_20 : decode cX9_nextToken 20 = .ok (.getfield 24, 3) := by decide +kernel
theorem dX9_nextToken_23 : decode cX9_nextToken 23 = .ok (.aload_n 0, 1) := by decide +kernel
theorem dX9_nextToken_24 : decode cX9_nextToken 24 = .ok (.getfield 72, 3) := by decide +kernel
theorem dX9_nextToken_27 : decode cX9_nextToken 27 = .ok (.iaload, 1) := by decide +kernel
theorem dX9_nextToken_28 : decode cX9_nextToken 28 = .ok (.bipush 32, 2) := by decide +kernel
theorem dX9_nextToken_30 : decode cX9_nextToken 30 = .ok (.if_icmp .ne 16, 3) := by decide +kernel
theorem dX9_nextToken_33 : decode cX9_nextToken 33 = .ok (.aload_n 0, 1) := by decide +kernel
theorem dX9_nextToken_34 : decode cX9_nextToken 34 = .ok (.dup, 1) := by decide +kernel
theorem dX9_nextToken_35 : decode cX9_nextToken 35 = .ok (.getfield 72, 3) := by decide +kernel
theorem dX9_nextToken_38 : decode cX9_nextToken 38 = .ok (.iconst 1, 1) := by decide +kernel
theorem dX9_nextToken_39 : decode cX9_nextToken 39 = .ok (.iadd, 1) := by decide +kernel
theorem dX9_nextToken_40 : decode cX9_nextToken 40 = .ok (.putfield 72, 3) := by decide +kernel
theorem dX9_nextToken_43 : decode cX9_nextToken 43 = .ok (.goto (-35), 3) := by decide +kernel
theorem dX9_nextToken_46 : decode cX9_nextToken 46 = .ok (.aload_n 0, 1) := by decide +kernel
theorem dX9_nextToken_47 : decode cX9_nextToken 47 = .ok (.aload_n 0, 1) := by decide +kernel
theorem dX9_nextToken_48 : decode cX9_nextToken 48 = .ok (.getfield 72, 3) := by decide +kernel
theorem dX9_nextToken_51 : decode cX9_nextToken 51 = .ok (.aload_n 0, 1) := by decide +kernel
theorem dX9_nextToken_52 : decode cX9_nextToken 52 = .ok (.getfield 58, 3) := by decide +kernel
theorem dX9_nextToken_55 : decode cX9_nextToken 55 = .ok (.if_icmp .ge 12, 3) := by decide +kernel
theorem dX9_nextToken_58 : decode cX9_nextToken 58 = .ok (.aload_n 0, 1) := by decide +kernel
theorem dX9_nextToken_59 : decode cX9_nextToken 59 = .ok (.getfield 72, 3) := by decide +kernel
theorem dX9_nextToken_62 : decode cX9_nextToken 62 = .ok (.iconst 1, 1) := by decide +kernel
theorem dX9_nextToken_63 : decode cX9_nextToken 63 = .ok (.iadd, 1) := by decide +kernel
theorem dX9_nextToken_64 : decode cX9_nextToken 64 = .ok (.goto 7, 3) := by decide +kernel
theorem dX9_nextToken_67 : decode cX9_nextToken 67 = .ok (.aload_n 0, 1) := by decide +kernel
theorem dX9_nextToken_68 : decode cX9_nextToken 68 = .ok (.getfield 72, 3) := by decide +kernel
theorem dX9_nextToken_71 : decode cX9_nextToken 71 = .ok (.putfield 69, 3) := by decide +kernel
theorem dX9_nextToken_74 : decode cX9_nextToken 74 = .ok (.aload_n 0, 1) := by decide +kernel
theorem dX9_nextToken_75 : decode cX9_nextToken 75 = .ok (.getfield 72, 3) := by decide +kernel
theorem dX9_nextToken_78 : decode cX9_nextToken 78 = .ok (.aload_n 0, 1) := by decide +kernel
theorem dX9_nextToken_79 : decode cX9_nextToken 79 = .ok (.getfield 58, 3) := by decide +kernel
theorem dX9_nextToken_82 : decode cX9_nextToken 82 = .ok (.if_icmp .ge 57, 3) := by decide +kernel
theorem dX9_nextToken_85 : decode cX9_nextToken 85 = .ok (.aload_n 0, 1) := by decide +kernel
theorem dX9_nextToken_86 : decode cX9_nextToken 86 = .ok (.getfield 24, 3) := by decide +kernel
theorem dX9_nextToken_89 : decode cX9_nextToken 89 = .ok (.aload_n 0, 1) := by decide +kernel
theorem dX9_nextToken_90 : decode cX9_nextToken 90 = .ok (.getfield 72, 3) := by decide +kernel
theorem dX9_nextToken_93 : decode cX9_nextToken 93 = .ok (.iaload, 1) := by decide +kernel
theorem dX9_nextToken_94 : decode cX9_nextToken 94 = .ok (.invokestatic 75, 3) := by decide +kernel
theorem dX9_nextToken_97 : decode cX9_nextToken 97 = .ok (.ifCond .eq 42, 3) := by decide +kernel
theorem dX9_nextToken_100 : decode cX9_nextToken 100 = .ok (.aload_n 0, 1) := by decide +kernel
theorem dX9_nextToken_101 : decode cX9_nextToken 101 = .ok (.getfield 69, 3) := by decide +kernel
theorem dX9_nextToken_104 : decode cX9_nextToken 104 = .ok (.aload_n 0, 1) := by decide +kernel
theorem dX9_nextToken_105 : decode cX9_nextToken 105 = .ok (.getfield 58, 3) := by decide +kernel
theorem dX9_nextToken_108 : decode cX9_nextToken 108 = .ok (.if_icmp .ge 96, 3) := by decide +kernel
theorem dX9_nextToken_111 : decode cX9_nextToken 111 = .ok (.aload_n 0, 1) := by decide +kernel
theorem dX9_nextToken_112 : decode cX9_nextToken 112 = .ok (.getfield 24, 3) := by decide +kernel
theorem dX9_nextToken_115 : decode cX9_nextToken 115 = .ok (.aload_n 0, 1) := by decide +kernel
theorem dX9_nextToken_116 : decode cX9_nextToken 116 = .ok (.getfield 69, 3) := by decide +kernel
theorem dX9_nextToken_119 : decode cX9_nextToken 119 = .ok (.iaload, 1) := by decide +kernel
theorem dX9_nextToken_120 : decode cX9_nextToken 120 = .ok (.invokestatic 75, 3) := by decide +kernel
theorem dX9_nextToken_123 : decode cX9_nextToken 123 = .ok (.ifCond .eq 81, 3) := by decide +kernel
theorem dX9_nextToken_126 : decode cX9_nextToken 126 = .ok (.aload_n 0, 1) := by decide +kernel
theorem dX9_nextToken_127 : decode cX9_nextToken 127 = .ok (.dup, 1) := by decide +kernel
theorem dX9_nextToken_128 : decode cX9_nextToken 128 = .ok (.getfield 69, 3) := by decide +kernel
theorem dX9_nextToken_131 : decode cX9_nextToken 131 = .ok (.iconst 1, 1) := by decide +kernel
theorem dX9_nextToken_132 : decode cX9_nextToken 132 = .ok (.iadd, 1) := by decide +kernel
theorem dX9_nextToken_133 : decode cX9_nextToken 133 = .ok (.putfield 69, 3) := by decide +kernel
theorem dX9_nextToken_136 : decode cX9_nextToken 136 = .ok (.goto (-36), 3) := by decide +kernel
theorem dX9_nextToken_139 : decode cX9_nextToken 139 = .ok (.aload_n 0, 1) := by decide +kernel
theorem dX9_nextToken_140 : decode cX9_nextToken 140 = .ok (.getfield 72, 3) := by decide +kernel
theorem dX9_nextToken_143 : decode cX9_nextToken 143 = .ok (.aload_n 0, 1) := by decide +kernel
theorem dX9_nextToken_144 : decode cX9_nextToken 144 = .ok (.getfield 58, 3) := by decide +kernel
theorem dX9_nextToken_147 : decode cX9_nextToken 147 = .ok (.if_icmp .ge 57, 3) := by decide +kernel
theorem dX9_nextToken_150 : decode cX9_nextToken 150 = .ok (.aload_n 0, 1) := by decide +kernel
theorem dX9_nextToken_151 : decode cX9_nextToken 151 = .ok (.getfield 24, 3) := by decide +kernel
theorem dX9_nextToken_154 : decode cX9_nextToken 154 = .ok (.aload_n 0, 1) := by decide +kernel
theorem dX9_nextToken_155 : decode cX9_nextToken 155 = .ok (.getfield 72, 3) := by decide +kernel
theorem dX9_nextToken_158 : decode cX9_nextToken 158 = .ok (.iaload, 1) := by decide +kernel
theorem dX9_nextToken_159 : decode cX9_nextToken 159 = .ok (.invokestatic 79, 3) := by decide +kernel
theorem dX9_nextToken_162 : decode cX9_nextToken 162 = .ok (.ifCond .eq 42, 3) := by decide +kernel
theorem dX9_nextToken_165 : decode cX9_nextToken 165 = .ok (.aload_n 0, 1) := by decide +kernel
theorem dX9_nextToken_166 : decode cX9_nextToken 166 = .ok (.getfield 69, 3) := by decide +kernel
theorem dX9_nextToken_169 : decode cX9_nextToken 169 = .ok (.aload_n 0, 1) := by decide +kernel
theorem dX9_nextToken_170 : decode cX9_nextToken 170 = .ok (.getfield 58, 3) := by decide +kernel
theorem dX9_nextToken_173 : decode cX9_nextToken 173 = .ok (.if_icmp .ge 31, 3) := by decide +kernel
theorem dX9_nextToken_176 : decode cX9_nextToken 176 = .ok (.aload_n 0, 1) := by decide +kernel
theorem dX9_nextToken_177 : decode cX9_nextToken 177 = .ok (.getfield 24, 3) := by decide +kernel
theorem dX9_nextToken_180 : decode cX9_nextToken 180 = .ok (.aload_n 0, 1) := by decide +kernel
theorem dX9_nextToken_181 : decode cX9_nextToken 181 = .ok (.getfield 69, 3) := by decide +kernel
theorem dX9_nextToken_184 : decode cX9_nextToken 184 = .ok (.iaload, 1) := by decide +kernel
theorem dX9_nextToken_185 : decode cX9_nextToken 185 = .ok (.invokestatic 79, 3) := by decide +kernel
theorem dX9_nextToken_188 : decode cX9_nextToken 188 = .ok (.ifCond .eq 16, 3) := by decide +kernel
theorem dX9_nextToken_191 : decode cX9_nextToken 191 = .ok (.aload_n 0, 1) := by decide +kernel
theorem dX9_nextToken_192 : decode cX9_nextToken 192 = .ok (.dup, 1) := by decide +kernel
theorem dX9_nextToken_193 : decode cX9_nextToken 193 = .ok (.getfield 69, 3) := by decide +kernel
theorem dX9_nextToken_196 : decode cX9_nextToken 196 = .ok (.iconst 1, 1) := by decide +kernel
theorem dX9_nextToken_197 : decode cX9_nextToken 197 = .ok (.iadd, 1) := by decide +kernel
theorem dX9_nextToken_198 : decode cX9_nextToken 198 = .ok (.putfield 69, 3) := by decide +kernel
theorem dX9_nextToken_201 : decode cX9_nextToken 201 = .ok (.goto (-36), 3) := by decide +kernel
theorem dX9_nextToken_204 : decode cX9_nextToken 204 = .ok (.return_, 1) := by decide +kernel
theorem bX9_nextToken_0 : tg_Snd mX9_nextToken 0 (fun k => ti_aload 0 (ti_aload 0 (ti_getf 8 11 (ti_putfI 8 10 k)))) 8 := tg_seq (si_aload_n (i := 0) dX9_nextToken_0 rfl) (tg_seq (si_aload_n (i := 0) dX9_nextToken_1 rfl) (tg_seq (si_getf (ci := 8) (f := 11) clX9 (Nat.le_of_ble_eq_true rfl) rfl flX9_69 dX9_nextToken_2) (si_putfI (ci := 8) (f := 10) (ty := .int) clX9 tyX9_ok nmX9 (Nat.le_of_ble_eq_true rfl) rfl (by decide +kernel) (fun _ _ => ⟨rfl, rfl⟩) flX9_72 dX9_nextToken_5)))
theorem bX9_nextToken_8 : tg_Snd mX9_nextToken 8 (fun k => ti_aload 0 (ti_getf 8 10 (ti_aload 0 (ti_getf 8 6 k)))) 16 := tg_seq (si_aload_n (i := 0) dX9_nextToken_8 rfl) (tg_seq (si_getf (ci := 8) (f := 10) clX9 (Nat.le_of_ble_eq_true rfl) rfl flX9_72 dX9_nextToken_9) (tg_seq (si_aload_n (i := 0) dX9_nextToken_12 rfl) (si_getf (ci := 8) (f := 6) clX9 (Nat.le_of_ble_eq_true rfl) rfl flX9_58 dX9_nextToken_13)))
theorem bX9_nextToken_19 : tg_Snd mX9_nextToken 19 (fun k => ti_aload 0 (ti_getf 8 5 (ti_aload 0 (ti_getf 8 10 (ti_iald (ti_push (.int 32) k)))))) 30 := tg_seq (si_aload_n (i := 0) dX9_nextToken_19 rfl) (tg_seq (si_getf (ci := 8) (f := 5) clX9 (Nat.le_of_ble_eq_true rfl) rfl flX9_24 dX9_nextToken_20) (tg_seq (si_aload_n (i := 0) dX9_nextToken_23 rfl) (tg_seq (si_getf (ci := 8) (f := 10) clX9 (Nat.le_of_ble_eq_true rfl) rfl flX9_72 dX9_nextToken_24) (tg_seq (si_iald dX9_nextToken_27) (si_bipush (v := 32) dX9_nextToken_28 (by decide))))))
theorem bX9_nextToken_33 : tg_Snd mX9_nextToken 33 (fun k => ti_aload 0 (ti_dup (ti_getf 8 10 (ti_push (.int 1) (ti_iadd (ti_putfI 8 10 k)))))) 43 := tg_seq (si_aload_n (i := 0) dX9_nextToken_33 rfl) (tg_seq (si_dup dX9_nextToken_34) (tg_seq (si_getf (ci := 8) (f := 10) clX9 (Nat.le_of_ble_eq_true rfl) rfl flX9_72 dX9_nextToken_35) (tg_seq (si_iconst (v := 1) dX9_nextToken_38 (by decide)) (tg_seq (si_iadd dX9_nextToken_39) (si_putfI (ci := 8) (f := 10) (ty := .int) clX9 tyX9_ok nmX9 (Nat.le_of_ble_eq_true rfl) rfl (by decide +kernel) (fun _ _ => ⟨rfl, rfl⟩) flX9_72 dX9_nextToken_40)))))
theorem bX9_nextToken_46 : tg_Snd mX9_nextToken 46 (fun k => ti_aload 0 (ti_aload 0 (ti_getf 8 10 (ti_aload 0 (ti_getf 8 6 k))))) 55 := tg_seq (si_aload_n (i := 0) dX9_nextToken_46 rfl) (tg_seq (si_aload_n (i := 0) dX9_nextToken_47 rfl) (tg_seq (si_getf (ci := 8) (f := 10) clX9 (Nat.le_of_ble_eq_true rfl) rfl flX9_72 dX9_nextToken_48) (tg_seq (si_aload_n (i := 0) dX9_nextToken_51 rfl) (si_getf (ci := 8) (f := 6) clX9 (Nat.le_of_ble_eq_true rfl) rfl flX9_58 dX9_nextToken_52))))
theorem bX9_nextToken_58 : tg_Snd mX9_nextToken 58 (fun k => ti_aload 0 (ti_getf 8 10 (ti_push (.int 1) (ti_iadd k)))) 64 := tg_seq (si_aload_n (i := 0) dX9_nextToken_58 rfl) (tg_seq (si_getf (ci := 8) (f := 10) clX9 (Nat.le_of_ble_eq_true rfl) rfl flX9_72 dX9_nextToken_59) (tg_seq (si_iconst (v := 1) dX9_nextToken_62 (by decide)) (si_iadd dX9_nextToken_63)))
theorem bX9_nextToken_67 : tg_Snd mX9_nextToken 67 (fun k => ti_aload 0 (ti_getf 8 10 k)) 71 := tg_seq (si_aload_n (i := 0) dX9_nextToken_67 rfl) (si_getf (ci := 8) (f := 10) clX9 (Nat.le_of_ble_eq_true rfl) rfl flX9_72 dX9_nextToken_68)
theorem bX9_nextToken_71 : tg_Snd mX9_nextToken 71 (fun k => ti_putfI 8 11 (ti_aload 0 (ti_getf 8 10 (ti_aload 0 (ti_getf 8 6 k))))) 82 := tg_seq (si_putfI (ci := 8) (f := 11) (ty := .int) clX9 tyX9_ok nmX9 (Nat.le_of_ble_eq_true rfl) rfl (by decide +kernel) (fun _ _ => ⟨rfl, rfl⟩) flX9_69 dX9_nextToken_71) (tg_seq (si_aload_n (i := 0) dX9_nextToken_74 rfl) (tg_seq (si_getf (ci := 8) (f := 10) clX9 (Nat.le_of_ble_eq_true rfl) rfl flX9_72 dX9_nextToken_75) (tg_seq (si_aload_n (i := 0) dX9_nextToken_78 rfl) (si_getf (ci := 8) (f := 6) clX9 (Nat.le_of_ble_eq_true rfl) rfl flX9_58 dX9_nextToken_79))))
theorem bX9_nextToken_85 : tg_Snd mX9_nextToken 85 (fun k => ti_aload 0 (ti_getf 8 5 (ti_aload 0 (ti_getf 8 10 (ti_iald k))))) 94 := tg_seq (si_aload_n (i := 0) dX9_nextToken_85 rfl) (tg_seq (si_getf (ci := 8) (f := 5) clX9 (Nat.le_of_ble_eq_true rfl) rfl flX9_24 dX9_nextToken_86) (tg_seq (si_aload_n (i := 0) dX9_nextToken_89 rfl) (tg_seq (si_getf (ci := 8) (f := 10) clX9 (Nat.le_of_ble_eq_true rfl) rfl flX9_72 dX9_nextToken_90) (si_iald dX9_nextToken_93))))
theorem bX9_nextToken_100 : tg_Snd mX9_nextToken 100 (fun k => ti_aload 0 (ti_getf 8 11 (ti_aload 0 (ti_getf 8 6 k)))) 108 := tg_seq (si_aload_n (i := 0) dX9_nextToken_100 rfl) (tg_seq (si_getf (ci := 8) (f := 11) clX9 (Nat.le_of_ble_eq_true rfl) rfl flX9_69 dX9_nextToken_101) (tg_seq (si_aload_n (i := 0) dX9_nextToken_104 rfl) (si_getf (ci := 8) (f := 6) clX9 (Nat.le_of_ble_eq_true rfl) rfl flX9_58 dX9_nextToken_105)))
theorem bX9_nextToken_111 : tg_Snd mX9_nextToken 111 (fun k => ti_aload 0 (ti_getf 8 5 (ti_aload 0 (ti_getf 8 11 (ti_iald k))))) 120 := tg_seq (si_aload_n (i := 0) dX9_nextToken_111 rfl) (tg_seq (si_getf (ci := 8) (f := 5) clX9 (Nat.le_of_ble_eq_true rfl) rfl flX9_24 dX9_nextToken_112) (tg_seq (si_aload_n (i := 0) dX9_nextToken_115 rfl) (tg_seq (si_getf (ci := 8) (f := 11) clX9 (Nat.le_of_ble_eq_true rfl) rfl flX9_69 dX9_nextToken_116) (si_iald dX9_nextToken_119))))
theorem bX9_nextToken_126 : tg_Snd mX9_nextToken 126 (fun k => ti_aload 0 (ti_dup (ti_getf 8 11 (ti_push (.int 1) (ti_iadd (ti_putfI 8 11 k)))))) 136 := tg_seq (si_aload_n (i := 0) dX9_nextToken_126 rfl) (tg_seq (si_dup dX9_nextToken_127) (tg_seq (si_getf (ci := 8) (f := 11) clX9 (Nat.le_of_ble_eq_true rfl) rfl flX9_69 dX9_nextToken_128) (tg_seq (si_iconst (v := 1) dX9_nextToken_131 (by decide)) (tg_seq (si_iadd dX9_nextToken_132) (si_putfI (ci := 8) (f := 11) (ty := .int) clX9 tyX9_ok nmX9 (Nat.le_of_ble_eq_true rfl) rfl (by decide +kernel) (fun _ _ => ⟨rfl, rfl⟩) flX9_69 dX9_nextToken_133)))))
theorem bX9_nextToken_139 : tg_Snd mX9_nextToken 139 (fun k => ti_aload 0 (ti_getf 8 10 (ti_aload 0 (ti_getf 8 6 k)))) 147 := tg_seq (si_aload_n (i := 0) dX9_nextToken_139 rfl) (tg_seq (si_getf (ci := 8) (f := 10) clX9 (Nat.le_of_ble_eq_true rfl) rfl flX9_72 dX9_nextToken_140) (tg_seq (si_aload_n (i := 0) dX9_nextToken_143 rfl) (si_getf (ci := 8) (f := 6) clX9 (Nat.le_of_ble_eq_true rfl) rfl flX9_58 dX9_nextToken_144)))
theorem bX9_nextToken_150 : tg_Snd mX9_nextToken 150 (fun k => ti_aload 0 (ti_getf 8 5 (ti_aload 0 (ti_getf 8 10 (ti_iald k))))) 159 := tg_seq (si_aload_n (i := 0) dX9_nextToken_150 rfl) (tg_seq (si_getf (ci := 8) (f := 5) clX9 (Nat.le_of_ble_eq_true rfl) rfl flX9_24 dX9_nextToken_151) (tg_seq (si_aload_n (i := 0) dX9_nextToken_154 rfl) (tg_seq (si_getf (ci := 8) (f := 10) clX9 (Nat.le_of_ble_eq_true rfl) rfl flX9_72 dX9_nextToken_155) (si_iald dX9_nextToken_158))))
theorem bX9_nextToken_165 : tg_Snd mX9_nextToken 165 (fun k => ti_aload 0 (ti_getf 8 11 (ti_aload 0 (ti_getf 8 6 k)))) 173 := tg_seq (si_aload_n (i := 0) dX9_nextToken_165 rfl) (tg_seq (si_getf (ci := 8) (f := 11) clX9 (Nat.le_of_ble_eq_true rfl) rfl flX9_69 dX9_nextToken_166) (tg_seq (si_aload_n (i := 0) dX9_nextToken_169 rfl) (si_getf (ci := 8) (f := 6) clX9 (Nat.le_of_ble_eq_true rfl) rfl flX9_58 dX9_nextToken_170)))
theorem bX9_nextToken_176 : tg_Snd mX9_nextToken 176 (fun k => ti_aload 0 (ti_getf 8 5 (ti_aload 0 (ti_getf 8 11 (ti_iald k))))) 185 := tg_seq (si_aload_n (i := 0) dX9_nextToken_176 rfl) (tg_seq (si_getf (ci := 8) (f := 5) clX9 (Nat.le_of_ble_eq_true rfl) rfl flX9_24 dX9_nextToken_177) (tg_seq (si_aload_n (i := 0) dX9_nextToken_180 rfl) (tg_seq (si_getf (ci := 8) (f := 11) clX9 (Nat.le_of_ble_eq_true rfl) rfl flX9_69 dX9_nextToken_181) (si_iald dX9_nextToken_184))))
theorem bX9_nextToken_191 : tg_Snd mX9_nextToken 191 (fun k => ti_aload 0 (ti_dup (ti_getf 8 11 (ti_push (.int 1) (ti_iadd (ti_putfI 8 11 k)))))) 201 := tg_seq (si_aload_n (i := 0) dX9_nextToken_191 rfl) (tg_seq (si_dup dX9_nextToken_192) (tg_seq (si_getf (ci := 8) (f := 11) clX9 (Nat.le_of_ble_eq_true rfl) rfl flX9_69 dX9_nextToken_193) (tg_seq (si_iconst (v := 1) dX9_nextToken_196 (by decide)) (tg_seq (si_iadd dX9_nextToken_197) (si_putfI (ci := 8) (f := 11) (ty := .int) clX9 tyX9_ok nmX9 (Nat.le_of_ble_eq_true rfl) rfl (by decide +kernel) (fun _ _ => ⟨rfl, rfl⟩) flX9_69 dX9_nextToken_198)))))
theorem vX9_nextToken_94 : tg_SS0 mX9_nextToken 94 mX9_isLetter 1 := ⟨okX9_isLetter, ⟨75, dX9_nextToken_94, mlX9_75⟩, staX9_isLetter, parX9_isLetter, rfl, rfl, Nat.le_of_ble_eq_true rfl, Nat.le_of_ble_eq_true rfl⟩
theorem vX9_nextToken_120 : tg_SS0 mX9_nextToken 120 mX9_isLetter 1 := ⟨okX9_isLetter, ⟨75, dX9_nextToken_120, mlX9_75⟩, staX9_isLetter, parX9_isLetter, rfl, rfl, Nat.le_of_ble_eq_true rfl, Nat.le_of_ble_eq_true rfl⟩
theorem vX9_nextToken_159 : tg_SS0 mX9_nextToken 159 mX9_isDigit 1 := ⟨okX9_isDigit, ⟨79, dX9_nextToken_159, mlX9_79⟩, staX9_isDigit, parX9_isDigit, rfl, rfl, Nat.le_of_ble_eq_true rfl, Nat.le_of_ble_eq_true rfl⟩
theorem vX9_nextToken_185 : tg_SS0 mX9_nextToken 185 mX9_isDigit 1 := ⟨okX9_isDigit, ⟨79, dX9_nextToken_185, mlX9_79⟩, staX9_isDigit, parX9_isDigit, rfl, rfl, Nat.le_of_ble_eq_true rfl, Nat.le_of_ble_eq_true rfl⟩
theorem dX9_isWord_0 : decode cX9_isWord 0 = .ok (.aload_n 0, 1) := by decide +kernel
theorem dX9_isWord_1 : decode cX9_isWord 1 = .ok (.getfield 69, 3) := by decide +kernel
theorem dX9_isWord_4 : decode cX9_isWord 4 = .ok (.aload_n 0, 1) := by decide +kernel
theorem dX9_isWord_5 : decode cX9_isWord 5 = .ok (.getfield 72, 3) := by decide +kernel
theorem dX9_isWord_8 : decode cX9_isWord 8 = .ok (.isub, 1) := by decide +kernel
theorem dX9_isWord_9 : decode cX9_isWord 9 = .ok (.aload_n 1, 1) := by decide +kernel
theorem dX9_isWord_10 : decode cX9_isWord 10 = .ok (.arraylength, 1) := by decide +kernel
theorem dX9_isWord_11 : decode cX9_isWord 11 = .ok (.if_icmp .ne 7, 3) := by decide +kernel
theorem dX9_isWord_14 : decode cX9_isWord 14 = .ok (.iconst 1, 1) := by decide +kernel
theorem dX9_isWord_15 : decode cX9_isWord 15 = .ok (.goto 4, 3) := by decide +kernel
theorem dX9_isWord_18 : decode cX9_isWord 18 = .ok (.iconst 0, 1) := by decide +kernel
theorem dX9_isWord_19 : decode cX9_isWord 19 = .ok (.istore_n 2, 1) := by decide +kernel
theorem dX9_isWord_20 : decode cX9_isWord 20 = .ok (.iconst 0, 1) := by decide +kernel
theorem dX9_isWord_21 : decode cX9_isWord 21 = .ok (.istore_n 3, 1) := by decide +kernel
theorem dX9_isWord_22 : decode cX9_isWord 22 = .ok (.iload_n 3, 1) := by decide +kernel
theorem dX9_isWord_23 : decode cX9_isWord 23 = .ok (.aload_n 1, 1) := by decide +kernel
theorem dX9_isWord_24 : decode cX9_isWord 24 = .ok (.arraylength, 1) := by decide +kernel
theorem dX9_isWord_25 : decode cX9_isWord 25 = .ok (.if_icmp .ge 36, 3) := by decide +kernel
theorem dX9_isWord_28 : decode cX9_isWord 28 = .ok (.iload_n 2, 1) := by decide +kernel
theorem dX9_isWord_29 : decode cX9_isWord 29 = .ok (.ifCond .eq 32, 3) := by decide +kernel
theorem dX9_isWord_32 : decode cX9_isWord 32 = .ok (.aload_n 0, 1) := by decide +kernel
theorem dX9_isWord_33 : decode cX9_isWord 33 = .ok (.getfield 24, 3) := by decide +kernel
theorem dX9_isWord_36 : decode cX9_isWord 36 = .ok (.aload_n 0, 1) := by decide +kernel
theorem dX9_isWord_37 : decode cX9_isWord 37 = .ok (.getfield 72, 3) := by decide +kernel
theorem dX9_isWord_40 : decode cX9_isWord 40 = .ok (.iload_n 3, 1) := by decide +kernel
theorem dX9_isWord_41 : decode cX9_isWord 41 = .ok (.iadd, 1) := by decide +kernel
theorem dX9_isWord_42 : decode cX9_isWord 42 = .ok (.iaload, 1) := by decide +kernel
theorem dX9_isWord_43 : decode cX9_isWord 43 = .ok (.aload_n 1, 1) := by decide +kernel
theorem dX9_isWord_44 : decode cX9_isWord 44 = .ok (.iload_n 3, 1) := by decide +kernel
theorem dX9_isWord_45 : decode cX9_isWord 45 = .ok (.iaload, 1) := by decide +kernel
theorem dX9_isWord_46 : decode cX9_isWord 46 = .ok (.if_icmp .ne 7, 3) := by decide +kernel
theorem dX9_isWord_49 : decode cX9_isWord 49 = .ok (.iconst 1, 1) := by decide +kernel
theorem dX9_isWord_50 : decode cX9_isWord 50 = .ok (.goto 4, 3) := by decide +kernel
theorem dX9_isWord_53 : decode cX9_isWord 53 = .ok (.iconst 0, 1) := by decide +kernel
theorem dX9_isWord_54 : decode cX9_isWord 54 = .ok (.istore_n 2, 1) := by decide +kernel
theorem dX9_isWord_55 : decode cX9_isWord 55 = .ok (.iinc 3 1, 3) := by decide +kernel
theorem dX9_isWord_58 : decode cX9_isWord 58 = .ok (.goto (-36), 3) := by decide +kernel
theorem dX9_isWord_61 : decode cX9_isWord 61 = .ok (.iload_n 2, 1) := by decide +kernel
theorem dX9_isWord_62 : decode cX9_isWord 62 = .ok (.ireturn, 1) := by decide +kernel
theorem bX9_isWord_0 : tg_Snd mX9_isWord 0 (fun k => ti_aload 0 (ti_getf 8 11 (ti_aload 0 (ti_getf 8 10 (ti_isub (ti_aload 1 (ti_alen k))))))) 11 := tg_seq (si_aload_n (i := 0) dX9_isWord_0 rfl) (tg_seq (si_getf (ci := 8) (f := 11) clX9 (Nat.le_of_ble_eq_true rfl) rfl flX9_69 dX9_isWord_1) (tg_seq (si_aload_n (i := 0) dX9_isWord_4 rfl) (tg_seq (si_getf (ci := 8) (f := 10) clX9 (Nat.le_of_ble_eq_true rfl) rfl flX9_72 dX9_isWord_5) (tg_seq (si_isub dX9_isWord_8) (tg_seq (si_aload_n (i := 1) dX9_isWord_9 rfl) (si_alen dX9_isWord_10))))))
theorem bX9_isWord_14 : tg_Snd mX9_isWord 14 (fun k => ti_push (.int 1) k) 15 := si_iconst (v := 1) dX9_isWord_14 (by decide)
theorem bX9_isWord_18 : tg_Snd mX9_isWord 18 (fun k => ti_push (.int 0) k) 19 := si_iconst (v := 0) dX9_isWord_18 (by decide)
theorem bX9_isWord_19 : tg_Snd mX9_isWord 19 (fun k => ti_istore 2 (ti_push (.int 0) (ti_istore 3 k))) 22 := tg_seq (si_istore_n (i := 2) dX9_isWord_19 rfl (Nat.le_of_ble_eq_true rfl)) (tg_seq (si_iconst (v := 0) dX9_isWord_20 (by decide)) (si_istore_n (i := 3) dX9_isWord_21 rfl (Nat.le_of_ble_eq_true rfl)))
theorem bX9_isWord_22 : tg_Snd mX9_isWord 22 (fun k => ti_iload 3 (ti_aload 1 (ti_alen k))) 25 := tg_seq (si_iload_n (i := 3) dX9_isWord_22 rfl) (tg_seq (si_aload_n (i := 1) dX9_isWord_23 rfl) (si_alen dX9_isWord_24))
theorem bX9_isWord_28 : tg_Snd mX9_isWord 28 (fun k => ti_iload 2 k) 29 := si_iload_n (i := 2) dX9_isWord_28 rfl
theorem bX9_isWord_32 : tg_Snd mX9_isWord 32 (fun k => ti_aload 0 (ti_getf 8 5 (ti_aload 0 (ti_getf 8 10 (ti_iload 3 (ti_iadd (ti_iald (ti_aload 1 (ti_iload 3 (ti_iald k)))))))))) 46 := tg_seq (si_aload_n (i := 0) dX9_isWord_32 rfl) (tg_seq (si_getf (ci := 8) (f := 5) clX9 (Nat.le_of_ble_eq_true rfl) rfl flX9_24 dX9_isWord_33) (tg_seq (si_aload_n (i := 0) dX9_isWord_36 rfl) (tg_seq (si_getf (ci := 8) (f := 10) clX9 (Nat.le_of_ble_eq_true rfl) rfl flX9_72 dX9_isWord_37) (tg_seq (si_iload_n (i := 3) dX9_isWord_40 rfl) (tg_seq (si_iadd dX9_isWord_41) (tg_seq (si_iald dX9_isWord_42) (tg_seq (si_aload_n (i := 1) dX9_isWord_43 rfl) (tg_seq (si_iload_n (i := 3) dX9_isWord_44 rfl) (si_iald dX9_isWord_45)))))))))
theorem bX9_isWord_49 : tg_Snd mX9_isWord 49 (fun k => ti_push (.int 1) k) 50 := si_iconst (v := 1) dX9_isWord_49 (by decide)
theorem bX9_isWord_53 : tg_Snd mX9_isWord 53 (fun k => ti_push (.int 0) k) 54 := si_iconst (v := 0) dX9_isWord_53 (by decide)
theorem bX9_isWord_54 : tg_Snd mX9_isWord 54 (fun k => ti_istore 2 (ti_iinc 3 1 k)) 58 := tg_seq (si_istore_n (i := 2) dX9_isWord_54 rfl (Nat.le_of_ble_eq_true rfl)) (si_iinc (v := 1) dX9_isWord_55 (by decide) (Nat.le_of_ble_eq_true rfl))
theorem bX9_isWord_61 : tg_Snd mX9_isWord 61 (fun k => ti_iload 2 k) 62 := si_iload_n (i := 2) dX9_isWord_61 rfl
theorem dX9_readsNumber_0 : decode cX9_readsNumber 0 = .ok (.aload_n 0, 1) := by decide +kernel
theorem dX9_readsNumber_1 : decode cX9_readsNumber 1 = .ok (.getfield 72, 3) := by decide +kernel
theorem dX9_readsNumber_4 : decode cX9_readsNumber 4 = .ok (.aload_n 0, 1) := by decide +kernel
theorem dX9_readsNumber_5 : decode cX9_readsNumber 5 = .ok (.getfield 58, 3) := by decide +kernel
theorem dX9_readsNumber_8 : decode cX9_readsNumber 8 = .ok (.if_icmp .eq 31, 3) := by decide +kernel
theorem dX9_readsNumber_11 : decode cX9_readsNumber 11 = .ok (.aload_n 0, 1) := by decide +kernel
theorem dX9_readsNumber_12 : decode cX9_readsNumber 12 = .ok (.getfield 24, 3) := by decide +kernel
theorem dX9_readsNumber_15 : decode cX9_readsNumber 15 = .ok (.aload_n 0, 1) := by decide +kernel
theorem dX9_readsNumber_16 : decode cX9_readsNumber 16 = .ok (.getfield 72, 3) := by decide +kernel
theorem dX9_readsNumber_19 : decode cX9_readsNumber 19 = .ok (.iaload, 1) := by decide +kernel
theorem dX9_readsNumber_20 : decode cX9_readsNumber 20 = .ok (.invokestatic 79, 3) := by decide +kernel
theorem dX9_readsNumber_23 : decode cX9_readsNumber 23 = .ok (.ifCond .eq 16, 3) := by decide +kernel
theorem dX9_readsNumber_26 : decode cX9_readsNumber 26 = .ok (.aload_n 0, 1) := by decide +kernel
theorem dX9_readsNumber_27 : decode cX9_readsNumber 27 = .ok (.getfield 69, 3) := by decide +kernel
theorem dX9_readsNumber_30 : decode cX9_readsNumber 30 = .ok (.aload_n 0, 1) := by decide +kernel
theorem dX9_readsNumber_31 : decode cX9_readsNumber 31 = .ok (.getfield 72, 3) := by decide +kernel
theorem dX9_readsNumber_34 : decode cX9_readsNumber 34 = .ok (.isub, 1) := by decide +kernel
theorem dX9_readsNumber_35 : decode cX9_readsNumber 35 = .ok (.iconst 2, 1) := by decide +kernel
theorem dX9_readsNumber_36 : decode cX9_readsNumber 36 = .ok (.if_icmp .le 5, 3) := by decide +kernel
theorem dX9_readsNumber_39 : decode cX9_readsNumber 39 = .ok (.iconst 0, 1) := by decide +kernel
theorem dX9_readsNumber_40 : decode cX9_readsNumber 40 = .ok (.ireturn, 1) := by decide +kernel
theorem dX9_readsNumber_41 : decode cX9_readsNumber 41 = .ok (.aload_n 0, 1) := by decide +kernel
theorem dX9_readsNumber_42 : decode cX9_readsNumber 42 = .ok (.getfield 24, 3) := by decide +kernel
theorem dX9_readsNumber_45 : decode cX9_readsNumber 45 = .ok (.aload_n 0, 1) := by decide +kernel
theorem dX9_readsNumber_46 : decode cX9_readsNumber 46 = .ok (.getfield 72, 3) := by decide +kernel
theorem dX9_readsNumber_49 : decode cX9_readsNumber 49 = .ok (.iaload, 1) := by decide +kernel
theorem dX9_readsNumber_50 : decode cX9_readsNumber 50 = .ok (.bipush 48, 2) := by decide +kernel
theorem dX9_readsNumber_52 : decode cX9_readsNumber 52 = .ok (.isub, 1) := by decide +kernel
theorem dX9_readsNumber_53 : decode cX9_readsNumber 53 = .ok (.istore_n 3, 1) := by decide +kernel
theorem dX9_readsNumber_54 : decode cX9_readsNumber 54 = .ok (.aload_n 0, 1) := by decide +kernel
theorem dX9_readsNumber_55 : decode cX9_readsNumber 55 = .ok (.getfield 69, 3) := by decide +kernel
theorem dX9_readsNumber_58 : decode cX9_readsNumber 58 = .ok (.aload_n 0, 1) := by decide +kernel
theorem dX9_readsNumber_59 : decode cX9_readsNumber 59 = .ok (.getfield 72, 3) := by decide +kernel
theorem dX9_readsNumber_62 : decode cX9_readsNumber 62 = .ok (.isub, 1) := by decide +kernel
theorem dX9_readsNumber_63 : decode cX9_readsNumber 63 = .ok (.iconst 2, 1) := by decide +kernel
theorem dX9_readsNumber_64 : decode cX9_readsNumber 64 = .ok (.if_icmp .ne 25, 3) := by decide +kernel
theorem dX9_readsNumber_67 : decode cX9_readsNumber 67 = .ok (.bipush 10, 2) := by decide +kernel
theorem dX9_readsNumber_69 : decode cX9_readsNumber 69 = .ok (.iload_n 3, 1) := by decide +kernel
theorem dX9_readsNumber_70 : decode cX9_readsNumber 70 = .ok (.imul, 1) := by decide +kernel
theorem dX9_readsNumber_71 : decode cX9_readsNumber 71 = .ok (.aload_n 0, 1) := by decide +kernel
theorem dX9_readsNumber_72 : decode cX9_readsNumber 72 = .ok (.getfield 24, 3) := by decide +kernel
theorem dX9_readsNumber_75 : decode cX9_readsNumber 75 = .ok (.aload_n 0, 1) := by decide +kernel
theorem dX9_readsNumber_76 : decode cX9_readsNumber 76 = .ok (.getfield 72, 3) := by decide +kernel
theorem dX9_readsNumber_79 : decode cX9_readsNumber 79 = .ok (.iconst 1, 1) := by decide +kernel
theorem dX9_readsNumber_80 : decode cX9_readsNumber 80 = .ok (.iadd, 1) := by decide +kernel
theorem dX9_readsNumber_81 : decode cX9_readsNumber 81 = .ok (.iaload, 1) := by decide +kernel
theorem dX9_readsNumber_82 : decode cX9_readsNumber 82 = .ok (.iadd, 1) := by decide +kernel
theorem dX9_readsNumber_83 : decode cX9_readsNumber 83 = .ok (.bipush 48, 2) := by decide +kernel
theorem dX9_readsNumber_85 : decode cX9_readsNumber 85 = .ok (.isub, 1) := by decide +kernel
theorem dX9_readsNumber_86 : decode cX9_readsNumber 86 = .ok (.goto 4, 3) := by decide +kernel
theorem dX9_readsNumber_89 : decode cX9_readsNumber 89 = .ok (.iload_n 3, 1) := by decide +kernel
theorem dX9_readsNumber_90 : decode cX9_readsNumber 90 = .ok (.istore_n 3, 1) := by decide +kernel
theorem dX9_readsNumber_91 : decode cX9_readsNumber 91 = .ok (.iload_n 3, 1) := by decide +kernel
theorem dX9_readsNumber_92 : decode cX9_readsNumber 92 = .ok (.i2l, 1) := by decide +kernel
theorem dX9_readsNumber_93 : decode cX9_readsNumber 93 = .ok (.iload_n 1, 1) := by decide +kernel
theorem dX9_readsNumber_94 : decode cX9_readsNumber 94 = .ok (.i2l, 1) := by decide +kernel
theorem dX9_readsNumber_95 : decode cX9_readsNumber 95 = .ok (.iload_n 2, 1) := by decide +kernel
theorem dX9_readsNumber_96 : decode cX9_readsNumber 96 = .ok (.i2l, 1) := by decide +kernel
theorem dX9_readsNumber_97 : decode cX9_readsNumber 97 = .ok (.invokestatic 54, 3) := by decide +kernel
theorem dX9_readsNumber_100 : decode cX9_readsNumber 100 = .ok (.istore 4, 2) := by decide +kernel
theorem dX9_readsNumber_102 : decode cX9_readsNumber 102 = .ok (.iload 4, 2) := by decide +kernel
theorem dX9_readsNumber_104 : decode cX9_readsNumber 104 = .ok (.ifCond .eq 12, 3) := by decide +kernel
theorem dX9_readsNumber_107 : decode cX9_readsNumber 107 = .ok (.aload_n 0, 1) := by decide +kernel
theorem dX9_readsNumber_108 : decode cX9_readsNumber 108 = .ok (.iload_n 3, 1) := by decide +kernel
theorem dX9_readsNumber_109 : decode cX9_readsNumber 109 = .ok (.putfield 82, 3) := by decide +kernel
theorem dX9_readsNumber_112 : decode cX9_readsNumber 112 = .ok (.aload_n 0, 1) := by decide +kernel
theorem dX9_readsNumber_113 : decode cX9_readsNumber 113 = .ok (.invokevirtual 85, 3) := by decide +kernel
theorem dX9_readsNumber_116 : decode cX9_readsNumber 116 = .ok (.iload 4, 2) := by decide +kernel
theorem dX9_readsNumber_118 : decode cX9_readsNumber 118 = .ok (.ireturn, 1) := by decide +kernel
theorem bX9_readsNumber_0 : tg_Snd mX9_readsNumber 0 (fun k => ti_aload 0 (ti_getf 8 10 (ti_aload 0 (ti_getf 8 6 k)))) 8 := tg_seq (si_aload_n (i := 0) dX9_readsNumber_0 rfl) (tg_seq (si_getf (ci := 8) (f := 10) clX9 (Nat.le_of_ble_eq_true rfl) rfl flX9_72 dX9_readsNumber_1) (tg_seq (si_aload_n (i := 0) dX9_readsNumber_4 rfl) (si_getf (ci := 8) (f := 6) clX9 (Nat.le_of_ble_eq_true rfl) rfl flX9_58 dX9_readsNumber_5)))
theorem bX9_readsNumber_11 : tg_Snd mX9_readsNumber 11 (fun k => ti_aload 0 (ti_getf 8 5 (ti_aload 0 (ti_getf 8 10 (ti_iald k))))) 20 := tg_seq (si_aload_n (i := 0) dX9_readsNumber_11 rfl) (tg_seq (si_getf (ci := 8) (f := 5) clX9 (Nat.le_of_ble_eq_true rfl) rfl flX9_24 dX9_readsNumber_12) (tg_seq (si_aload_n (i := 0) dX9_readsNumber_15 rfl) (tg_seq (si_getf (ci := 8) (f := 10) clX9 (Nat.le_of_ble_eq_true rfl) rfl flX9_72 dX9_readsNumber_16) (si_iald dX9_readsNumber_19))))
theorem bX9_readsNumber_26 : tg_Snd mX9_readsNumber 26 (fun k => ti_aload 0 (ti_getf 8 11 (ti_aload 0 (ti_getf 8 10 (ti_isub (ti_push (.int 2) k)))))) 36 := tg_seq (si_aload_n (i := 0) dX9_readsNumber_26 rfl) (tg_seq (si_getf (ci := 8) (f := 11) clX9 (Nat.le_of_ble_eq_true rfl) rfl flX9_69 dX9_readsNumber_27) (tg_seq (si_aload_n (i := 0) dX9_readsNumber_30 rfl) (tg_seq (si_getf (ci := 8) (f := 10) clX9 (Nat.le_of_ble_eq_true rfl) rfl flX9_72 dX9_readsNumber_31) (tg_seq (si_isub dX9_readsNumber_34) (si_iconst (v := 2) dX9_readsNumber_35 (by decide))))))
theorem bX9_readsNumber_39 : tg_Snd mX9_readsNumber 39 (fun k => ti_push (.int 0) k) 40 := si_iconst (v := 0) dX9_readsNumber_39 (by decide)
theorem bX9_readsNumber_41 : tg_Snd mX9_readsNumber 41 (fun k => ti_aload 0 (ti_getf 8 5 (ti_aload 0 (ti_getf 8 10 (ti_iald (ti_push (.int 48) (ti_isub (ti_istore 3 (ti_aload 0 (ti_getf 8 11 (ti_aload 0 (ti_getf 8 10 (ti_isub (ti_push (.int 2) k)))))))))))))) 64 := tg_seq (si_aload_n (i := 0) dX9_readsNumber_41 rfl) (tg_seq (si_getf (ci := 8) (f := 5) clX9 (Nat.le_of_ble_eq_true rfl) rfl flX9_24 dX9_readsNumber_42) (tg_seq (si_aload_n (i := 0) dX9_readsNumber_45 rfl) (tg_seq (si_getf (ci := 8) (f := 10) clX9 (Nat.le_of_ble_eq_true rfl) rfl flX9_72 dX9_readsNumber_46) (tg_seq (si_iald dX9_readsNumber_49) (tg_seq (si_bipush (v := 48) dX9_readsNumber_50 (by decide)) (tg_seq (si_isub dX9_readsNumber_52) (tg_seq (si_istore_n (i := 3) dX9_readsNumber_53 rfl (Nat.le_of_ble_eq_true rfl)) (tg_seq (si_aload_n (i := 0) dX9_readsNumber_54 rfl) (tg_seq (si_getf (ci := 8) (f := 11) clX9 (Nat.le_of_ble_eq_true rfl) rfl flX9_69 dX9_readsNumber_55) (tg_seq (si_aload_n (i := 0) dX9_readsNumber_58 rfl) (tg_seq (si_getf (ci := 8) (f := 10) clX9 (Nat.le_of_ble_eq_true rfl) rfl flX9_72 dX9_readsNumber_59) (tg_seq (si_isub dX9_readsNumber_62) (si_iconst (v := 2) dX9_readsNumber_63 (by decide))))))))))))))
theorem bX9_readsNumber_67 : tg_Snd mX9_readsNumber 67 (fun k => ti_push (.int 10) (ti_iload 3 (ti_imul (ti_aload 0 (ti_getf 8 5 (ti_aload 0 (ti_getf 8 10 (ti_push (.int 1) (ti_iadd (ti_iald (ti_iadd (ti_push (.int 48) (ti_isub k))))))))))))) 86 := tg_seq (si_bipush (v := 10) dX9_readsNumber_67 (by decide)) (tg_seq (si_iload_n (i := 3) dX9_readsNumber_69 rfl) (tg_seq (si_imul dX9_readsNumber_70) (tg_seq (si_aload_n (i := 0) dX9_readsNumber_71 rfl) (tg_seq (si_getf (ci := 8) (f := 5) clX9 (Nat.le_of_ble_eq_true rfl) rfl flX9_24 dX9_readsNumber_72) (tg_seq (si_aload_n (i := 0) dX9_readsNumber_75 rfl) (tg_seq (si_getf (ci := 8) (f := 10) clX9 (Nat.le_of_ble_eq_true rfl) rfl flX9_72 dX9_readsNumber_76) (tg_seq (si_iconst (v := 1) dX9_readsNumber_79 (by decide)) (tg_seq (si_iadd dX9_readsNumber_80) (tg_seq (si_iald dX9_readsNumber_81) (tg_seq (si_iadd dX9_readsNumber_82) (tg_seq (si_bipush (v := 48) dX9_readsNumber_83 (by decide)) (si_isub dX9_readsNumber_85))))))))))))
theorem bX9_readsNumber_89 : tg_Snd mX9_readsNumber 89 (fun k => ti_iload 3 k) 90 := si_iload_n (i := 3) dX9_readsNumber_89 rfl
theorem bX9_readsNumber_90 : tg_Snd mX9_readsNumber 90 (fun k => ti_istore 3 (ti_iload 3 (ti_i2l (ti_iload 1 (ti_i2l (ti_iload 2 (ti_i2l k))))))) 97 := tg_seq (si_istore_n (i := 3) dX9_readsNumber_90 rfl (Nat.le_of_ble_eq_true rfl)) (tg_seq (si_iload_n (i := 3) dX9_readsNumber_91 rfl) (tg_seq (si_i2l dX9_readsNumber_92) (tg_seq (si_iload_n (i := 1) dX9_readsNumber_93 rfl) (tg_seq (si_i2l dX9_readsNumber_94) (tg_seq (si_iload_n (i := 2) dX9_readsNumber_95 rfl) (si_i2l dX9_readsNumber_96))))))
theorem bX9_readsNumber_100 : tg_Snd mX9_readsNumber 100 (fun k => ti_istore 4 (ti_iload 4 k)) 104 := tg_seq (si_istore (i := 4) dX9_readsNumber_100 (Nat.le_of_ble_eq_true rfl)) (si_iload (i := 4) dX9_readsNumber_102)
theorem bX9_readsNumber_107 : tg_Snd mX9_readsNumber 107 (fun k => ti_aload 0 (ti_iload 3 (ti_putfI 8 17 (ti_aload 0 k)))) 113 := tg_seq (si_aload_n (i := 0) dX9_readsNumber_107 rfl) (tg_seq (si_iload_n (i := 3) dX9_readsNumber_108 rfl) (tg_seq (si_putfI (ci := 8) (f := 17) (ty := .int) clX9 tyX9_ok nmX9 (Nat.le_of_ble_eq_true rfl) rfl (by decide +kernel) (fun _ _ => ⟨rfl, rfl⟩) flX9_82 dX9_readsNumber_109) (si_aload_n (i := 0) dX9_readsNumber_112 rfl)))
theorem bX9_readsNumber_116 : tg_Snd mX9_readsNumber 116 (fun k => ti_iload 4 k) 118 := si_iload (i := 4) dX9_readsNumber_116
theorem vX9_readsNumber_20 : tg_SS0 mX9_readsNumber 20 mX9_isDigit 1 := ⟨okX9_isDigit, ⟨79, dX9_readsNumber_20, mlX9_79⟩, staX9_isDigit, parX9_isDigit, rfl, rfl, Nat.le_of_ble_eq_true rfl, Nat.le_of_ble_eq_true rfl⟩
theorem vX9_readsNumber_97 : tg_SS0 mX9_readsNumber 97 mX9_in 3 := ⟨okX9_in, ⟨54, dX9_readsNumber_97, mlX9_54⟩, staX9_in, parX9_in, rfl, rfl, Nat.le_of_ble_eq_true rfl, Nat.le_of_ble_eq_true rfl⟩
theorem vX9_readsNumber_113 : tg_VS mX9_readsNumber 113 mX9_nextToken 0 := ⟨okX9_nextToken, ⟨85, dX9_readsNumber_113, mlX9_85⟩, insX9_nextToken, selX9_nextToken, parX9_nextToken, rfl, rfl, Nat.le_of_ble_eq_true rfl, Nat.le_of_ble_eq_true rfl⟩
theorem dX9_isEnd_0 : decode cX9_isEnd 0 = .ok (.aload_n 0, 1) := by decide +kernel
theorem dX9_isEnd_1 : decode cX9_isEnd 1 = .ok (.getfield 72, 3) := by decide +kernel
theorem dX9_isEnd_4 : decode cX9_isEnd 4 = .ok (.aload_n 0, 1) := by decide +kernel
theorem dX9_isEnd_5 : decode cX9_isEnd 5 = .ok (.getfield 58, 3) := by decide +kernel
theorem dX9_isEnd_8 : decode cX9_isEnd 8 = .ok (.if_icmp .eq 17, 3) := by decide +kernel
theorem dX9_isEnd_11 : decode cX9_isEnd 11 = .ok (.aload_n 0, 1) := by decide +kernel
theorem dX9_isEnd_12 : decode cX9_isEnd 12 = .ok (.getfield 24, 3) := by decide +kernel
theorem dX9_isEnd_15 : decode cX9_isEnd 15 = .ok (.aload_n 0, 1) := by decide +kernel
theorem dX9_isEnd_16 : decode cX9_isEnd 16 = .ok (.getfield 72, 3) := by decide +kernel
theorem dX9_isEnd_19 : decode cX9_isEnd 19 = .ok (.iaload, 1) := by decide +kernel
theorem dX9_isEnd_20 : decode cX9_isEnd 20 = .ok (.bipush 59, 2) := by decide +kernel
theorem dX9_isEnd_22 : decode cX9_isEnd 22 = .ok (.if_icmp .ne 7, 3) := by decide +kernel
theorem dX9_isEnd_25 : decode cX9_isEnd 25 = .ok (.iconst 1, 1) := by decide +kernel
theorem dX9_isEnd_26 : decode cX9_isEnd 26 = .ok (.goto 4, 3) := by decide +kernel
theorem dX9_isEnd_29 : decode cX9_isEnd 29 = .ok (.iconst 0, 1) := by decide +kernel
theorem dX9_isEnd_30 : decode cX9_isEnd 30 = .ok (.ireturn, 1) := by decide +kernel
theorem bX9_isEnd_0 : tg_Snd mX9_isEnd 0 (fun k => ti_aload 0 (ti_getf 8 10 (ti_aload 0 (ti_getf 8 6 k)))) 8 := tg_seq (si_aload_n (i := 0) dX9_isEnd_0 rfl) (tg_seq (si_getf (ci := 8) (f := 10) clX9 (Nat.le_of_ble_eq_true rfl) rfl flX9_72 dX9_isEnd_1) (tg_seq (si_aload_n (i := 0) dX9_isEnd_4 rfl) (si_getf (ci := 8) (f := 6) clX9 (Nat.le_of_ble_eq_true rfl) rfl flX9_58 dX9_isEnd_5)))
theorem bX9_isEnd_11 : tg_Snd mX9_isEnd 11 (fun k => ti_aload 0 (ti_getf 8 5 (ti_aload 0 (ti_getf 8 10 (ti_iald (ti_push (.int 59) k)))))) 22 := tg_seq (si_aload_n (i := 0) dX9_isEnd_11 rfl) (tg_seq (si_getf (ci := 8) (f := 5) clX9 (Nat.le_of_ble_eq_true rfl) rfl flX9_24 dX9_isEnd_12) (tg_seq (si_aload_n (i := 0) dX9_isEnd_15 rfl) (tg_seq (si_getf (ci := 8) (f := 10) clX9 (Nat.le_of_ble_eq_true rfl) rfl flX9_72 dX9_isEnd_16) (tg_seq (si_iald dX9_isEnd_19) (si_bipush (v := 59) dX9_isEnd_20 (by decide))))))
theorem bX9_isEnd_25 : tg_Snd mX9_isEnd 25 (fun k => ti_push (.int 1) k) 26 := si_iconst (v := 1) dX9_isEnd_25 (by decide)
theorem bX9_isEnd_29 : tg_Snd mX9_isEnd 29 (fun k => ti_push (.int 0) k) 30 := si_iconst (v := 0) dX9_isEnd_29 (by decide)
theorem dX9_readsTable_0 : decode cX9_readsTable 0 = .ok (.iconst 0, 1) := by decide +kernel
theorem dX9_readsTable_1 : decode cX9_readsTable 1 = .ok (.istore_n 1, 1) := by decide +kernel
theorem dX9_readsTable_2 : decode cX9_readsTable 2 = .ok (.iconst 1, 1) := by decide +kernel
theorem dX9_readsTable_3 : decode cX9_readsTable 3 = .ok (.istore_n 2, 1) := by decide +kernel
theorem dX9_readsTable_4 : decode cX9_readsTable 4 = .ok (.iload_n 2, 1) := by decide +kernel
theorem dX9_readsTable_5 : decode cX9_readsTable 5 = .ok (.ifCond .eq 55, 3) := by decide +kernel
theorem dX9_readsTable_8 : decode cX9_readsTable 8 = .ok (.iload_n 1, 1) := by decide +kernel
theorem dX9_readsTable_9 : decode cX9_readsTable 9 = .ok (.ifCond .eq 10, 3) := by decide +kernel
theorem dX9_readsTable_12 : decode cX9_readsTable 12 = .ok (.aload_n 0, 1) := by decide +kernel
theorem dX9_readsTable_13 : decode cX9_readsTable 13 = .ok (.invokevirtual 88, 3) := by decide +kernel
theorem dX9_readsTable_16 : decode cX9_readsTable 16 = .ok (.ifCond .ne 44, 3) := by decide +kernel
theorem dX9_readsTable_19 : decode cX9_readsTable 19 = .ok (.iload_n 1, 1) := by decide +kernel
theorem dX9_readsTable_20 : decode cX9_readsTable 20 = .ok (.iconst 4, 1) := by decide +kernel
theorem dX9_readsTable_21 : decode cX9_readsTable 21 = .ok (.if_icmp .ge 17, 3) := by decide +kernel
theorem dX9_readsTable_24 : decode cX9_readsTable 24 = .ok (.aload_n 0, 1) := by decide +kernel
theorem dX9_readsTable_25 : decode cX9_readsTable 25 = .ok (.iconst 1, 1) := by decide +kernel
theorem dX9_readsTable_26 : decode cX9_readsTable 26 = .ok (.bipush 6, 2) := by decide +kernel
theorem dX9_readsTable_28 : decode cX9_readsTable 28 = .ok (.invokevirtual 92, 3) := by decide +kernel
theorem dX9_readsTable_31 : decode cX9_readsTable 31 = .ok (.ifCond .eq 7, 3) := by decide +kernel
theorem dX9_readsTable_34 : decode cX9_readsTable 34 = .ok (.iconst 1, 1) := by decide +kernel
theorem dX9_readsTable_35 : decode cX9_readsTable 35 = .ok (.goto 4, 3) := by decide +kernel
theorem dX9_readsTable_38 : decode cX9_readsTable 38 = .ok (.iconst 0, 1) := by decide +kernel
theorem dX9_readsTable_39 : decode cX9_readsTable 39 = .ok (.istore_n 2, 1) := by decide +kernel
theorem dX9_readsTable_40 : decode cX9_readsTable 40 = .ok (.iload_n 2, 1) := by decide +kernel
theorem dX9_readsTable_41 : decode cX9_readsTable 41 = .ok (.ifCond .eq (-37), 3) := by decide +kernel
theorem dX9_readsTable_44 : decode cX9_readsTable 44 = .ok (.aload_n 0, 1) := by decide +kernel
theorem dX9_readsTable_45 : decode cX9_readsTable 45 = .ok (.getfield 34, 3) := by decide +kernel
theorem dX9_readsTable_48 : decode cX9_readsTable 48 = .ok (.iload_n 1, 1) := by decide +kernel
theorem dX9_readsTable_49 : decode cX9_readsTable 49 = .ok (.aload_n 0, 1) := by decide +kernel
theorem dX9_readsTable_50 : decode cX9_readsTable 50 = .ok (.getfield 82, 3) := by decide +kernel
theorem dX9_readsTable_53 : decode cX9_readsTable 53 = .ok (.iastore, 1) := by decide +kernel
theorem dX9_readsTable_54 : decode cX9_readsTable 54 = .ok (.iinc 1 1, 3) := by decide +kernel
theorem dX9_readsTable_57 : decode cX9_readsTable 57 = .ok (.goto (-53), 3) := by decide +kernel
theorem dX9_readsTable_60 : decode cX9_readsTable 60 = .ok (.iload_n 2, 1) := by decide +kernel
theorem dX9_readsTable_61 : decode cX9_readsTable 61 = .ok (.ifCond .eq 73, 3) := by decide +kernel
theorem dX9_readsTable_64 : decode cX9_readsTable 64 = .ok (.aload_n 0, 1) := by decide +kernel
theorem dX9_readsTable_65 : decode cX9_readsTable 65 = .ok (.iload_n 1, 1) := by decide +kernel
theorem dX9_readsTable_66 : decode cX9_readsTable 66 = .ok (.putfield 96, 3) := by decide +kernel
theorem dX9_readsTable_69 : decode cX9_readsTable 69 = .ok (.aload_n 0, 1) := by decide +kernel
theorem dX9_readsTable_70 : decode cX9_readsTable 70 = .ok (.iconst 0, 1) := by decide +kernel
theorem dX9_readsTable_71 : decode cX9_readsTable 71 = .ok (.putfield 99, 3) := by decide +kernel
theorem dX9_readsTable_74 : decode cX9_readsTable 74 = .ok (.aload_n 0, 1) := by decide +kernel
theorem dX9_readsTable_75 : decode cX9_readsTable 75 = .ok (.getfield 102, 3) := by decide +kernel
theorem dX9_readsTable_78 : decode cX9_readsTable 78 = .ok (.ifCond .eq 56, 3) := by decide +kernel
theorem dX9_readsTable_81 : decode cX9_readsTable 81 = .ok (.aload_n 0, 1) := by decide +kernel
theorem dX9_readsTable_82 : decode cX9_readsTable 82 = .ok (.iload_n 1, 1) := by decide +kernel
theorem dX9_readsTable_83 : decode cX9_readsTable 83 = .ok (.putfield 13, 3) := by decide +kernel
theorem dX9_readsTable_86 : decode cX9_readsTable 86 = .ok (.iconst 0, 1) := by decide +kernel
theorem dX9_readsTable_87 : decode cX9_readsTable 87 = .ok (.istore_n 3, 1) := by decide +kernel
theorem dX9_readsTable_88 : decode cX9_readsTable 88 = .ok (.iload_n 3, 1) := by decide +kernel
theorem dX9_readsTable_89 : decode cX9_readsTable 89 = .ok (.iconst 4, 1) := by decide +kernel
theorem dX9_readsTable_90 : decode cX9_readsTable 90 = .ok (.if_icmp .ge 30, 3) := by decide +kernel
theorem dX9_readsTable_93 : decode cX9_readsTable 93 = .ok (.aload_n 0, 1) := by decide +kernel
theorem dX9_readsTable_94 : decode cX9_readsTable 94 = .ok (.getfield 17, 3) := by decide +kernel
theorem dX9_readsTable_97 : decode cX9_readsTable 97 = .ok (.iload_n 3, 1) := by decide +kernel
theorem dX9_readsTable_98 : decode cX9_readsTable 98 = .ok (.iload_n 3, 1) := by decide +kernel
theorem dX9_readsTable_99 : decode cX9_readsTable 99 = .ok (.iload_n 1, 1) := by decide +kernel
theorem dX9_readsTable_100 : decode cX9_readsTable 100 = .ok (.if_icmp .ge 12, 3) := by decide +kernel
theorem dX9_readsTable_103 : decode cX9_readsTable 103 = .ok (.aload_n 0, 1) := by decide +kernel
theorem dX9_readsTable_104 : decode cX9_readsTable 104 = .ok (.getfield 34, 3) := by decide +kernel
theorem dX9_readsTable_107 : decode cX9_readsTable 107 = .ok (.iload_n 3, 1) := by decide +kernel
theorem dX9_readsTable_108 : decode cX9_readsTable 108 = .ok (.iaload, 1) := by decide +kernel
theorem dX9_readsTable_109 : decode cX9_readsTable 109 = .ok (.goto 4, 3) := by decide +kernel
theorem dX9_readsTable_112 : decode cX9_readsTable 112 = .ok (.iconst 0, 1) := by decide +kernel
theorem dX9_readsTable_113 : decode cX9_readsTable 113 = .ok (.iastore, 1) := by decide +kernel
theorem dX9_readsTable_114 : decode cX9_readsTable 114 = .ok (.iinc 3 1, 3) := by decide +kernel
theorem dX9_readsTable_117 : decode cX9_readsTable 117 = .ok (.goto (-29), 3) := by decide +kernel
theorem dX9_readsTable_120 : decode cX9_readsTable 120 = .ok (.aload_n 0, 1) := by decide +kernel
theorem dX9_readsTable_121 : decode cX9_readsTable 121 = .ok (.getfield 7, 3) := by decide +kernel
theorem dX9_readsTable_124 : decode cX9_readsTable 124 = .ok (.iconst 0, 1) := by decide +kernel
theorem dX9_readsTable_125 : decode cX9_readsTable 125 = .ok (.iconst 0, 1) := by decide +kernel
theorem dX9_readsTable_126 : decode cX9_readsTable 126 = .ok (.iastore, 1) := by decide +kernel
theorem dX9_readsTable_127 : decode cX9_readsTable 127 = .ok (.aload_n 0, 1) := by decide +kernel
theorem dX9_readsTable_128 : decode cX9_readsTable 128 = .ok (.getfield 7, 3) := by decide +kernel
theorem dX9_readsTable_131 : decode cX9_readsTable 131 = .ok (.iconst 1, 1) := by decide +kernel
theorem dX9_readsTable_132 : decode cX9_readsTable 132 = .ok (.iconst 1, 1) := by decide +kernel
theorem dX9_readsTable_133 : decode cX9_readsTable 133 = .ok (.iastore, 1) := by decide +kernel
theorem dX9_readsTable_134 : decode cX9_readsTable 134 = .ok (.iload_n 2, 1) := by decide +kernel
theorem dX9_readsTable_135 : decode cX9_readsTable 135 = .ok (.ireturn, 1) := by decide +kernel
theorem bX9_readsTable_0 : tg_Snd mX9_readsTable 0 (fun k => ti_push (.int 0) (ti_istore 1 (ti_push (.int 1) (ti_istore 2 k)))) 4 := tg_seq (si_iconst (v := 0) dX9_readsTable_0 (by decide)) (tg_seq (si_istore_n (i := 1) dX9_readsTable_1 rfl (Nat.le_of_ble_eq_true rfl)) (tg_seq (si_iconst (v := 1) dX9_readsTable_2 (by decide)) (si_istore_n (i := 2) dX9_readsTable_3 rfl (Nat.le_of_ble_eq_true rfl))))
theorem bX9_readsTable_4 : tg_Snd mX9_readsTable 4 (fun k => ti_iload 2 k) 5 := si_iload_n (i := 2) dX9_readsTable_4 rfl
theorem bX9_readsTable_8 : tg_Snd mX9_readsTable 8 (fun k => ti_iload 1 k) 9 := si_iload_n (i := 1) dX9_readsTable_8 rfl
theorem bX9_readsTable_12 : tg_Snd mX9_readsTable 12 (fun k => ti_aload 0 k) 13 := si_aload_n (i := 0) dX9_readsTable_12 rfl
theorem bX9_readsTable_19 : tg_Snd mX9_readsTable 19 (fun k => ti_iload 1 (ti_push (.int 4) k)) 21 := tg_seq (si_iload_n (i := 1) dX9_readsTable_19 rfl) (si_iconst (v := 4) dX9_readsTable_20 (by decide))
theorem bX9_readsTable_24 : tg_Snd mX9_readsTable 24 (fun k => ti_aload 0 (ti_push (.int 1) (ti_push (.int 6) k))) 28 := tg_seq (si_aload_n (i := 0) dX9_readsTable_24 rfl) (tg_seq (si_iconst (v := 1) dX9_readsTable_25 (by decide)) (si_bipush (v := 6) dX9_readsTable_26 (by decide)))
theorem bX9_readsTable_34 : tg_Snd mX9_readsTable 34 (fun k => ti_push (.int 1) k) 35 := si_iconst (v := 1) dX9_readsTable_34 (by decide)
theorem bX9_readsTable_38 : tg_Snd mX9_readsTable 38 (fun k => ti_push (.int 0) k) 39 := si_iconst (v := 0) dX9_readsTable_38 (by decide)
theorem bX9_readsTable_39 : tg_Snd mX9_readsTable 39 (fun k => ti_istore 2 (ti_iload 2 k)) 41 := tg_seq (si_istore_n (i := 2) dX9_readsTable_39 rfl (Nat.le_of_ble_eq_true rfl)) (si_iload_n (i := 2) dX9_readsTable_40 rfl)
theorem bX9_readsTable_44 : tg_Snd mX9_readsTable 44 (fun k => ti_aload 0 (ti_getf 8 13 (ti_iload 1 (ti_aload 0 (ti_getf 8 17 (ti_iast (ti_iinc 1 1 k))))))) 57 := tg_seq (si_aload_n (i := 0) dX9_readsTable_44 rfl) (tg_seq (si_getf (ci := 8) (f := 13) clX9 (Nat.le_of_ble_eq_true rfl) rfl flX9_34 dX9_readsTable_45) (tg_seq (si_iload_n (i := 1) dX9_readsTable_48 rfl) (tg_seq (si_aload_n (i := 0) dX9_readsTable_49 rfl) (tg_seq (si_getf (ci := 8) (f := 17) clX9 (Nat.le_of_ble_eq_true rfl) rfl flX9_82 dX9_readsTable_50) (tg_seq (si_iast dX9_readsTable_53) (si_iinc (v := 1) dX9_readsTable_54 (by decide) (Nat.le_of_ble_eq_true rfl)))))))
theorem bX9_readsTable_60 : tg_Snd mX9_readsTable 60 (fun k => ti_iload 2 k) 61 := si_iload_n (i := 2) dX9_readsTable_60 rfl
theorem bX9_readsTable_64 : tg_Snd mX9_readsTable 64 (fun k => ti_aload 0 (ti_iload 1 (ti_putfI 8 12 (ti_aload 0 (ti_push (.int 0) (ti_putfI 8 14 (ti_aload 0 (ti_getf 8 16 k)))))))) 78 := tg_seq (si_aload_n (i := 0) dX9_readsTable_64 rfl) (tg_seq (si_iload_n (i := 1) dX9_readsTable_65 rfl) (tg_seq (si_putfI (ci := 8) (f := 12) (ty := .int) clX9 tyX9_ok nmX9 (Nat.le_of_ble_eq_true rfl) rfl (by decide +kernel) (fun _ _ => ⟨rfl, rfl⟩) flX9_96 dX9_readsTable_66) (tg_seq (si_aload_n (i := 0) dX9_readsTable_69 rfl) (tg_seq (si_iconst (v := 0) dX9_readsTable_70 (by decide)) (tg_seq (si_putfI (ci := 8) (f := 14) (ty := .int) clX9 tyX9_ok nmX9 (Nat.le_of_ble_eq_true rfl) rfl (by decide +kernel) (fun _ _ => ⟨rfl, rfl⟩) flX9_99 dX9_readsTable_71) (tg_seq (si_aload_n (i := 0) dX9_readsTable_74 rfl) (si_getf (ci := 8) (f := 16) clX9 (Nat.le_of_ble_eq_true rfl) rfl flX9_102 dX9_readsTable_75)))))))
theorem bX9_readsTable_81 : tg_Snd mX9_readsTable 81 (fun k => ti_aload 0 (ti_iload 1 (ti_putfI 8 1 (ti_push (.int 0) (ti_istore 3 k))))) 88 := tg_seq (si_aload_n (i := 0) dX9_readsTable_81 rfl) (tg_seq (si_iload_n (i := 1) dX9_readsTable_82 rfl) (tg_seq (si_putfI (ci := 8) (f := 1) (ty := .int) clX9 tyX9_ok nmX9 (Nat.le_of_ble_eq_true rfl) rfl (by decide +kernel) (fun _ _ => ⟨rfl, rfl⟩) flX9_13 dX9_readsTable_83) (tg_seq (si_iconst (v := 0) dX9_readsTable_86 (by decide)) (si_istore_n (i := 3) dX9_readsTable_87 rfl (Nat.le_of_ble_eq_true rfl)))))
theorem bX9_readsTable_88 : tg_Snd mX9_readsTable 88 (fun k => ti_iload 3 (ti_push (.int 4) k)) 90 := tg_seq (si_iload_n (i := 3) dX9_readsTable_88 rfl) (si_iconst (v := 4) dX9_readsTable_89 (by decide))
theorem bX9_readsTable_93 : tg_Snd mX9_readsTable 93 (fun k => ti_aload 0 (ti_getf 8 2 (ti_iload 3 (ti_iload 3 (ti_iload 1 k))))) 100 := tg_seq (si_aload_n (i := 0) dX9_readsTable_93 rfl) (tg_seq (si_getf (ci := 8) (f := 2) clX9 (Nat.le_of_ble_eq_true rfl) rfl flX9_17 dX9_readsTable_94) (tg_seq (si_iload_n (i := 3) dX9_readsTable_97 rfl) (tg_seq (si_iload_n (i := 3) dX9_readsTable_98 rfl) (si_iload_n (i := 1) dX9_readsTable_99 rfl))))
theorem bX9_readsTable_103 : tg_Snd mX9_readsTable 103 (fun k => ti_aload 0 (ti_getf 8 13 (ti_iload 3 (ti_iald k)))) 109 := tg_seq (si_aload_n (i := 0) dX9_readsTable_103 rfl) (tg_seq (si_getf (ci := 8) (f := 13) clX9 (Nat.le_of_ble_eq_true rfl) rfl flX9_34 dX9_readsTable_104) (tg_seq (si_iload_n (i := 3) dX9_readsTable_107 rfl) (si_iald dX9_readsTable_108)))
theorem bX9_readsTable_112 : tg_Snd mX9_readsTable 112 (fun k => ti_push (.int 0) k) 113 := si_iconst (v := 0) dX9_readsTable_112 (by decide)
theorem bX9_readsTable_113 : tg_Snd mX9_readsTable 113 (fun k => ti_iast (ti_iinc 3 1 k)) 117 := tg_seq (si_iast dX9_readsTable_113) (si_iinc (v := 1) dX9_readsTable_114 (by decide) (Nat.le_of_ble_eq_true rfl))
theorem bX9_readsTable_120 : tg_Snd mX9_readsTable 120 (fun k => ti_aload 0 (ti_getf 8 0 (ti_push (.int 0) (ti_push (.int 0) (ti_iast (ti_aload 0 (ti_getf 8 0 (ti_push (.int 1) (ti_push (.int 1) (ti_iast k)))))))))) 134 := tg_seq (si_aload_n (i := 0) dX9_readsTable_120 rfl) (tg_seq (si_getf (ci := 8) (f := 0) clX9 (Nat.le_of_ble_eq_true rfl) rfl flX9_7 dX9_readsTable_121) (tg_seq (si_iconst (v := 0) dX9_readsTable_124 (by decide)) (tg_seq (si_iconst (v := 0) dX9_readsTable_125 (by decide)) (tg_seq (si_iast dX9_readsTable_126) (tg_seq (si_aload_n (i := 0) dX9_readsTable_127 rfl) (tg_seq (si_getf (ci := 8) (f := 0) clX9 (Nat.le_of_ble_eq_true rfl) rfl flX9_7 dX9_readsTable_128) (tg_seq (si_iconst (v := 1) dX9_readsTable_131 (by decide)) (tg_seq (si_iconst (v := 1) dX9_readsTable_132 (by decide)) (si_iast dX9_readsTable_133)))))))))
theorem bX9_readsTable_134 : tg_Snd mX9_readsTable 134 (fun k => ti_iload 2 k) 135 := si_iload_n (i := 2) dX9_readsTable_134 rfl
theorem vX9_readsTable_13 : tg_VS mX9_readsTable 13 mX9_isEnd 0 := ⟨okX9_isEnd, ⟨88, dX9_readsTable_13, mlX9_88⟩, insX9_isEnd, selX9_isEnd, parX9_isEnd, rfl, rfl, Nat.le_of_ble_eq_true rfl, Nat.le_of_ble_eq_true rfl⟩
theorem vX9_readsTable_28 : tg_VS mX9_readsTable 28 mX9_readsNumber 2 := ⟨okX9_readsNumber, ⟨92, dX9_readsTable_28, mlX9_92⟩, insX9_readsNumber, selX9_readsNumber, parX9_readsNumber, rfl, rfl, Nat.le_of_ble_eq_true rfl, Nat.le_of_ble_eq_true rfl⟩
theorem dX9_readsSupport_0 : decode cX9_readsSupport 0 = .ok (.aload_n 0, 1) := by decide +kernel
theorem dX9_readsSupport_1 : decode cX9_readsSupport 1 = .ok (.iconst 1, 1) := by decide +kernel
theorem dX9_readsSupport_2 : decode cX9_readsSupport 2 = .ok (.bipush 9, 2) := by decide +kernel
theorem dX9_readsSupport_4 : decode cX9_readsSupport 4 = .ok (.invokevirtual 92, 3) := by decide +kernel
theorem dX9_readsSupport_7 : decode cX9_readsSupport 7 = .ok (.istore_n 1, 1) := by decide +kernel
theorem dX9_readsSupport_8 : decode cX9_readsSupport 8 = .ok (.iload_n 1, 1) := by decide +kernel
theorem dX9_readsSupport_9 : decode cX9_readsSupport 9 = .ok (.ifCond .eq 20, 3) := by decide +kernel
theorem dX9_readsSupport_12 : decode cX9_readsSupport 12 = .ok (.aload_n 0, 1) := by decide +kernel
theorem dX9_readsSupport_13 : decode cX9_readsSupport 13 = .ok (.getfield 102, 3) := by decide +kernel
theorem dX9_readsSupport_16 : decode cX9_readsSupport 16 = .ok (.ifCond .eq 13, 3) := by decide +kernel
theorem dX9_readsSupport_19 : decode cX9_readsSupport 19 = .ok (.aload_n 0, 1) := by decide +kernel
theorem dX9_readsSupport_20 : decode cX9_readsSupport 20 = .ok (.getfield 7, 3) := by decide +kernel
theorem dX9_readsSupport_23 : decode cX9_readsSupport 23 = .ok (.iconst 1, 1) := by decide +kernel
theorem dX9_readsSupport_24 : decode cX9_readsSupport 24 = .ok (.aload_n 0, 1) := by decide +kernel
theorem dX9_readsSupport_25 : decode cX9_readsSupport 25 = .ok (.getfield 82, 3) := by decide +kernel
theorem dX9_readsSupport_28 : decode cX9_readsSupport 28 = .ok (.iastore, 1) := by decide +kernel
theorem dX9_readsSupport_29 : decode cX9_readsSupport 29 = .ok (.iload_n 1, 1) := by decide +kernel
theorem dX9_readsSupport_30 : decode cX9_readsSupport 30 = .ok (.ireturn, 1) := by decide +kernel
theorem bX9_readsSupport_0 : tg_Snd mX9_readsSupport 0 (fun k => ti_aload 0 (ti_push (.int 1) (ti_push (.int 9) k))) 4 := tg_seq (si_aload_n (i := 0) dX9_readsSupport_0 rfl) (tg_seq (si_iconst (v := 1) dX9_readsSupport_1 (by decide)) (si_bipush (v := 9) dX9_readsSupport_2 (by decide)))
theorem bX9_readsSupport_7 : tg_Snd mX9_readsSupport 7 (fun k => ti_istore 1 (ti_iload 1 k)) 9 := tg_seq (si_istore_n (i := 1) dX9_readsSupport_7 rfl (Nat.le_of_ble_eq_true rfl)) (si_iload_n (i := 1) dX9_readsSupport_8 rfl)
theorem bX9_readsSupport_12 : tg_Snd mX9_readsSupport 12 (fun k => ti_aload 0 (ti_getf 8 16 k)) 16 := tg_seq (si_aload_n (i := 0) dX9_readsSupport_12 rfl) (si_getf (ci := 8) (f := 16) clX9 (Nat.le_of_ble_eq_true rfl) rfl flX9_102 dX9_readsSupport_13)
theorem bX9_readsSupport_19 : tg_Snd mX9_readsSupport 19 (fun k => ti_aload 0 (ti_getf 8 0 (ti_push (.int 1) (ti_aload 0 (ti_getf 8 17 (ti_iast k)))))) 29 := tg_seq (si_aload_n (i := 0) dX9_readsSupport_19 rfl) (tg_seq (si_getf (ci := 8) (f := 0) clX9 (Nat.le_of_ble_eq_true rfl) rfl flX9_7 dX9_readsSupport_20) (tg_seq (si_iconst (v := 1) dX9_readsSupport_23 (by decide)) (tg_seq (si_aload_n (i := 0) dX9_readsSupport_24 rfl) (tg_seq (si_getf (ci := 8) (f := 17) clX9 (Nat.le_of_ble_eq_true rfl) rfl flX9_82 dX9_readsSupport_25) (si_iast dX9_readsSupport_28)))))
theorem bX9_readsSupport_29 : tg_Snd mX9_readsSupport 29 (fun k => ti_iload 1 k) 30 := si_iload_n (i := 1) dX9_readsSupport_29 rfl
theorem vX9_readsSupport_4 : tg_VS mX9_readsSupport 4 mX9_readsNumber 2 := ⟨okX9_readsNumber, ⟨92, dX9_readsSupport_4, mlX9_92⟩, insX9_readsNumber, selX9_readsNumber, parX9_readsNumber, rfl, rfl, Nat.le_of_ble_eq_true rfl, Nat.le_of_ble_eq_true rfl⟩
theorem dX9_readsRow_0 : decode cX9_readsRow 0 = .ok (.iconst 0, 1) := by decide +kernel
theorem dX9_readsRow_1 : decode cX9_readsRow 1 = .ok (.istore_n 1, 1) := by decide +kernel
theorem dX9_readsRow_2 : decode cX9_readsRow 2 = .ok (.iconst 0, 1) := by decide +kernel
theorem dX9_readsRow_3 : decode cX9_readsRow 3 = .ok (.istore_n 2, 1) := by decide +kernel
theorem dX9_readsRow_4 : decode cX9_readsRow 4 = .ok (.iload_n 2, 1) := by decide +kernel
theorem dX9_readsRow_5 : decode cX9_readsRow 5 = .ok (.aload_n 0, 1) := by decide +kernel
theorem dX9_readsRow_6 : decode cX9_readsRow 6 = .ok (.getfield 96, 3) := by decide +kernel
theorem dX9_readsRow_9 : decode cX9_readsRow 9 = .ok (.if_icmp .ge 39, 3) := by decide +kernel
theorem dX9_readsRow_12 : decode cX9_readsRow 12 = .ok (.aload_n 0, 1) := by decide +kernel
theorem dX9_readsRow_13 : decode cX9_readsRow 13 = .ok (.iconst 0, 1) := by decide +kernel
theorem dX9_readsRow_14 : decode cX9_readsRow 14 = .ok (.aload_n 0, 1) := by decide +kernel
theorem dX9_readsRow_15 : decode cX9_readsRow 15 = .ok (.getfield 34, 3) := by decide +kernel
theorem dX9_readsRow_18 : decode cX9_readsRow 18 = .ok (.iload_n 2, 1) := by decide +kernel
theorem dX9_readsRow_19 : decode cX9_readsRow 19 = .ok (.iaload, 1) := by decide +kernel
theorem dX9_readsRow_20 : decode cX9_readsRow 20 = .ok (.iconst 1, 1) := by decide +kernel
theorem dX9_readsRow_21 : decode cX9_readsRow 21 = .ok (.isub, 1) := by decide +kernel
theorem dX9_readsRow_22 : decode cX9_readsRow 22 = .ok (.invokevirtual 92, 3) := by decide +kernel
theorem dX9_readsRow_25 : decode cX9_readsRow 25 = .ok (.ifCond .ne 5, 3) := by decide +kernel
theorem dX9_readsRow_28 : decode cX9_readsRow 28 = .ok (.iconst 0, 1) := by decide +kernel
theorem dX9_readsRow_29 : decode cX9_readsRow 29 = .ok (.ireturn, 1) := by decide +kernel
theorem dX9_readsRow_30 : decode cX9_readsRow 30 = .ok (.bipush 7, 2) := by decide +kernel
theorem dX9_readsRow_32 : decode cX9_readsRow 32 = .ok (.iload_n 1, 1) := by decide +kernel
theorem dX9_readsRow_33 : decode cX9_readsRow 33 = .ok (.imul, 1) := by decide +kernel
theorem dX9_readsRow_34 : decode cX9_readsRow 34 = .ok (.aload_n 0, 1) := by decide +kernel
theorem dX9_readsRow_35 : decode cX9_readsRow 35 = .ok (.getfield 82, 3) := by decide +kernel
theorem dX9_readsRow_38 : decode cX9_readsRow 38 = .ok (.iadd, 1) := by decide +kernel
theorem dX9_readsRow_39 : decode cX9_readsRow 39 = .ok (.iconst 1, 1) := by decide +kernel
theorem dX9_readsRow_40 : decode cX9_readsRow 40 = .ok (.iadd, 1) := by decide +kernel
theorem dX9_readsRow_41 : decode cX9_readsRow 41 = .ok (.istore_n 1, 1) := by decide +kernel
theorem dX9_readsRow_42 : decode cX9_readsRow 42 = .ok (.iinc 2 1, 3) := by decide +kernel
theorem dX9_readsRow_45 : decode cX9_readsRow 45 = .ok (.goto (-41), 3) := by decide +kernel
theorem dX9_readsRow_48 : decode cX9_readsRow 48 = .ok (.aload_n 0, 1) := by decide +kernel
theorem dX9_readsRow_49 : decode cX9_readsRow 49 = .ok (.iconst 0, 1) := by decide +kernel
theorem dX9_readsRow_50 : decode cX9_readsRow 50 = .ok (.bipush 99, 2) := by decide +kernel
theorem dX9_readsRow_52 : decode cX9_readsRow 52 = .ok (.invokevirtual 92, 3) := by decide +kernel
theorem dX9_readsRow_55 : decode cX9_readsRow 55 = .ok (.istore_n 2, 1) := by decide +kernel
theorem dX9_readsRow_56 : decode cX9_readsRow 56 = .ok (.iload_n 2, 1) := by decide +kernel
theorem dX9_readsRow_57 : decode cX9_readsRow 57 = .ok (.ifCond .eq 30, 3) := by decide +kernel
theorem dX9_readsRow_60 : decode cX9_readsRow 60 = .ok (.aload_n 0, 1) := by decide +kernel
theorem dX9_readsRow_61 : decode cX9_readsRow 61 = .ok (.dup, 1) := by decide +kernel
theorem dX9_readsRow_62 : decode cX9_readsRow 62 = .ok (.getfield 99, 3) := by decide +kernel
theorem dX9_readsRow_65 : decode cX9_readsRow 65 = .ok (.iconst 1, 1) := by decide +kernel
theorem dX9_readsRow_66 : decode cX9_readsRow 66 = .ok (.iadd, 1) := by decide +kernel
theorem dX9_readsRow_67 : decode cX9_readsRow 67 = .ok (.putfield 99, 3) := by decide +kernel
theorem dX9_readsRow_70 : decode cX9_readsRow 70 = .ok (.aload_n 0, 1) := by decide +kernel
theorem dX9_readsRow_71 : decode cX9_readsRow 71 = .ok (.getfield 102, 3) := by decide +kernel
theorem dX9_readsRow_74 : decode cX9_readsRow 74 = .ok (.ifCond .eq 13, 3) := by decide +kernel
theorem dX9_readsRow_77 : decode cX9_readsRow 77 = .ok (.aload_n 0, 1) := by decide +kernel
theorem dX9_readsRow_78 : decode cX9_readsRow 78 = .ok (.iconst 0, 1) := by decide +kernel
theorem dX9_readsRow_79 : decode cX9_readsRow 79 = .ok (.iload_n 1, 1) := by decide +kernel
theorem dX9_readsRow_80 : decode cX9_readsRow 80 = .ok (.aload_n 0, 1) := by decide +kernel
theorem dX9_readsRow_81 : decode cX9_readsRow 81 = .ok (.getfield 82, 3) := by decide +kernel
theorem dX9_readsRow_84 : decode cX9_readsRow 84 = .ok (.invokevirtual 106, 3) := by decide +kernel
theorem dX9_readsRow_87 : decode cX9_readsRow 87 = .ok (.iload_n 2, 1) := by decide +kernel
theorem dX9_readsRow_88 : decode cX9_readsRow 88 = .ok (.ireturn, 1) := by decide +kernel
theorem bX9_readsRow_0 : tg_Snd mX9_readsRow 0 (fun k => ti_push (.int 0) (ti_istore 1 (ti_push (.int 0) (ti_istore 2 k)))) 4 := tg_seq (si_iconst (v := 0) dX9_readsRow_0 (by decide)) (tg_seq (si_istore_n (i := 1) dX9_readsRow_1 rfl (Nat.le_of_ble_eq_true rfl)) (tg_seq (si_iconst (v := 0) dX9_readsRow_2 (by decide)) (si_istore_n (i := 2) dX9_readsRow_3 rfl (Nat.le_of_ble_eq_true rfl))))
theorem bX9_readsRow_4 : tg_Snd mX9_readsRow 4 (fun k => ti_iload 2 (ti_aload 0 (ti_getf 8 12 k))) 9 := tg_seq (si_iload_n (i := 2) dX9_readsRow_4 rfl) (tg_seq (si_aload_n (i := 0) dX9_readsRow_5 rfl) (si_getf (ci := 8) (f := 12) clX9 (Nat.le_of_ble_eq_true rfl) rfl flX9_96 dX9_readsRow_6))
theorem bX9_readsRow_12 : tg_Snd mX9_readsRow 12 (fun k => ti_aload 0 (ti_push (.int 0) (ti_aload 0 (ti_getf 8 13 (ti_iload 2 (ti_iald (ti_push (.int 1) (ti_isub k)))))))) 22 := tg_seq (si_aload_n (i := 0) dX9_readsRow_12 rfl) (tg_seq (si_iconst (v := 0) dX9_readsRow_13 (by decide)) (tg_seq (si_aload_n (i := 0) dX9_readsRow_14 rfl) (tg_seq (si_getf (ci := 8) (f := 13) clX9 (Nat.le_of_ble_eq_true rfl) rfl flX9_34 dX9_readsRow_15) (tg_seq (si_iload_n (i := 2) dX9_readsRow_18 rfl) (tg_seq (si_iald dX9_readsRow_19) (tg_seq (si_iconst (v := 1) dX9_readsRow_20 (by decide)) (si_isub dX9_readsRow_21)))))))
theorem bX9_readsRow_28 : tg_Snd mX9_readsRow 28 (fun k => ti_push (.int 0) k) 29 := si_iconst (v := 0) dX9_readsRow_28 (by decide)
theorem bX9_readsRow_30 : tg_Snd mX9_readsRow 30 (fun k => ti_push (.int 7) (ti_iload 1 (ti_imul (ti_aload 0 (ti_getf 8 17 (ti_iadd (ti_push (.int 1) (ti_iadd (ti_istore 1 (ti_iinc 2 1 k)))))))))) 45 := tg_seq (si_bipush (v := 7) dX9_readsRow_30 (by decide)) (tg_seq (si_iload_n (i := 1) dX9_readsRow_32 rfl) (tg_seq (si_imul dX9_readsRow_33) (tg_seq (si_aload_n (i := 0) dX9_readsRow_34 rfl) (tg_seq (si_getf (ci := 8) (f := 17) clX9 (Nat.le_of_ble_eq_true rfl) rfl flX9_82 dX9_readsRow_35) (tg_seq (si_iadd dX9_readsRow_38) (tg_seq (si_iconst (v := 1) dX9_readsRow_39 (by decide)) (tg_seq (si_iadd dX9_readsRow_40) (tg_seq (si_istore_n (i := 1) dX9_readsRow_41 rfl (Nat.le_of_ble_eq_true rfl)) (si_iinc (v := 1) dX9_readsRow_42 (by decide) (Nat.le_of_ble_eq_true rfl))))))))))
theorem bX9_readsRow_48 : tg_Snd mX9_readsRow 48 (fun k => ti_aload 0 (ti_push (.int 0) (ti_push (.int 99) k))) 52 := tg_seq (si_aload_n (i := 0) dX9_readsRow_48 rfl) (tg_seq (si_iconst (v := 0) dX9_readsRow_49 (by decide)) (si_bipush (v := 99) dX9_readsRow_50 (by decide)))
theorem bX9_readsRow_55 : tg_Snd mX9_readsRow 55 (fun k => ti_istore 2 (ti_iload 2 k)) 57 := tg_seq (si_istore_n (i := 2) dX9_readsRow_55 rfl (Nat.le_of_ble_eq_true rfl)) (si_iload_n (i := 2) dX9_readsRow_56 rfl)
theorem bX9_readsRow_60 : tg_Snd mX9_readsRow 60 (fun k => ti_aload 0 (ti_dup (ti_getf 8 14 (ti_push (.int 1) (ti_iadd (ti_putfI 8 14 (ti_aload 0 (ti_getf 8 16 k)))))))) 74 := tg_seq (si_aload_n (i := 0) dX9_readsRow_60 rfl) (tg_seq (si_dup dX9_readsRow_61) (tg_seq (si_getf (ci := 8) (f := 14) clX9 (Nat.le_of_ble_eq_true rfl) rfl flX9_99 dX9_readsRow_62) (tg_seq (si_iconst (v := 1) dX9_readsRow_65 (by decide)) (tg_seq (si_iadd dX9_readsRow_66) (tg_seq (si_putfI (ci := 8) (f := 14) (ty := .int) clX9 tyX9_ok nmX9 (Nat.le_of_ble_eq_true rfl) rfl (by decide +kernel) (fun _ _ => ⟨rfl, rfl⟩) flX9_99 dX9_readsRow_67) (tg_seq (si_aload_n (i := 0) dX9_readsRow_70 rfl) (si_getf (ci := 8) (f := 16) clX9 (Nat.le_of_ble_eq_true rfl) rfl flX9_102 dX9_readsRow_71)))))))
theorem bX9_readsRow_77 : tg_Snd mX9_readsRow 77 (fun k => ti_aload 0 (ti_push (.int 0) (ti_iload 1 (ti_aload 0 (ti_getf 8 17 k))))) 84 := tg_seq (si_aload_n (i := 0) dX9_readsRow_77 rfl) (tg_seq (si_iconst (v := 0) dX9_readsRow_78 (by decide)) (tg_seq (si_iload_n (i := 1) dX9_readsRow_79 rfl) (tg_seq (si_aload_n (i := 0) dX9_readsRow_80 rfl) (si_getf (ci := 8) (f := 17) clX9 (Nat.le_of_ble_eq_true rfl) rfl flX9_82 dX9_readsRow_81))))
theorem bX9_readsRow_87 : tg_Snd mX9_readsRow 87 (fun k => ti_iload 2 k) 88 := si_iload_n (i := 2) dX9_readsRow_87 rfl
theorem vX9_readsRow_22 : tg_VS mX9_readsRow 22 mX9_readsNumber 2 := ⟨okX9_readsNumber, ⟨92, dX9_readsRow_22, mlX9_92⟩, insX9_readsNumber, selX9_readsNumber, parX9_readsNumber, rfl, rfl, Nat.le_of_ble_eq_true rfl, Nat.le_of_ble_eq_true rfl⟩
theorem vX9_readsRow_52 : tg_VS mX9_readsRow 52 mX9_readsNumber 2 := ⟨okX9_readsNumber, ⟨92, dX9_readsRow_52, mlX9_92⟩, insX9_readsNumber, selX9_readsNumber, parX9_readsNumber, rfl, rfl, Nat.le_of_ble_eq_true rfl, Nat.le_of_ble_eq_true rfl⟩
theorem vX9_readsRow_84 : tg_VS mX9_readsRow 84 mX9_put 3 := ⟨okX9_put, ⟨106, dX9_readsRow_84, mlX9_106⟩, insX9_put, selX9_put, parX9_put, rfl, rfl, Nat.le_of_ble_eq_true rfl, Nat.le_of_ble_eq_true rfl⟩
theorem dX9_wordHere_0 : decode cX9_wordHere 0 = .ok (.aload_n 0, 1) := by decide +kernel
theorem dX9_wordHere_1 : decode cX9_wordHere 1 = .ok (.aload_n 0, 1) := by decide +kernel
theorem dX9_wordHere_2 : decode cX9_wordHere 2 = .ok (.getfield 37, 3) := by decide +kernel
theorem dX9_wordHere_5 : decode cX9_wordHere 5 = .ok (.invokevirtual 110, 3) := by decide +kernel
theorem dX9_wordHere_8 : decode cX9_wordHere 8 = .ok (.ifCond .eq 7, 3) := by decide +kernel
theorem dX9_wordHere_11 : decode cX9_wordHere 11 = .ok (.iconst 0, 1) := by decide +kernel
theorem dX9_wordHere_12 : decode cX9_wordHere 12 = .ok (.goto 34, 3) := by decide +kernel
theorem dX9_wordHere_15 : decode cX9_wordHere 15 = .ok (.aload_n 0, 1) := by decide +kernel
theorem dX9_wordHere_16 : decode cX9_wordHere 16 = .ok (.aload_n 0, 1) := by decide +kernel
theorem dX9_wordHere_17 : decode cX9_wordHere 17 = .ok (.getfield 40, 3) := by decide +kernel
theorem dX9_wordHere_20 : decode cX9_wordHere 20 = .ok (.invokevirtual 110, 3) := by decide +kernel
theorem dX9_wordHere_23 : decode cX9_wordHere 23 = .ok (.ifCond .eq 7, 3) := by decide +kernel
theorem dX9_wordHere_26 : decode cX9_wordHere 26 = .ok (.iconst 1, 1) := by decide +kernel
theorem dX9_wordHere_27 : decode cX9_wordHere 27 = .ok (.goto 19, 3) := by decide +kernel
theorem dX9_wordHere_30 : decode cX9_wordHere 30 = .ok (.aload_n 0, 1) := by decide +kernel
theorem dX9_wordHere_31 : decode cX9_wordHere 31 = .ok (.aload_n 0, 1) := by decide +kernel
theorem dX9_wordHere_32 : decode cX9_wordHere 32 = .ok (.getfield 43, 3) := by decide +kernel
theorem dX9_wordHere_35 : decode cX9_wordHere 35 = .ok (.invokevirtual 110, 3) := by decide +kernel
theorem dX9_wordHere_38 : decode cX9_wordHere 38 = .ok (.ifCond .eq 7, 3) := by decide +kernel
theorem dX9_wordHere_41 : decode cX9_wordHere 41 = .ok (.iconst 2, 1) := by decide +kernel
theorem dX9_wordHere_42 : decode cX9_wordHere 42 = .ok (.goto 4, 3) := by decide +kernel
theorem dX9_wordHere_45 : decode cX9_wordHere 45 = .ok (.iconst (-1), 1) := by decide +kernel
theorem dX9_wordHere_46 : decode cX9_wordHere 46 = .ok (.ireturn, 1) := by decide +kernel
theorem bX9_wordHere_0 : tg_Snd mX9_wordHere 0 (fun k => ti_aload 0 (ti_aload 0 (ti_getf 8 18 k))) 5 := tg_seq (si_aload_n (i := 0) dX9_wordHere_0 rfl) (tg_seq (si_aload_n (i := 0) dX9_wordHere_1 rfl) (si_getf (ci := 8) (f := 18) clX9 (Nat.le_of_ble_eq_true rfl) rfl flX9_37 dX9_wordHere_2))
theorem bX9_wordHere_11 : tg_Snd mX9_wordHere 11 (fun k => ti_push (.int 0) k) 12 := si_iconst (v := 0) dX9_wordHere_11 (by decide)
theorem bX9_wordHere_15 : tg_Snd mX9_wordHere 15 (fun k => ti_aload 0 (ti_aload 0 (ti_getf 8 19 k))) 20 := tg_seq (si_aload_n (i := 0) dX9_wordHere_15 rfl) (tg_seq (si_aload_n (i := 0) dX9_wordHere_16 rfl) (si_getf (ci := 8) (f := 19) clX9 (Nat.le_of_ble_eq_true rfl) rfl flX9_40 dX9_wordHere_17))
theorem bX9_wordHere_26 : tg_Snd mX9_wordHere 26 (fun k => ti_push (.int 1) k) 27 := si_iconst (v := 1) dX9_wordHere_26 (by decide)
theorem bX9_wordHere_30 : tg_Snd mX9_wordHere 30 (fun k => ti_aload 0 (ti_aload 0 (ti_getf 8 20 k))) 35 := tg_seq (si_aload_n (i := 0) dX9_wordHere_30 rfl) (tg_seq (si_aload_n (i := 0) dX9_wordHere_31 rfl) (si_getf (ci := 8) (f := 20) clX9 (Nat.le_of_ble_eq_true rfl) rfl flX9_43 dX9_wordHere_32))
theorem bX9_wordHere_41 : tg_Snd mX9_wordHere 41 (fun k => ti_push (.int 2) k) 42 := si_iconst (v := 2) dX9_wordHere_41 (by decide)
theorem bX9_wordHere_45 : tg_Snd mX9_wordHere 45 (fun k => ti_push (.int (-1)) k) 46 := si_iconst (v := -1) dX9_wordHere_45 (by decide)
theorem vX9_wordHere_5 : tg_VS mX9_wordHere 5 mX9_isWord 1 := ⟨okX9_isWord, ⟨110, dX9_wordHere_5, mlX9_110⟩, insX9_isWord, selX9_isWord, parX9_isWord, rfl, rfl, Nat.le_of_ble_eq_true rfl, Nat.le_of_ble_eq_true rfl⟩
theorem vX9_wordHere_20 : tg_VS mX9_wordHere 20 mX9_isWord 1 := ⟨okX9_isWord, ⟨110, dX9_wordHere_20, mlX9_110⟩, insX9_isWord, selX9_isWord, parX9_isWord, rfl, rfl, Nat.le_of_ble_eq_true rfl, Nat.le_of_ble_eq_true rfl⟩
theorem vX9_wordHere_35 : tg_VS mX9_wordHere 35 mX9_isWord 1 := ⟨okX9_isWord, ⟨110, dX9_wordHere_35, mlX9_110⟩, insX9_isWord, selX9_isWord, parX9_isWord, rfl, rfl, Nat.le_of_ble_eq_true rfl, Nat.le_of_ble_eq_true rfl⟩
theorem dX9_readsClause_0 : decode cX9_readsClause 0 = .ok (.aload_n 0, 1) := by decide +kernel
theorem dX9_readsClause_1 : decode cX9_readsClause 1 = .ok (.invokevirtual 114, 3) := by decide +kernel
theorem dX9_readsClause_4 : decode cX9_readsClause 4 = .ok (.istore_n 1, 1) := by decide +kernel
theorem dX9_readsClause_5 : decode cX9_readsClause 5 = .ok (.iload_n 1, 1) := by decide +kernel
theorem dX9_readsClause_6 : decode cX9_readsClause 6 = .ok (.iconst (-1), 1) := by decide +kernel
theorem dX9_readsClause_7 : decode cX9_readsClause 7 = .ok (.if_icmp .eq 17, 3) := by decide +kernel
theorem dX9_readsClause_10 : decode cX9_readsClause 10 = .ok (.iload_n 1, 1) := by decide +kernel
theorem dX9_readsClause_11 : decode cX9_readsClause 11 = .ok (.iconst 2, 1) := by decide +kernel
theorem dX9_readsClause_12 : decode cX9_readsClause 12 = .ok (.if_icmp .ne 14, 3) := by decide +kernel
theorem dX9_readsClause_15 : decode cX9_readsClause 15 = .ok (.aload_n 0, 1) := by decide +kernel
theorem dX9_readsClause_16 : decode cX9_readsClause 16 = .ok (.getfield 99, 3) := by decide +kernel
theorem dX9_readsClause_19 : decode cX9_readsClause 19 = .ok (.bipush 40, 2) := by decide +kernel
theorem dX9_readsClause_21 : decode cX9_readsClause 21 = .ok (.if_icmp .ne 5, 3) := by decide +kernel
theorem dX9_readsClause_24 : decode cX9_readsClause 24 = .ok (.iconst 0, 1) := by decide +kernel
theorem dX9_readsClause_25 : decode cX9_readsClause 25 = .ok (.ireturn, 1) := by decide +kernel
theorem dX9_readsClause_26 : decode cX9_readsClause 26 = .ok (.aload_n 0, 1) := by decide +kernel
theorem dX9_readsClause_27 : decode cX9_readsClause 27 = .ok (.invokevirtual 85, 3) := by decide +kernel
theorem dX9_readsClause_30 : decode cX9_readsClause 30 = .ok (.iload_n 1, 1) := by decide +kernel
theorem dX9_readsClause_31 : decode cX9_readsClause 31 = .ok (.ifCond .ne 10, 3) := by decide +kernel
theorem dX9_readsClause_34 : decode cX9_readsClause 34 = .ok (.aload_n 0, 1) := by decide +kernel
theorem dX9_readsClause_35 : decode cX9_readsClause 35 = .ok (.invokevirtual 118, 3) := by decide +kernel
theorem dX9_readsClause_38 : decode cX9_readsClause 38 = .ok (.goto 19, 3) := by decide +kernel
theorem dX9_readsClause_41 : decode cX9_readsClause 41 = .ok (.iload_n 1, 1) := by decide +kernel
theorem dX9_readsClause_42 : decode cX9_readsClause 42 = .ok (.iconst 1, 1) := by decide +kernel
theorem dX9_readsClause_43 : decode cX9_readsClause 43 = .ok (.if_icmp .ne 10, 3) := by decide +kernel
theorem dX9_readsClause_46 : decode cX9_readsClause 46 = .ok (.aload_n 0, 1) := by decide +kernel
theorem dX9_readsClause_47 : decode cX9_readsClause 47 = .ok (.invokevirtual 121, 3) := by decide +kernel
theorem dX9_readsClause_50 : decode cX9_readsClause 50 = .ok (.goto 7, 3) := by decide +kernel
theorem dX9_readsClause_53 : decode cX9_readsClause 53 = .ok (.aload_n 0, 1) := by decide +kernel
theorem dX9_readsClause_54 : decode cX9_readsClause 54 = .ok (.invokevirtual 124, 3) := by decide +kernel
theorem dX9_readsClause_57 : decode cX9_readsClause 57 = .ok (.ireturn, 1) := by decide +kernel
theorem bX9_readsClause_0 : tg_Snd mX9_readsClause 0 (fun k => ti_aload 0 k) 1 := si_aload_n (i := 0) dX9_readsClause_0 rfl
theorem bX9_readsClause_4 : tg_Snd mX9_readsClause 4 (fun k => ti_istore 1 (ti_iload 1 (ti_push (.int (-1)) k))) 7 := tg_seq (si_istore_n (i := 1) dX9_readsClause_4 rfl (Nat.le_of_ble_eq_true rfl)) (tg_seq (si_iload_n (i := 1) dX9_readsClause_5 rfl) (si_iconst (v := -1) dX9_readsClause_6 (by decide)))
theorem bX9_readsClause_10 : tg_Snd mX9_readsClause 10 (fun k => ti_iload 1 (ti_push (.int 2) k)) 12 := tg_seq (si_iload_n (i := 1) dX9_readsClause_10 rfl) (si_iconst (v := 2) dX9_readsClause_11 (by decide))
theorem bX9_readsClause_15 : tg_Snd mX9_readsClause 15 (fun k => ti_aload 0 (ti_getf 8 14 (ti_push (.int 40) k))) 21 := tg_seq (si_aload_n (i := 0) dX9_readsClause_15 rfl) (tg_seq (si_getf (ci := 8) (f := 14) clX9 (Nat.le_of_ble_eq_true rfl) rfl flX9_99 dX9_readsClause_16) (si_bipush (v := 40) dX9_readsClause_19 (by decide)))
theorem bX9_readsClause_24 : tg_Snd mX9_readsClause 24 (fun k => ti_push (.int 0) k) 25 := si_iconst (v := 0) dX9_readsClause_24 (by decide)
theorem bX9_readsClause_26 : tg_Snd mX9_readsClause 26 (fun k => ti_aload 0 k) 27 := si_aload_n (i := 0) dX9_readsClause_26 rfl
theorem bX9_readsClause_30 : tg_Snd mX9_readsClause 30 (fun k => ti_iload 1 k) 31 := si_iload_n (i := 1) dX9_readsClause_30 rfl
theorem bX9_readsClause_34 : tg_Snd mX9_readsClause 34 (fun k => ti_aload 0 k) 35 := si_aload_n (i := 0) dX9_readsClause_34 rfl
theorem bX9_readsClause_41 : tg_Snd mX9_readsClause 41 (fun k => ti_iload 1 (ti_push (.int 1) k)) 43 := tg_seq (si_iload_n (i := 1) dX9_readsClause_41 rfl) (si_iconst (v := 1) dX9_readsClause_42 (by decide))
theorem bX9_readsClause_46 : tg_Snd mX9_readsClause 46 (fun k => ti_aload 0 k) 47 := si_aload_n (i := 0) dX9_readsClause_46 rfl
theorem bX9_readsClause_53 : tg_Snd mX9_readsClause 53 (fun k => ti_aload 0 k) 54 := si_aload_n (i := 0) dX9_readsClause_53 rfl
theorem vX9_readsClause_1 : tg_VS mX9_readsClause 1 mX9_wordHere 0 := ⟨okX9_wordHere, ⟨114, dX9_readsClause_1, mlX9_114⟩, insX9_wordHere, selX9_wordHere, parX9_wordHere, rfl, rfl, Nat.le_of_ble_eq_true rfl, Nat.le_of_ble_eq_true rfl⟩
theorem vX9_readsClause_27 : tg_VS mX9_readsClause 27 mX9_nextToken 0 := ⟨okX9_nextToken, ⟨85, dX9_readsClause_27, mlX9_85⟩, insX9_nextToken, selX9_nextToken, parX9_nextToken, rfl, rfl, Nat.le_of_ble_eq_true rfl, Nat.le_of_ble_eq_true rfl⟩
theorem vX9_readsClause_35 : tg_VS mX9_readsClause 35 mX9_readsTable 0 := ⟨okX9_readsTable, ⟨118, dX9_readsClause_35, mlX9_118⟩, insX9_readsTable, selX9_readsTable, parX9_readsTable, rfl, rfl, Nat.le_of_ble_eq_true rfl, Nat.le_of_ble_eq_true rfl⟩
theorem vX9_readsClause_47 : tg_VS mX9_readsClause 47 mX9_readsSupport 0 := ⟨okX9_readsSupport, ⟨121, dX9_readsClause_47, mlX9_121⟩, insX9_readsSupport, selX9_readsSupport, parX9_readsSupport, rfl, rfl, Nat.le_of_ble_eq_true rfl, Nat.le_of_ble_eq_true rfl⟩
theorem vX9_readsClause_54 : tg_VS mX9_readsClause 54 mX9_readsRow 0 := ⟨okX9_readsRow, ⟨124, dX9_readsClause_54, mlX9_124⟩, insX9_readsRow, selX9_readsRow, parX9_readsRow, rfl, rfl, Nat.le_of_ble_eq_true rfl, Nat.le_of_ble_eq_true rfl⟩
theorem dX9_reads_0 : decode cX9_reads 0 = .ok (.aload_n 0, 1) := by decide +kernel
theorem dX9_reads_1 : decode cX9_reads 1 = .ok (.iload_n 1, 1) := by decide +kernel
theorem dX9_reads_2 : decode cX9_reads 2 = .ok (.putfield 102, 3) := by decide +kernel
theorem dX9_reads_5 : decode cX9_reads 5 = .ok (.aload_n 0, 1) := by decide +kernel
theorem dX9_reads_6 : decode cX9_reads 6 = .ok (.iconst 0, 1) := by decide +kernel
theorem dX9_reads_7 : decode cX9_reads 7 = .ok (.putfield 69, 3) := by decide +kernel
theorem dX9_reads_10 : decode cX9_reads 10 = .ok (.aload_n 0, 1) := by decide +kernel
theorem dX9_reads_11 : decode cX9_reads 11 = .ok (.iconst 1, 1) := by decide +kernel
theorem dX9_reads_12 : decode cX9_reads 12 = .ok (.putfield 127, 3) := by decide +kernel
theorem dX9_reads_15 : decode cX9_reads 15 = .ok (.aload_n 0, 1) := by decide +kernel
theorem dX9_reads_16 : decode cX9_reads 16 = .ok (.aload_n 0, 1) := by decide +kernel
theorem dX9_reads_17 : decode cX9_reads 17 = .ok (.getfield 13, 3) := by decide +kernel
theorem dX9_reads_20 : decode cX9_reads 20 = .ok (.putfield 96, 3) := by decide +kernel
theorem dX9_reads_23 : decode cX9_reads 23 = .ok (.iconst 0, 1) := by decide +kernel
theorem dX9_reads_24 : decode cX9_reads 24 = .ok (.istore_n 2, 1) := by decide +kernel
theorem dX9_reads_25 : decode cX9_reads 25 = .ok (.iload_n 2, 1) := by decide +kernel
theorem dX9_reads_26 : decode cX9_reads 26 = .ok (.iconst 4, 1) := by decide +kernel
theorem dX9_reads_27 : decode cX9_reads 27 = .ok (.if_icmp .ge 21, 3) := by decide +kernel
theorem dX9_reads_30 : decode cX9_reads 30 = .ok (.aload_n 0, 1) := by decide +kernel
theorem dX9_reads_31 : decode cX9_reads 31 = .ok (.getfield 34, 3) := by decide +kernel
theorem dX9_reads_34 : decode cX9_reads 34 = .ok (.iload_n 2, 1) := by decide +kernel
theorem dX9_reads_35 : decode cX9_reads 35 = .ok (.aload_n 0, 1) := by decide +kernel
theorem dX9_reads_36 : decode cX9_reads 36 = .ok (.getfield 17, 3) := by decide +kernel
theorem dX9_reads_39 : decode cX9_reads 39 = .ok (.iload_n 2, 1) := by decide +kernel
theorem dX9_reads_40 : decode cX9_reads 40 = .ok (.iaload, 1) := by decide +kernel
theorem dX9_reads_41 : decode cX9_reads 41 = .ok (.iastore, 1) := by decide +kernel
theorem dX9_reads_42 : decode cX9_reads 42 = .ok (.iinc 2 1, 3) := by decide +kernel
theorem dX9_reads_45 : decode cX9_reads 45 = .ok (.goto (-20), 3) := by decide +kernel
theorem dX9_reads_48 : decode cX9_reads 48 = .ok (.aload_n 0, 1) := by decide +kernel
theorem dX9_reads_49 : decode cX9_reads 49 = .ok (.aload_n 0, 1) := by decide +kernel
theorem dX9_reads_50 : decode cX9_reads 50 = .ok (.getfield 7, 3) := by decide +kernel
theorem dX9_reads_53 : decode cX9_reads 53 = .ok (.iconst 0, 1) := by decide +kernel
theorem dX9_reads_54 : decode cX9_reads 54 = .ok (.iaload, 1) := by decide +kernel
theorem dX9_reads_55 : decode cX9_reads 55 = .ok (.putfield 99, 3) := by decide +kernel
theorem dX9_reads_58 : decode cX9_reads 58 = .ok (.aload_n 0, 1) := by decide +kernel
theorem dX9_reads_59 : decode cX9_reads 59 = .ok (.invokevirtual 85, 3) := by decide +kernel
theorem dX9_reads_62 : decode cX9_reads 62 = .ok (.aload_n 0, 1) := by decide +kernel
theorem dX9_reads_63 : decode cX9_reads 63 = .ok (.invokevirtual 130, 3) := by decide +kernel
theorem dX9_reads_66 : decode cX9_reads 66 = .ok (.istore_n 2, 1) := by decide +kernel
theorem dX9_reads_67 : decode cX9_reads 67 = .ok (.iload_n 2, 1) := by decide +kernel
theorem dX9_reads_68 : decode cX9_reads 68 = .ok (.ifCond .eq 69, 3) := by decide +kernel
theorem dX9_reads_71 : decode cX9_reads 71 = .ok (.aload_n 0, 1) := by decide +kernel
theorem dX9_reads_72 : decode cX9_reads 72 = .ok (.getfield 72, 3) := by decide +kernel
theorem dX9_reads_75 : decode cX9_reads 75 = .ok (.aload_n 0, 1) := by decide +kernel
theorem dX9_reads_76 : decode cX9_reads 76 = .ok (.getfield 58, 3) := by decide +kernel
theorem dX9_reads_79 : decode cX9_reads 79 = .ok (.if_icmp .ge 58, 3) := by decide +kernel
theorem dX9_reads_82 : decode cX9_reads 82 = .ok (.aload_n 0, 1) := by decide +kernel
theorem dX9_reads_83 : decode cX9_reads 83 = .ok (.getfield 127, 3) := by decide +kernel
theorem dX9_reads_86 : decode cX9_reads 86 = .ok (.bipush 24, 2) := by decide +kernel
theorem dX9_reads_88 : decode cX9_reads 88 = .ok (.if_icmp .ge 21, 3) := by decide +kernel
theorem dX9_reads_91 : decode cX9_reads 91 = .ok (.aload_n 0, 1) := by decide +kernel
theorem dX9_reads_92 : decode cX9_reads 92 = .ok (.getfield 24, 3) := by decide +kernel
theorem dX9_reads_95 : decode cX9_reads 95 = .ok (.aload_n 0, 1) := by decide +kernel
theorem dX9_reads_96 : decode cX9_reads 96 = .ok (.getfield 72, 3) := by decide +kernel
theorem dX9_reads_99 : decode cX9_reads 99 = .ok (.iaload, 1) := by decide +kernel
theorem dX9_reads_100 : decode cX9_reads 100 = .ok (.bipush 59, 2) := by decide +kernel
theorem dX9_reads_102 : decode cX9_reads 102 = .ok (.if_icmp .ne 7, 3) := by decide +kernel
theorem dX9_reads_105 : decode cX9_reads 105 = .ok (.iconst 1, 1) := by decide +kernel
theorem dX9_reads_106 : decode cX9_reads 106 = .ok (.goto 4, 3) := by decide +kernel
theorem dX9_reads_109 : decode cX9_reads 109 = .ok (.iconst 0, 1) := by decide +kernel
theorem dX9_reads_110 : decode cX9_reads 110 = .ok (.istore_n 2, 1) := by decide +kernel
theorem dX9_reads_111 : decode cX9_reads 111 = .ok (.iload_n 2, 1) := by decide +kernel
theorem dX9_reads_112 : decode cX9_reads 112 = .ok (.ifCond .eq (-45), 3) := by decide +kernel
theorem dX9_reads_115 : decode cX9_reads 115 = .ok (.aload_n 0, 1) := by decide +kernel
theorem dX9_reads_116 : decode cX9_reads 116 = .ok (.invokevirtual 85, 3) := by decide +kernel
theorem dX9_reads_119 : decode cX9_reads 119 = .ok (.aload_n 0, 1) := by decide +kernel
theorem dX9_reads_120 : decode cX9_reads 120 = .ok (.invokevirtual 130, 3) := by decide +kernel
theorem dX9_reads_123 : decode cX9_reads 123 = .ok (.istore_n 2, 1) := by decide +kernel
theorem dX9_reads_124 : decode cX9_reads 124 = .ok (.aload_n 0, 1) := by decide +kernel
theorem dX9_reads_125 : decode cX9_reads 125 = .ok (.dup, 1) := by decide +kernel
theorem dX9_reads_126 : decode cX9_reads 126 = .ok (.getfield 127, 3) := by decide +kernel
theorem dX9_reads_129 : decode cX9_reads 129 = .ok (.iconst 1, 1) := by decide +kernel
theorem dX9_reads_130 : decode cX9_reads 130 = .ok (.iadd, 1) := by decide +kernel
theorem dX9_reads_131 : decode cX9_reads 131 = .ok (.putfield 127, 3) := by decide +kernel
theorem dX9_reads_134 : decode cX9_reads 134 = .ok (.goto (-67), 3) := by decide +kernel
theorem dX9_reads_137 : decode cX9_reads 137 = .ok (.iload_n 2, 1) := by decide +kernel
theorem dX9_reads_138 : decode cX9_reads 138 = .ok (.ireturn, 1) := by decide +kernel
theorem bX9_reads_0 : tg_Snd mX9_reads 0 (fun k => ti_aload 0 (ti_iload 1 (ti_putfZ 8 16 (ti_aload 0 (ti_push (.int 0) (ti_putfI 8 11 (ti_aload 0 (ti_push (.int 1) (ti_putfI 8 15 (ti_aload 0 (ti_aload 0 (ti_getf 8 1 (ti_putfI 8 12 (ti_push (.int 0) (ti_istore 2 k))))))))))))))) 25 := tg_seq (si_aload_n (i := 0) dX9_reads_0 rfl) (tg_seq (si_iload_n (i := 1) dX9_reads_1 rfl) (tg_seq (si_putfZ (ci := 8) (f := 16) (ty := .boolean) clX9 tyX9_ok nmX9 (Nat.le_of_ble_eq_true rfl) rfl (by decide +kernel) (fun x ad h => by rcases h with rfl | rfl <;> exact ⟨rfl, rfl⟩) flX9_102 dX9_reads_2) (tg_seq (si_aload_n (i := 0) dX9_reads_5 rfl) (tg_seq (si_iconst (v := 0) dX9_reads_6 (by decide)) (tg_seq (si_putfI (ci := 8) (f := 11) (ty := .int) clX9 tyX9_ok nmX9 (Nat.le_of_ble_eq_true rfl) rfl (by decide +kernel) (fun _ _ => ⟨rfl, rfl⟩) flX9_69 dX9_reads_7) (tg_seq (si_aload_n (i := 0) dX9_reads_10 rfl) (tg_seq (si_iconst (v := 1) dX9_reads_11 (by decide)) (tg_seq (si_putfI (ci := 8) (f := 15) (ty := .int) clX9 tyX9_ok nmX9 (Nat.le_of_ble_eq_true rfl) rfl (by decide +kernel) (fun _ _ => ⟨rfl, rfl⟩) flX9_127 dX9_reads_12) (tg_seq (si_aload_n (i := 0) dX9_reads_15 rfl) (tg_seq (si_aload_n (i := 0) dX9_reads_16 rfl) (tg_seq (si_getf (ci := 8) (f := 1) clX9 (Nat.le_of_ble_eq_true rfl) rfl flX9_13 dX9_reads_17) (tg_seq (si_putfI (ci := 8) (f := 12) (ty := .int) clX9 tyX9_ok nmX9 (Nat.le_of_ble_eq_true rfl) rfl (by decide +kernel) (fun _ _ => ⟨rfl, rfl⟩) flX9_96 dX9_reads_20) (tg_seq (si_iconst (v := 0) dX9_reads_23 (by decide)) (si_istore_n (i := 2) dX9_reads_24 rfl (Nat.le_of_ble_eq_true rfl)))))))))))))))
theorem bX9_reads_25 : tg_Snd mX9_reads 25 (fun k => ti_iload 2 (ti_push (.int 4) k)) 27 := tg_seq (si_iload_n (i := 2) dX9_reads_25 rfl) (si_iconst (v := 4) dX9_reads_26 (by decide))
theorem bX9_reads_30 : tg_Snd mX9_reads 30 (fun k => ti_aload 0 (ti_getf 8 13 (ti_iload 2 (ti_aload 0 (ti_getf 8 2 (ti_iload 2 (ti_iald (ti_iast (ti_iinc 2 1 k))))))))) 45 := tg_seq (si_aload_n (i := 0) dX9_reads_30 rfl) (tg_seq (si_getf (ci := 8) (f := 13) clX9 (Nat.le_of_ble_eq_true rfl) rfl flX9_34 dX9_reads_31) (tg_seq (si_iload_n (i := 2) dX9_reads_34 rfl) (tg_seq (si_aload_n (i := 0) dX9_reads_35 rfl) (tg_seq (si_getf (ci := 8) (f := 2) clX9 (Nat.le_of_ble_eq_true rfl) rfl flX9_17 dX9_reads_36) (tg_seq (si_iload_n (i := 2) dX9_reads_39 rfl) (tg_seq (si_iald dX9_reads_40) (tg_seq (si_iast dX9_reads_41) (si_iinc (v := 1) dX9_reads_42 (by decide) (Nat.le_of_ble_eq_true rfl)))))))))
theorem bX9_reads_48 : tg_Snd mX9_reads 48 (fun k => ti_aload 0 (ti_aload 0 (ti_getf 8 0 (ti_push (.int 0) (ti_iald (ti_putfI 8 14 (ti_aload 0 k))))))) 59 := tg_seq (si_aload_n (i := 0) dX9_reads_48 rfl) (tg_seq (si_aload_n (i := 0) dX9_reads_49 rfl) (tg_seq (si_getf (ci := 8) (f := 0) clX9 (Nat.le_of_ble_eq_true rfl) rfl flX9_7 dX9_reads_50) (tg_seq (si_iconst (v := 0) dX9_reads_53 (by decide)) (tg_seq (si_iald dX9_reads_54) (tg_seq (si_putfI (ci := 8) (f := 14) (ty := .int) clX9 tyX9_ok nmX9 (Nat.le_of_ble_eq_true rfl) rfl (by decide +kernel) (fun _ _ => ⟨rfl, rfl⟩) flX9_99 dX9_reads_55) (si_aload_n (i := 0) dX9_reads_58 rfl))))))
theorem bX9_reads_62 : tg_Snd mX9_reads 62 (fun k => ti_aload 0 k) 63 := si_aload_n (i := 0) dX9_reads_62 rfl
theorem bX9_reads_66 : tg_Snd mX9_reads 66 (fun k => ti_istore 2 k) 67 := si_istore_n (i := 2) dX9_reads_66 rfl (Nat.le_of_ble_eq_true rfl)
theorem bX9_reads_67 : tg_Snd mX9_reads 67 (fun k => ti_iload 2 k) 68 := si_iload_n (i := 2) dX9_reads_67 rfl
theorem bX9_reads_71 : tg_Snd mX9_reads 71 (fun k => ti_aload 0 (ti_getf 8 10 (ti_aload 0 (ti_getf 8 6 k)))) 79 := tg_seq (si_aload_n (i := 0) dX9_reads_71 rfl) (tg_seq (si_getf (ci := 8) (f := 10) clX9 (Nat.le_of_ble_eq_true rfl) rfl flX9_72 dX9_reads_72) (tg_seq (si_aload_n (i := 0) dX9_reads_75 rfl) (si_getf (ci := 8) (f := 6) clX9 (Nat.le_of_ble_eq_true rfl) rfl flX9_58 dX9_reads_76)))
theorem bX9_reads_82 : tg_Snd mX9_reads 82 (fun k => ti_aload 0 (ti_getf 8 15 (ti_push (.int 24) k))) 88 := tg_seq (si_aload_n (i := 0) dX9_reads_82 rfl) (tg_seq (si_getf (ci := 8) (f := 15) clX9 (Nat.le_of_ble_eq_true rfl) rfl flX9_127 dX9_reads_83) (si_bipush (v := 24) dX9_reads_86 (by decide)))
theorem bX9_reads_91 : tg_Snd mX9_reads 91 (fun k => ti_aload 0 (ti_getf 8 5 (ti_aload 0 (ti_getf 8 10 (ti_iald (ti_push (.int 59) k)))))) 102 := tg_seq (si_aload_n (i := 0) dX9_reads_91 rfl) (tg_seq (si_getf (ci := 8) (f := 5) clX9 (Nat.le_of_ble_eq_true rfl) rfl flX9_24 dX9_reads_92) (tg_seq (si_aload_n (i := 0) dX9_reads_95 rfl) (tg_seq (si_getf (ci := 8) (f := 10) clX9 (Nat.le_of_ble_eq_true rfl) rfl flX9_72 dX9_reads_96) (tg_seq (si_iald dX9_reads_99) (si_bipush (v := 59) dX9_reads_100 (by decide))))))
theorem bX9_reads_105 : tg_Snd mX9_reads 105 (fun k => ti_push (.int 1) k) 106 := si_iconst (v := 1) dX9_reads_105 (by decide)
theorem bX9_reads_109 : tg_Snd mX9_reads 109 (fun k => ti_push (.int 0) k) 110 := si_iconst (v := 0) dX9_reads_109 (by decide)
theorem bX9_reads_110 : tg_Snd mX9_reads 110 (fun k => ti_istore 2 (ti_iload 2 k)) 112 := tg_seq (si_istore_n (i := 2) dX9_reads_110 rfl (Nat.le_of_ble_eq_true rfl)) (si_iload_n (i := 2) dX9_reads_111 rfl)
theorem bX9_reads_115 : tg_Snd mX9_reads 115 (fun k => ti_aload 0 k) 116 := si_aload_n (i := 0) dX9_reads_115 rfl
theorem bX9_reads_119 : tg_Snd mX9_reads 119 (fun k => ti_aload 0 k) 120 := si_aload_n (i := 0) dX9_reads_119 rfl
theorem bX9_reads_123 : tg_Snd mX9_reads 123 (fun k => ti_istore 2 (ti_aload 0 (ti_dup (ti_getf 8 15 (ti_push (.int 1) (ti_iadd (ti_putfI 8 15 k))))))) 134 := tg_seq (si_istore_n (i := 2) dX9_reads_123 rfl (Nat.le_of_ble_eq_true rfl)) (tg_seq (si_aload_n (i := 0) dX9_reads_124 rfl) (tg_seq (si_dup dX9_reads_125) (tg_seq (si_getf (ci := 8) (f := 15) clX9 (Nat.le_of_ble_eq_true rfl) rfl flX9_127 dX9_reads_126) (tg_seq (si_iconst (v := 1) dX9_reads_129 (by decide)) (tg_seq (si_iadd dX9_reads_130) (si_putfI (ci := 8) (f := 15) (ty := .int) clX9 tyX9_ok nmX9 (Nat.le_of_ble_eq_true rfl) rfl (by decide +kernel) (fun _ _ => ⟨rfl, rfl⟩) flX9_127 dX9_reads_131))))))
theorem bX9_reads_137 : tg_Snd mX9_reads 137 (fun k => ti_iload 2 k) 138 := si_iload_n (i := 2) dX9_reads_137 rfl
theorem vX9_reads_59 : tg_VS mX9_reads 59 mX9_nextToken 0 := ⟨okX9_nextToken, ⟨85, dX9_reads_59, mlX9_85⟩, insX9_nextToken, selX9_nextToken, parX9_nextToken, rfl, rfl, Nat.le_of_ble_eq_true rfl, Nat.le_of_ble_eq_true rfl⟩
theorem vX9_reads_63 : tg_VS mX9_reads 63 mX9_readsClause 0 := ⟨okX9_readsClause, ⟨130, dX9_reads_63, mlX9_130⟩, insX9_readsClause, selX9_readsClause, parX9_readsClause, rfl, rfl, Nat.le_of_ble_eq_true rfl, Nat.le_of_ble_eq_true rfl⟩
theorem vX9_reads_116 : tg_VS mX9_reads 116 mX9_nextToken 0 := ⟨okX9_nextToken, ⟨85, dX9_reads_116, mlX9_85⟩, insX9_nextToken, selX9_nextToken, parX9_nextToken, rfl, rfl, Nat.le_of_ble_eq_true rfl, Nat.le_of_ble_eq_true rfl⟩
theorem vX9_reads_120 : tg_VS mX9_reads 120 mX9_readsClause 0 := ⟨okX9_readsClause, ⟨130, dX9_reads_120, mlX9_130⟩, insX9_readsClause, selX9_readsClause, parX9_readsClause, rfl, rfl, Nat.le_of_ble_eq_true rfl, Nat.le_of_ble_eq_true rfl⟩
theorem dX9_fault_0 : decode cX9_fault 0 = .ok (.aload_n 0, 1) := by decide +kernel
theorem dX9_fault_1 : decode cX9_fault 1 = .ok (.iconst 0, 1) := by decide +kernel
theorem dX9_fault_2 : decode cX9_fault 2 = .ok (.invokevirtual 133, 3) := by decide +kernel
theorem dX9_fault_5 : decode cX9_fault 5 = .ok (.ifCond .eq 7, 3) := by decide +kernel
theorem dX9_fault_8 : decode cX9_fault 8 = .ok (.iconst (-1), 1) := by decide +kernel
theorem dX9_fault_9 : decode cX9_fault 9 = .ok (.goto 7, 3) := by decide +kernel
theorem dX9_fault_12 : decode cX9_fault 12 = .ok (.aload_n 0, 1) := by decide +kernel
theorem dX9_fault_13 : decode cX9_fault 13 = .ok (.getfield 72, 3) := by decide +kernel
theorem dX9_fault_16 : decode cX9_fault 16 = .ok (.ireturn, 1) := by decide +kernel
theorem bX9_fault_0 : tg_Snd mX9_fault 0 (fun k => ti_aload 0 (ti_push (.int 0) k)) 2 := tg_seq (si_aload_n (i := 0) dX9_fault_0 rfl) (si_iconst (v := 0) dX9_fault_1 (by decide))
theorem bX9_fault_8 : tg_Snd mX9_fault 8 (fun k => ti_push (.int (-1)) k) 9 := si_iconst (v := -1) dX9_fault_8 (by decide)
theorem bX9_fault_12 : tg_Snd mX9_fault 12 (fun k => ti_aload 0 (ti_getf 8 10 k)) 16 := tg_seq (si_aload_n (i := 0) dX9_fault_12 rfl) (si_getf (ci := 8) (f := 10) clX9 (Nat.le_of_ble_eq_true rfl) rfl flX9_72 dX9_fault_13)
theorem vX9_fault_2 : tg_VS mX9_fault 2 mX9_reads 1 := ⟨okX9_reads, ⟨133, dX9_fault_2, mlX9_133⟩, insX9_reads, selX9_reads, parX9_reads, rfl, rfl, Nat.le_of_ble_eq_true rfl, Nat.le_of_ble_eq_true rfl⟩
theorem dX9_read_0 : decode cX9_read 0 = .ok (.aload_n 0, 1) := by decide +kernel
theorem dX9_read_1 : decode cX9_read 1 = .ok (.iconst 0, 1) := by decide +kernel
theorem dX9_read_2 : decode cX9_read 2 = .ok (.invokevirtual 133, 3) := by decide +kernel
theorem dX9_read_5 : decode cX9_read 5 = .ok (.ifCond .ne 6, 3) := by decide +kernel
theorem dX9_read_8 : decode cX9_read 8 = .ok (.bipush (-4), 2) := by decide +kernel
theorem dX9_read_10 : decode cX9_read 10 = .ok (.ireturn, 1) := by decide +kernel
theorem dX9_read_11 : decode cX9_read 11 = .ok (.aload_n 0, 1) := by decide +kernel
theorem dX9_read_12 : decode cX9_read 12 = .ok (.iconst 1, 1) := by decide +kernel
theorem dX9_read_13 : decode cX9_read 13 = .ok (.invokevirtual 133, 3) := by decide +kernel
theorem dX9_read_16 : decode cX9_read 16 = .ok (.pop, 1) := by decide +kernel
theorem dX9_read_17 : decode cX9_read 17 = .ok (.aload_n 0, 1) := by decide +kernel
theorem dX9_read_18 : decode cX9_read 18 = .ok (.iconst 0, 1) := by decide +kernel
theorem dX9_read_19 : decode cX9_read 19 = .ok (.putfield 58, 3) := by decide +kernel
theorem dX9_read_22 : decode cX9_read 22 = .ok (.aload_n 0, 1) := by decide +kernel
theorem dX9_read_23 : decode cX9_read 23 = .ok (.iconst 0, 1) := by decide +kernel
theorem dX9_read_24 : decode cX9_read 24 = .ok (.putfield 137, 3) := by decide +kernel
theorem dX9_read_27 : decode cX9_read 27 = .ok (.aload_n 0, 1) := by decide +kernel
theorem dX9_read_28 : decode cX9_read 28 = .ok (.getfield 20, 3) := by decide +kernel
theorem dX9_read_31 : decode cX9_read 31 = .ok (.iconst 0, 1) := by decide +kernel
theorem dX9_read_32 : decode cX9_read 32 = .ok (.iconst 0, 1) := by decide +kernel
theorem dX9_read_33 : decode cX9_read 33 = .ok (.bastore, 1) := by decide +kernel
theorem dX9_read_34 : decode cX9_read 34 = .ok (.aload_n 0, 1) := by decide +kernel
theorem dX9_read_35 : decode cX9_read 35 = .ok (.getfield 20, 3) := by decide +kernel
theorem dX9_read_38 : decode cX9_read 38 = .ok (.iconst 1, 1) := by decide +kernel
theorem dX9_read_39 : decode cX9_read 39 = .ok (.iconst 0, 1) := by decide +kernel
theorem dX9_read_40 : decode cX9_read 40 = .ok (.bastore, 1) := by decide +kernel
theorem dX9_read_41 : decode cX9_read 41 = .ok (.aload_n 0, 1) := by decide +kernel
theorem dX9_read_42 : decode cX9_read 42 = .ok (.getfield 127, 3) := by decide +kernel
theorem dX9_read_45 : decode cX9_read 45 = .ok (.ireturn, 1) := by decide +kernel
theorem bX9_read_0 : tg_Snd mX9_read 0 (fun k => ti_aload 0 (ti_push (.int 0) k)) 2 := tg_seq (si_aload_n (i := 0) dX9_read_0 rfl) (si_iconst (v := 0) dX9_read_1 (by decide))
theorem bX9_read_8 : tg_Snd mX9_read 8 (fun k => ti_push (.int (-4)) k) 10 := si_bipush (v := -4) dX9_read_8 (by decide)
theorem bX9_read_11 : tg_Snd mX9_read 11 (fun k => ti_aload 0 (ti_push (.int 1) k)) 13 := tg_seq (si_aload_n (i := 0) dX9_read_11 rfl) (si_iconst (v := 1) dX9_read_12 (by decide))
theorem bX9_read_16 : tg_Snd mX9_read 16 (fun k => ti_pop (ti_aload 0 (ti_push (.int 0) (ti_putfI 8 6 (ti_aload 0 (ti_push (.int 0) (ti_putfI 8 3 (ti_aload 0 (ti_getf 8 4 (ti_push (.int 0) (ti_push (.int 0) (ti_zast (ti_aload 0 (ti_getf 8 4 (ti_push (.int 1) (ti_push (.int 0) (ti_zast (ti_aload 0 (ti_getf 8 15 k))))))))))))))))))) 45 := tg_seq (si_pop dX9_read_16) (tg_seq (si_aload_n (i := 0) dX9_read_17 rfl) (tg_seq (si_iconst (v := 0) dX9_read_18 (by decide)) (tg_seq (si_putfI (ci := 8) (f := 6) (ty := .int) clX9 tyX9_ok nmX9 (Nat.le_of_ble_eq_true rfl) rfl (by decide +kernel) (fun _ _ => ⟨rfl, rfl⟩) flX9_58 dX9_read_19) (tg_seq (si_aload_n (i := 0) dX9_read_22 rfl) (tg_seq (si_iconst (v := 0) dX9_read_23 (by decide)) (tg_seq (si_putfI (ci := 8) (f := 3) (ty := .int) clX9 tyX9_ok nmX9 (Nat.le_of_ble_eq_true rfl) rfl (by decide +kernel) (fun _ _ => ⟨rfl, rfl⟩) flX9_137 dX9_read_24) (tg_seq (si_aload_n (i := 0) dX9_read_27 rfl) (tg_seq (si_getf (ci := 8) (f := 4) clX9 (Nat.le_of_ble_eq_true rfl) rfl flX9_20 dX9_read_28) (tg_seq (si_iconst (v := 0) dX9_read_31 (by decide)) (tg_seq (si_iconst (v := 0) dX9_read_32 (by decide)) (tg_seq (si_zast dX9_read_33) (tg_seq (si_aload_n (i := 0) dX9_read_34 rfl) (tg_seq (si_getf (ci := 8) (f := 4) clX9 (Nat.le_of_ble_eq_true rfl) rfl flX9_20 dX9_read_35) (tg_seq (si_iconst (v := 1) dX9_read_38 (by decide)) (tg_seq (si_iconst (v := 0) dX9_read_39 (by decide)) (tg_seq (si_zast dX9_read_40) (tg_seq (si_aload_n (i := 0) dX9_read_41 rfl) (si_getf (ci := 8) (f := 15) clX9 (Nat.le_of_ble_eq_true rfl) rfl flX9_127 dX9_read_42))))))))))))))))))
theorem vX9_read_2 : tg_VS mX9_read 2 mX9_reads 1 := ⟨okX9_reads, ⟨133, dX9_read_2, mlX9_133⟩, insX9_reads, selX9_reads, parX9_reads, rfl, rfl, Nat.le_of_ble_eq_true rfl, Nat.le_of_ble_eq_true rfl⟩
theorem vX9_read_13 : tg_VS mX9_read 13 mX9_reads 1 := ⟨okX9_reads, ⟨133, dX9_read_13, mlX9_133⟩, insX9_reads, selX9_reads, parX9_reads, rfl, rfl, Nat.le_of_ble_eq_true rfl, Nat.le_of_ble_eq_true rfl⟩
theorem dX9_put_0 : decode cX9_put 0 = .ok (.aload_n 0, 1) := by decide +kernel
theorem dX9_put_1 : decode cX9_put 1 = .ok (.getfield 7, 3) := by decide +kernel
theorem dX9_put_4 : decode cX9_put 4 = .ok (.iload_n 1, 1) := by decide +kernel
theorem dX9_put_5 : decode cX9_put 5 = .ok (.iconst 0, 1) := by decide +kernel
theorem dX9_put_6 : decode cX9_put 6 = .ok (.iadd, 1) := by decide +kernel
theorem dX9_put_7 : decode cX9_put 7 = .ok (.iaload, 1) := by decide +kernel
theorem dX9_put_8 : decode cX9_put 8 = .ok (.istore 4, 2) := by decide +kernel
theorem dX9_put_10 : decode cX9_put 10 = .ok (.aload_n 0, 1) := by decide +kernel
theorem dX9_put_11 : decode cX9_put 11 = .ok (.getfield 7, 3) := by decide +kernel
theorem dX9_put_14 : decode cX9_put 14 = .ok (.iload_n 1, 1) := by decide +kernel
theorem dX9_put_15 : decode cX9_put 15 = .ok (.iconst 2, 1) := by decide +kernel
theorem dX9_put_16 : decode cX9_put 16 = .ok (.iadd, 1) := by decide +kernel
theorem dX9_put_17 : decode cX9_put 17 = .ok (.iload 4, 2) := by decide +kernel
theorem dX9_put_19 : decode cX9_put 19 = .ok (.iadd, 1) := by decide +kernel
theorem dX9_put_20 : decode cX9_put 20 = .ok (.iload_n 2, 1) := by decide +kernel
theorem dX9_put_21 : decode cX9_put 21 = .ok (.iastore, 1) := by decide +kernel
theorem dX9_put_22 : decode cX9_put 22 = .ok (.aload_n 0, 1) := by decide +kernel
theorem dX9_put_23 : decode cX9_put 23 = .ok (.getfield 7, 3) := by decide +kernel
theorem dX9_put_26 : decode cX9_put 26 = .ok (.iload_n 1, 1) := by decide +kernel
theorem dX9_put_27 : decode cX9_put 27 = .ok (.bipush 42, 2) := by decide +kernel
theorem dX9_put_29 : decode cX9_put 29 = .ok (.iadd, 1) := by decide +kernel
theorem dX9_put_30 : decode cX9_put 30 = .ok (.iload 4, 2) := by decide +kernel
theorem dX9_put_32 : decode cX9_put 32 = .ok (.iadd, 1) := by decide +kernel
theorem dX9_put_33 : decode cX9_put 33 = .ok (.iload_n 3, 1) := by decide +kernel
theorem dX9_put_34 : decode cX9_put 34 = .ok (.iastore, 1) := by decide +kernel
theorem dX9_put_35 : decode cX9_put 35 = .ok (.aload_n 0, 1) := by decide +kernel
theorem dX9_put_36 : decode cX9_put 36 = .ok (.getfield 7, 3) := by decide +kernel
theorem dX9_put_39 : decode cX9_put 39 = .ok (.iload_n 1, 1) := by decide +kernel
theorem dX9_put_40 : decode cX9_put 40 = .ok (.iconst 0, 1) := by decide +kernel
theorem dX9_put_41 : decode cX9_put 41 = .ok (.iadd, 1) := by decide +kernel
theorem dX9_put_42 : decode cX9_put 42 = .ok (.dup2, 1) := by decide +kernel
theorem dX9_put_43 : decode cX9_put 43 = .ok (.iaload, 1) := by decide +kernel
theorem dX9_put_44 : decode cX9_put 44 = .ok (.iconst 1, 1) := by decide +kernel
theorem dX9_put_45 : decode cX9_put 45 = .ok (.iadd, 1) := by decide +kernel
theorem dX9_put_46 : decode cX9_put 46 = .ok (.iastore, 1) := by decide +kernel
theorem dX9_put_47 : decode cX9_put 47 = .ok (.return_, 1) := by decide +kernel
theorem bX9_put_0 : tg_Snd mX9_put 0 (fun k => ti_aload 0 (ti_getf 8 0 (ti_iload 1 (ti_push (.int 0) (ti_iadd (ti_iald (ti_istore 4 (ti_aload 0 (ti_getf 8 0 (ti_iload 1 (ti_push (.int 2) (ti_iadd (ti_iload 4 (ti_iadd (ti_iload 2 (ti_iast (ti_aload 0 (ti_getf 8 0 (ti_iload 1 (ti_push (.int 42) (ti_iadd (ti_iload 4 (ti_iadd (ti_iload 3 (ti_iast (ti_aload 0 (ti_getf 8 0 (ti_iload 1 (ti_push (.int 0) (ti_iadd (ti_dup2 (ti_iald (ti_push (.int 1) (ti_iadd (ti_iast k))))))))))))))))))))))))))))))))))) 47 := tg_seq (si_aload_n (i := 0) dX9_put_0 rfl) (tg_seq (si_getf (ci := 8) (f := 0) clX9 (Nat.le_of_ble_eq_true rfl) rfl flX9_7 dX9_put_1) (tg_seq (si_iload_n (i := 1) dX9_put_4 rfl) (tg_seq (si_iconst (v := 0) dX9_put_5 (by decide)) (tg_seq (si_iadd dX9_put_6) (tg_seq (si_iald dX9_put_7) (tg_seq (si_istore (i := 4) dX9_put_8 (Nat.le_of_ble_eq_true rfl)) (tg_seq (si_aload_n (i := 0) dX9_put_10 rfl) (tg_seq (si_getf (ci := 8) (f := 0) clX9 (Nat.le_of_ble_eq_true rfl) rfl flX9_7 dX9_put_11) (tg_seq (si_iload_n (i := 1) dX9_put_14 rfl) (tg_seq (si_iconst (v := 2) dX9_put_15 (by decide)) (tg_seq (si_iadd dX9_put_16) (tg_seq (si_iload (i := 4) dX9_put_17) (tg_seq (si_iadd dX9_put_19) (tg_seq (si_iload_n (i := 2) dX9_put_20 rfl) (tg_seq (si_iast dX9_put_21) (tg_seq (si_aload_n (i := 0) dX9_put_22 rfl) (tg_seq (si_getf (ci := 8) (f := 0) clX9 (Nat.le_of_ble_eq_true rfl) rfl flX9_7 dX9_put_23) (tg_seq (si_iload_n (i := 1) dX9_put_26 rfl) (tg_seq (si_bipush (v := 42) dX9_put_27 (by decide)) (tg_seq (si_iadd dX9_put_29) (tg_seq (si_iload (i := 4) dX9_put_30) (tg_seq (si_iadd dX9_put_32) (tg_seq (si_iload_n (i := 3) dX9_put_33 rfl) (tg_seq (si_iast dX9_put_34) (tg_seq (si_aload_n (i := 0) dX9_put_35 rfl) (tg_seq (si_getf (ci := 8) (f := 0) clX9 (Nat.le_of_ble_eq_true rfl) rfl flX9_7 dX9_put_36) (tg_seq (si_iload_n (i := 1) dX9_put_39 rfl) (tg_seq (si_iconst (v := 0) dX9_put_40 (by decide)) (tg_seq (si_iadd dX9_put_41) (tg_seq (si_dup2 dX9_put_42) (tg_seq (si_iald dX9_put_43) (tg_seq (si_iconst (v := 1) dX9_put_44 (by decide)) (tg_seq (si_iadd dX9_put_45) (si_iast dX9_put_46))))))))))))))))))))))))))))))))))
theorem dX9_takeOut_0 : decode cX9_takeOut 0 = .ok (.aload_n 0, 1) := by decide +kernel
theorem dX9_takeOut_1 : decode cX9_takeOut 1 = .ok (.getfield 7, 3) := by decide +kernel
theorem dX9_takeOut_4 : decode cX9_takeOut 4 = .ok (.iload_n 1, 1) := by decide +kernel
theorem dX9_takeOut_5 : decode cX9_takeOut 5 = .ok (.iconst 0, 1) := by decide +kernel
theorem dX9_takeOut_6 : decode cX9_takeOut 6 = .ok (.iadd, 1) := by decide +kernel
theorem dX9_takeOut_7 : decode cX9_takeOut 7 = .ok (.dup2, 1) := by decide +kernel
theorem dX9_takeOut_8 : decode cX9_takeOut 8 = .ok (.iaload, 1) := by decide +kernel
theorem dX9_takeOut_9 : decode cX9_takeOut 9 = .ok (.iconst 1, 1) := by decide +kernel
theorem dX9_takeOut_10 : decode cX9_takeOut 10 = .ok (.isub, 1) := by decide +kernel
theorem dX9_takeOut_11 : decode cX9_takeOut 11 = .ok (.iastore, 1) := by decide +kernel
theorem dX9_takeOut_12 : decode cX9_takeOut 12 = .ok (.iload_n 2, 1) := by decide +kernel
theorem dX9_takeOut_13 : decode cX9_takeOut 13 = .ok (.istore_n 3, 1) := by decide +kernel
theorem dX9_takeOut_14 : decode cX9_takeOut 14 = .ok (.iload_n 3, 1) := by decide +kernel
theorem dX9_takeOut_15 : decode cX9_takeOut 15 = .ok (.aload_n 0, 1) := by decide +kernel
theorem dX9_takeOut_16 : decode cX9_takeOut 16 = .ok (.getfield 7, 3) := by decide +kernel
theorem dX9_takeOut_19 : decode cX9_takeOut 19 = .ok (.iload_n 1, 1) := by decide +kernel
theorem dX9_takeOut_20 : decode cX9_takeOut 20 = .ok (.iconst 0, 1) := by decide +kernel
theorem dX9_takeOut_21 : decode cX9_takeOut 21 = .ok (.iadd, 1) := by decide +kernel
theorem dX9_takeOut_22 : decode cX9_takeOut 22 = .ok (.iaload, 1) := by decide +kernel
theorem dX9_takeOut_23 : decode cX9_takeOut 23 = .ok (.if_icmp .ge 55, 3) := by decide +kernel
theorem dX9_takeOut_26 : decode cX9_takeOut 26 = .ok (.aload_n 0, 1) := by decide +kernel
theorem dX9_takeOut_27 : decode cX9_takeOut 27 = .ok (.getfield 7, 3) := by decide +kernel
theorem dX9_takeOut_30 : decode cX9_takeOut 30 = .ok (.iload_n 1, 1) := by decide +kernel
theorem dX9_takeOut_31 : decode cX9_takeOut 31 = .ok (.iconst 2, 1) := by decide +kernel
theorem dX9_takeOut_32 : decode cX9_takeOut 32 = .ok (.iadd, 1) := by decide +kernel
theorem dX9_takeOut_33 : decode cX9_takeOut 33 = .ok (.iload_n 3, 1) := by decide +kernel
theorem dX9_takeOut_34 : decode cX9_takeOut 34 = .ok (.iadd, 1) := by decide +kernel
theorem dX9_takeOut_35 : decode cX9_takeOut 35 = .ok (.aload_n 0, 1) := by decide +kernel
theorem dX9_takeOut_36 : decode cX9_takeOut 36 = .ok (.getfield 7, 3) := by decide +kernel
theorem dX9_takeOut_39 : decode cX9_takeOut 39 = .ok (.iload_n 1, 1) := by decide +kernel
theorem dX9_takeOut_40 : decode cX9_takeOut 40 = .ok (.iconst 2, 1) := by decide +kernel
theorem dX9_takeOut_41 : decode cX9_takeOut 41 = .ok (.iadd, 1) := by decide +kernel
theorem dX9_takeOut_42 : decode cX9_takeOut 42 = .ok (.iload_n 3, 1) := by decide +kernel
theorem dX9_takeOut_43 : decode cX9_takeOut 43 = .ok (.iadd, 1) := by decide +kernel
theorem dX9_takeOut_44 : decode cX9_takeOut 44 = .ok (.iconst 1, 1) := by decide +kernel
theorem dX9_takeOut_45 : decode cX9_takeOut 45 = .ok (.iadd, 1) := by decide +kernel
theorem dX9_takeOut_46 : decode cX9_takeOut 46 = .ok (.iaload, 1) := by decide +kernel
theorem dX9_takeOut_47 : decode cX9_takeOut 47 = .ok (.iastore, 1) := by decide +kernel
theorem dX9_takeOut_48 : decode cX9_takeOut 48 = .ok (.aload_n 0, 1) := by decide +kernel
theorem dX9_takeOut_49 : decode cX9_takeOut 49 = .ok (.getfield 7, 3) := by decide +kernel
theorem dX9_takeOut_52 : decode cX9_takeOut 52 = .ok (.iload_n 1, 1) := by decide +kernel
theorem dX9_takeOut_53 : decode cX9_takeOut 53 = .ok (.bipush 42, 2) := by decide +kernel
theorem dX9_takeOut_55 : decode cX9_takeOut 55 = .ok (.iadd, 1) := by decide +kernel
theorem dX9_takeOut_56 : decode cX9_takeOut 56 = .ok (.iload_n 3, 1) := by decide +kernel
theorem dX9_takeOut_57 : decode cX9_takeOut 57 = .ok (.iadd, 1) := by decide +kernel
theorem dX9_takeOut_58 : decode cX9_takeOut 58 = .ok (.aload_n 0, 1) := by decide +kernel
theorem dX9_takeOut_59 : decode cX9_takeOut 59 = .ok (.getfield 7, 3) := by decide +kernel
theorem dX9_takeOut_62 : decode cX9_takeOut 62 = .ok (.iload_n 1, 1) := by decide +kernel
theorem dX9_takeOut_63 : decode cX9_takeOut 63 = .ok (.bipush 42, 2) := by decide +kernel
theorem dX9_takeOut_65 : decode cX9_takeOut 65 = .ok (.iadd, 1) := by decide +kernel
theorem dX9_takeOut_66 : decode cX9_takeOut 66 = .ok (.iload_n 3, 1) := by decide +kernel
theorem dX9_takeOut_67 : decode cX9_takeOut 67 = .ok (.iadd, 1) := by decide +kernel
theorem dX9_takeOut_68 : decode cX9_takeOut 68 = .ok (.iconst 1, 1) := by decide +kernel
theorem dX9_takeOut_69 : decode cX9_takeOut 69 = .ok (.iadd, 1) := by decide +kernel
theorem dX9_takeOut_70 : decode cX9_takeOut 70 = .ok (.iaload, 1) := by decide +kernel
theorem dX9_takeOut_71 : decode cX9_takeOut 71 = .ok (.iastore, 1) := by decide +kernel
theorem dX9_takeOut_72 : decode cX9_takeOut 72 = .ok (.iinc 3 1, 3) := by decide +kernel
theorem dX9_takeOut_75 : decode cX9_takeOut 75 = .ok (.goto (-61), 3) := by decide +kernel
theorem dX9_takeOut_78 : decode cX9_takeOut 78 = .ok (.return_, 1) := by decide +kernel
theorem bX9_takeOut_0 : tg_Snd mX9_takeOut 0 (fun k => ti_aload 0 (ti_getf 8 0 (ti_iload 1 (ti_push (.int 0) (ti_iadd (ti_dup2 (ti_iald (ti_push (.int 1) (ti_isub (ti_iast (ti_iload 2 (ti_istore 3 k)))))))))))) 14 := tg_seq (si_aload_n (i := 0) dX9_takeOut_0 rfl) (tg_seq (si_getf (ci := 8) (f := 0) clX9 (Nat.le_of_ble_eq_true rfl) rfl flX9_7 dX9_takeOut_1) (tg_seq (si_iload_n (i := 1) dX9_takeOut_4 rfl) (tg_seq (si_iconst (v := 0) dX9_takeOut_5 (by decide)) (tg_seq (si_iadd dX9_takeOut_6) (tg_seq (si_dup2 dX9_takeOut_7) (tg_seq (si_iald dX9_takeOut_8) (tg_seq (si_iconst (v := 1) dX9_takeOut_9 (by decide)) (tg_seq (si_isub dX9_takeOut_10) (tg_seq (si_iast dX9_takeOut_11) (tg_seq (si_iload_n (i := 2) dX9_takeOut_12 rfl) (si_istore_n (i := 3) dX9_takeOut_13 rfl (Nat.le_of_ble_eq_true rfl))))))))))))
theorem bX9_takeOut_14 : tg_Snd mX9_takeOut 14 (fun k => ti_iload 3 (ti_aload 0 (ti_getf 8 0 (ti_iload 1 (ti_push (.int 0) (ti_iadd (ti_iald k))))))) 23 := tg_seq (si_iload_n (i := 3) dX9_takeOut_14 rfl) (tg_seq (si_aload_n (i := 0) dX9_takeOut_15 rfl) (tg_seq (si_getf (ci := 8) (f := 0) clX9 (Nat.le_of_ble_eq_true rfl) rfl flX9_7 dX9_takeOut_16) (tg_seq (si_iload_n (i := 1) dX9_takeOut_19 rfl) (tg_seq (si_iconst (v := 0) dX9_takeOut_20 (by decide)) (tg_seq (si_iadd dX9_takeOut_21) (si_iald dX9_takeOut_22))))))
theorem bX9_takeOut_26 : tg_Snd mX9_takeOut 26 (fun k => ti_aload 0 (ti_getf 8 0 (ti_iload 1 (ti_push (.int 2) (ti_iadd (ti_iload 3 (ti_iadd (ti_aload 0 (ti_getf 8 0 (ti_iload 1 (ti_push (.int 2) (ti_iadd (ti_iload 3 (ti_iadd (ti_push (.int 1) (ti_iadd (ti_iald (ti_iast (ti_aload 0 (ti_getf 8 0 (ti_iload 1 (ti_push (.int 42) (ti_iadd (ti_iload 3 (ti_iadd (ti_aload 0 (ti_getf 8 0 (ti_iload 1 (ti_push (.int 42) (ti_iadd (ti_iload 3 (ti_iadd (ti_push (.int 1) (ti_iadd (ti_iald (ti_iast (ti_iinc 3 1 k))))))))))))))))))))))))))))))))))))) 75 := tg_seq (si_aload_n (i := 0) dX9_takeOut_26 rfl) (tg_seq (si_getf (ci := 8) (f := 0) clX9 (Nat.le_of_ble_eq_true rfl) rfl flX9_7 dX9_takeOut_27) (tg_seq (si_iload_n (i := 1) dX9_takeOut_30 rfl) (tg_seq (si_iconst (v := 2) dX9_takeOut_31 (by decide)) (tg_seq (si_iadd dX9_takeOut_32) (tg_seq (si_iload_n (i := 3) dX9_takeOut_33 rfl) (tg_seq (si_iadd dX9_takeOut_34) (tg_seq (si_aload_n (i := 0) dX9_takeOut_35 rfl) (tg_seq (si_getf (ci := 8) (f := 0) clX9 (Nat.le_of_ble_eq_true rfl) rfl flX9_7 dX9_takeOut_36) (tg_seq (si_iload_n (i := 1) dX9_takeOut_39 rfl) (tg_seq (si_iconst (v := 2) dX9_takeOut_40 (by decide)) (tg_seq (si_iadd dX9_takeOut_41) (tg_seq (si_iload_n (i := 3) dX9_takeOut_42 rfl) (tg_seq (si_iadd dX9_takeOut_43) (tg_seq (si_iconst (v := 1) dX9_takeOut_44 (by decide)) (tg_seq (si_iadd dX9_takeOut_45) (tg_seq (si_iald dX9_takeOut_46) (tg_seq (si_iast dX9_takeOut_47) (tg_seq (si_aload_n (i := 0) dX9_takeOut_48 rfl) (tg_seq (si_getf (ci := 8) (f := 0) clX9 (Nat.le_of_ble_eq_true rfl) rfl flX9_7 dX9_takeOut_49) (tg_seq (si_iload_n (i := 1) dX9_takeOut_52 rfl) (tg_seq (si_bipush (v := 42) dX9_takeOut_53 (by decide)) (tg_seq (si_iadd dX9_takeOut_55) (tg_seq (si_iload_n (i := 3) dX9_takeOut_56 rfl) (tg_seq (si_iadd dX9_takeOut_57) (tg_seq (si_aload_n (i := 0) dX9_takeOut_58 rfl) (tg_seq (si_getf (ci := 8) (f := 0) clX9 (Nat.le_of_ble_eq_true rfl) rfl flX9_7 dX9_takeOut_59) (tg_seq (si_iload_n (i := 1) dX9_takeOut_62 rfl) (tg_seq (si_bipush (v := 42) dX9_takeOut_63 (by decide)) (tg_seq (si_iadd dX9_takeOut_65) (tg_seq (si_iload_n (i := 3) dX9_takeOut_66 rfl) (tg_seq (si_iadd dX9_takeOut_67) (tg_seq (si_iconst (v := 1) dX9_takeOut_68 (by decide)) (tg_seq (si_iadd dX9_takeOut_69) (tg_seq (si_iald dX9_takeOut_70) (tg_seq (si_iast dX9_takeOut_71) (si_iinc (v := 1) dX9_takeOut_72 (by decide) (Nat.le_of_ble_eq_true rfl)))))))))))))))))))))))))))))))))))))
theorem dX9_figure_0 : decode cX9_figure 0 = .ok (.iload_n 1, 1) := by decide +kernel
theorem dX9_figure_1 : decode cX9_figure 1 = .ok (.istore_n 3, 1) := by decide +kernel
theorem dX9_figure_2 : decode cX9_figure 2 = .ok (.iload_n 2, 1) := by decide +kernel
theorem dX9_figure_3 : decode cX9_figure 3 = .ok (.iconst 1, 1) := by decide +kernel
theorem dX9_figure_4 : decode cX9_figure 4 = .ok (.iadd, 1) := by decide +kernel
theorem dX9_figure_5 : decode cX9_figure 5 = .ok (.istore 4, 2) := by decide +kernel
theorem dX9_figure_7 : decode cX9_figure 7 = .ok (.iload 4, 2) := by decide +kernel
theorem dX9_figure_9 : decode cX9_figure 9 = .ok (.aload_n 0, 1) := by decide +kernel
theorem dX9_figure_10 : decode cX9_figure 10 = .ok (.getfield 13, 3) := by decide +kernel
theorem dX9_figure_13 : decode cX9_figure 13 = .ok (.if_icmp .ge 14, 3) := by decide +kernel
theorem dX9_figure_16 : decode cX9_figure 16 = .ok (.iload_n 3, 1) := by decide +kernel
theorem dX9_figure_17 : decode cX9_figure 17 = .ok (.bipush 7, 2) := by decide +kernel
theorem dX9_figure_19 : decode cX9_figure 19 = .ok (.idiv, 1) := by decide +kernel
theorem dX9_figure_20 : decode cX9_figure 20 = .ok (.istore_n 3, 1) := by decide +kernel
theorem dX9_figure_21 : decode cX9_figure 21 = .ok (.iinc 4 1, 3) := by decide +kernel
theorem dX9_figure_24 : decode cX9_figure 24 = .ok (.goto (-17), 3) := by decide +kernel
theorem dX9_figure_27 : decode cX9_figure 27 = .ok (.iload_n 3, 1) := by decide +kernel
theorem dX9_figure_28 : decode cX9_figure 28 = .ok (.bipush 7, 2) := by decide +kernel
theorem dX9_figure_30 : decode cX9_figure 30 = .ok (.irem, 1) := by decide +kernel
theorem dX9_figure_31 : decode cX9_figure 31 = .ok (.ireturn, 1) := by decide +kernel
theorem bX9_figure_0 : tg_Snd mX9_figure 0 (fun k => ti_iload 1 (ti_istore 3 (ti_iload 2 (ti_push (.int 1) (ti_iadd (ti_istore 4 k)))))) 7 := tg_seq (si_iload_n (i := 1) dX9_figure_0 rfl) (tg_seq (si_istore_n (i := 3) dX9_figure_1 rfl (Nat.le_of_ble_eq_true rfl)) (tg_seq (si_iload_n (i := 2) dX9_figure_2 rfl) (tg_seq (si_iconst (v := 1) dX9_figure_3 (by decide)) (tg_seq (si_iadd dX9_figure_4) (si_istore (i := 4) dX9_figure_5 (Nat.le_of_ble_eq_true rfl))))))
theorem bX9_figure_7 : tg_Snd mX9_figure 7 (fun k => ti_iload 4 (ti_aload 0 (ti_getf 8 1 k))) 13 := tg_seq (si_iload (i := 4) dX9_figure_7) (tg_seq (si_aload_n (i := 0) dX9_figure_9 rfl) (si_getf (ci := 8) (f := 1) clX9 (Nat.le_of_ble_eq_true rfl) rfl flX9_13 dX9_figure_10))
theorem bX9_figure_16 : tg_Snd mX9_figure 16 (fun k => ti_iload 3 (ti_push (.int 7) (ti_idiv (ti_istore 3 (ti_iinc 4 1 k))))) 24 := tg_seq (si_iload_n (i := 3) dX9_figure_16 rfl) (tg_seq (si_bipush (v := 7) dX9_figure_17 (by decide)) (tg_seq (si_idiv dX9_figure_19) (tg_seq (si_istore_n (i := 3) dX9_figure_20 rfl (Nat.le_of_ble_eq_true rfl)) (si_iinc (v := 1) dX9_figure_21 (by decide) (Nat.le_of_ble_eq_true rfl)))))
theorem bX9_figure_27 : tg_Snd mX9_figure 27 (fun k => ti_iload 3 (ti_push (.int 7) (ti_irem k))) 31 := tg_seq (si_iload_n (i := 3) dX9_figure_27 rfl) (tg_seq (si_bipush (v := 7) dX9_figure_28 (by decide)) (si_irem dX9_figure_30))
theorem dX9_codes_0 : decode cX9_codes 0 = .ok (.iconst 1, 1) := by decide +kernel
theorem dX9_codes_1 : decode cX9_codes 1 = .ok (.istore_n 1, 1) := by decide +kernel
theorem dX9_codes_2 : decode cX9_codes 2 = .ok (.iconst 0, 1) := by decide +kernel
theorem dX9_codes_3 : decode cX9_codes 3 = .ok (.istore_n 2, 1) := by decide +kernel
theorem dX9_codes_4 : decode cX9_codes 4 = .ok (.iload_n 2, 1) := by decide +kernel
theorem dX9_codes_5 : decode cX9_codes 5 = .ok (.aload_n 0, 1) := by decide +kernel
theorem dX9_codes_6 : decode cX9_codes 6 = .ok (.getfield 13, 3) := by decide +kernel
theorem dX9_codes_9 : decode cX9_codes 9 = .ok (.if_icmp .ge 14, 3) := by decide +kernel
theorem dX9_codes_12 : decode cX9_codes 12 = .ok (.iload_n 1, 1) := by decide +kernel
theorem dX9_codes_13 : decode cX9_codes 13 = .ok (.bipush 7, 2) := by decide +kernel
theorem dX9_codes_15 : decode cX9_codes 15 = .ok (.imul, 1) := by decide +kernel
theorem dX9_codes_16 : decode cX9_codes 16 = .ok (.istore_n 1, 1) := by decide +kernel
theorem dX9_codes_17 : decode cX9_codes 17 = .ok (.iinc 2 1, 3) := by decide +kernel
theorem dX9_codes_20 : decode cX9_codes 20 = .ok (.goto (-16), 3) := by decide +kernel
theorem dX9_codes_23 : decode cX9_codes 23 = .ok (.iload_n 1, 1) := by decide +kernel
theorem dX9_codes_24 : decode cX9_codes 24 = .ok (.ireturn, 1) := by decide +kernel
theorem bX9_codes_0 : tg_Snd mX9_codes 0 (fun k => ti_push (.int 1) (ti_istore 1 (ti_push (.int 0) (ti_istore 2 k)))) 4 := tg_seq (si_iconst (v := 1) dX9_codes_0 (by decide)) (tg_seq (si_istore_n (i := 1) dX9_codes_1 rfl (Nat.le_of_ble_eq_true rfl)) (tg_seq (si_iconst (v := 0) dX9_codes_2 (by decide)) (si_istore_n (i := 2) dX9_codes_3 rfl (Nat.le_of_ble_eq_true rfl))))
theorem bX9_codes_4 : tg_Snd mX9_codes 4 (fun k => ti_iload 2 (ti_aload 0 (ti_getf 8 1 k))) 9 := tg_seq (si_iload_n (i := 2) dX9_codes_4 rfl) (tg_seq (si_aload_n (i := 0) dX9_codes_5 rfl) (si_getf (ci := 8) (f := 1) clX9 (Nat.le_of_ble_eq_true rfl) rfl flX9_13 dX9_codes_6))
theorem bX9_codes_12 : tg_Snd mX9_codes 12 (fun k => ti_iload 1 (ti_push (.int 7) (ti_imul (ti_istore 1 (ti_iinc 2 1 k))))) 20 := tg_seq (si_iload_n (i := 1) dX9_codes_12 rfl) (tg_seq (si_bipush (v := 7) dX9_codes_13 (by decide)) (tg_seq (si_imul dX9_codes_15) (tg_seq (si_istore_n (i := 1) dX9_codes_16 rfl (Nat.le_of_ble_eq_true rfl)) (si_iinc (v := 1) dX9_codes_17 (by decide) (Nat.le_of_ble_eq_true rfl)))))
theorem bX9_codes_23 : tg_Snd mX9_codes 23 (fun k => ti_iload 1 k) 24 := si_iload_n (i := 1) dX9_codes_23 rfl
theorem dX9_isCell_0 : decode cX9_isCell 0 = .ok (.iload_n 1, 1) := by decide +kernel
theorem dX9_isCell_1 : decode cX9_isCell 1 = .ok (.i2l, 1) := by decide +kernel
theorem dX9_isCell_2 : decode cX9_isCell 2 = .ok (.lconst 0, 1) := by decide +kernel
theorem dX9_isCell_3 : decode cX9_isCell 3 = .ok (.aload_n 0, 1) := by decide +kernel
theorem dX9_isCell_4 : decode cX9_isCell 4 = .ok (.invokevirtual 140, 3) := by decide +kernel
theorem dX9_isCell_7 : decode cX9_isCell 7 = .ok (.iconst 1, 1) := by decide +kernel
theorem dX9_isCell_8 : decode cX9_isCell 8 = .ok (.isub, 1) := by decide +kernel
theorem dX9_isCell_9 : decode cX9_isCell 9 = .ok (.i2l, 1) := by decide +kernel
theorem dX9_isCell_10 : decode cX9_isCell 10 = .ok (.invokestatic 54, 3) := by decide +kernel
theorem dX9_isCell_13 : decode cX9_isCell 13 = .ok (.istore_n 2, 1) := by decide +kernel
theorem dX9_isCell_14 : decode cX9_isCell 14 = .ok (.iconst 0, 1) := by decide +kernel
theorem dX9_isCell_15 : decode cX9_isCell 15 = .ok (.istore_n 3, 1) := by decide +kernel
theorem dX9_isCell_16 : decode cX9_isCell 16 = .ok (.iload_n 3, 1) := by decide +kernel
theorem dX9_isCell_17 : decode cX9_isCell 17 = .ok (.aload_n 0, 1) := by decide +kernel
theorem dX9_isCell_18 : decode cX9_isCell 18 = .ok (.getfield 13, 3) := by decide +kernel
theorem dX9_isCell_21 : decode cX9_isCell 21 = .ok (.if_icmp .ge 34, 3) := by decide +kernel
theorem dX9_isCell_24 : decode cX9_isCell 24 = .ok (.iload_n 2, 1) := by decide +kernel
theorem dX9_isCell_25 : decode cX9_isCell 25 = .ok (.ifCond .eq 30, 3) := by decide +kernel
theorem dX9_isCell_28 : decode cX9_isCell 28 = .ok (.aload_n 0, 1) := by decide +kernel
theorem dX9_isCell_29 : decode cX9_isCell 29 = .ok (.iload_n 1, 1) := by decide +kernel
theorem dX9_isCell_30 : decode cX9_isCell 30 = .ok (.iload_n 3, 1) := by decide +kernel
theorem dX9_isCell_31 : decode cX9_isCell 31 = .ok (.invokevirtual 143, 3) := by decide +kernel
theorem dX9_isCell_34 : decode cX9_isCell 34 = .ok (.aload_n 0, 1) := by decide +kernel
theorem dX9_isCell_35 : decode cX9_isCell 35 = .ok (.getfield 17, 3) := by decide +kernel
theorem dX9_isCell_38 : decode cX9_isCell 38 = .ok (.iload_n 3, 1) := by decide +kernel
theorem dX9_isCell_39 : decode cX9_isCell 39 = .ok (.iaload, 1) := by decide +kernel
theorem dX9_isCell_40 : decode cX9_isCell 40 = .ok (.if_icmp .gt 7, 3) := by decide +kernel
theorem dX9_isCell_43 : decode cX9_isCell 43 = .ok (.iconst 1, 1) := by decide +kernel
theorem dX9_isCell_44 : decode cX9_isCell 44 = .ok (.goto 4, 3) := by decide +kernel
theorem dX9_isCell_47 : decode cX9_isCell 47 = .ok (.iconst 0, 1) := by decide +kernel
theorem dX9_isCell_48 : decode cX9_isCell 48 = .ok (.istore_n 2, 1) := by decide +kernel
theorem dX9_isCell_49 : decode cX9_isCell 49 = .ok (.iinc 3 1, 3) := by decide +kernel
theorem dX9_isCell_52 : decode cX9_isCell 52 = .ok (.goto (-36), 3) := by decide +kernel
theorem dX9_isCell_55 : decode cX9_isCell 55 = .ok (.iload_n 2, 1) := by decide +kernel
theorem dX9_isCell_56 : decode cX9_isCell 56 = .ok (.ireturn, 1) := by decide +kernel
theorem bX9_isCell_0 : tg_Snd mX9_isCell 0 (fun k => ti_iload 1 (ti_i2l (ti_push (.long 0) (ti_aload 0 k)))) 4 := tg_seq (si_iload_n (i := 1) dX9_isCell_0 rfl) (tg_seq (si_i2l dX9_isCell_1) (tg_seq (si_lconst (v := 0) dX9_isCell_2 (by decide)) (si_aload_n (i := 0) dX9_isCell_3 rfl)))
theorem bX9_isCell_7 : tg_Snd mX9_isCell 7 (fun k => ti_push (.int 1) (ti_isub (ti_i2l k))) 10 := tg_seq (si_iconst (v := 1) dX9_isCell_7 (by decide)) (tg_seq (si_isub dX9_isCell_8) (si_i2l dX9_isCell_9))
theorem bX9_isCell_13 : tg_Snd mX9_isCell 13 (fun k => ti_istore 2 (ti_push (.int 0) (ti_istore 3 k))) 16 := tg_seq (si_istore_n (i := 2) dX9_isCell_13 rfl (Nat.le_of_ble_eq_true rfl)) (tg_seq (si_iconst (v := 0) dX9_isCell_14 (by decide)) (si_istore_n (i := 3) dX9_isCell_15 rfl (Nat.le_of_ble_eq_true rfl)))
theorem bX9_isCell_16 : tg_Snd mX9_isCell 16 (fun k => ti_iload 3 (ti_aload 0 (ti_getf 8 1 k))) 21 := tg_seq (si_iload_n (i := 3) dX9_isCell_16 rfl) (tg_seq (si_aload_n (i := 0) dX9_isCell_17 rfl) (si_getf (ci := 8) (f := 1) clX9 (Nat.le_of_ble_eq_true rfl) rfl flX9_13 dX9_isCell_18))
theorem bX9_isCell_24 : tg_Snd mX9_isCell 24 (fun k => ti_iload 2 k) 25 := si_iload_n (i := 2) dX9_isCell_24 rfl
theorem bX9_isCell_28 : tg_Snd mX9_isCell 28 (fun k => ti_aload 0 (ti_iload 1 (ti_iload 3 k))) 31 := tg_seq (si_aload_n (i := 0) dX9_isCell_28 rfl) (tg_seq (si_iload_n (i := 1) dX9_isCell_29 rfl) (si_iload_n (i := 3) dX9_isCell_30 rfl))
theorem bX9_isCell_34 : tg_Snd mX9_isCell 34 (fun k => ti_aload 0 (ti_getf 8 2 (ti_iload 3 (ti_iald k)))) 40 := tg_seq (si_aload_n (i := 0) dX9_isCell_34 rfl) (tg_seq (si_getf (ci := 8) (f := 2) clX9 (Nat.le_of_ble_eq_true rfl) rfl flX9_17 dX9_isCell_35) (tg_seq (si_iload_n (i := 3) dX9_isCell_38 rfl) (si_iald dX9_isCell_39)))
theorem bX9_isCell_43 : tg_Snd mX9_isCell 43 (fun k => ti_push (.int 1) k) 44 := si_iconst (v := 1) dX9_isCell_43 (by decide)
theorem bX9_isCell_47 : tg_Snd mX9_isCell 47 (fun k => ti_push (.int 0) k) 48 := si_iconst (v := 0) dX9_isCell_47 (by decide)
theorem bX9_isCell_48 : tg_Snd mX9_isCell 48 (fun k => ti_istore 2 (ti_iinc 3 1 k)) 52 := tg_seq (si_istore_n (i := 2) dX9_isCell_48 rfl (Nat.le_of_ble_eq_true rfl)) (si_iinc (v := 1) dX9_isCell_49 (by decide) (Nat.le_of_ble_eq_true rfl))
theorem bX9_isCell_55 : tg_Snd mX9_isCell 55 (fun k => ti_iload 2 k) 56 := si_iload_n (i := 2) dX9_isCell_55 rfl
theorem vX9_isCell_4 : tg_VS mX9_isCell 4 mX9_codes 0 := ⟨okX9_codes, ⟨140, dX9_isCell_4, mlX9_140⟩, insX9_codes, selX9_codes, parX9_codes, rfl, rfl, Nat.le_of_ble_eq_true rfl, Nat.le_of_ble_eq_true rfl⟩
theorem vX9_isCell_10 : tg_SS0 mX9_isCell 10 mX9_in 3 := ⟨okX9_in, ⟨54, dX9_isCell_10, mlX9_54⟩, staX9_in, parX9_in, rfl, rfl, Nat.le_of_ble_eq_true rfl, Nat.le_of_ble_eq_true rfl⟩
theorem vX9_isCell_31 : tg_VS mX9_isCell 31 mX9_figure 2 := ⟨okX9_figure, ⟨143, dX9_isCell_31, mlX9_143⟩, insX9_figure, selX9_figure, parX9_figure, rfl, rfl, Nat.le_of_ble_eq_true rfl, Nat.le_of_ble_eq_true rfl⟩
theorem dX9_isWhole_0 : decode cX9_isWhole 0 = .ok (.aload_n 0, 1) := by decide +kernel
theorem dX9_isWhole_1 : decode cX9_isWhole 1 = .ok (.iload_n 1, 1) := by decide +kernel
theorem dX9_isWhole_2 : decode cX9_isWhole 2 = .ok (.invokevirtual 147, 3) := by decide +kernel
theorem dX9_isWhole_5 : decode cX9_isWhole 5 = .ok (.istore_n 2, 1) := by decide +kernel
theorem dX9_isWhole_6 : decode cX9_isWhole 6 = .ok (.iconst 0, 1) := by decide +kernel
theorem dX9_isWhole_7 : decode cX9_isWhole 7 = .ok (.istore_n 3, 1) := by decide +kernel
theorem dX9_isWhole_8 : decode cX9_isWhole 8 = .ok (.iload_n 3, 1) := by decide +kernel
theorem dX9_isWhole_9 : decode cX9_isWhole 9 = .ok (.aload_n 0, 1) := by decide +kernel
theorem dX9_isWhole_10 : decode cX9_isWhole 10 = .ok (.getfield 13, 3) := by decide +kernel
theorem dX9_isWhole_13 : decode cX9_isWhole 13 = .ok (.if_icmp .ge 28, 3) := by decide +kernel
theorem dX9_isWhole_16 : decode cX9_isWhole 16 = .ok (.iload_n 2, 1) := by decide +kernel
theorem dX9_isWhole_17 : decode cX9_isWhole 17 = .ok (.ifCond .eq 24, 3) := by decide +kernel
theorem dX9_isWhole_20 : decode cX9_isWhole 20 = .ok (.aload_n 0, 1) := by decide +kernel
theorem dX9_isWhole_21 : decode cX9_isWhole 21 = .ok (.iload_n 1, 1) := by decide +kernel
theorem dX9_isWhole_22 : decode cX9_isWhole 22 = .ok (.iload_n 3, 1) := by decide +kernel
theorem dX9_isWhole_23 : decode cX9_isWhole 23 = .ok (.invokevirtual 143, 3) := by decide +kernel
theorem dX9_isWhole_26 : decode cX9_isWhole 26 = .ok (.ifCond .le 7, 3) := by decide +kernel
theorem dX9_isWhole_29 : decode cX9_isWhole 29 = .ok (.iconst 1, 1) := by decide +kernel
theorem dX9_isWhole_30 : decode cX9_isWhole 30 = .ok (.goto 4, 3) := by decide +kernel
theorem dX9_isWhole_33 : decode cX9_isWhole 33 = .ok (.iconst 0, 1) := by decide +kernel
theorem dX9_isWhole_34 : decode cX9_isWhole 34 = .ok (.istore_n 2, 1) := by decide +kernel
theorem dX9_isWhole_35 : decode cX9_isWhole 35 = .ok (.iinc 3 1, 3) := by decide +kernel
theorem dX9_isWhole_38 : decode cX9_isWhole 38 = .ok (.goto (-30), 3) := by decide +kernel
theorem dX9_isWhole_41 : decode cX9_isWhole 41 = .ok (.iload_n 2, 1) := by decide +kernel
theorem dX9_isWhole_42 : decode cX9_isWhole 42 = .ok (.ireturn, 1) := by decide +kernel
theorem bX9_isWhole_0 : tg_Snd mX9_isWhole 0 (fun k => ti_aload 0 (ti_iload 1 k)) 2 := tg_seq (si_aload_n (i := 0) dX9_isWhole_0 rfl) (si_iload_n (i := 1) dX9_isWhole_1 rfl)
theorem bX9_isWhole_5 : tg_Snd mX9_isWhole 5 (fun k => ti_istore 2 (ti_push (.int 0) (ti_istore 3 k))) 8 := tg_seq (si_istore_n (i := 2) dX9_isWhole_5 rfl (Nat.le_of_ble_eq_true rfl)) (tg_seq (si_iconst (v := 0) dX9_isWhole_6 (by decide)) (si_istore_n (i := 3) dX9_isWhole_7 rfl (Nat.le_of_ble_eq_true rfl)))
theorem bX9_isWhole_8 : tg_Snd mX9_isWhole 8 (fun k => ti_iload 3 (ti_aload 0 (ti_getf 8 1 k))) 13 := tg_seq (si_iload_n (i := 3) dX9_isWhole_8 rfl) (tg_seq (si_aload_n (i := 0) dX9_isWhole_9 rfl) (si_getf (ci := 8) (f := 1) clX9 (Nat.le_of_ble_eq_true rfl) rfl flX9_13 dX9_isWhole_10))
theorem bX9_isWhole_16 : tg_Snd mX9_isWhole 16 (fun k => ti_iload 2 k) 17 := si_iload_n (i := 2) dX9_isWhole_16 rfl
theorem bX9_isWhole_20 : tg_Snd mX9_isWhole 20 (fun k => ti_aload 0 (ti_iload 1 (ti_iload 3 k))) 23 := tg_seq (si_aload_n (i := 0) dX9_isWhole_20 rfl) (tg_seq (si_iload_n (i := 1) dX9_isWhole_21 rfl) (si_iload_n (i := 3) dX9_isWhole_22 rfl))
theorem bX9_isWhole_29 : tg_Snd mX9_isWhole 29 (fun k => ti_push (.int 1) k) 30 := si_iconst (v := 1) dX9_isWhole_29 (by decide)
theorem bX9_isWhole_33 : tg_Snd mX9_isWhole 33 (fun k => ti_push (.int 0) k) 34 := si_iconst (v := 0) dX9_isWhole_33 (by decide)
theorem bX9_isWhole_34 : tg_Snd mX9_isWhole 34 (fun k => ti_istore 2 (ti_iinc 3 1 k)) 38 := tg_seq (si_istore_n (i := 2) dX9_isWhole_34 rfl (Nat.le_of_ble_eq_true rfl)) (si_iinc (v := 1) dX9_isWhole_35 (by decide) (Nat.le_of_ble_eq_true rfl))
theorem bX9_isWhole_41 : tg_Snd mX9_isWhole 41 (fun k => ti_iload 2 k) 42 := si_iload_n (i := 2) dX9_isWhole_41 rfl
theorem vX9_isWhole_2 : tg_VS mX9_isWhole 2 mX9_isCell 1 := ⟨okX9_isCell, ⟨147, dX9_isWhole_2, mlX9_147⟩, insX9_isCell, selX9_isCell, parX9_isCell, rfl, rfl, Nat.le_of_ble_eq_true rfl, Nat.le_of_ble_eq_true rfl⟩
theorem vX9_isWhole_23 : tg_VS mX9_isWhole 23 mX9_figure 2 := ⟨okX9_figure, ⟨143, dX9_isWhole_23, mlX9_143⟩, insX9_figure, selX9_figure, parX9_figure, rfl, rfl, Nat.le_of_ble_eq_true rfl, Nat.le_of_ble_eq_true rfl⟩
theorem dX9_isEntry_0 : decode cX9_isEntry 0 = .ok (.iload_n 1, 1) := by decide +kernel
theorem dX9_isEntry_1 : decode cX9_isEntry 1 = .ok (.i2l, 1) := by decide +kernel
theorem dX9_isEntry_2 : decode cX9_isEntry 2 = .ok (.lconst 0, 1) := by decide +kernel
theorem dX9_isEntry_3 : decode cX9_isEntry 3 = .ok (.aload_n 0, 1) := by decide +kernel
theorem dX9_isEntry_4 : decode cX9_isEntry 4 = .ok (.getfield 7, 3) := by decide +kernel
theorem dX9_isEntry_7 : decode cX9_isEntry 7 = .ok (.iconst 0, 1) := by decide +kernel
theorem dX9_isEntry_8 : decode cX9_isEntry 8 = .ok (.iaload, 1) := by decide +kernel
theorem dX9_isEntry_9 : decode cX9_isEntry 9 = .ok (.iconst 1, 1) := by decide +kernel
theorem dX9_isEntry_10 : decode cX9_isEntry 10 = .ok (.isub, 1) := by decide +kernel
theorem dX9_isEntry_11 : decode cX9_isEntry 11 = .ok (.i2l, 1) := by decide +kernel
theorem dX9_isEntry_12 : decode cX9_isEntry 12 = .ok (.invokestatic 54, 3) := by decide +kernel
theorem dX9_isEntry_15 : decode cX9_isEntry 15 = .ok (.ireturn, 1) := by decide +kernel
theorem bX9_isEntry_0 : tg_Snd mX9_isEntry 0 (fun k => ti_iload 1 (ti_i2l (ti_push (.long 0) (ti_aload 0 (ti_getf 8 0 (ti_push (.int 0) (ti_iald (ti_push (.int 1) (ti_isub (ti_i2l k)))))))))) 12 := tg_seq (si_iload_n (i := 1) dX9_isEntry_0 rfl) (tg_seq (si_i2l dX9_isEntry_1) (tg_seq (si_lconst (v := 0) dX9_isEntry_2 (by decide)) (tg_seq (si_aload_n (i := 0) dX9_isEntry_3 rfl) (tg_seq (si_getf (ci := 8) (f := 0) clX9 (Nat.le_of_ble_eq_true rfl) rfl flX9_7 dX9_isEntry_4) (tg_seq (si_iconst (v := 0) dX9_isEntry_7 (by decide)) (tg_seq (si_iald dX9_isEntry_8) (tg_seq (si_iconst (v := 1) dX9_isEntry_9 (by decide)) (tg_seq (si_isub dX9_isEntry_10) (si_i2l dX9_isEntry_11)))))))))
theorem vX9_isEntry_12 : tg_SS0 mX9_isEntry 12 mX9_in 3 := ⟨okX9_in, ⟨54, dX9_isEntry_12, mlX9_54⟩, staX9_in, parX9_in, rfl, rfl, Nat.le_of_ble_eq_true rfl, Nat.le_of_ble_eq_true rfl⟩
theorem dX9_keepPast_0 : decode cX9_keepPast 0 = .ok (.iconst 0, 1) := by decide +kernel
theorem dX9_keepPast_1 : decode cX9_keepPast 1 = .ok (.istore_n 1, 1) := by decide +kernel
theorem dX9_keepPast_2 : decode cX9_keepPast 2 = .ok (.iload_n 1, 1) := by decide +kernel
theorem dX9_keepPast_3 : decode cX9_keepPast 3 = .ok (.sipush 574, 3) := by decide +kernel
theorem dX9_keepPast_6 : decode cX9_keepPast 6 = .ok (.if_icmp .ge 37, 3) := by decide +kernel
theorem dX9_keepPast_9 : decode cX9_keepPast 9 = .ok (.aload_n 0, 1) := by decide +kernel
theorem dX9_keepPast_10 : decode cX9_keepPast 10 = .ok (.getfield 137, 3) := by decide +kernel
theorem dX9_keepPast_13 : decode cX9_keepPast 13 = .ok (.bipush 8, 2) := by decide +kernel
theorem dX9_keepPast_15 : decode cX9_keepPast 15 = .ok (.if_icmp .ne 28, 3) := by decide +kernel
theorem dX9_keepPast_18 : decode cX9_keepPast 18 = .ok (.aload_n 0, 1) := by decide +kernel
theorem dX9_keepPast_19 : decode cX9_keepPast 19 = .ok (.getfield 7, 3) := by decide +kernel
theorem dX9_keepPast_22 : decode cX9_keepPast 22 = .ok (.bipush 82, 2) := by decide +kernel
theorem dX9_keepPast_24 : decode cX9_keepPast 24 = .ok (.iload_n 1, 1) := by decide +kernel
theorem dX9_keepPast_25 : decode cX9_keepPast 25 = .ok (.iadd, 1) := by decide +kernel
theorem dX9_keepPast_26 : decode cX9_keepPast 26 = .ok (.aload_n 0, 1) := by decide +kernel
theorem dX9_keepPast_27 : decode cX9_keepPast 27 = .ok (.getfield 7, 3) := by decide +kernel
theorem dX9_keepPast_30 : decode cX9_keepPast 30 = .ok (.sipush 164, 3) := by decide +kernel
theorem dX9_keepPast_33 : decode cX9_keepPast 33 = .ok (.iload_n 1, 1) := by decide +kernel
theorem dX9_keepPast_34 : decode cX9_keepPast 34 = .ok (.iadd, 1) := by decide +kernel
theorem dX9_keepPast_35 : decode cX9_keepPast 35 = .ok (.iaload, 1) := by decide +kernel
theorem dX9_keepPast_36 : decode cX9_keepPast 36 = .ok (.iastore, 1) := by decide +kernel
theorem dX9_keepPast_37 : decode cX9_keepPast 37 = .ok (.iinc 1 1, 3) := by decide +kernel
theorem dX9_keepPast_40 : decode cX9_keepPast 40 = .ok (.goto (-38), 3) := by decide +kernel
theorem dX9_keepPast_43 : decode cX9_keepPast 43 = .ok (.aload_n 0, 1) := by decide +kernel
theorem dX9_keepPast_44 : decode cX9_keepPast 44 = .ok (.dup, 1) := by decide +kernel
theorem dX9_keepPast_45 : decode cX9_keepPast 45 = .ok (.getfield 137, 3) := by decide +kernel
theorem dX9_keepPast_48 : decode cX9_keepPast 48 = .ok (.aload_n 0, 1) := by decide +kernel
theorem dX9_keepPast_49 : decode cX9_keepPast 49 = .ok (.getfield 137, 3) := by decide +kernel
theorem dX9_keepPast_52 : decode cX9_keepPast 52 = .ok (.bipush 8, 2) := by decide +kernel
theorem dX9_keepPast_54 : decode cX9_keepPast 54 = .ok (.if_icmp .ne 7, 3) := by decide +kernel
theorem dX9_keepPast_57 : decode cX9_keepPast 57 = .ok (.iconst 1, 1) := by decide +kernel
theorem dX9_keepPast_58 : decode cX9_keepPast 58 = .ok (.goto 4, 3) := by decide +kernel
theorem dX9_keepPast_61 : decode cX9_keepPast 61 = .ok (.iconst 0, 1) := by decide +kernel
theorem dX9_keepPast_62 : decode cX9_keepPast 62 = .ok (.isub, 1) := by decide +kernel
theorem dX9_keepPast_63 : decode cX9_keepPast 63 = .ok (.putfield 137, 3) := by decide +kernel
theorem dX9_keepPast_66 : decode cX9_keepPast 66 = .ok (.aload_n 0, 1) := by decide +kernel
theorem dX9_keepPast_67 : decode cX9_keepPast 67 = .ok (.iconst 0, 1) := by decide +kernel
theorem dX9_keepPast_68 : decode cX9_keepPast 68 = .ok (.bipush 82, 2) := by decide +kernel
theorem dX9_keepPast_70 : decode cX9_keepPast 70 = .ok (.bipush 82, 2) := by decide +kernel
theorem dX9_keepPast_72 : decode cX9_keepPast 72 = .ok (.aload_n 0, 1) := by decide +kernel
theorem dX9_keepPast_73 : decode cX9_keepPast 73 = .ok (.getfield 137, 3) := by decide +kernel
theorem dX9_keepPast_76 : decode cX9_keepPast 76 = .ok (.imul, 1) := by decide +kernel
theorem dX9_keepPast_77 : decode cX9_keepPast 77 = .ok (.iadd, 1) := by decide +kernel
theorem dX9_keepPast_78 : decode cX9_keepPast 78 = .ok (.invokevirtual 150, 3) := by decide +kernel
theorem dX9_keepPast_81 : decode cX9_keepPast 81 = .ok (.aload_n 0, 1) := by decide +kernel
theorem dX9_keepPast_82 : decode cX9_keepPast 82 = .ok (.dup, 1) := by decide +kernel
theorem dX9_keepPast_83 : decode cX9_keepPast 83 = .ok (.getfield 137, 3) := by decide +kernel
theorem dX9_keepPast_86 : decode cX9_keepPast 86 = .ok (.iconst 1, 1) := by decide +kernel
theorem dX9_keepPast_87 : decode cX9_keepPast 87 = .ok (.iadd, 1) := by decide +kernel
theorem dX9_keepPast_88 : decode cX9_keepPast 88 = .ok (.putfield 137, 3) := by decide +kernel
theorem dX9_keepPast_91 : decode cX9_keepPast 91 = .ok (.return_, 1) := by decide +kernel
theorem bX9_keepPast_0 : tg_Snd mX9_keepPast 0 (fun k => ti_push (.int 0) (ti_istore 1 k)) 2 := tg_seq (si_iconst (v := 0) dX9_keepPast_0 (by decide)) (si_istore_n (i := 1) dX9_keepPast_1 rfl (Nat.le_of_ble_eq_true rfl))
theorem bX9_keepPast_2 : tg_Snd mX9_keepPast 2 (fun k => ti_iload 1 (ti_push (.int 574) k)) 6 := tg_seq (si_iload_n (i := 1) dX9_keepPast_2 rfl) (si_sipush (v := 574) dX9_keepPast_3 (by decide))
theorem bX9_keepPast_9 : tg_Snd mX9_keepPast 9 (fun k => ti_aload 0 (ti_getf 8 3 (ti_push (.int 8) k))) 15 := tg_seq (si_aload_n (i := 0) dX9_keepPast_9 rfl) (tg_seq (si_getf (ci := 8) (f := 3) clX9 (Nat.le_of_ble_eq_true rfl) rfl flX9_137 dX9_keepPast_10) (si_bipush (v := 8) dX9_keepPast_13 (by decide)))
theorem bX9_keepPast_18 : tg_Snd mX9_keepPast 18 (fun k => ti_aload 0 (ti_getf 8 0 (ti_push (.int 82) (ti_iload 1 (ti_iadd (ti_aload 0 (ti_getf 8 0 (ti_push (.int 164) (ti_iload 1 (ti_iadd (ti_iald (ti_iast (ti_iinc 1 1 k))))))))))))) 40 := tg_seq (si_aload_n (i := 0) dX9_keepPast_18 rfl) (tg_seq (si_getf (ci := 8) (f := 0) clX9 (Nat.le_of_ble_eq_true rfl) rfl flX9_7 dX9_keepPast_19) (tg_seq (si_bipush (v := 82) dX9_keepPast_22 (by decide)) (tg_seq (si_iload_n (i := 1) dX9_keepPast_24 rfl) (tg_seq (si_iadd dX9_keepPast_25) (tg_seq (si_aload_n (i := 0) dX9_keepPast_26 rfl) (tg_seq (si_getf (ci := 8) (f := 0) clX9 (Nat.le_of_ble_eq_true rfl) rfl flX9_7 dX9_keepPast_27) (tg_seq (si_sipush (v := 164) dX9_keepPast_30 (by decide)) (tg_seq (si_iload_n (i := 1) dX9_keepPast_33 rfl) (tg_seq (si_iadd dX9_keepPast_34) (tg_seq (si_iald dX9_keepPast_35) (tg_seq (si_iast dX9_keepPast_36) (si_iinc (v := 1) dX9_keepPast_37 (by decide) (Nat.le_of_ble_eq_true rfl)))))))))))))
theorem bX9_keepPast_43 : tg_Snd mX9_keepPast 43 (fun k => ti_aload 0 (ti_dup (ti_getf 8 3 (ti_aload 0 (ti_getf 8 3 (ti_push (.int 8) k)))))) 54 := tg_seq (si_aload_n (i := 0) dX9_keepPast_43 rfl) (tg_seq (si_dup dX9_keepPast_44) (tg_seq (si_getf (ci := 8) (f := 3) clX9 (Nat.le_of_ble_eq_true rfl) rfl flX9_137 dX9_keepPast_45) (tg_seq (si_aload_n (i := 0) dX9_keepPast_48 rfl) (tg_seq (si_getf (ci := 8) (f := 3) clX9 (Nat.le_of_ble_eq_true rfl) rfl flX9_137 dX9_keepPast_49) (si_bipush (v := 8) dX9_keepPast_52 (by decide))))))
theorem bX9_keepPast_57 : tg_Snd mX9_keepPast 57 (fun k => ti_push (.int 1) k) 58 := si_iconst (v := 1) dX9_keepPast_57 (by decide)
theorem bX9_keepPast_61 : tg_Snd mX9_keepPast 61 (fun k => ti_push (.int 0) k) 62 := si_iconst (v := 0) dX9_keepPast_61 (by decide)
theorem bX9_keepPast_62 : tg_Snd mX9_keepPast 62 (fun k => ti_isub (ti_putfI 8 3 (ti_aload 0 (ti_push (.int 0) (ti_push (.int 82) (ti_push (.int 82) (ti_aload 0 (ti_getf 8 3 (ti_imul (ti_iadd k)))))))))) 78 := tg_seq (si_isub dX9_keepPast_62) (tg_seq (si_putfI (ci := 8) (f := 3) (ty := .int) clX9 tyX9_ok nmX9 (Nat.le_of_ble_eq_true rfl) rfl (by decide +kernel) (fun _ _ => ⟨rfl, rfl⟩) flX9_137 dX9_keepPast_63) (tg_seq (si_aload_n (i := 0) dX9_keepPast_66 rfl) (tg_seq (si_iconst (v := 0) dX9_keepPast_67 (by decide)) (tg_seq (si_bipush (v := 82) dX9_keepPast_68 (by decide)) (tg_seq (si_bipush (v := 82) dX9_keepPast_70 (by decide)) (tg_seq (si_aload_n (i := 0) dX9_keepPast_72 rfl) (tg_seq (si_getf (ci := 8) (f := 3) clX9 (Nat.le_of_ble_eq_true rfl) rfl flX9_137 dX9_keepPast_73) (tg_seq (si_imul dX9_keepPast_76) (si_iadd dX9_keepPast_77)))))))))
theorem bX9_keepPast_81 : tg_Snd mX9_keepPast 81 (fun k => ti_aload 0 (ti_dup (ti_getf 8 3 (ti_push (.int 1) (ti_iadd (ti_putfI 8 3 k)))))) 91 := tg_seq (si_aload_n (i := 0) dX9_keepPast_81 rfl) (tg_seq (si_dup dX9_keepPast_82) (tg_seq (si_getf (ci := 8) (f := 3) clX9 (Nat.le_of_ble_eq_true rfl) rfl flX9_137 dX9_keepPast_83) (tg_seq (si_iconst (v := 1) dX9_keepPast_86 (by decide)) (tg_seq (si_iadd dX9_keepPast_87) (si_putfI (ci := 8) (f := 3) (ty := .int) clX9 tyX9_ok nmX9 (Nat.le_of_ble_eq_true rfl) rfl (by decide +kernel) (fun _ _ => ⟨rfl, rfl⟩) flX9_137 dX9_keepPast_88)))))
theorem vX9_keepPast_78 : tg_VS mX9_keepPast 78 mX9_copyRow 2 := ⟨okX9_copyRow, ⟨150, dX9_keepPast_78, mlX9_150⟩, insX9_copyRow, selX9_copyRow, parX9_copyRow, rfl, rfl, Nat.le_of_ble_eq_true rfl, Nat.le_of_ble_eq_true rfl⟩
theorem dX9_add_0 : decode cX9_add 0 = .ok (.aload_n 0, 1) := by decide +kernel
theorem dX9_add_1 : decode cX9_add 1 = .ok (.iload_n 1, 1) := by decide +kernel
theorem dX9_add_2 : decode cX9_add 2 = .ok (.invokevirtual 154, 3) := by decide +kernel
theorem dX9_add_5 : decode cX9_add 5 = .ok (.ifCond .eq 17, 3) := by decide +kernel
theorem dX9_add_8 : decode cX9_add 8 = .ok (.iload_n 2, 1) := by decide +kernel
theorem dX9_add_9 : decode cX9_add 9 = .ok (.i2l, 1) := by decide +kernel
theorem dX9_add_10 : decode cX9_add 10 = .ok (.ldc2_w 157, 3) := by decide +kernel
theorem dX9_add_13 : decode cX9_add 13 = .ok (.ldc2_w 159, 3) := by decide +kernel
theorem dX9_add_16 : decode cX9_add 16 = .ok (.invokestatic 54, 3) := by decide +kernel
theorem dX9_add_19 : decode cX9_add 19 = .ok (.ifCond .ne 6, 3) := by decide +kernel
theorem dX9_add_22 : decode cX9_add 22 = .ok (.bipush (-3), 2) := by decide +kernel
theorem dX9_add_24 : decode cX9_add 24 = .ok (.ireturn, 1) := by decide +kernel
theorem dX9_add_25 : decode cX9_add 25 = .ok (.aload_n 0, 1) := by decide +kernel
theorem dX9_add_26 : decode cX9_add 26 = .ok (.getfield 7, 3) := by decide +kernel
theorem dX9_add_29 : decode cX9_add 29 = .ok (.iconst 0, 1) := by decide +kernel
theorem dX9_add_30 : decode cX9_add 30 = .ok (.iaload, 1) := by decide +kernel
theorem dX9_add_31 : decode cX9_add 31 = .ok (.bipush 40, 2) := by decide +kernel
theorem dX9_add_33 : decode cX9_add 33 = .ok (.if_icmp .ne 6, 3) := by decide +kernel
theorem dX9_add_36 : decode cX9_add 36 = .ok (.bipush (-5), 2) := by decide +kernel
theorem dX9_add_38 : decode cX9_add 38 = .ok (.ireturn, 1) := by decide +kernel
theorem dX9_add_39 : decode cX9_add 39 = .ok (.aload_n 0, 1) := by decide +kernel
theorem dX9_add_40 : decode cX9_add 40 = .ok (.invokevirtual 161, 3) := by decide +kernel
theorem dX9_add_43 : decode cX9_add 43 = .ok (.aload_n 0, 1) := by decide +kernel
theorem dX9_add_44 : decode cX9_add 44 = .ok (.iconst 0, 1) := by decide +kernel
theorem dX9_add_45 : decode cX9_add 45 = .ok (.iload_n 1, 1) := by decide +kernel
theorem dX9_add_46 : decode cX9_add 46 = .ok (.iload_n 2, 1) := by decide +kernel
theorem dX9_add_47 : decode cX9_add 47 = .ok (.invokevirtual 106, 3) := by decide +kernel
theorem dX9_add_50 : decode cX9_add 50 = .ok (.aload_n 0, 1) := by decide +kernel
theorem dX9_add_51 : decode cX9_add 51 = .ok (.getfield 7, 3) := by decide +kernel
theorem dX9_add_54 : decode cX9_add 54 = .ok (.iconst 0, 1) := by decide +kernel
theorem dX9_add_55 : decode cX9_add 55 = .ok (.iaload, 1) := by decide +kernel
theorem dX9_add_56 : decode cX9_add 56 = .ok (.ireturn, 1) := by decide +kernel
theorem bX9_add_0 : tg_Snd mX9_add 0 (fun k => ti_aload 0 (ti_iload 1 k)) 2 := tg_seq (si_aload_n (i := 0) dX9_add_0 rfl) (si_iload_n (i := 1) dX9_add_1 rfl)
theorem bX9_add_8 : tg_Snd mX9_add 8 (fun k => ti_iload 2 (ti_i2l (ti_push (.long (-99)) (ti_push (.long 99) k)))) 16 := tg_seq (si_iload_n (i := 2) dX9_add_8 rfl) (tg_seq (si_i2l dX9_add_9) (tg_seq (si_ldc2 (v := -99) dX9_add_10 klX9_157) (si_ldc2 (v := 99) dX9_add_13 klX9_159)))
theorem bX9_add_22 : tg_Snd mX9_add 22 (fun k => ti_push (.int (-3)) k) 24 := si_bipush (v := -3) dX9_add_22 (by decide)
theorem bX9_add_25 : tg_Snd mX9_add 25 (fun k => ti_aload 0 (ti_getf 8 0 (ti_push (.int 0) (ti_iald (ti_push (.int 40) k))))) 33 := tg_seq (si_aload_n (i := 0) dX9_add_25 rfl) (tg_seq (si_getf (ci := 8) (f := 0) clX9 (Nat.le_of_ble_eq_true rfl) rfl flX9_7 dX9_add_26) (tg_seq (si_iconst (v := 0) dX9_add_29 (by decide)) (tg_seq (si_iald dX9_add_30) (si_bipush (v := 40) dX9_add_31 (by decide)))))
theorem bX9_add_36 : tg_Snd mX9_add 36 (fun k => ti_push (.int (-5)) k) 38 := si_bipush (v := -5) dX9_add_36 (by decide)
theorem bX9_add_39 : tg_Snd mX9_add 39 (fun k => ti_aload 0 k) 40 := si_aload_n (i := 0) dX9_add_39 rfl
theorem bX9_add_43 : tg_Snd mX9_add 43 (fun k => ti_aload 0 (ti_push (.int 0) (ti_iload 1 (ti_iload 2 k)))) 47 := tg_seq (si_aload_n (i := 0) dX9_add_43 rfl) (tg_seq (si_iconst (v := 0) dX9_add_44 (by decide)) (tg_seq (si_iload_n (i := 1) dX9_add_45 rfl) (si_iload_n (i := 2) dX9_add_46 rfl)))
theorem bX9_add_50 : tg_Snd mX9_add 50 (fun k => ti_aload 0 (ti_getf 8 0 (ti_push (.int 0) (ti_iald k)))) 56 := tg_seq (si_aload_n (i := 0) dX9_add_50 rfl) (tg_seq (si_getf (ci := 8) (f := 0) clX9 (Nat.le_of_ble_eq_true rfl) rfl flX9_7 dX9_add_51) (tg_seq (si_iconst (v := 0) dX9_add_54 (by decide)) (si_iald dX9_add_55)))
theorem vX9_add_2 : tg_VS mX9_add 2 mX9_isWhole 1 := ⟨okX9_isWhole, ⟨154, dX9_add_2, mlX9_154⟩, insX9_isWhole, selX9_isWhole, parX9_isWhole, rfl, rfl, Nat.le_of_ble_eq_true rfl, Nat.le_of_ble_eq_true rfl⟩
theorem vX9_add_16 : tg_SS0 mX9_add 16 mX9_in 3 := ⟨okX9_in, ⟨54, dX9_add_16, mlX9_54⟩, staX9_in, parX9_in, rfl, rfl, Nat.le_of_ble_eq_true rfl, Nat.le_of_ble_eq_true rfl⟩
theorem vX9_add_40 : tg_VS mX9_add 40 mX9_keepPast 0 := ⟨okX9_keepPast, ⟨161, dX9_add_40, mlX9_161⟩, insX9_keepPast, selX9_keepPast, parX9_keepPast, rfl, rfl, Nat.le_of_ble_eq_true rfl, Nat.le_of_ble_eq_true rfl⟩
theorem vX9_add_47 : tg_VS mX9_add 47 mX9_put 3 := ⟨okX9_put, ⟨106, dX9_add_47, mlX9_106⟩, insX9_put, selX9_put, parX9_put, rfl, rfl, Nat.le_of_ble_eq_true rfl, Nat.le_of_ble_eq_true rfl⟩
