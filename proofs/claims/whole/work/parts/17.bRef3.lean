theorem dX9_areAlike_0 : decode cX9_areAlike 0 = .ok (.iconst 1, 1) := by decide +kernel
theorem dX9_areAlike_1 : decode cX9_areAlike 1 = .ok (.istore 4, 2) := by decide +kernel
theorem dX9_areAlike_3 : decode cX9_areAlike 3 = .ok (.iconst 0, 1) := by decide +kernel
theorem dX9_areAlike_4 : decode cX9_areAlike 4 = .ok (.istore 5, 2) := by decide +kernel
theorem dX9_areAlike_6 : decode cX9_areAlike 6 = .ok (.iload 5, 2) := by decide +kernel
theorem dX9_areAlike_8 : decode cX9_areAlike 8 = .ok (.aload_n 0, 1) := by decide +kernel
theorem dX9_areAlike_9 : decode cX9_areAlike 9 = .ok (.getfield 13, 3) := by decide +kernel
theorem dX9_areAlike_12 : decode cX9_areAlike 12 = .ok (.if_icmp .ge 61, 3) := by decide +kernel
theorem dX9_areAlike_15 : decode cX9_areAlike 15 = .ok (.iload 4, 2) := by decide +kernel
theorem dX9_areAlike_17 : decode cX9_areAlike 17 = .ok (.ifCond .eq 47, 3) := by decide +kernel
theorem dX9_areAlike_20 : decode cX9_areAlike 20 = .ok (.iload_n 1, 1) := by decide +kernel
theorem dX9_areAlike_21 : decode cX9_areAlike 21 = .ok (.iload 5, 2) := by decide +kernel
theorem dX9_areAlike_23 : decode cX9_areAlike 23 = .ok (.invokestatic 227, 3) := by decide +kernel
theorem dX9_areAlike_26 : decode cX9_areAlike 26 = .ok (.ifCond .eq 34, 3) := by decide +kernel
theorem dX9_areAlike_29 : decode cX9_areAlike 29 = .ok (.aload_n 0, 1) := by decide +kernel
theorem dX9_areAlike_30 : decode cX9_areAlike 30 = .ok (.aload_n 0, 1) := by decide +kernel
theorem dX9_areAlike_31 : decode cX9_areAlike 31 = .ok (.getfield 7, 3) := by decide +kernel
theorem dX9_areAlike_34 : decode cX9_areAlike 34 = .ok (.iconst 2, 1) := by decide +kernel
theorem dX9_areAlike_35 : decode cX9_areAlike 35 = .ok (.iload_n 2, 1) := by decide +kernel
theorem dX9_areAlike_36 : decode cX9_areAlike 36 = .ok (.iadd, 1) := by decide +kernel
theorem dX9_areAlike_37 : decode cX9_areAlike 37 = .ok (.iaload, 1) := by decide +kernel
theorem dX9_areAlike_38 : decode cX9_areAlike 38 = .ok (.iload 5, 2) := by decide +kernel
theorem dX9_areAlike_40 : decode cX9_areAlike 40 = .ok (.invokevirtual 143, 3) := by decide +kernel
theorem dX9_areAlike_43 : decode cX9_areAlike 43 = .ok (.aload_n 0, 1) := by decide +kernel
theorem dX9_areAlike_44 : decode cX9_areAlike 44 = .ok (.aload_n 0, 1) := by decide +kernel
theorem dX9_areAlike_45 : decode cX9_areAlike 45 = .ok (.getfield 7, 3) := by decide +kernel
theorem dX9_areAlike_48 : decode cX9_areAlike 48 = .ok (.iconst 2, 1) := by decide +kernel
theorem dX9_areAlike_49 : decode cX9_areAlike 49 = .ok (.iload_n 3, 1) := by decide +kernel
theorem dX9_areAlike_50 : decode cX9_areAlike 50 = .ok (.iadd, 1) := by decide +kernel
theorem dX9_areAlike_51 : decode cX9_areAlike 51 = .ok (.iaload, 1) := by decide +kernel
theorem dX9_areAlike_52 : decode cX9_areAlike 52 = .ok (.iload 5, 2) := by decide +kernel
theorem dX9_areAlike_54 : decode cX9_areAlike 54 = .ok (.invokevirtual 143, 3) := by decide +kernel
theorem dX9_areAlike_57 : decode cX9_areAlike 57 = .ok (.if_icmp .ne 7, 3) := by decide +kernel
theorem dX9_areAlike_60 : decode cX9_areAlike 60 = .ok (.iconst 1, 1) := by decide +kernel
theorem dX9_areAlike_61 : decode cX9_areAlike 61 = .ok (.goto 4, 3) := by decide +kernel
theorem dX9_areAlike_64 : decode cX9_areAlike 64 = .ok (.iconst 0, 1) := by decide +kernel
theorem dX9_areAlike_65 : decode cX9_areAlike 65 = .ok (.istore 4, 2) := by decide +kernel
theorem dX9_areAlike_67 : decode cX9_areAlike 67 = .ok (.iinc 5 1, 3) := by decide +kernel
theorem dX9_areAlike_70 : decode cX9_areAlike 70 = .ok (.goto (-64), 3) := by decide +kernel
theorem dX9_areAlike_73 : decode cX9_areAlike 73 = .ok (.iload 4, 2) := by decide +kernel
theorem dX9_areAlike_75 : decode cX9_areAlike 75 = .ok (.ireturn, 1) := by decide +kernel
theorem bX9_areAlike_0 : tg_Snd mX9_areAlike 0 (fun k => ti_push (.int 1) (ti_istore 4 (ti_push (.int 0) (ti_istore 5 k)))) 6 := tg_seq (si_iconst (v := 1) dX9_areAlike_0 (by decide)) (tg_seq (si_istore (i := 4) dX9_areAlike_1 (Nat.le_of_ble_eq_true rfl)) (tg_seq (si_iconst (v := 0) dX9_areAlike_3 (by decide)) (si_istore (i := 5) dX9_areAlike_4 (Nat.le_of_ble_eq_true rfl))))
theorem bX9_areAlike_6 : tg_Snd mX9_areAlike 6 (fun k => ti_iload 5 (ti_aload 0 (ti_getf 8 1 k))) 12 := tg_seq (si_iload (i := 5) dX9_areAlike_6) (tg_seq (si_aload_n (i := 0) dX9_areAlike_8 rfl) (si_getf (ci := 8) (f := 1) clX9 (Nat.le_of_ble_eq_true rfl) rfl flX9_13 dX9_areAlike_9))
theorem bX9_areAlike_15 : tg_Snd mX9_areAlike 15 (fun k => ti_iload 4 k) 17 := si_iload (i := 4) dX9_areAlike_15
theorem bX9_areAlike_20 : tg_Snd mX9_areAlike 20 (fun k => ti_iload 1 (ti_iload 5 k)) 23 := tg_seq (si_iload_n (i := 1) dX9_areAlike_20 rfl) (si_iload (i := 5) dX9_areAlike_21)
theorem bX9_areAlike_29 : tg_Snd mX9_areAlike 29 (fun k => ti_aload 0 (ti_aload 0 (ti_getf 8 0 (ti_push (.int 2) (ti_iload 2 (ti_iadd (ti_iald (ti_iload 5 k)))))))) 40 := tg_seq (si_aload_n (i := 0) dX9_areAlike_29 rfl) (tg_seq (si_aload_n (i := 0) dX9_areAlike_30 rfl) (tg_seq (si_getf (ci := 8) (f := 0) clX9 (Nat.le_of_ble_eq_true rfl) rfl flX9_7 dX9_areAlike_31) (tg_seq (si_iconst (v := 2) dX9_areAlike_34 (by decide)) (tg_seq (si_iload_n (i := 2) dX9_areAlike_35 rfl) (tg_seq (si_iadd dX9_areAlike_36) (tg_seq (si_iald dX9_areAlike_37) (si_iload (i := 5) dX9_areAlike_38)))))))
theorem bX9_areAlike_43 : tg_Snd mX9_areAlike 43 (fun k => ti_aload 0 (ti_aload 0 (ti_getf 8 0 (ti_push (.int 2) (ti_iload 3 (ti_iadd (ti_iald (ti_iload 5 k)))))))) 54 := tg_seq (si_aload_n (i := 0) dX9_areAlike_43 rfl) (tg_seq (si_aload_n (i := 0) dX9_areAlike_44 rfl) (tg_seq (si_getf (ci := 8) (f := 0) clX9 (Nat.le_of_ble_eq_true rfl) rfl flX9_7 dX9_areAlike_45) (tg_seq (si_iconst (v := 2) dX9_areAlike_48 (by decide)) (tg_seq (si_iload_n (i := 3) dX9_areAlike_49 rfl) (tg_seq (si_iadd dX9_areAlike_50) (tg_seq (si_iald dX9_areAlike_51) (si_iload (i := 5) dX9_areAlike_52)))))))
theorem bX9_areAlike_60 : tg_Snd mX9_areAlike 60 (fun k => ti_push (.int 1) k) 61 := si_iconst (v := 1) dX9_areAlike_60 (by decide)
theorem bX9_areAlike_64 : tg_Snd mX9_areAlike 64 (fun k => ti_push (.int 0) k) 65 := si_iconst (v := 0) dX9_areAlike_64 (by decide)
theorem bX9_areAlike_65 : tg_Snd mX9_areAlike 65 (fun k => ti_istore 4 (ti_iinc 5 1 k)) 70 := tg_seq (si_istore (i := 4) dX9_areAlike_65 (Nat.le_of_ble_eq_true rfl)) (si_iinc (v := 1) dX9_areAlike_67 (by decide) (Nat.le_of_ble_eq_true rfl))
theorem bX9_areAlike_73 : tg_Snd mX9_areAlike 73 (fun k => ti_iload 4 k) 75 := si_iload (i := 4) dX9_areAlike_73
theorem vX9_areAlike_23 : tg_SS0 mX9_areAlike 23 mX9_has 2 := ⟨okX9_has, ⟨227, dX9_areAlike_23, mlX9_227⟩, staX9_has, parX9_has, rfl, rfl, Nat.le_of_ble_eq_true rfl, Nat.le_of_ble_eq_true rfl⟩
theorem vX9_areAlike_40 : tg_VS mX9_areAlike 40 mX9_figure 2 := ⟨okX9_figure, ⟨143, dX9_areAlike_40, mlX9_143⟩, insX9_figure, selX9_figure, parX9_figure, rfl, rfl, Nat.le_of_ble_eq_true rfl, Nat.le_of_ble_eq_true rfl⟩
theorem vX9_areAlike_54 : tg_VS mX9_areAlike 54 mX9_figure 2 := ⟨okX9_figure, ⟨143, dX9_areAlike_54, mlX9_143⟩, insX9_figure, selX9_figure, parX9_figure, rfl, rfl, Nat.le_of_ble_eq_true rfl, Nat.le_of_ble_eq_true rfl⟩
theorem dX9_isKey_0 : decode cX9_isKey 0 = .ok (.iconst 1, 1) := by decide +kernel
theorem dX9_isKey_1 : decode cX9_isKey 1 = .ok (.istore_n 2, 1) := by decide +kernel
theorem dX9_isKey_2 : decode cX9_isKey 2 = .ok (.iconst 0, 1) := by decide +kernel
theorem dX9_isKey_3 : decode cX9_isKey 3 = .ok (.istore_n 3, 1) := by decide +kernel
theorem dX9_isKey_4 : decode cX9_isKey 4 = .ok (.iload_n 3, 1) := by decide +kernel
theorem dX9_isKey_5 : decode cX9_isKey 5 = .ok (.aload_n 0, 1) := by decide +kernel
theorem dX9_isKey_6 : decode cX9_isKey 6 = .ok (.getfield 7, 3) := by decide +kernel
theorem dX9_isKey_9 : decode cX9_isKey 9 = .ok (.iconst 0, 1) := by decide +kernel
theorem dX9_isKey_10 : decode cX9_isKey 10 = .ok (.iaload, 1) := by decide +kernel
theorem dX9_isKey_11 : decode cX9_isKey 11 = .ok (.if_icmp .ge 45, 3) := by decide +kernel
theorem dX9_isKey_14 : decode cX9_isKey 14 = .ok (.iconst 0, 1) := by decide +kernel
theorem dX9_isKey_15 : decode cX9_isKey 15 = .ok (.istore 4, 2) := by decide +kernel
theorem dX9_isKey_17 : decode cX9_isKey 17 = .ok (.iload 4, 2) := by decide +kernel
theorem dX9_isKey_19 : decode cX9_isKey 19 = .ok (.iload_n 3, 1) := by decide +kernel
theorem dX9_isKey_20 : decode cX9_isKey 20 = .ok (.if_icmp .ge 30, 3) := by decide +kernel
theorem dX9_isKey_23 : decode cX9_isKey 23 = .ok (.iload_n 2, 1) := by decide +kernel
theorem dX9_isKey_24 : decode cX9_isKey 24 = .ok (.ifCond .eq 26, 3) := by decide +kernel
theorem dX9_isKey_27 : decode cX9_isKey 27 = .ok (.aload_n 0, 1) := by decide +kernel
theorem dX9_isKey_28 : decode cX9_isKey 28 = .ok (.iload_n 1, 1) := by decide +kernel
theorem dX9_isKey_29 : decode cX9_isKey 29 = .ok (.iload_n 3, 1) := by decide +kernel
theorem dX9_isKey_30 : decode cX9_isKey 30 = .ok (.iload 4, 2) := by decide +kernel
theorem dX9_isKey_32 : decode cX9_isKey 32 = .ok (.invokevirtual 230, 3) := by decide +kernel
theorem dX9_isKey_35 : decode cX9_isKey 35 = .ok (.ifCond .ne 7, 3) := by decide +kernel
theorem dX9_isKey_38 : decode cX9_isKey 38 = .ok (.iconst 1, 1) := by decide +kernel
theorem dX9_isKey_39 : decode cX9_isKey 39 = .ok (.goto 4, 3) := by decide +kernel
theorem dX9_isKey_42 : decode cX9_isKey 42 = .ok (.iconst 0, 1) := by decide +kernel
theorem dX9_isKey_43 : decode cX9_isKey 43 = .ok (.istore_n 2, 1) := by decide +kernel
theorem dX9_isKey_44 : decode cX9_isKey 44 = .ok (.iinc 4 1, 3) := by decide +kernel
theorem dX9_isKey_47 : decode cX9_isKey 47 = .ok (.goto (-30), 3) := by decide +kernel
theorem dX9_isKey_50 : decode cX9_isKey 50 = .ok (.iinc 3 1, 3) := by decide +kernel
theorem dX9_isKey_53 : decode cX9_isKey 53 = .ok (.goto (-49), 3) := by decide +kernel
theorem dX9_isKey_56 : decode cX9_isKey 56 = .ok (.iload_n 2, 1) := by decide +kernel
theorem dX9_isKey_57 : decode cX9_isKey 57 = .ok (.ireturn, 1) := by decide +kernel
theorem bX9_isKey_0 : tg_Snd mX9_isKey 0 (fun k => ti_push (.int 1) (ti_istore 2 (ti_push (.int 0) (ti_istore 3 k)))) 4 := tg_seq (si_iconst (v := 1) dX9_isKey_0 (by decide)) (tg_seq (si_istore_n (i := 2) dX9_isKey_1 rfl (Nat.le_of_ble_eq_true rfl)) (tg_seq (si_iconst (v := 0) dX9_isKey_2 (by decide)) (si_istore_n (i := 3) dX9_isKey_3 rfl (Nat.le_of_ble_eq_true rfl))))
theorem bX9_isKey_4 : tg_Snd mX9_isKey 4 (fun k => ti_iload 3 (ti_aload 0 (ti_getf 8 0 (ti_push (.int 0) (ti_iald k))))) 11 := tg_seq (si_iload_n (i := 3) dX9_isKey_4 rfl) (tg_seq (si_aload_n (i := 0) dX9_isKey_5 rfl) (tg_seq (si_getf (ci := 8) (f := 0) clX9 (Nat.le_of_ble_eq_true rfl) rfl flX9_7 dX9_isKey_6) (tg_seq (si_iconst (v := 0) dX9_isKey_9 (by decide)) (si_iald dX9_isKey_10))))
theorem bX9_isKey_14 : tg_Snd mX9_isKey 14 (fun k => ti_push (.int 0) (ti_istore 4 k)) 17 := tg_seq (si_iconst (v := 0) dX9_isKey_14 (by decide)) (si_istore (i := 4) dX9_isKey_15 (Nat.le_of_ble_eq_true rfl))
theorem bX9_isKey_17 : tg_Snd mX9_isKey 17 (fun k => ti_iload 4 (ti_iload 3 k)) 20 := tg_seq (si_iload (i := 4) dX9_isKey_17) (si_iload_n (i := 3) dX9_isKey_19 rfl)
theorem bX9_isKey_23 : tg_Snd mX9_isKey 23 (fun k => ti_iload 2 k) 24 := si_iload_n (i := 2) dX9_isKey_23 rfl
theorem bX9_isKey_27 : tg_Snd mX9_isKey 27 (fun k => ti_aload 0 (ti_iload 1 (ti_iload 3 (ti_iload 4 k)))) 32 := tg_seq (si_aload_n (i := 0) dX9_isKey_27 rfl) (tg_seq (si_iload_n (i := 1) dX9_isKey_28 rfl) (tg_seq (si_iload_n (i := 3) dX9_isKey_29 rfl) (si_iload (i := 4) dX9_isKey_30)))
theorem bX9_isKey_38 : tg_Snd mX9_isKey 38 (fun k => ti_push (.int 1) k) 39 := si_iconst (v := 1) dX9_isKey_38 (by decide)
theorem bX9_isKey_42 : tg_Snd mX9_isKey 42 (fun k => ti_push (.int 0) k) 43 := si_iconst (v := 0) dX9_isKey_42 (by decide)
theorem bX9_isKey_43 : tg_Snd mX9_isKey 43 (fun k => ti_istore 2 (ti_iinc 4 1 k)) 47 := tg_seq (si_istore_n (i := 2) dX9_isKey_43 rfl (Nat.le_of_ble_eq_true rfl)) (si_iinc (v := 1) dX9_isKey_44 (by decide) (Nat.le_of_ble_eq_true rfl))
theorem bX9_isKey_50 : tg_Snd mX9_isKey 50 (fun k => ti_iinc 3 1 k) 53 := si_iinc (v := 1) dX9_isKey_50 (by decide) (Nat.le_of_ble_eq_true rfl)
theorem bX9_isKey_56 : tg_Snd mX9_isKey 56 (fun k => ti_iload 2 k) 57 := si_iload_n (i := 2) dX9_isKey_56 rfl
theorem vX9_isKey_32 : tg_VS mX9_isKey 32 mX9_areAlike 3 := ⟨okX9_areAlike, ⟨230, dX9_isKey_32, mlX9_230⟩, insX9_areAlike, selX9_areAlike, parX9_areAlike, rfl, rfl, Nat.le_of_ble_eq_true rfl, Nat.le_of_ble_eq_true rfl⟩
theorem dX9_bits4_0 : decode cX9_bits4 0 = .ok (.iload_n 0, 1) := by decide +kernel
theorem dX9_bits4_1 : decode cX9_bits4 1 = .ok (.iconst 1, 1) := by decide +kernel
theorem dX9_bits4_2 : decode cX9_bits4 2 = .ok (.iand, 1) := by decide +kernel
theorem dX9_bits4_3 : decode cX9_bits4 3 = .ok (.iload_n 0, 1) := by decide +kernel
theorem dX9_bits4_4 : decode cX9_bits4 4 = .ok (.iconst 1, 1) := by decide +kernel
theorem dX9_bits4_5 : decode cX9_bits4 5 = .ok (.ishr, 1) := by decide +kernel
theorem dX9_bits4_6 : decode cX9_bits4 6 = .ok (.iconst 1, 1) := by decide +kernel
theorem dX9_bits4_7 : decode cX9_bits4 7 = .ok (.iand, 1) := by decide +kernel
theorem dX9_bits4_8 : decode cX9_bits4 8 = .ok (.iadd, 1) := by decide +kernel
theorem dX9_bits4_9 : decode cX9_bits4 9 = .ok (.iload_n 0, 1) := by decide +kernel
theorem dX9_bits4_10 : decode cX9_bits4 10 = .ok (.iconst 2, 1) := by decide +kernel
theorem dX9_bits4_11 : decode cX9_bits4 11 = .ok (.ishr, 1) := by decide +kernel
theorem dX9_bits4_12 : decode cX9_bits4 12 = .ok (.iconst 1, 1) := by decide +kernel
theorem dX9_bits4_13 : decode cX9_bits4 13 = .ok (.iand, 1) := by decide +kernel
theorem dX9_bits4_14 : decode cX9_bits4 14 = .ok (.iadd, 1) := by decide +kernel
theorem dX9_bits4_15 : decode cX9_bits4 15 = .ok (.iload_n 0, 1) := by decide +kernel
theorem dX9_bits4_16 : decode cX9_bits4 16 = .ok (.iconst 3, 1) := by decide +kernel
theorem dX9_bits4_17 : decode cX9_bits4 17 = .ok (.ishr, 1) := by decide +kernel
theorem dX9_bits4_18 : decode cX9_bits4 18 = .ok (.iconst 1, 1) := by decide +kernel
theorem dX9_bits4_19 : decode cX9_bits4 19 = .ok (.iand, 1) := by decide +kernel
theorem dX9_bits4_20 : decode cX9_bits4 20 = .ok (.iadd, 1) := by decide +kernel
theorem dX9_bits4_21 : decode cX9_bits4 21 = .ok (.ireturn, 1) := by decide +kernel
theorem bX9_bits4_0 : tg_Snd mX9_bits4 0 (fun k => ti_iload 0 (ti_push (.int 1) (ti_iand (ti_iload 0 (ti_push (.int 1) (ti_ishr (ti_push (.int 1) (ti_iand (ti_iadd (ti_iload 0 (ti_push (.int 2) (ti_ishr (ti_push (.int 1) (ti_iand (ti_iadd (ti_iload 0 (ti_push (.int 3) (ti_ishr (ti_push (.int 1) (ti_iand (ti_iadd k))))))))))))))))))))) 21 := tg_seq (si_iload_n (i := 0) dX9_bits4_0 rfl) (tg_seq (si_iconst (v := 1) dX9_bits4_1 (by decide)) (tg_seq (si_iand dX9_bits4_2) (tg_seq (si_iload_n (i := 0) dX9_bits4_3 rfl) (tg_seq (si_iconst (v := 1) dX9_bits4_4 (by decide)) (tg_seq (si_ishr dX9_bits4_5) (tg_seq (si_iconst (v := 1) dX9_bits4_6 (by decide)) (tg_seq (si_iand dX9_bits4_7) (tg_seq (si_iadd dX9_bits4_8) (tg_seq (si_iload_n (i := 0) dX9_bits4_9 rfl) (tg_seq (si_iconst (v := 2) dX9_bits4_10 (by decide)) (tg_seq (si_ishr dX9_bits4_11) (tg_seq (si_iconst (v := 1) dX9_bits4_12 (by decide)) (tg_seq (si_iand dX9_bits4_13) (tg_seq (si_iadd dX9_bits4_14) (tg_seq (si_iload_n (i := 0) dX9_bits4_15 rfl) (tg_seq (si_iconst (v := 3) dX9_bits4_16 (by decide)) (tg_seq (si_ishr dX9_bits4_17) (tg_seq (si_iconst (v := 1) dX9_bits4_18 (by decide)) (tg_seq (si_iand dX9_bits4_19) (si_iadd dX9_bits4_20))))))))))))))))))))
theorem dX9_key_0 : decode cX9_key 0 = .ok (.iconst (-1), 1) := by decide +kernel
theorem dX9_key_1 : decode cX9_key 1 = .ok (.istore_n 1, 1) := by decide +kernel
theorem dX9_key_2 : decode cX9_key 2 = .ok (.iconst 0, 1) := by decide +kernel
theorem dX9_key_3 : decode cX9_key 3 = .ok (.istore_n 2, 1) := by decide +kernel
theorem dX9_key_4 : decode cX9_key 4 = .ok (.iload_n 2, 1) := by decide +kernel
theorem dX9_key_5 : decode cX9_key 5 = .ok (.iconst 1, 1) := by decide +kernel
theorem dX9_key_6 : decode cX9_key 6 = .ok (.aload_n 0, 1) := by decide +kernel
theorem dX9_key_7 : decode cX9_key 7 = .ok (.getfield 13, 3) := by decide +kernel
theorem dX9_key_10 : decode cX9_key 10 = .ok (.ishl, 1) := by decide +kernel
theorem dX9_key_11 : decode cX9_key 11 = .ok (.if_icmp .ge 35, 3) := by decide +kernel
theorem dX9_key_14 : decode cX9_key 14 = .ok (.aload_n 0, 1) := by decide +kernel
theorem dX9_key_15 : decode cX9_key 15 = .ok (.iload_n 2, 1) := by decide +kernel
theorem dX9_key_16 : decode cX9_key 16 = .ok (.invokevirtual 234, 3) := by decide +kernel
theorem dX9_key_19 : decode cX9_key 19 = .ok (.ifCond .eq 21, 3) := by decide +kernel
theorem dX9_key_22 : decode cX9_key 22 = .ok (.iload_n 1, 1) := by decide +kernel
theorem dX9_key_23 : decode cX9_key 23 = .ok (.iconst (-1), 1) := by decide +kernel
theorem dX9_key_24 : decode cX9_key 24 = .ok (.if_icmp .eq 14, 3) := by decide +kernel
theorem dX9_key_27 : decode cX9_key 27 = .ok (.iload_n 2, 1) := by decide +kernel
theorem dX9_key_28 : decode cX9_key 28 = .ok (.invokestatic 237, 3) := by decide +kernel
theorem dX9_key_31 : decode cX9_key 31 = .ok (.iload_n 1, 1) := by decide +kernel
theorem dX9_key_32 : decode cX9_key 32 = .ok (.invokestatic 237, 3) := by decide +kernel
theorem dX9_key_35 : decode cX9_key 35 = .ok (.if_icmp .ge 5, 3) := by decide +kernel
theorem dX9_key_38 : decode cX9_key 38 = .ok (.iload_n 2, 1) := by decide +kernel
theorem dX9_key_39 : decode cX9_key 39 = .ok (.istore_n 1, 1) := by decide +kernel
theorem dX9_key_40 : decode cX9_key 40 = .ok (.iinc 2 1, 3) := by decide +kernel
theorem dX9_key_43 : decode cX9_key 43 = .ok (.goto (-39), 3) := by decide +kernel
theorem dX9_key_46 : decode cX9_key 46 = .ok (.iload_n 1, 1) := by decide +kernel
theorem dX9_key_47 : decode cX9_key 47 = .ok (.ireturn, 1) := by decide +kernel
theorem bX9_key_0 : tg_Snd mX9_key 0 (fun k => ti_push (.int (-1)) (ti_istore 1 (ti_push (.int 0) (ti_istore 2 k)))) 4 := tg_seq (si_iconst (v := -1) dX9_key_0 (by decide)) (tg_seq (si_istore_n (i := 1) dX9_key_1 rfl (Nat.le_of_ble_eq_true rfl)) (tg_seq (si_iconst (v := 0) dX9_key_2 (by decide)) (si_istore_n (i := 2) dX9_key_3 rfl (Nat.le_of_ble_eq_true rfl))))
theorem bX9_key_4 : tg_Snd mX9_key 4 (fun k => ti_iload 2 (ti_push (.int 1) (ti_aload 0 (ti_getf 8 1 (ti_ishl k))))) 11 := tg_seq (si_iload_n (i := 2) dX9_key_4 rfl) (tg_seq (si_iconst (v := 1) dX9_key_5 (by decide)) (tg_seq (si_aload_n (i := 0) dX9_key_6 rfl) (tg_seq (si_getf (ci := 8) (f := 1) clX9 (Nat.le_of_ble_eq_true rfl) rfl flX9_13 dX9_key_7) (si_ishl dX9_key_10))))
theorem bX9_key_14 : tg_Snd mX9_key 14 (fun k => ti_aload 0 (ti_iload 2 k)) 16 := tg_seq (si_aload_n (i := 0) dX9_key_14 rfl) (si_iload_n (i := 2) dX9_key_15 rfl)
theorem bX9_key_22 : tg_Snd mX9_key 22 (fun k => ti_iload 1 (ti_push (.int (-1)) k)) 24 := tg_seq (si_iload_n (i := 1) dX9_key_22 rfl) (si_iconst (v := -1) dX9_key_23 (by decide))
theorem bX9_key_27 : tg_Snd mX9_key 27 (fun k => ti_iload 2 k) 28 := si_iload_n (i := 2) dX9_key_27 rfl
theorem bX9_key_31 : tg_Snd mX9_key 31 (fun k => ti_iload 1 k) 32 := si_iload_n (i := 1) dX9_key_31 rfl
theorem bX9_key_38 : tg_Snd mX9_key 38 (fun k => ti_iload 2 (ti_istore 1 k)) 40 := tg_seq (si_iload_n (i := 2) dX9_key_38 rfl) (si_istore_n (i := 1) dX9_key_39 rfl (Nat.le_of_ble_eq_true rfl))
theorem bX9_key_40 : tg_Snd mX9_key 40 (fun k => ti_iinc 2 1 k) 43 := si_iinc (v := 1) dX9_key_40 (by decide) (Nat.le_of_ble_eq_true rfl)
theorem bX9_key_46 : tg_Snd mX9_key 46 (fun k => ti_iload 1 k) 47 := si_iload_n (i := 1) dX9_key_46 rfl
theorem vX9_key_16 : tg_VS mX9_key 16 mX9_isKey 1 := ⟨okX9_isKey, ⟨234, dX9_key_16, mlX9_234⟩, insX9_isKey, selX9_isKey, parX9_isKey, rfl, rfl, Nat.le_of_ble_eq_true rfl, Nat.le_of_ble_eq_true rfl⟩
theorem vX9_key_28 : tg_SS0 mX9_key 28 mX9_bits4 1 := ⟨okX9_bits4, ⟨237, dX9_key_28, mlX9_237⟩, staX9_bits4, parX9_bits4, rfl, rfl, Nat.le_of_ble_eq_true rfl, Nat.le_of_ble_eq_true rfl⟩
theorem vX9_key_32 : tg_SS0 mX9_key 32 mX9_bits4 1 := ⟨okX9_bits4, ⟨237, dX9_key_32, mlX9_237⟩, staX9_bits4, parX9_bits4, rfl, rfl, Nat.le_of_ble_eq_true rfl, Nat.le_of_ble_eq_true rfl⟩
theorem dX9_rule_0 : decode cX9_rule 0 = .ok (.iload_n 1, 1) := by decide +kernel
theorem dX9_rule_1 : decode cX9_rule 1 = .ok (.i2l, 1) := by decide +kernel
theorem dX9_rule_2 : decode cX9_rule 2 = .ok (.lconst 0, 1) := by decide +kernel
theorem dX9_rule_3 : decode cX9_rule 3 = .ok (.iconst 1, 1) := by decide +kernel
theorem dX9_rule_4 : decode cX9_rule 4 = .ok (.aload_n 0, 1) := by decide +kernel
theorem dX9_rule_5 : decode cX9_rule 5 = .ok (.getfield 13, 3) := by decide +kernel
theorem dX9_rule_8 : decode cX9_rule 8 = .ok (.ishl, 1) := by decide +kernel
theorem dX9_rule_9 : decode cX9_rule 9 = .ok (.iconst 1, 1) := by decide +kernel
theorem dX9_rule_10 : decode cX9_rule 10 = .ok (.isub, 1) := by decide +kernel
theorem dX9_rule_11 : decode cX9_rule 11 = .ok (.i2l, 1) := by decide +kernel
theorem dX9_rule_12 : decode cX9_rule 12 = .ok (.invokestatic 54, 3) := by decide +kernel
theorem dX9_rule_15 : decode cX9_rule 15 = .ok (.ifCond .eq 19, 3) := by decide +kernel
theorem dX9_rule_18 : decode cX9_rule 18 = .ok (.iload_n 2, 1) := by decide +kernel
theorem dX9_rule_19 : decode cX9_rule 19 = .ok (.i2l, 1) := by decide +kernel
theorem dX9_rule_20 : decode cX9_rule 20 = .ok (.lconst 0, 1) := by decide +kernel
theorem dX9_rule_21 : decode cX9_rule 21 = .ok (.aload_n 0, 1) := by decide +kernel
theorem dX9_rule_22 : decode cX9_rule 22 = .ok (.getfield 13, 3) := by decide +kernel
theorem dX9_rule_25 : decode cX9_rule 25 = .ok (.iconst 1, 1) := by decide +kernel
theorem dX9_rule_26 : decode cX9_rule 26 = .ok (.isub, 1) := by decide +kernel
theorem dX9_rule_27 : decode cX9_rule 27 = .ok (.i2l, 1) := by decide +kernel
theorem dX9_rule_28 : decode cX9_rule 28 = .ok (.invokestatic 54, 3) := by decide +kernel
theorem dX9_rule_31 : decode cX9_rule 31 = .ok (.ifCond .ne 6, 3) := by decide +kernel
theorem dX9_rule_34 : decode cX9_rule 34 = .ok (.bipush (-3), 2) := by decide +kernel
theorem dX9_rule_36 : decode cX9_rule 36 = .ok (.ireturn, 1) := by decide +kernel
theorem dX9_rule_37 : decode cX9_rule 37 = .ok (.iconst 1, 1) := by decide +kernel
theorem dX9_rule_38 : decode cX9_rule 38 = .ok (.istore_n 3, 1) := by decide +kernel
theorem dX9_rule_39 : decode cX9_rule 39 = .ok (.iconst 0, 1) := by decide +kernel
theorem dX9_rule_40 : decode cX9_rule 40 = .ok (.istore 4, 2) := by decide +kernel
theorem dX9_rule_42 : decode cX9_rule 42 = .ok (.iload 4, 2) := by decide +kernel
theorem dX9_rule_44 : decode cX9_rule 44 = .ok (.aload_n 0, 1) := by decide +kernel
theorem dX9_rule_45 : decode cX9_rule 45 = .ok (.getfield 7, 3) := by decide +kernel
theorem dX9_rule_48 : decode cX9_rule 48 = .ok (.iconst 0, 1) := by decide +kernel
theorem dX9_rule_49 : decode cX9_rule 49 = .ok (.iaload, 1) := by decide +kernel
theorem dX9_rule_50 : decode cX9_rule 50 = .ok (.if_icmp .ge 61, 3) := by decide +kernel
theorem dX9_rule_53 : decode cX9_rule 53 = .ok (.iconst 0, 1) := by decide +kernel
theorem dX9_rule_54 : decode cX9_rule 54 = .ok (.istore 5, 2) := by decide +kernel
theorem dX9_rule_56 : decode cX9_rule 56 = .ok (.iload 5, 2) := by decide +kernel
theorem dX9_rule_58 : decode cX9_rule 58 = .ok (.iload 4, 2) := by decide +kernel
theorem dX9_rule_60 : decode cX9_rule 60 = .ok (.if_icmp .ge 45, 3) := by decide +kernel
theorem dX9_rule_63 : decode cX9_rule 63 = .ok (.iload_n 3, 1) := by decide +kernel
theorem dX9_rule_64 : decode cX9_rule 64 = .ok (.ifCond .eq 41, 3) := by decide +kernel
theorem dX9_rule_67 : decode cX9_rule 67 = .ok (.aload_n 0, 1) := by decide +kernel
theorem dX9_rule_68 : decode cX9_rule 68 = .ok (.iload_n 1, 1) := by decide +kernel
theorem dX9_rule_69 : decode cX9_rule 69 = .ok (.iload 4, 2) := by decide +kernel
theorem dX9_rule_71 : decode cX9_rule 71 = .ok (.iload 5, 2) := by decide +kernel
theorem dX9_rule_73 : decode cX9_rule 73 = .ok (.invokevirtual 230, 3) := by decide +kernel
theorem dX9_rule_76 : decode cX9_rule 76 = .ok (.ifCond .eq 17, 3) := by decide +kernel
theorem dX9_rule_79 : decode cX9_rule 79 = .ok (.aload_n 0, 1) := by decide +kernel
theorem dX9_rule_80 : decode cX9_rule 80 = .ok (.iconst 1, 1) := by decide +kernel
theorem dX9_rule_81 : decode cX9_rule 81 = .ok (.iload_n 2, 1) := by decide +kernel
theorem dX9_rule_82 : decode cX9_rule 82 = .ok (.ishl, 1) := by decide +kernel
theorem dX9_rule_83 : decode cX9_rule 83 = .ok (.iload 4, 2) := by decide +kernel
theorem dX9_rule_85 : decode cX9_rule 85 = .ok (.iload 5, 2) := by decide +kernel
theorem dX9_rule_87 : decode cX9_rule 87 = .ok (.invokevirtual 230, 3) := by decide +kernel
theorem dX9_rule_90 : decode cX9_rule 90 = .ok (.ifCond .eq 7, 3) := by decide +kernel
theorem dX9_rule_93 : decode cX9_rule 93 = .ok (.iconst 1, 1) := by decide +kernel
theorem dX9_rule_94 : decode cX9_rule 94 = .ok (.goto 4, 3) := by decide +kernel
theorem dX9_rule_97 : decode cX9_rule 97 = .ok (.iconst 0, 1) := by decide +kernel
theorem dX9_rule_98 : decode cX9_rule 98 = .ok (.istore_n 3, 1) := by decide +kernel
theorem dX9_rule_99 : decode cX9_rule 99 = .ok (.iinc 5 1, 3) := by decide +kernel
theorem dX9_rule_102 : decode cX9_rule 102 = .ok (.goto (-46), 3) := by decide +kernel
theorem dX9_rule_105 : decode cX9_rule 105 = .ok (.iinc 4 1, 3) := by decide +kernel
theorem dX9_rule_108 : decode cX9_rule 108 = .ok (.goto (-66), 3) := by decide +kernel
theorem dX9_rule_111 : decode cX9_rule 111 = .ok (.iload_n 3, 1) := by decide +kernel
theorem dX9_rule_112 : decode cX9_rule 112 = .ok (.ifCond .eq 7, 3) := by decide +kernel
theorem dX9_rule_115 : decode cX9_rule 115 = .ok (.iconst 1, 1) := by decide +kernel
theorem dX9_rule_116 : decode cX9_rule 116 = .ok (.goto 4, 3) := by decide +kernel
theorem dX9_rule_119 : decode cX9_rule 119 = .ok (.iconst 0, 1) := by decide +kernel
theorem dX9_rule_120 : decode cX9_rule 120 = .ok (.ireturn, 1) := by decide +kernel
theorem bX9_rule_0 : tg_Snd mX9_rule 0 (fun k => ti_iload 1 (ti_i2l (ti_push (.long 0) (ti_push (.int 1) (ti_aload 0 (ti_getf 8 1 (ti_ishl (ti_push (.int 1) (ti_isub (ti_i2l k)))))))))) 12 := tg_seq (si_iload_n (i := 1) dX9_rule_0 rfl) (tg_seq (si_i2l dX9_rule_1) (tg_seq (si_lconst (v := 0) dX9_rule_2 (by decide)) (tg_seq (si_iconst (v := 1) dX9_rule_3 (by decide)) (tg_seq (si_aload_n (i := 0) dX9_rule_4 rfl) (tg_seq (si_getf (ci := 8) (f := 1) clX9 (Nat.le_of_ble_eq_true rfl) rfl flX9_13 dX9_rule_5) (tg_seq (si_ishl dX9_rule_8) (tg_seq (si_iconst (v := 1) dX9_rule_9 (by decide)) (tg_seq (si_isub dX9_rule_10) (si_i2l dX9_rule_11)))))))))
theorem bX9_rule_18 : tg_Snd mX9_rule 18 (fun k => ti_iload 2 (ti_i2l (ti_push (.long 0) (ti_aload 0 (ti_getf 8 1 (ti_push (.int 1) (ti_isub (ti_i2l k)))))))) 28 := tg_seq (si_iload_n (i := 2) dX9_rule_18 rfl) (tg_seq (si_i2l dX9_rule_19) (tg_seq (si_lconst (v := 0) dX9_rule_20 (by decide)) (tg_seq (si_aload_n (i := 0) dX9_rule_21 rfl) (tg_seq (si_getf (ci := 8) (f := 1) clX9 (Nat.le_of_ble_eq_true rfl) rfl flX9_13 dX9_rule_22) (tg_seq (si_iconst (v := 1) dX9_rule_25 (by decide)) (tg_seq (si_isub dX9_rule_26) (si_i2l dX9_rule_27)))))))
theorem bX9_rule_34 : tg_Snd mX9_rule 34 (fun k => ti_push (.int (-3)) k) 36 := si_bipush (v := -3) dX9_rule_34 (by decide)
theorem bX9_rule_37 : tg_Snd mX9_rule 37 (fun k => ti_push (.int 1) (ti_istore 3 (ti_push (.int 0) (ti_istore 4 k)))) 42 := tg_seq (si_iconst (v := 1) dX9_rule_37 (by decide)) (tg_seq (si_istore_n (i := 3) dX9_rule_38 rfl (Nat.le_of_ble_eq_true rfl)) (tg_seq (si_iconst (v := 0) dX9_rule_39 (by decide)) (si_istore (i := 4) dX9_rule_40 (Nat.le_of_ble_eq_true rfl))))
theorem bX9_rule_42 : tg_Snd mX9_rule 42 (fun k => ti_iload 4 (ti_aload 0 (ti_getf 8 0 (ti_push (.int 0) (ti_iald k))))) 50 := tg_seq (si_iload (i := 4) dX9_rule_42) (tg_seq (si_aload_n (i := 0) dX9_rule_44 rfl) (tg_seq (si_getf (ci := 8) (f := 0) clX9 (Nat.le_of_ble_eq_true rfl) rfl flX9_7 dX9_rule_45) (tg_seq (si_iconst (v := 0) dX9_rule_48 (by decide)) (si_iald dX9_rule_49))))
theorem bX9_rule_53 : tg_Snd mX9_rule 53 (fun k => ti_push (.int 0) (ti_istore 5 k)) 56 := tg_seq (si_iconst (v := 0) dX9_rule_53 (by decide)) (si_istore (i := 5) dX9_rule_54 (Nat.le_of_ble_eq_true rfl))
theorem bX9_rule_56 : tg_Snd mX9_rule 56 (fun k => ti_iload 5 (ti_iload 4 k)) 60 := tg_seq (si_iload (i := 5) dX9_rule_56) (si_iload (i := 4) dX9_rule_58)
theorem bX9_rule_63 : tg_Snd mX9_rule 63 (fun k => ti_iload 3 k) 64 := si_iload_n (i := 3) dX9_rule_63 rfl
theorem bX9_rule_67 : tg_Snd mX9_rule 67 (fun k => ti_aload 0 (ti_iload 1 (ti_iload 4 (ti_iload 5 k)))) 73 := tg_seq (si_aload_n (i := 0) dX9_rule_67 rfl) (tg_seq (si_iload_n (i := 1) dX9_rule_68 rfl) (tg_seq (si_iload (i := 4) dX9_rule_69) (si_iload (i := 5) dX9_rule_71)))
theorem bX9_rule_79 : tg_Snd mX9_rule 79 (fun k => ti_aload 0 (ti_push (.int 1) (ti_iload 2 (ti_ishl (ti_iload 4 (ti_iload 5 k)))))) 87 := tg_seq (si_aload_n (i := 0) dX9_rule_79 rfl) (tg_seq (si_iconst (v := 1) dX9_rule_80 (by decide)) (tg_seq (si_iload_n (i := 2) dX9_rule_81 rfl) (tg_seq (si_ishl dX9_rule_82) (tg_seq (si_iload (i := 4) dX9_rule_83) (si_iload (i := 5) dX9_rule_85)))))
theorem bX9_rule_93 : tg_Snd mX9_rule 93 (fun k => ti_push (.int 1) k) 94 := si_iconst (v := 1) dX9_rule_93 (by decide)
theorem bX9_rule_97 : tg_Snd mX9_rule 97 (fun k => ti_push (.int 0) k) 98 := si_iconst (v := 0) dX9_rule_97 (by decide)
theorem bX9_rule_98 : tg_Snd mX9_rule 98 (fun k => ti_istore 3 (ti_iinc 5 1 k)) 102 := tg_seq (si_istore_n (i := 3) dX9_rule_98 rfl (Nat.le_of_ble_eq_true rfl)) (si_iinc (v := 1) dX9_rule_99 (by decide) (Nat.le_of_ble_eq_true rfl))
theorem bX9_rule_105 : tg_Snd mX9_rule 105 (fun k => ti_iinc 4 1 k) 108 := si_iinc (v := 1) dX9_rule_105 (by decide) (Nat.le_of_ble_eq_true rfl)
theorem bX9_rule_111 : tg_Snd mX9_rule 111 (fun k => ti_iload 3 k) 112 := si_iload_n (i := 3) dX9_rule_111 rfl
theorem bX9_rule_115 : tg_Snd mX9_rule 115 (fun k => ti_push (.int 1) k) 116 := si_iconst (v := 1) dX9_rule_115 (by decide)
theorem bX9_rule_119 : tg_Snd mX9_rule 119 (fun k => ti_push (.int 0) k) 120 := si_iconst (v := 0) dX9_rule_119 (by decide)
theorem vX9_rule_12 : tg_SS0 mX9_rule 12 mX9_in 3 := ⟨okX9_in, ⟨54, dX9_rule_12, mlX9_54⟩, staX9_in, parX9_in, rfl, rfl, Nat.le_of_ble_eq_true rfl, Nat.le_of_ble_eq_true rfl⟩
theorem vX9_rule_28 : tg_SS0 mX9_rule 28 mX9_in 3 := ⟨okX9_in, ⟨54, dX9_rule_28, mlX9_54⟩, staX9_in, parX9_in, rfl, rfl, Nat.le_of_ble_eq_true rfl, Nat.le_of_ble_eq_true rfl⟩
theorem vX9_rule_73 : tg_VS mX9_rule 73 mX9_areAlike 3 := ⟨okX9_areAlike, ⟨230, dX9_rule_73, mlX9_230⟩, insX9_areAlike, selX9_areAlike, parX9_areAlike, rfl, rfl, Nat.le_of_ble_eq_true rfl, Nat.le_of_ble_eq_true rfl⟩
theorem vX9_rule_87 : tg_VS mX9_rule 87 mX9_areAlike 3 := ⟨okX9_areAlike, ⟨230, dX9_rule_87, mlX9_230⟩, insX9_areAlike, selX9_areAlike, parX9_areAlike, rfl, rfl, Nat.le_of_ble_eq_true rfl, Nat.le_of_ble_eq_true rfl⟩
theorem dX9_isRow_0 : decode cX9_isRow 0 = .ok (.iload_n 0, 1) := by decide +kernel
theorem dX9_isRow_1 : decode cX9_isRow 1 = .ok (.i2l, 1) := by decide +kernel
theorem dX9_isRow_2 : decode cX9_isRow 2 = .ok (.lconst 0, 1) := by decide +kernel
theorem dX9_isRow_3 : decode cX9_isRow 3 = .ok (.ldc2_w 240, 3) := by decide +kernel
theorem dX9_isRow_6 : decode cX9_isRow 6 = .ok (.invokestatic 54, 3) := by decide +kernel
theorem dX9_isRow_9 : decode cX9_isRow 9 = .ok (.ireturn, 1) := by decide +kernel
theorem bX9_isRow_0 : tg_Snd mX9_isRow 0 (fun k => ti_iload 0 (ti_i2l (ti_push (.long 0) (ti_push (.long 2) k)))) 6 := tg_seq (si_iload_n (i := 0) dX9_isRow_0 rfl) (tg_seq (si_i2l dX9_isRow_1) (tg_seq (si_lconst (v := 0) dX9_isRow_2 (by decide)) (si_ldc2 (v := 2) dX9_isRow_3 klX9_240)))
theorem vX9_isRow_6 : tg_SS0 mX9_isRow 6 mX9_in 3 := ⟨okX9_in, ⟨54, dX9_isRow_6, mlX9_54⟩, staX9_in, parX9_in, rfl, rfl, Nat.le_of_ble_eq_true rfl, Nat.le_of_ble_eq_true rfl⟩
theorem dX9_row_0 : decode cX9_row 0 = .ok (.iload_n 1, 1) := by decide +kernel
theorem dX9_row_1 : decode cX9_row 1 = .ok (.invokestatic 242, 3) := by decide +kernel
theorem dX9_row_4 : decode cX9_row 4 = .ok (.ifCond .ne 6, 3) := by decide +kernel
theorem dX9_row_7 : decode cX9_row 7 = .ok (.bipush (-2), 2) := by decide +kernel
theorem dX9_row_9 : decode cX9_row 9 = .ok (.ireturn, 1) := by decide +kernel
theorem dX9_row_10 : decode cX9_row 10 = .ok (.iload_n 2, 1) := by decide +kernel
theorem dX9_row_11 : decode cX9_row 11 = .ok (.bipush 12, 2) := by decide +kernel
theorem dX9_row_13 : decode cX9_row 13 = .ok (.if_icmp .le 6, 3) := by decide +kernel
theorem dX9_row_16 : decode cX9_row 16 = .ok (.bipush (-3), 2) := by decide +kernel
theorem dX9_row_18 : decode cX9_row 18 = .ok (.ireturn, 1) := by decide +kernel
theorem dX9_row_19 : decode cX9_row 19 = .ok (.iload_n 2, 1) := by decide +kernel
theorem dX9_row_20 : decode cX9_row 20 = .ok (.ifCond .ge 6, 3) := by decide +kernel
theorem dX9_row_23 : decode cX9_row 23 = .ok (.bipush (-13), 2) := by decide +kernel
theorem dX9_row_25 : decode cX9_row 25 = .ok (.ireturn, 1) := by decide +kernel
theorem dX9_row_26 : decode cX9_row 26 = .ok (.aload_n 0, 1) := by decide +kernel
theorem dX9_row_27 : decode cX9_row 27 = .ok (.getfield 27, 3) := by decide +kernel
theorem dX9_row_30 : decode cX9_row 30 = .ok (.iload_n 1, 1) := by decide +kernel
theorem dX9_row_31 : decode cX9_row 31 = .ok (.iload_n 2, 1) := by decide +kernel
theorem dX9_row_32 : decode cX9_row 32 = .ok (.iastore, 1) := by decide +kernel
theorem dX9_row_33 : decode cX9_row 33 = .ok (.iconst 0, 1) := by decide +kernel
theorem dX9_row_34 : decode cX9_row 34 = .ok (.istore_n 3, 1) := by decide +kernel
theorem dX9_row_35 : decode cX9_row 35 = .ok (.iload_n 3, 1) := by decide +kernel
theorem dX9_row_36 : decode cX9_row 36 = .ok (.bipush 12, 2) := by decide +kernel
theorem dX9_row_38 : decode cX9_row 38 = .ok (.if_icmp .ge 21, 3) := by decide +kernel
theorem dX9_row_41 : decode cX9_row 41 = .ok (.aload_n 0, 1) := by decide +kernel
theorem dX9_row_42 : decode cX9_row 42 = .ok (.getfield 30, 3) := by decide +kernel
theorem dX9_row_45 : decode cX9_row 45 = .ok (.bipush 12, 2) := by decide +kernel
theorem dX9_row_47 : decode cX9_row 47 = .ok (.iload_n 1, 1) := by decide +kernel
theorem dX9_row_48 : decode cX9_row 48 = .ok (.imul, 1) := by decide +kernel
theorem dX9_row_49 : decode cX9_row 49 = .ok (.iload_n 3, 1) := by decide +kernel
theorem dX9_row_50 : decode cX9_row 50 = .ok (.iadd, 1) := by decide +kernel
theorem dX9_row_51 : decode cX9_row 51 = .ok (.lconst 0, 1) := by decide +kernel
theorem dX9_row_52 : decode cX9_row 52 = .ok (.lastore, 1) := by decide +kernel
theorem dX9_row_53 : decode cX9_row 53 = .ok (.iinc 3 1, 3) := by decide +kernel
theorem dX9_row_56 : decode cX9_row 56 = .ok (.goto (-21), 3) := by decide +kernel
theorem dX9_row_59 : decode cX9_row 59 = .ok (.iload_n 2, 1) := by decide +kernel
theorem dX9_row_60 : decode cX9_row 60 = .ok (.ireturn, 1) := by decide +kernel
theorem bX9_row_0 : tg_Snd mX9_row 0 (fun k => ti_iload 1 k) 1 := si_iload_n (i := 1) dX9_row_0 rfl
theorem bX9_row_7 : tg_Snd mX9_row 7 (fun k => ti_push (.int (-2)) k) 9 := si_bipush (v := -2) dX9_row_7 (by decide)
theorem bX9_row_10 : tg_Snd mX9_row 10 (fun k => ti_iload 2 (ti_push (.int 12) k)) 13 := tg_seq (si_iload_n (i := 2) dX9_row_10 rfl) (si_bipush (v := 12) dX9_row_11 (by decide))
theorem bX9_row_16 : tg_Snd mX9_row 16 (fun k => ti_push (.int (-3)) k) 18 := si_bipush (v := -3) dX9_row_16 (by decide)
theorem bX9_row_19 : tg_Snd mX9_row 19 (fun k => ti_iload 2 k) 20 := si_iload_n (i := 2) dX9_row_19 rfl
theorem bX9_row_23 : tg_Snd mX9_row 23 (fun k => ti_push (.int (-13)) k) 25 := si_bipush (v := -13) dX9_row_23 (by decide)
theorem bX9_row_26 : tg_Snd mX9_row 26 (fun k => ti_aload 0 (ti_getf 8 7 (ti_iload 1 (ti_iload 2 (ti_iast (ti_push (.int 0) (ti_istore 3 k))))))) 35 := tg_seq (si_aload_n (i := 0) dX9_row_26 rfl) (tg_seq (si_getf (ci := 8) (f := 7) clX9 (Nat.le_of_ble_eq_true rfl) rfl flX9_27 dX9_row_27) (tg_seq (si_iload_n (i := 1) dX9_row_30 rfl) (tg_seq (si_iload_n (i := 2) dX9_row_31 rfl) (tg_seq (si_iast dX9_row_32) (tg_seq (si_iconst (v := 0) dX9_row_33 (by decide)) (si_istore_n (i := 3) dX9_row_34 rfl (Nat.le_of_ble_eq_true rfl)))))))
theorem bX9_row_35 : tg_Snd mX9_row 35 (fun k => ti_iload 3 (ti_push (.int 12) k)) 38 := tg_seq (si_iload_n (i := 3) dX9_row_35 rfl) (si_bipush (v := 12) dX9_row_36 (by decide))
theorem bX9_row_41 : tg_Snd mX9_row 41 (fun k => ti_aload 0 (ti_getf 8 8 (ti_push (.int 12) (ti_iload 1 (ti_imul (ti_iload 3 (ti_iadd (ti_push (.long 0) (ti_last (ti_iinc 3 1 k)))))))))) 56 := tg_seq (si_aload_n (i := 0) dX9_row_41 rfl) (tg_seq (si_getf (ci := 8) (f := 8) clX9 (Nat.le_of_ble_eq_true rfl) rfl flX9_30 dX9_row_42) (tg_seq (si_bipush (v := 12) dX9_row_45 (by decide)) (tg_seq (si_iload_n (i := 1) dX9_row_47 rfl) (tg_seq (si_imul dX9_row_48) (tg_seq (si_iload_n (i := 3) dX9_row_49 rfl) (tg_seq (si_iadd dX9_row_50) (tg_seq (si_lconst (v := 0) dX9_row_51 (by decide)) (tg_seq (si_last dX9_row_52) (si_iinc (v := 1) dX9_row_53 (by decide) (Nat.le_of_ble_eq_true rfl))))))))))
theorem bX9_row_59 : tg_Snd mX9_row 59 (fun k => ti_iload 2 k) 60 := si_iload_n (i := 2) dX9_row_59 rfl
theorem vX9_row_1 : tg_SS0 mX9_row 1 mX9_isRow 1 := ⟨okX9_isRow, ⟨242, dX9_row_1, mlX9_242⟩, staX9_isRow, parX9_isRow, rfl, rfl, Nat.le_of_ble_eq_true rfl, Nat.le_of_ble_eq_true rfl⟩
theorem dX9_noPlace_0 : decode cX9_noPlace 0 = .ok (.iload_n 1, 1) := by decide +kernel
theorem dX9_noPlace_1 : decode cX9_noPlace 1 = .ok (.invokestatic 242, 3) := by decide +kernel
theorem dX9_noPlace_4 : decode cX9_noPlace 4 = .ok (.ifCond .ne 8, 3) := by decide +kernel
theorem dX9_noPlace_7 : decode cX9_noPlace 7 = .ok (.bipush (-2), 2) := by decide +kernel
theorem dX9_noPlace_9 : decode cX9_noPlace 9 = .ok (.goto 41, 3) := by decide +kernel
theorem dX9_noPlace_12 : decode cX9_noPlace 12 = .ok (.aload_n 0, 1) := by decide +kernel
theorem dX9_noPlace_13 : decode cX9_noPlace 13 = .ok (.getfield 27, 3) := by decide +kernel
theorem dX9_noPlace_16 : decode cX9_noPlace 16 = .ok (.iload_n 1, 1) := by decide +kernel
theorem dX9_noPlace_17 : decode cX9_noPlace 17 = .ok (.iaload, 1) := by decide +kernel
theorem dX9_noPlace_18 : decode cX9_noPlace 18 = .ok (.ifCond .ge 8, 3) := by decide +kernel
theorem dX9_noPlace_21 : decode cX9_noPlace 21 = .ok (.bipush (-11), 2) := by decide +kernel
theorem dX9_noPlace_23 : decode cX9_noPlace 23 = .ok (.goto 27, 3) := by decide +kernel
theorem dX9_noPlace_26 : decode cX9_noPlace 26 = .ok (.iload_n 2, 1) := by decide +kernel
theorem dX9_noPlace_27 : decode cX9_noPlace 27 = .ok (.i2l, 1) := by decide +kernel
theorem dX9_noPlace_28 : decode cX9_noPlace 28 = .ok (.lconst 0, 1) := by decide +kernel
theorem dX9_noPlace_29 : decode cX9_noPlace 29 = .ok (.aload_n 0, 1) := by decide +kernel
theorem dX9_noPlace_30 : decode cX9_noPlace 30 = .ok (.getfield 27, 3) := by decide +kernel
theorem dX9_noPlace_33 : decode cX9_noPlace 33 = .ok (.iload_n 1, 1) := by decide +kernel
theorem dX9_noPlace_34 : decode cX9_noPlace 34 = .ok (.iaload, 1) := by decide +kernel
theorem dX9_noPlace_35 : decode cX9_noPlace 35 = .ok (.iconst 1, 1) := by decide +kernel
theorem dX9_noPlace_36 : decode cX9_noPlace 36 = .ok (.isub, 1) := by decide +kernel
theorem dX9_noPlace_37 : decode cX9_noPlace 37 = .ok (.i2l, 1) := by decide +kernel
theorem dX9_noPlace_38 : decode cX9_noPlace 38 = .ok (.invokestatic 54, 3) := by decide +kernel
theorem dX9_noPlace_41 : decode cX9_noPlace 41 = .ok (.ifCond .eq 7, 3) := by decide +kernel
theorem dX9_noPlace_44 : decode cX9_noPlace 44 = .ok (.iconst 0, 1) := by decide +kernel
theorem dX9_noPlace_45 : decode cX9_noPlace 45 = .ok (.goto 5, 3) := by decide +kernel
theorem dX9_noPlace_48 : decode cX9_noPlace 48 = .ok (.bipush (-12), 2) := by decide +kernel
theorem dX9_noPlace_50 : decode cX9_noPlace 50 = .ok (.ireturn, 1) := by decide +kernel
theorem bX9_noPlace_0 : tg_Snd mX9_noPlace 0 (fun k => ti_iload 1 k) 1 := si_iload_n (i := 1) dX9_noPlace_0 rfl
theorem bX9_noPlace_7 : tg_Snd mX9_noPlace 7 (fun k => ti_push (.int (-2)) k) 9 := si_bipush (v := -2) dX9_noPlace_7 (by decide)
theorem bX9_noPlace_12 : tg_Snd mX9_noPlace 12 (fun k => ti_aload 0 (ti_getf 8 7 (ti_iload 1 (ti_iald k)))) 18 := tg_seq (si_aload_n (i := 0) dX9_noPlace_12 rfl) (tg_seq (si_getf (ci := 8) (f := 7) clX9 (Nat.le_of_ble_eq_true rfl) rfl flX9_27 dX9_noPlace_13) (tg_seq (si_iload_n (i := 1) dX9_noPlace_16 rfl) (si_iald dX9_noPlace_17)))
theorem bX9_noPlace_21 : tg_Snd mX9_noPlace 21 (fun k => ti_push (.int (-11)) k) 23 := si_bipush (v := -11) dX9_noPlace_21 (by decide)
theorem bX9_noPlace_26 : tg_Snd mX9_noPlace 26 (fun k => ti_iload 2 (ti_i2l (ti_push (.long 0) (ti_aload 0 (ti_getf 8 7 (ti_iload 1 (ti_iald (ti_push (.int 1) (ti_isub (ti_i2l k)))))))))) 38 := tg_seq (si_iload_n (i := 2) dX9_noPlace_26 rfl) (tg_seq (si_i2l dX9_noPlace_27) (tg_seq (si_lconst (v := 0) dX9_noPlace_28 (by decide)) (tg_seq (si_aload_n (i := 0) dX9_noPlace_29 rfl) (tg_seq (si_getf (ci := 8) (f := 7) clX9 (Nat.le_of_ble_eq_true rfl) rfl flX9_27 dX9_noPlace_30) (tg_seq (si_iload_n (i := 1) dX9_noPlace_33 rfl) (tg_seq (si_iald dX9_noPlace_34) (tg_seq (si_iconst (v := 1) dX9_noPlace_35 (by decide)) (tg_seq (si_isub dX9_noPlace_36) (si_i2l dX9_noPlace_37)))))))))
theorem bX9_noPlace_44 : tg_Snd mX9_noPlace 44 (fun k => ti_push (.int 0) k) 45 := si_iconst (v := 0) dX9_noPlace_44 (by decide)
theorem bX9_noPlace_48 : tg_Snd mX9_noPlace 48 (fun k => ti_push (.int (-12)) k) 50 := si_bipush (v := -12) dX9_noPlace_48 (by decide)
theorem vX9_noPlace_1 : tg_SS0 mX9_noPlace 1 mX9_isRow 1 := ⟨okX9_isRow, ⟨242, dX9_noPlace_1, mlX9_242⟩, staX9_isRow, parX9_isRow, rfl, rfl, Nat.le_of_ble_eq_true rfl, Nat.le_of_ble_eq_true rfl⟩
theorem vX9_noPlace_38 : tg_SS0 mX9_noPlace 38 mX9_in 3 := ⟨okX9_in, ⟨54, dX9_noPlace_38, mlX9_54⟩, staX9_in, parX9_in, rfl, rfl, Nat.le_of_ble_eq_true rfl, Nat.le_of_ble_eq_true rfl⟩
theorem dX9_set_0 : decode cX9_set 0 = .ok (.aload_n 0, 1) := by decide +kernel
theorem dX9_set_1 : decode cX9_set 1 = .ok (.iload_n 1, 1) := by decide +kernel
theorem dX9_set_2 : decode cX9_set 2 = .ok (.iload_n 2, 1) := by decide +kernel
theorem dX9_set_3 : decode cX9_set 3 = .ok (.invokevirtual 245, 3) := by decide +kernel
theorem dX9_set_6 : decode cX9_set 6 = .ok (.istore 4, 2) := by decide +kernel
theorem dX9_set_8 : decode cX9_set 8 = .ok (.iload 4, 2) := by decide +kernel
theorem dX9_set_10 : decode cX9_set 10 = .ok (.ifCond .ne 16, 3) := by decide +kernel
theorem dX9_set_13 : decode cX9_set 13 = .ok (.aload_n 0, 1) := by decide +kernel
theorem dX9_set_14 : decode cX9_set 14 = .ok (.getfield 30, 3) := by decide +kernel
theorem dX9_set_17 : decode cX9_set 17 = .ok (.bipush 12, 2) := by decide +kernel
theorem dX9_set_19 : decode cX9_set 19 = .ok (.iload_n 1, 1) := by decide +kernel
theorem dX9_set_20 : decode cX9_set 20 = .ok (.imul, 1) := by decide +kernel
theorem dX9_set_21 : decode cX9_set 21 = .ok (.iload_n 2, 1) := by decide +kernel
theorem dX9_set_22 : decode cX9_set 22 = .ok (.iadd, 1) := by decide +kernel
theorem dX9_set_23 : decode cX9_set 23 = .ok (.iload_n 3, 1) := by decide +kernel
theorem dX9_set_24 : decode cX9_set 24 = .ok (.i2l, 1) := by decide +kernel
theorem dX9_set_25 : decode cX9_set 25 = .ok (.lastore, 1) := by decide +kernel
theorem dX9_set_26 : decode cX9_set 26 = .ok (.iload 4, 2) := by decide +kernel
theorem dX9_set_28 : decode cX9_set 28 = .ok (.ifCond .ne 7, 3) := by decide +kernel
theorem dX9_set_31 : decode cX9_set 31 = .ok (.iconst 1, 1) := by decide +kernel
theorem dX9_set_32 : decode cX9_set 32 = .ok (.goto 5, 3) := by decide +kernel
theorem dX9_set_35 : decode cX9_set 35 = .ok (.iload 4, 2) := by decide +kernel
theorem dX9_set_37 : decode cX9_set 37 = .ok (.ireturn, 1) := by decide +kernel
theorem bX9_set_0 : tg_Snd mX9_set 0 (fun k => ti_aload 0 (ti_iload 1 (ti_iload 2 k))) 3 := tg_seq (si_aload_n (i := 0) dX9_set_0 rfl) (tg_seq (si_iload_n (i := 1) dX9_set_1 rfl) (si_iload_n (i := 2) dX9_set_2 rfl))
theorem bX9_set_6 : tg_Snd mX9_set 6 (fun k => ti_istore 4 (ti_iload 4 k)) 10 := tg_seq (si_istore (i := 4) dX9_set_6 (Nat.le_of_ble_eq_true rfl)) (si_iload (i := 4) dX9_set_8)
theorem bX9_set_13 : tg_Snd mX9_set 13 (fun k => ti_aload 0 (ti_getf 8 8 (ti_push (.int 12) (ti_iload 1 (ti_imul (ti_iload 2 (ti_iadd (ti_iload 3 (ti_i2l (ti_last k)))))))))) 26 := tg_seq (si_aload_n (i := 0) dX9_set_13 rfl) (tg_seq (si_getf (ci := 8) (f := 8) clX9 (Nat.le_of_ble_eq_true rfl) rfl flX9_30 dX9_set_14) (tg_seq (si_bipush (v := 12) dX9_set_17 (by decide)) (tg_seq (si_iload_n (i := 1) dX9_set_19 rfl) (tg_seq (si_imul dX9_set_20) (tg_seq (si_iload_n (i := 2) dX9_set_21 rfl) (tg_seq (si_iadd dX9_set_22) (tg_seq (si_iload_n (i := 3) dX9_set_23 rfl) (tg_seq (si_i2l dX9_set_24) (si_last dX9_set_25)))))))))
theorem bX9_set_26 : tg_Snd mX9_set 26 (fun k => ti_iload 4 k) 28 := si_iload (i := 4) dX9_set_26
theorem bX9_set_31 : tg_Snd mX9_set 31 (fun k => ti_push (.int 1) k) 32 := si_iconst (v := 1) dX9_set_31 (by decide)
theorem bX9_set_35 : tg_Snd mX9_set 35 (fun k => ti_iload 4 k) 37 := si_iload (i := 4) dX9_set_35
theorem vX9_set_3 : tg_VS mX9_set 3 mX9_noPlace 2 := ⟨okX9_noPlace, ⟨245, dX9_set_3, mlX9_245⟩, insX9_noPlace, selX9_noPlace, parX9_noPlace, rfl, rfl, Nat.le_of_ble_eq_true rfl, Nat.le_of_ble_eq_true rfl⟩
theorem dX9_plus_0 : decode cX9_plus 0 = .ok (.lload_n 1, 1) := by decide +kernel
theorem dX9_plus_1 : decode cX9_plus 1 = .ok (.lload_n 3, 1) := by decide +kernel
theorem dX9_plus_2 : decode cX9_plus 2 = .ok (.ladd, 1) := by decide +kernel
theorem dX9_plus_3 : decode cX9_plus 3 = .ok (.lstore 5, 2) := by decide +kernel
theorem dX9_plus_5 : decode cX9_plus 5 = .ok (.aload_n 0, 1) := by decide +kernel
theorem dX9_plus_6 : decode cX9_plus 6 = .ok (.lload_n 1, 1) := by decide +kernel
theorem dX9_plus_7 : decode cX9_plus 7 = .ok (.lconst 0, 1) := by decide +kernel
theorem dX9_plus_8 : decode cX9_plus 8 = .ok (.lcmp, 1) := by decide +kernel
theorem dX9_plus_9 : decode cX9_plus 9 = .ok (.ifCond .ge 7, 3) := by decide +kernel
theorem dX9_plus_12 : decode cX9_plus 12 = .ok (.iconst 1, 1) := by decide +kernel
theorem dX9_plus_13 : decode cX9_plus 13 = .ok (.goto 4, 3) := by decide +kernel
theorem dX9_plus_16 : decode cX9_plus 16 = .ok (.iconst 0, 1) := by decide +kernel
theorem dX9_plus_17 : decode cX9_plus 17 = .ok (.lload_n 3, 1) := by decide +kernel
theorem dX9_plus_18 : decode cX9_plus 18 = .ok (.lconst 0, 1) := by decide +kernel
theorem dX9_plus_19 : decode cX9_plus 19 = .ok (.lcmp, 1) := by decide +kernel
theorem dX9_plus_20 : decode cX9_plus 20 = .ok (.ifCond .ge 7, 3) := by decide +kernel
theorem dX9_plus_23 : decode cX9_plus 23 = .ok (.iconst 1, 1) := by decide +kernel
theorem dX9_plus_24 : decode cX9_plus 24 = .ok (.goto 4, 3) := by decide +kernel
theorem dX9_plus_27 : decode cX9_plus 27 = .ok (.iconst 0, 1) := by decide +kernel
theorem dX9_plus_28 : decode cX9_plus 28 = .ok (.if_icmp .ne 33, 3) := by decide +kernel
theorem dX9_plus_31 : decode cX9_plus 31 = .ok (.lload 5, 2) := by decide +kernel
theorem dX9_plus_33 : decode cX9_plus 33 = .ok (.lconst 0, 1) := by decide +kernel
theorem dX9_plus_34 : decode cX9_plus 34 = .ok (.lcmp, 1) := by decide +kernel
theorem dX9_plus_35 : decode cX9_plus 35 = .ok (.ifCond .ge 7, 3) := by decide +kernel
theorem dX9_plus_38 : decode cX9_plus 38 = .ok (.iconst 1, 1) := by decide +kernel
theorem dX9_plus_39 : decode cX9_plus 39 = .ok (.goto 4, 3) := by decide +kernel
theorem dX9_plus_42 : decode cX9_plus 42 = .ok (.iconst 0, 1) := by decide +kernel
theorem dX9_plus_43 : decode cX9_plus 43 = .ok (.lload_n 1, 1) := by decide +kernel
theorem dX9_plus_44 : decode cX9_plus 44 = .ok (.lconst 0, 1) := by decide +kernel
theorem dX9_plus_45 : decode cX9_plus 45 = .ok (.lcmp, 1) := by decide +kernel
theorem dX9_plus_46 : decode cX9_plus 46 = .ok (.ifCond .ge 7, 3) := by decide +kernel
theorem dX9_plus_49 : decode cX9_plus 49 = .ok (.iconst 1, 1) := by decide +kernel
theorem dX9_plus_50 : decode cX9_plus 50 = .ok (.goto 4, 3) := by decide +kernel
theorem dX9_plus_53 : decode cX9_plus 53 = .ok (.iconst 0, 1) := by decide +kernel
theorem dX9_plus_54 : decode cX9_plus 54 = .ok (.if_icmp .eq 7, 3) := by decide +kernel
theorem dX9_plus_57 : decode cX9_plus 57 = .ok (.iconst 1, 1) := by decide +kernel
theorem dX9_plus_58 : decode cX9_plus 58 = .ok (.goto 4, 3) := by decide +kernel
theorem dX9_plus_61 : decode cX9_plus 61 = .ok (.iconst 0, 1) := by decide +kernel
theorem dX9_plus_62 : decode cX9_plus 62 = .ok (.putfield 248, 3) := by decide +kernel
theorem dX9_plus_65 : decode cX9_plus 65 = .ok (.lload 5, 2) := by decide +kernel
theorem dX9_plus_67 : decode cX9_plus 67 = .ok (.lreturn, 1) := by decide +kernel
theorem bX9_plus_0 : tg_Snd mX9_plus 0 (fun k => ti_lload 1 (ti_lload 3 (ti_ladd (ti_lstore 5 (ti_aload 0 (ti_lload 1 (ti_push (.long 0) (ti_lcmp k)))))))) 9 := tg_seq (si_lload_n (i := 1) dX9_plus_0 rfl) (tg_seq (si_lload_n (i := 3) dX9_plus_1 rfl) (tg_seq (si_ladd dX9_plus_2) (tg_seq (si_lstore (i := 5) dX9_plus_3 (Nat.le_of_ble_eq_true rfl)) (tg_seq (si_aload_n (i := 0) dX9_plus_5 rfl) (tg_seq (si_lload_n (i := 1) dX9_plus_6 rfl) (tg_seq (si_lconst (v := 0) dX9_plus_7 (by decide)) (si_lcmp dX9_plus_8)))))))
theorem bX9_plus_12 : tg_Snd mX9_plus 12 (fun k => ti_push (.int 1) k) 13 := si_iconst (v := 1) dX9_plus_12 (by decide)
theorem bX9_plus_16 : tg_Snd mX9_plus 16 (fun k => ti_push (.int 0) k) 17 := si_iconst (v := 0) dX9_plus_16 (by decide)
theorem bX9_plus_17 : tg_Snd mX9_plus 17 (fun k => ti_lload 3 (ti_push (.long 0) (ti_lcmp k))) 20 := tg_seq (si_lload_n (i := 3) dX9_plus_17 rfl) (tg_seq (si_lconst (v := 0) dX9_plus_18 (by decide)) (si_lcmp dX9_plus_19))
theorem bX9_plus_23 : tg_Snd mX9_plus 23 (fun k => ti_push (.int 1) k) 24 := si_iconst (v := 1) dX9_plus_23 (by decide)
theorem bX9_plus_27 : tg_Snd mX9_plus 27 (fun k => ti_push (.int 0) k) 28 := si_iconst (v := 0) dX9_plus_27 (by decide)
theorem bX9_plus_31 : tg_Snd mX9_plus 31 (fun k => ti_lload 5 (ti_push (.long 0) (ti_lcmp k))) 35 := tg_seq (si_lload (i := 5) dX9_plus_31) (tg_seq (si_lconst (v := 0) dX9_plus_33 (by decide)) (si_lcmp dX9_plus_34))
theorem bX9_plus_38 : tg_Snd mX9_plus 38 (fun k => ti_push (.int 1) k) 39 := si_iconst (v := 1) dX9_plus_38 (by decide)
theorem bX9_plus_42 : tg_Snd mX9_plus 42 (fun k => ti_push (.int 0) k) 43 := si_iconst (v := 0) dX9_plus_42 (by decide)
theorem bX9_plus_43 : tg_Snd mX9_plus 43 (fun k => ti_lload 1 (ti_push (.long 0) (ti_lcmp k))) 46 := tg_seq (si_lload_n (i := 1) dX9_plus_43 rfl) (tg_seq (si_lconst (v := 0) dX9_plus_44 (by decide)) (si_lcmp dX9_plus_45))
theorem bX9_plus_49 : tg_Snd mX9_plus 49 (fun k => ti_push (.int 1) k) 50 := si_iconst (v := 1) dX9_plus_49 (by decide)
theorem bX9_plus_53 : tg_Snd mX9_plus 53 (fun k => ti_push (.int 0) k) 54 := si_iconst (v := 0) dX9_plus_53 (by decide)
theorem bX9_plus_57 : tg_Snd mX9_plus 57 (fun k => ti_push (.int 1) k) 58 := si_iconst (v := 1) dX9_plus_57 (by decide)
theorem bX9_plus_61 : tg_Snd mX9_plus 61 (fun k => ti_push (.int 0) k) 62 := si_iconst (v := 0) dX9_plus_61 (by decide)
theorem bX9_plus_62 : tg_Snd mX9_plus 62 (fun k => ti_putfZ 8 29 (ti_lload 5 k)) 67 := tg_seq (si_putfZ (ci := 8) (f := 29) (ty := .boolean) clX9 tyX9_ok nmX9 (Nat.le_of_ble_eq_true rfl) rfl (by decide +kernel) (fun x ad h => by rcases h with rfl | rfl <;> exact ⟨rfl, rfl⟩) flX9_248 dX9_plus_62) (si_lload (i := 5) dX9_plus_65)
theorem dX9_times_0 : decode cX9_times 0 = .ok (.lload_n 1, 1) := by decide +kernel
theorem dX9_times_1 : decode cX9_times 1 = .ok (.lload_n 3, 1) := by decide +kernel
theorem dX9_times_2 : decode cX9_times 2 = .ok (.lmul, 1) := by decide +kernel
theorem dX9_times_3 : decode cX9_times 3 = .ok (.lstore 5, 2) := by decide +kernel
theorem dX9_times_5 : decode cX9_times 5 = .ok (.aload_n 0, 1) := by decide +kernel
theorem dX9_times_6 : decode cX9_times 6 = .ok (.lload_n 3, 1) := by decide +kernel
theorem dX9_times_7 : decode cX9_times 7 = .ok (.lconst 0, 1) := by decide +kernel
theorem dX9_times_8 : decode cX9_times 8 = .ok (.lcmp, 1) := by decide +kernel
theorem dX9_times_9 : decode cX9_times 9 = .ok (.ifCond .eq 12, 3) := by decide +kernel
theorem dX9_times_12 : decode cX9_times 12 = .ok (.lload 5, 2) := by decide +kernel
theorem dX9_times_14 : decode cX9_times 14 = .ok (.lload_n 3, 1) := by decide +kernel
theorem dX9_times_15 : decode cX9_times 15 = .ok (.ldiv, 1) := by decide +kernel
theorem dX9_times_16 : decode cX9_times 16 = .ok (.lload_n 1, 1) := by decide +kernel
theorem dX9_times_17 : decode cX9_times 17 = .ok (.lcmp, 1) := by decide +kernel
theorem dX9_times_18 : decode cX9_times 18 = .ok (.ifCond .ne 22, 3) := by decide +kernel
theorem dX9_times_21 : decode cX9_times 21 = .ok (.lload_n 1, 1) := by decide +kernel
theorem dX9_times_22 : decode cX9_times 22 = .ok (.lconst 0, 1) := by decide +kernel
theorem dX9_times_23 : decode cX9_times 23 = .ok (.lcmp, 1) := by decide +kernel
theorem dX9_times_24 : decode cX9_times 24 = .ok (.ifCond .ge 20, 3) := by decide +kernel
theorem dX9_times_27 : decode cX9_times 27 = .ok (.lload_n 3, 1) := by decide +kernel
theorem dX9_times_28 : decode cX9_times 28 = .ok (.lconst 0, 1) := by decide +kernel
theorem dX9_times_29 : decode cX9_times 29 = .ok (.lcmp, 1) := by decide +kernel
theorem dX9_times_30 : decode cX9_times 30 = .ok (.ifCond .ge 14, 3) := by decide +kernel
theorem dX9_times_33 : decode cX9_times 33 = .ok (.lload 5, 2) := by decide +kernel
theorem dX9_times_35 : decode cX9_times 35 = .ok (.lconst 0, 1) := by decide +kernel
theorem dX9_times_36 : decode cX9_times 36 = .ok (.lcmp, 1) := by decide +kernel
theorem dX9_times_37 : decode cX9_times 37 = .ok (.ifCond .ge 7, 3) := by decide +kernel
theorem dX9_times_40 : decode cX9_times 40 = .ok (.iconst 1, 1) := by decide +kernel
theorem dX9_times_41 : decode cX9_times 41 = .ok (.goto 4, 3) := by decide +kernel
theorem dX9_times_44 : decode cX9_times 44 = .ok (.iconst 0, 1) := by decide +kernel
theorem dX9_times_45 : decode cX9_times 45 = .ok (.putfield 248, 3) := by decide +kernel
theorem dX9_times_48 : decode cX9_times 48 = .ok (.lload 5, 2) := by decide +kernel
theorem dX9_times_50 : decode cX9_times 50 = .ok (.lreturn, 1) := by decide +kernel
theorem bX9_times_0 : tg_Snd mX9_times 0 (fun k => ti_lload 1 (ti_lload 3 (ti_lmul (ti_lstore 5 (ti_aload 0 (ti_lload 3 (ti_push (.long 0) (ti_lcmp k)))))))) 9 := tg_seq (si_lload_n (i := 1) dX9_times_0 rfl) (tg_seq (si_lload_n (i := 3) dX9_times_1 rfl) (tg_seq (si_lmul dX9_times_2) (tg_seq (si_lstore (i := 5) dX9_times_3 (Nat.le_of_ble_eq_true rfl)) (tg_seq (si_aload_n (i := 0) dX9_times_5 rfl) (tg_seq (si_lload_n (i := 3) dX9_times_6 rfl) (tg_seq (si_lconst (v := 0) dX9_times_7 (by decide)) (si_lcmp dX9_times_8)))))))
theorem bX9_times_12 : tg_Snd mX9_times 12 (fun k => ti_lload 5 (ti_lload 3 (ti_ldiv (ti_lload 1 (ti_lcmp k))))) 18 := tg_seq (si_lload (i := 5) dX9_times_12) (tg_seq (si_lload_n (i := 3) dX9_times_14 rfl) (tg_seq (si_ldiv dX9_times_15) (tg_seq (si_lload_n (i := 1) dX9_times_16 rfl) (si_lcmp dX9_times_17))))
theorem bX9_times_21 : tg_Snd mX9_times 21 (fun k => ti_lload 1 (ti_push (.long 0) (ti_lcmp k))) 24 := tg_seq (si_lload_n (i := 1) dX9_times_21 rfl) (tg_seq (si_lconst (v := 0) dX9_times_22 (by decide)) (si_lcmp dX9_times_23))
theorem bX9_times_27 : tg_Snd mX9_times 27 (fun k => ti_lload 3 (ti_push (.long 0) (ti_lcmp k))) 30 := tg_seq (si_lload_n (i := 3) dX9_times_27 rfl) (tg_seq (si_lconst (v := 0) dX9_times_28 (by decide)) (si_lcmp dX9_times_29))
theorem bX9_times_33 : tg_Snd mX9_times 33 (fun k => ti_lload 5 (ti_push (.long 0) (ti_lcmp k))) 37 := tg_seq (si_lload (i := 5) dX9_times_33) (tg_seq (si_lconst (v := 0) dX9_times_35 (by decide)) (si_lcmp dX9_times_36))
theorem bX9_times_40 : tg_Snd mX9_times 40 (fun k => ti_push (.int 1) k) 41 := si_iconst (v := 1) dX9_times_40 (by decide)
theorem bX9_times_44 : tg_Snd mX9_times 44 (fun k => ti_push (.int 0) k) 45 := si_iconst (v := 0) dX9_times_44 (by decide)
theorem bX9_times_45 : tg_Snd mX9_times 45 (fun k => ti_putfZ 8 29 (ti_lload 5 k)) 50 := tg_seq (si_putfZ (ci := 8) (f := 29) (ty := .boolean) clX9 tyX9_ok nmX9 (Nat.le_of_ble_eq_true rfl) rfl (by decide +kernel) (fun x ad h => by rcases h with rfl | rfl <;> exact ⟨rfl, rfl⟩) flX9_248 dX9_times_45) (si_lload (i := 5) dX9_times_48)
theorem dX9_work_0 : decode cX9_work 0 = .ok (.iload_n 1, 1) := by decide +kernel
theorem dX9_work_1 : decode cX9_work 1 = .ok (.invokestatic 242, 3) := by decide +kernel
theorem dX9_work_4 : decode cX9_work 4 = .ok (.ifCond .ne 6, 3) := by decide +kernel
theorem dX9_work_7 : decode cX9_work 7 = .ok (.bipush (-2), 2) := by decide +kernel
theorem dX9_work_9 : decode cX9_work 9 = .ok (.ireturn, 1) := by decide +kernel
theorem dX9_work_10 : decode cX9_work 10 = .ok (.iload_n 3, 1) := by decide +kernel
theorem dX9_work_11 : decode cX9_work 11 = .ok (.i2l, 1) := by decide +kernel
theorem dX9_work_12 : decode cX9_work 12 = .ok (.lconst 0, 1) := by decide +kernel
theorem dX9_work_13 : decode cX9_work 13 = .ok (.ldc2_w 240, 3) := by decide +kernel
theorem dX9_work_16 : decode cX9_work 16 = .ok (.invokestatic 54, 3) := by decide +kernel
theorem dX9_work_19 : decode cX9_work 19 = .ok (.ifCond .ne 6, 3) := by decide +kernel
theorem dX9_work_22 : decode cX9_work 22 = .ok (.bipush (-3), 2) := by decide +kernel
theorem dX9_work_24 : decode cX9_work 24 = .ok (.ireturn, 1) := by decide +kernel
theorem dX9_work_25 : decode cX9_work 25 = .ok (.aload_n 0, 1) := by decide +kernel
theorem dX9_work_26 : decode cX9_work 26 = .ok (.iload_n 1, 1) := by decide +kernel
theorem dX9_work_27 : decode cX9_work 27 = .ok (.iload_n 2, 1) := by decide +kernel
theorem dX9_work_28 : decode cX9_work 28 = .ok (.invokevirtual 245, 3) := by decide +kernel
theorem dX9_work_31 : decode cX9_work 31 = .ok (.istore 5, 2) := by decide +kernel
theorem dX9_work_33 : decode cX9_work 33 = .ok (.iload 5, 2) := by decide +kernel
theorem dX9_work_35 : decode cX9_work 35 = .ok (.ifCond .eq 6, 3) := by decide +kernel
theorem dX9_work_38 : decode cX9_work 38 = .ok (.iload 5, 2) := by decide +kernel
theorem dX9_work_40 : decode cX9_work 40 = .ok (.ireturn, 1) := by decide +kernel
theorem dX9_work_41 : decode cX9_work 41 = .ok (.aload_n 0, 1) := by decide +kernel
theorem dX9_work_42 : decode cX9_work 42 = .ok (.getfield 30, 3) := by decide +kernel
theorem dX9_work_45 : decode cX9_work 45 = .ok (.bipush 12, 2) := by decide +kernel
theorem dX9_work_47 : decode cX9_work 47 = .ok (.iload_n 1, 1) := by decide +kernel
theorem dX9_work_48 : decode cX9_work 48 = .ok (.imul, 1) := by decide +kernel
theorem dX9_work_49 : decode cX9_work 49 = .ok (.iload_n 2, 1) := by decide +kernel
theorem dX9_work_50 : decode cX9_work 50 = .ok (.iadd, 1) := by decide +kernel
theorem dX9_work_51 : decode cX9_work 51 = .ok (.laload, 1) := by decide +kernel
theorem dX9_work_52 : decode cX9_work 52 = .ok (.lstore 6, 2) := by decide +kernel
theorem dX9_work_54 : decode cX9_work 54 = .ok (.iload_n 3, 1) := by decide +kernel
theorem dX9_work_55 : decode cX9_work 55 = .ok (.iconst 2, 1) := by decide +kernel
theorem dX9_work_56 : decode cX9_work 56 = .ok (.if_icmp .ne 15, 3) := by decide +kernel
theorem dX9_work_59 : decode cX9_work 59 = .ok (.aload_n 0, 1) := by decide +kernel
theorem dX9_work_60 : decode cX9_work 60 = .ok (.lload 6, 2) := by decide +kernel
theorem dX9_work_62 : decode cX9_work 62 = .ok (.iload 4, 2) := by decide +kernel
theorem dX9_work_64 : decode cX9_work 64 = .ok (.i2l, 1) := by decide +kernel
theorem dX9_work_65 : decode cX9_work 65 = .ok (.invokevirtual 251, 3) := by decide +kernel
theorem dX9_work_68 : decode cX9_work 68 = .ok (.goto 23, 3) := by decide +kernel
theorem dX9_work_71 : decode cX9_work 71 = .ok (.aload_n 0, 1) := by decide +kernel
theorem dX9_work_72 : decode cX9_work 72 = .ok (.lload 6, 2) := by decide +kernel
theorem dX9_work_74 : decode cX9_work 74 = .ok (.iload_n 3, 1) := by decide +kernel
theorem dX9_work_75 : decode cX9_work 75 = .ok (.ifCond .ne 9, 3) := by decide +kernel
theorem dX9_work_78 : decode cX9_work 78 = .ok (.iload 4, 2) := by decide +kernel
theorem dX9_work_80 : decode cX9_work 80 = .ok (.i2l, 1) := by decide +kernel
theorem dX9_work_81 : decode cX9_work 81 = .ok (.goto 7, 3) := by decide +kernel
theorem dX9_work_84 : decode cX9_work 84 = .ok (.iload 4, 2) := by decide +kernel
theorem dX9_work_86 : decode cX9_work 86 = .ok (.i2l, 1) := by decide +kernel
theorem dX9_work_87 : decode cX9_work 87 = .ok (.lneg, 1) := by decide +kernel
theorem dX9_work_88 : decode cX9_work 88 = .ok (.invokevirtual 255, 3) := by decide +kernel
theorem dX9_work_91 : decode cX9_work 91 = .ok (.lstore 8, 2) := by decide +kernel
theorem dX9_work_93 : decode cX9_work 93 = .ok (.aload_n 0, 1) := by decide +kernel
theorem dX9_work_94 : decode cX9_work 94 = .ok (.getfield 248, 3) := by decide +kernel
theorem dX9_work_97 : decode cX9_work 97 = .ok (.ifCond .eq 6, 3) := by decide +kernel
theorem dX9_work_100 : decode cX9_work 100 = .ok (.bipush (-14), 2) := by decide +kernel
theorem dX9_work_102 : decode cX9_work 102 = .ok (.ireturn, 1) := by decide +kernel
theorem dX9_work_103 : decode cX9_work 103 = .ok (.aload_n 0, 1) := by decide +kernel
theorem dX9_work_104 : decode cX9_work 104 = .ok (.getfield 30, 3) := by decide +kernel
theorem dX9_work_107 : decode cX9_work 107 = .ok (.bipush 12, 2) := by decide +kernel
theorem dX9_work_109 : decode cX9_work 109 = .ok (.iload_n 1, 1) := by decide +kernel
theorem dX9_work_110 : decode cX9_work 110 = .ok (.imul, 1) := by decide +kernel
theorem dX9_work_111 : decode cX9_work 111 = .ok (.iload_n 2, 1) := by decide +kernel
theorem dX9_work_112 : decode cX9_work 112 = .ok (.iadd, 1) := by decide +kernel
theorem dX9_work_113 : decode cX9_work 113 = .ok (.lload 8, 2) := by decide +kernel
theorem dX9_work_115 : decode cX9_work 115 = .ok (.lastore, 1) := by decide +kernel
theorem dX9_work_116 : decode cX9_work 116 = .ok (.aload_n 0, 1) := by decide +kernel
theorem dX9_work_117 : decode cX9_work 117 = .ok (.lload 8, 2) := by decide +kernel
theorem dX9_work_119 : decode cX9_work 119 = .ok (.putfield 258, 3) := by decide +kernel
theorem dX9_work_122 : decode cX9_work 122 = .ok (.iconst 1, 1) := by decide +kernel
theorem dX9_work_123 : decode cX9_work 123 = .ok (.ireturn, 1) := by decide +kernel
theorem bX9_work_0 : tg_Snd mX9_work 0 (fun k => ti_iload 1 k) 1 := si_iload_n (i := 1) dX9_work_0 rfl
theorem bX9_work_7 : tg_Snd mX9_work 7 (fun k => ti_push (.int (-2)) k) 9 := si_bipush (v := -2) dX9_work_7 (by decide)
theorem bX9_work_10 : tg_Snd mX9_work 10 (fun k => ti_iload 3 (ti_i2l (ti_push (.long 0) (ti_push (.long 2) k)))) 16 := tg_seq (si_iload_n (i := 3) dX9_work_10 rfl) (tg_seq (si_i2l dX9_work_11) (tg_seq (si_lconst (v := 0) dX9_work_12 (by decide)) (si_ldc2 (v := 2) dX9_work_13 klX9_240)))
theorem bX9_work_22 : tg_Snd mX9_work 22 (fun k => ti_push (.int (-3)) k) 24 := si_bipush (v := -3) dX9_work_22 (by decide)
theorem bX9_work_25 : tg_Snd mX9_work 25 (fun k => ti_aload 0 (ti_iload 1 (ti_iload 2 k))) 28 := tg_seq (si_aload_n (i := 0) dX9_work_25 rfl) (tg_seq (si_iload_n (i := 1) dX9_work_26 rfl) (si_iload_n (i := 2) dX9_work_27 rfl))
theorem bX9_work_31 : tg_Snd mX9_work 31 (fun k => ti_istore 5 (ti_iload 5 k)) 35 := tg_seq (si_istore (i := 5) dX9_work_31 (Nat.le_of_ble_eq_true rfl)) (si_iload (i := 5) dX9_work_33)
theorem bX9_work_38 : tg_Snd mX9_work 38 (fun k => ti_iload 5 k) 40 := si_iload (i := 5) dX9_work_38
theorem bX9_work_41 : tg_Snd mX9_work 41 (fun k => ti_aload 0 (ti_getf 8 8 (ti_push (.int 12) (ti_iload 1 (ti_imul (ti_iload 2 (ti_iadd (ti_lald (ti_lstore 6 (ti_iload 3 (ti_push (.int 2) k))))))))))) 56 := tg_seq (si_aload_n (i := 0) dX9_work_41 rfl) (tg_seq (si_getf (ci := 8) (f := 8) clX9 (Nat.le_of_ble_eq_true rfl) rfl flX9_30 dX9_work_42) (tg_seq (si_bipush (v := 12) dX9_work_45 (by decide)) (tg_seq (si_iload_n (i := 1) dX9_work_47 rfl) (tg_seq (si_imul dX9_work_48) (tg_seq (si_iload_n (i := 2) dX9_work_49 rfl) (tg_seq (si_iadd dX9_work_50) (tg_seq (si_lald dX9_work_51) (tg_seq (si_lstore (i := 6) dX9_work_52 (Nat.le_of_ble_eq_true rfl)) (tg_seq (si_iload_n (i := 3) dX9_work_54 rfl) (si_iconst (v := 2) dX9_work_55 (by decide)))))))))))
theorem bX9_work_59 : tg_Snd mX9_work 59 (fun k => ti_aload 0 (ti_lload 6 (ti_iload 4 (ti_i2l k)))) 65 := tg_seq (si_aload_n (i := 0) dX9_work_59 rfl) (tg_seq (si_lload (i := 6) dX9_work_60) (tg_seq (si_iload (i := 4) dX9_work_62) (si_i2l dX9_work_64)))
theorem bX9_work_71 : tg_Snd mX9_work 71 (fun k => ti_aload 0 (ti_lload 6 (ti_iload 3 k))) 75 := tg_seq (si_aload_n (i := 0) dX9_work_71 rfl) (tg_seq (si_lload (i := 6) dX9_work_72) (si_iload_n (i := 3) dX9_work_74 rfl))
theorem bX9_work_78 : tg_Snd mX9_work 78 (fun k => ti_iload 4 (ti_i2l k)) 81 := tg_seq (si_iload (i := 4) dX9_work_78) (si_i2l dX9_work_80)
theorem bX9_work_84 : tg_Snd mX9_work 84 (fun k => ti_iload 4 (ti_i2l (ti_lneg k))) 88 := tg_seq (si_iload (i := 4) dX9_work_84) (tg_seq (si_i2l dX9_work_86) (si_lneg dX9_work_87))
theorem bX9_work_91 : tg_Snd mX9_work 91 (fun k => ti_lstore 8 (ti_aload 0 (ti_getf 8 29 k))) 97 := tg_seq (si_lstore (i := 8) dX9_work_91 (Nat.le_of_ble_eq_true rfl)) (tg_seq (si_aload_n (i := 0) dX9_work_93 rfl) (si_getf (ci := 8) (f := 29) clX9 (Nat.le_of_ble_eq_true rfl) rfl flX9_248 dX9_work_94))
theorem bX9_work_100 : tg_Snd mX9_work 100 (fun k => ti_push (.int (-14)) k) 102 := si_bipush (v := -14) dX9_work_100 (by decide)
theorem bX9_work_103 : tg_Snd mX9_work 103 (fun k => ti_aload 0 (ti_getf 8 8 (ti_push (.int 12) (ti_iload 1 (ti_imul (ti_iload 2 (ti_iadd (ti_lload 8 (ti_last (ti_aload 0 (ti_lload 8 (ti_putfJ 8 9 (ti_push (.int 1) k))))))))))))) 123 := tg_seq (si_aload_n (i := 0) dX9_work_103 rfl) (tg_seq (si_getf (ci := 8) (f := 8) clX9 (Nat.le_of_ble_eq_true rfl) rfl flX9_30 dX9_work_104) (tg_seq (si_bipush (v := 12) dX9_work_107 (by decide)) (tg_seq (si_iload_n (i := 1) dX9_work_109 rfl) (tg_seq (si_imul dX9_work_110) (tg_seq (si_iload_n (i := 2) dX9_work_111 rfl) (tg_seq (si_iadd dX9_work_112) (tg_seq (si_lload (i := 8) dX9_work_113) (tg_seq (si_last dX9_work_115) (tg_seq (si_aload_n (i := 0) dX9_work_116 rfl) (tg_seq (si_lload (i := 8) dX9_work_117) (tg_seq (si_putfJ (ci := 8) (f := 9) (ty := .long) clX9 tyX9_ok nmX9 (Nat.le_of_ble_eq_true rfl) rfl (by decide +kernel) (fun _ _ => ⟨rfl, rfl⟩) flX9_258 dX9_work_119) (si_iconst (v := 1) dX9_work_122 (by decide)))))))))))))
theorem vX9_work_1 : tg_SS0 mX9_work 1 mX9_isRow 1 := ⟨okX9_isRow, ⟨242, dX9_work_1, mlX9_242⟩, staX9_isRow, parX9_isRow, rfl, rfl, Nat.le_of_ble_eq_true rfl, Nat.le_of_ble_eq_true rfl⟩
theorem vX9_work_16 : tg_SS0 mX9_work 16 mX9_in 3 := ⟨okX9_in, ⟨54, dX9_work_16, mlX9_54⟩, staX9_in, parX9_in, rfl, rfl, Nat.le_of_ble_eq_true rfl, Nat.le_of_ble_eq_true rfl⟩
theorem vX9_work_28 : tg_VS mX9_work 28 mX9_noPlace 2 := ⟨okX9_noPlace, ⟨245, dX9_work_28, mlX9_245⟩, insX9_noPlace, selX9_noPlace, parX9_noPlace, rfl, rfl, Nat.le_of_ble_eq_true rfl, Nat.le_of_ble_eq_true rfl⟩
theorem vX9_work_65 : tg_VS mX9_work 65 mX9_times 2 := ⟨okX9_times, ⟨251, dX9_work_65, mlX9_251⟩, insX9_times, selX9_times, parX9_times, rfl, rfl, Nat.le_of_ble_eq_true rfl, Nat.le_of_ble_eq_true rfl⟩
theorem vX9_work_88 : tg_VS mX9_work 88 mX9_plus 2 := ⟨okX9_plus, ⟨255, dX9_work_88, mlX9_255⟩, insX9_plus, selX9_plus, parX9_plus, rfl, rfl, Nat.le_of_ble_eq_true rfl, Nat.le_of_ble_eq_true rfl⟩
theorem dX9_bits_0 : decode cX9_bits 0 = .ok (.aload_n 0, 1) := by decide +kernel
theorem dX9_bits_1 : decode cX9_bits 1 = .ok (.iload_n 1, 1) := by decide +kernel
theorem dX9_bits_2 : decode cX9_bits 2 = .ok (.iload_n 2, 1) := by decide +kernel
theorem dX9_bits_3 : decode cX9_bits 3 = .ok (.invokevirtual 245, 3) := by decide +kernel
theorem dX9_bits_6 : decode cX9_bits 6 = .ok (.istore_n 3, 1) := by decide +kernel
theorem dX9_bits_7 : decode cX9_bits 7 = .ok (.iload_n 3, 1) := by decide +kernel
theorem dX9_bits_8 : decode cX9_bits 8 = .ok (.ifCond .eq 5, 3) := by decide +kernel
theorem dX9_bits_11 : decode cX9_bits 11 = .ok (.iload_n 3, 1) := by decide +kernel
theorem dX9_bits_12 : decode cX9_bits 12 = .ok (.ireturn, 1) := by decide +kernel
theorem dX9_bits_13 : decode cX9_bits 13 = .ok (.aload_n 0, 1) := by decide +kernel
theorem dX9_bits_14 : decode cX9_bits 14 = .ok (.lconst 0, 1) := by decide +kernel
theorem dX9_bits_15 : decode cX9_bits 15 = .ok (.putfield 258, 3) := by decide +kernel
theorem dX9_bits_18 : decode cX9_bits 18 = .ok (.iconst 0, 1) := by decide +kernel
theorem dX9_bits_19 : decode cX9_bits 19 = .ok (.istore 4, 2) := by decide +kernel
theorem dX9_bits_21 : decode cX9_bits 21 = .ok (.iload 4, 2) := by decide +kernel
theorem dX9_bits_23 : decode cX9_bits 23 = .ok (.bipush 64, 2) := by decide +kernel
theorem dX9_bits_25 : decode cX9_bits 25 = .ok (.if_icmp .ge 34, 3) := by decide +kernel
theorem dX9_bits_28 : decode cX9_bits 28 = .ok (.aload_n 0, 1) := by decide +kernel
theorem dX9_bits_29 : decode cX9_bits 29 = .ok (.dup, 1) := by decide +kernel
theorem dX9_bits_30 : decode cX9_bits 30 = .ok (.getfield 258, 3) := by decide +kernel
theorem dX9_bits_33 : decode cX9_bits 33 = .ok (.aload_n 0, 1) := by decide +kernel
theorem dX9_bits_34 : decode cX9_bits 34 = .ok (.getfield 30, 3) := by decide +kernel
theorem dX9_bits_37 : decode cX9_bits 37 = .ok (.bipush 12, 2) := by decide +kernel
theorem dX9_bits_39 : decode cX9_bits 39 = .ok (.iload_n 1, 1) := by decide +kernel
theorem dX9_bits_40 : decode cX9_bits 40 = .ok (.imul, 1) := by decide +kernel
theorem dX9_bits_41 : decode cX9_bits 41 = .ok (.iload_n 2, 1) := by decide +kernel
theorem dX9_bits_42 : decode cX9_bits 42 = .ok (.iadd, 1) := by decide +kernel
theorem dX9_bits_43 : decode cX9_bits 43 = .ok (.laload, 1) := by decide +kernel
theorem dX9_bits_44 : decode cX9_bits 44 = .ok (.iload 4, 2) := by decide +kernel
theorem dX9_bits_46 : decode cX9_bits 46 = .ok (.lshr, 1) := by decide +kernel
theorem dX9_bits_47 : decode cX9_bits 47 = .ok (.lconst 1, 1) := by decide +kernel
theorem dX9_bits_48 : decode cX9_bits 48 = .ok (.land, 1) := by decide +kernel
theorem dX9_bits_49 : decode cX9_bits 49 = .ok (.ladd, 1) := by decide +kernel
theorem dX9_bits_50 : decode cX9_bits 50 = .ok (.putfield 258, 3) := by decide +kernel
theorem dX9_bits_53 : decode cX9_bits 53 = .ok (.iinc 4 1, 3) := by decide +kernel
theorem dX9_bits_56 : decode cX9_bits 56 = .ok (.goto (-35), 3) := by decide +kernel
theorem dX9_bits_59 : decode cX9_bits 59 = .ok (.iconst 1, 1) := by decide +kernel
theorem dX9_bits_60 : decode cX9_bits 60 = .ok (.ireturn, 1) := by decide +kernel
theorem bX9_bits_0 : tg_Snd mX9_bits 0 (fun k => ti_aload 0 (ti_iload 1 (ti_iload 2 k))) 3 := tg_seq (si_aload_n (i := 0) dX9_bits_0 rfl) (tg_seq (si_iload_n (i := 1) dX9_bits_1 rfl) (si_iload_n (i := 2) dX9_bits_2 rfl))
theorem bX9_bits_6 : tg_Snd mX9_bits 6 (fun k => ti_istore 3 (ti_iload 3 k)) 8 := tg_seq (si_istore_n (i := 3) dX9_bits_6 rfl (Nat.le_of_ble_eq_true rfl)) (si_iload_n (i := 3) dX9_bits_7 rfl)
theorem bX9_bits_11 : tg_Snd mX9_bits 11 (fun k => ti_iload 3 k) 12 := si_iload_n (i := 3) dX9_bits_11 rfl
theorem bX9_bits_13 : tg_Snd mX9_bits 13 (fun k => ti_aload 0 (ti_push (.long 0) (ti_putfJ 8 9 (ti_push (.int 0) (ti_istore 4 k))))) 21 := tg_seq (si_aload_n (i := 0) dX9_bits_13 rfl) (tg_seq (si_lconst (v := 0) dX9_bits_14 (by decide)) (tg_seq (si_putfJ (ci := 8) (f := 9) (ty := .long) clX9 tyX9_ok nmX9 (Nat.le_of_ble_eq_true rfl) rfl (by decide +kernel) (fun _ _ => ⟨rfl, rfl⟩) flX9_258 dX9_bits_15) (tg_seq (si_iconst (v := 0) dX9_bits_18 (by decide)) (si_istore (i := 4) dX9_bits_19 (Nat.le_of_ble_eq_true rfl)))))
theorem bX9_bits_21 : tg_Snd mX9_bits 21 (fun k => ti_iload 4 (ti_push (.int 64) k)) 25 := tg_seq (si_iload (i := 4) dX9_bits_21) (si_bipush (v := 64) dX9_bits_23 (by decide))
theorem bX9_bits_28 : tg_Snd mX9_bits 28 (fun k => ti_aload 0 (ti_dup (ti_getf 8 9 (ti_aload 0 (ti_getf 8 8 (ti_push (.int 12) (ti_iload 1 (ti_imul (ti_iload 2 (ti_iadd (ti_lald (ti_iload 4 (ti_lshr (ti_push (.long 1) (ti_land (ti_ladd (ti_putfJ 8 9 (ti_iinc 4 1 k)))))))))))))))))) 56 := tg_seq (si_aload_n (i := 0) dX9_bits_28 rfl) (tg_seq (si_dup dX9_bits_29) (tg_seq (si_getf (ci := 8) (f := 9) clX9 (Nat.le_of_ble_eq_true rfl) rfl flX9_258 dX9_bits_30) (tg_seq (si_aload_n (i := 0) dX9_bits_33 rfl) (tg_seq (si_getf (ci := 8) (f := 8) clX9 (Nat.le_of_ble_eq_true rfl) rfl flX9_30 dX9_bits_34) (tg_seq (si_bipush (v := 12) dX9_bits_37 (by decide)) (tg_seq (si_iload_n (i := 1) dX9_bits_39 rfl) (tg_seq (si_imul dX9_bits_40) (tg_seq (si_iload_n (i := 2) dX9_bits_41 rfl) (tg_seq (si_iadd dX9_bits_42) (tg_seq (si_lald dX9_bits_43) (tg_seq (si_iload (i := 4) dX9_bits_44) (tg_seq (si_lshr dX9_bits_46) (tg_seq (si_lconst (v := 1) dX9_bits_47 (by decide)) (tg_seq (si_land dX9_bits_48) (tg_seq (si_ladd dX9_bits_49) (tg_seq (si_putfJ (ci := 8) (f := 9) (ty := .long) clX9 tyX9_ok nmX9 (Nat.le_of_ble_eq_true rfl) rfl (by decide +kernel) (fun _ _ => ⟨rfl, rfl⟩) flX9_258 dX9_bits_50) (si_iinc (v := 1) dX9_bits_53 (by decide) (Nat.le_of_ble_eq_true rfl))))))))))))))))))
theorem bX9_bits_59 : tg_Snd mX9_bits 59 (fun k => ti_push (.int 1) k) 60 := si_iconst (v := 1) dX9_bits_59 (by decide)
theorem vX9_bits_3 : tg_VS mX9_bits 3 mX9_noPlace 2 := ⟨okX9_noPlace, ⟨245, dX9_bits_3, mlX9_245⟩, insX9_noPlace, selX9_noPlace, parX9_noPlace, rfl, rfl, Nat.le_of_ble_eq_true rfl, Nat.le_of_ble_eq_true rfl⟩
theorem dX9_sum_0 : decode cX9_sum 0 = .ok (.iload_n 1, 1) := by decide +kernel
theorem dX9_sum_1 : decode cX9_sum 1 = .ok (.invokestatic 242, 3) := by decide +kernel
theorem dX9_sum_4 : decode cX9_sum 4 = .ok (.ifCond .ne 6, 3) := by decide +kernel
theorem dX9_sum_7 : decode cX9_sum 7 = .ok (.bipush (-2), 2) := by decide +kernel
theorem dX9_sum_9 : decode cX9_sum 9 = .ok (.ireturn, 1) := by decide +kernel
theorem dX9_sum_10 : decode cX9_sum 10 = .ok (.aload_n 0, 1) := by decide +kernel
theorem dX9_sum_11 : decode cX9_sum 11 = .ok (.getfield 27, 3) := by decide +kernel
theorem dX9_sum_14 : decode cX9_sum 14 = .ok (.iload_n 1, 1) := by decide +kernel
theorem dX9_sum_15 : decode cX9_sum 15 = .ok (.iaload, 1) := by decide +kernel
theorem dX9_sum_16 : decode cX9_sum 16 = .ok (.ifCond .ge 6, 3) := by decide +kernel
theorem dX9_sum_19 : decode cX9_sum 19 = .ok (.bipush (-11), 2) := by decide +kernel
theorem dX9_sum_21 : decode cX9_sum 21 = .ok (.ireturn, 1) := by decide +kernel
theorem dX9_sum_22 : decode cX9_sum 22 = .ok (.lconst 0, 1) := by decide +kernel
theorem dX9_sum_23 : decode cX9_sum 23 = .ok (.lstore_n 2, 1) := by decide +kernel
theorem dX9_sum_24 : decode cX9_sum 24 = .ok (.iconst 0, 1) := by decide +kernel
theorem dX9_sum_25 : decode cX9_sum 25 = .ok (.istore 4, 2) := by decide +kernel
theorem dX9_sum_27 : decode cX9_sum 27 = .ok (.iload 4, 2) := by decide +kernel
theorem dX9_sum_29 : decode cX9_sum 29 = .ok (.aload_n 0, 1) := by decide +kernel
theorem dX9_sum_30 : decode cX9_sum 30 = .ok (.getfield 27, 3) := by decide +kernel
theorem dX9_sum_33 : decode cX9_sum 33 = .ok (.iload_n 1, 1) := by decide +kernel
theorem dX9_sum_34 : decode cX9_sum 34 = .ok (.iaload, 1) := by decide +kernel
theorem dX9_sum_35 : decode cX9_sum 35 = .ok (.if_icmp .ge 37, 3) := by decide +kernel
theorem dX9_sum_38 : decode cX9_sum 38 = .ok (.aload_n 0, 1) := by decide +kernel
theorem dX9_sum_39 : decode cX9_sum 39 = .ok (.lload_n 2, 1) := by decide +kernel
theorem dX9_sum_40 : decode cX9_sum 40 = .ok (.aload_n 0, 1) := by decide +kernel
theorem dX9_sum_41 : decode cX9_sum 41 = .ok (.getfield 30, 3) := by decide +kernel
theorem dX9_sum_44 : decode cX9_sum 44 = .ok (.bipush 12, 2) := by decide +kernel
theorem dX9_sum_46 : decode cX9_sum 46 = .ok (.iload_n 1, 1) := by decide +kernel
theorem dX9_sum_47 : decode cX9_sum 47 = .ok (.imul, 1) := by decide +kernel
theorem dX9_sum_48 : decode cX9_sum 48 = .ok (.iload 4, 2) := by decide +kernel
theorem dX9_sum_50 : decode cX9_sum 50 = .ok (.iadd, 1) := by decide +kernel
theorem dX9_sum_51 : decode cX9_sum 51 = .ok (.laload, 1) := by decide +kernel
theorem dX9_sum_52 : decode cX9_sum 52 = .ok (.invokevirtual 255, 3) := by decide +kernel
theorem dX9_sum_55 : decode cX9_sum 55 = .ok (.lstore_n 2, 1) := by decide +kernel
theorem dX9_sum_56 : decode cX9_sum 56 = .ok (.aload_n 0, 1) := by decide +kernel
theorem dX9_sum_57 : decode cX9_sum 57 = .ok (.getfield 248, 3) := by decide +kernel
theorem dX9_sum_60 : decode cX9_sum 60 = .ok (.ifCond .eq 6, 3) := by decide +kernel
theorem dX9_sum_63 : decode cX9_sum 63 = .ok (.bipush (-14), 2) := by decide +kernel
theorem dX9_sum_65 : decode cX9_sum 65 = .ok (.ireturn, 1) := by decide +kernel
theorem dX9_sum_66 : decode cX9_sum 66 = .ok (.iinc 4 1, 3) := by decide +kernel
theorem dX9_sum_69 : decode cX9_sum 69 = .ok (.goto (-42), 3) := by decide +kernel
theorem dX9_sum_72 : decode cX9_sum 72 = .ok (.aload_n 0, 1) := by decide +kernel
theorem dX9_sum_73 : decode cX9_sum 73 = .ok (.lload_n 2, 1) := by decide +kernel
theorem dX9_sum_74 : decode cX9_sum 74 = .ok (.putfield 258, 3) := by decide +kernel
theorem dX9_sum_77 : decode cX9_sum 77 = .ok (.aload_n 0, 1) := by decide +kernel
theorem dX9_sum_78 : decode cX9_sum 78 = .ok (.getfield 27, 3) := by decide +kernel
theorem dX9_sum_81 : decode cX9_sum 81 = .ok (.iload_n 1, 1) := by decide +kernel
theorem dX9_sum_82 : decode cX9_sum 82 = .ok (.iaload, 1) := by decide +kernel
theorem dX9_sum_83 : decode cX9_sum 83 = .ok (.ireturn, 1) := by decide +kernel
theorem bX9_sum_0 : tg_Snd mX9_sum 0 (fun k => ti_iload 1 k) 1 := si_iload_n (i := 1) dX9_sum_0 rfl
theorem bX9_sum_7 : tg_Snd mX9_sum 7 (fun k => ti_push (.int (-2)) k) 9 := si_bipush (v := -2) dX9_sum_7 (by decide)
theorem bX9_sum_10 : tg_Snd mX9_sum 10 (fun k => ti_aload 0 (ti_getf 8 7 (ti_iload 1 (ti_iald k)))) 16 := tg_seq (si_aload_n (i := 0) dX9_sum_10 rfl) (tg_seq (si_getf (ci := 8) (f := 7) clX9 (Nat.le_of_ble_eq_true rfl) rfl flX9_27 dX9_sum_11) (tg_seq (si_iload_n (i := 1) dX9_sum_14 rfl) (si_iald dX9_sum_15)))
theorem bX9_sum_19 : tg_Snd mX9_sum 19 (fun k => ti_push (.int (-11)) k) 21 := si_bipush (v := -11) dX9_sum_19 (by decide)
theorem bX9_sum_22 : tg_Snd mX9_sum 22 (fun k => ti_push (.long 0) (ti_lstore 2 (ti_push (.int 0) (ti_istore 4 k)))) 27 := tg_seq (si_lconst (v := 0) dX9_sum_22 (by decide)) (tg_seq (si_lstore_n (i := 2) dX9_sum_23 rfl (Nat.le_of_ble_eq_true rfl)) (tg_seq (si_iconst (v := 0) dX9_sum_24 (by decide)) (si_istore (i := 4) dX9_sum_25 (Nat.le_of_ble_eq_true rfl))))
theorem bX9_sum_27 : tg_Snd mX9_sum 27 (fun k => ti_iload 4 (ti_aload 0 (ti_getf 8 7 (ti_iload 1 (ti_iald k))))) 35 := tg_seq (si_iload (i := 4) dX9_sum_27) (tg_seq (si_aload_n (i := 0) dX9_sum_29 rfl) (tg_seq (si_getf (ci := 8) (f := 7) clX9 (Nat.le_of_ble_eq_true rfl) rfl flX9_27 dX9_sum_30) (tg_seq (si_iload_n (i := 1) dX9_sum_33 rfl) (si_iald dX9_sum_34))))
theorem bX9_sum_38 : tg_Snd mX9_sum 38 (fun k => ti_aload 0 (ti_lload 2 (ti_aload 0 (ti_getf 8 8 (ti_push (.int 12) (ti_iload 1 (ti_imul (ti_iload 4 (ti_iadd (ti_lald k)))))))))) 52 := tg_seq (si_aload_n (i := 0) dX9_sum_38 rfl) (tg_seq (si_lload_n (i := 2) dX9_sum_39 rfl) (tg_seq (si_aload_n (i := 0) dX9_sum_40 rfl) (tg_seq (si_getf (ci := 8) (f := 8) clX9 (Nat.le_of_ble_eq_true rfl) rfl flX9_30 dX9_sum_41) (tg_seq (si_bipush (v := 12) dX9_sum_44 (by decide)) (tg_seq (si_iload_n (i := 1) dX9_sum_46 rfl) (tg_seq (si_imul dX9_sum_47) (tg_seq (si_iload (i := 4) dX9_sum_48) (tg_seq (si_iadd dX9_sum_50) (si_lald dX9_sum_51)))))))))
theorem bX9_sum_55 : tg_Snd mX9_sum 55 (fun k => ti_lstore 2 (ti_aload 0 (ti_getf 8 29 k))) 60 := tg_seq (si_lstore_n (i := 2) dX9_sum_55 rfl (Nat.le_of_ble_eq_true rfl)) (tg_seq (si_aload_n (i := 0) dX9_sum_56 rfl) (si_getf (ci := 8) (f := 29) clX9 (Nat.le_of_ble_eq_true rfl) rfl flX9_248 dX9_sum_57))
theorem bX9_sum_63 : tg_Snd mX9_sum 63 (fun k => ti_push (.int (-14)) k) 65 := si_bipush (v := -14) dX9_sum_63 (by decide)
theorem bX9_sum_66 : tg_Snd mX9_sum 66 (fun k => ti_iinc 4 1 k) 69 := si_iinc (v := 1) dX9_sum_66 (by decide) (Nat.le_of_ble_eq_true rfl)
theorem bX9_sum_72 : tg_Snd mX9_sum 72 (fun k => ti_aload 0 (ti_lload 2 (ti_putfJ 8 9 (ti_aload 0 (ti_getf 8 7 (ti_iload 1 (ti_iald k))))))) 83 := tg_seq (si_aload_n (i := 0) dX9_sum_72 rfl) (tg_seq (si_lload_n (i := 2) dX9_sum_73 rfl) (tg_seq (si_putfJ (ci := 8) (f := 9) (ty := .long) clX9 tyX9_ok nmX9 (Nat.le_of_ble_eq_true rfl) rfl (by decide +kernel) (fun _ _ => ⟨rfl, rfl⟩) flX9_258 dX9_sum_74) (tg_seq (si_aload_n (i := 0) dX9_sum_77 rfl) (tg_seq (si_getf (ci := 8) (f := 7) clX9 (Nat.le_of_ble_eq_true rfl) rfl flX9_27 dX9_sum_78) (tg_seq (si_iload_n (i := 1) dX9_sum_81 rfl) (si_iald dX9_sum_82))))))
theorem vX9_sum_1 : tg_SS0 mX9_sum 1 mX9_isRow 1 := ⟨okX9_isRow, ⟨242, dX9_sum_1, mlX9_242⟩, staX9_isRow, parX9_isRow, rfl, rfl, Nat.le_of_ble_eq_true rfl, Nat.le_of_ble_eq_true rfl⟩
theorem vX9_sum_52 : tg_VS mX9_sum 52 mX9_plus 2 := ⟨okX9_plus, ⟨255, dX9_sum_52, mlX9_255⟩, insX9_plus, selX9_plus, parX9_plus, rfl, rfl, Nat.le_of_ble_eq_true rfl, Nat.le_of_ble_eq_true rfl⟩
theorem dX9_load_0 : decode cX9_load 0 = .ok (.iload_n 1, 1) := by decide +kernel
theorem dX9_load_1 : decode cX9_load 1 = .ok (.invokestatic 242, 3) := by decide +kernel
theorem dX9_load_4 : decode cX9_load 4 = .ok (.ifCond .ne 6, 3) := by decide +kernel
theorem dX9_load_7 : decode cX9_load 7 = .ok (.bipush (-2), 2) := by decide +kernel
theorem dX9_load_9 : decode cX9_load 9 = .ok (.ireturn, 1) := by decide +kernel
theorem dX9_load_10 : decode cX9_load 10 = .ok (.aload_n 0, 1) := by decide +kernel
theorem dX9_load_11 : decode cX9_load 11 = .ok (.iload_n 3, 1) := by decide +kernel
theorem dX9_load_12 : decode cX9_load 12 = .ok (.invokevirtual 147, 3) := by decide +kernel
theorem dX9_load_15 : decode cX9_load 15 = .ok (.ifCond .ne 6, 3) := by decide +kernel
theorem dX9_load_18 : decode cX9_load 18 = .ok (.bipush (-3), 2) := by decide +kernel
theorem dX9_load_20 : decode cX9_load 20 = .ok (.ireturn, 1) := by decide +kernel
theorem dX9_load_21 : decode cX9_load 21 = .ok (.aload_n 0, 1) := by decide +kernel
theorem dX9_load_22 : decode cX9_load 22 = .ok (.iload_n 1, 1) := by decide +kernel
theorem dX9_load_23 : decode cX9_load 23 = .ok (.iload_n 2, 1) := by decide +kernel
theorem dX9_load_24 : decode cX9_load 24 = .ok (.invokevirtual 245, 3) := by decide +kernel
theorem dX9_load_27 : decode cX9_load 27 = .ok (.istore 4, 2) := by decide +kernel
theorem dX9_load_29 : decode cX9_load 29 = .ok (.iload 4, 2) := by decide +kernel
theorem dX9_load_31 : decode cX9_load 31 = .ok (.ifCond .eq 6, 3) := by decide +kernel
theorem dX9_load_34 : decode cX9_load 34 = .ok (.iload 4, 2) := by decide +kernel
theorem dX9_load_36 : decode cX9_load 36 = .ok (.ireturn, 1) := by decide +kernel
theorem dX9_load_37 : decode cX9_load 37 = .ok (.aload_n 0, 1) := by decide +kernel
theorem dX9_load_38 : decode cX9_load 38 = .ok (.iconst 0, 1) := by decide +kernel
theorem dX9_load_39 : decode cX9_load 39 = .ok (.iload_n 3, 1) := by decide +kernel
theorem dX9_load_40 : decode cX9_load 40 = .ok (.invokevirtual 197, 3) := by decide +kernel
theorem dX9_load_43 : decode cX9_load 43 = .ok (.aload_n 0, 1) := by decide +kernel
theorem dX9_load_44 : decode cX9_load 44 = .ok (.getfield 30, 3) := by decide +kernel
theorem dX9_load_47 : decode cX9_load 47 = .ok (.bipush 12, 2) := by decide +kernel
theorem dX9_load_49 : decode cX9_load 49 = .ok (.iload_n 1, 1) := by decide +kernel
theorem dX9_load_50 : decode cX9_load 50 = .ok (.imul, 1) := by decide +kernel
theorem dX9_load_51 : decode cX9_load 51 = .ok (.iload_n 2, 1) := by decide +kernel
theorem dX9_load_52 : decode cX9_load 52 = .ok (.iadd, 1) := by decide +kernel
theorem dX9_load_53 : decode cX9_load 53 = .ok (.aload_n 0, 1) := by decide +kernel
theorem dX9_load_54 : decode cX9_load 54 = .ok (.getfield 175, 3) := by decide +kernel
theorem dX9_load_57 : decode cX9_load 57 = .ok (.i2l, 1) := by decide +kernel
theorem dX9_load_58 : decode cX9_load 58 = .ok (.lastore, 1) := by decide +kernel
theorem dX9_load_59 : decode cX9_load 59 = .ok (.iconst 1, 1) := by decide +kernel
theorem dX9_load_60 : decode cX9_load 60 = .ok (.ireturn, 1) := by decide +kernel
theorem bX9_load_0 : tg_Snd mX9_load 0 (fun k => ti_iload 1 k) 1 := si_iload_n (i := 1) dX9_load_0 rfl
theorem bX9_load_7 : tg_Snd mX9_load 7 (fun k => ti_push (.int (-2)) k) 9 := si_bipush (v := -2) dX9_load_7 (by decide)
theorem bX9_load_10 : tg_Snd mX9_load 10 (fun k => ti_aload 0 (ti_iload 3 k)) 12 := tg_seq (si_aload_n (i := 0) dX9_load_10 rfl) (si_iload_n (i := 3) dX9_load_11 rfl)
theorem bX9_load_18 : tg_Snd mX9_load 18 (fun k => ti_push (.int (-3)) k) 20 := si_bipush (v := -3) dX9_load_18 (by decide)
theorem bX9_load_21 : tg_Snd mX9_load 21 (fun k => ti_aload 0 (ti_iload 1 (ti_iload 2 k))) 24 := tg_seq (si_aload_n (i := 0) dX9_load_21 rfl) (tg_seq (si_iload_n (i := 1) dX9_load_22 rfl) (si_iload_n (i := 2) dX9_load_23 rfl))
theorem bX9_load_27 : tg_Snd mX9_load 27 (fun k => ti_istore 4 (ti_iload 4 k)) 31 := tg_seq (si_istore (i := 4) dX9_load_27 (Nat.le_of_ble_eq_true rfl)) (si_iload (i := 4) dX9_load_29)
theorem bX9_load_34 : tg_Snd mX9_load 34 (fun k => ti_iload 4 k) 36 := si_iload (i := 4) dX9_load_34
theorem bX9_load_37 : tg_Snd mX9_load 37 (fun k => ti_aload 0 (ti_push (.int 0) (ti_iload 3 k))) 40 := tg_seq (si_aload_n (i := 0) dX9_load_37 rfl) (tg_seq (si_iconst (v := 0) dX9_load_38 (by decide)) (si_iload_n (i := 3) dX9_load_39 rfl))
theorem bX9_load_43 : tg_Snd mX9_load 43 (fun k => ti_aload 0 (ti_getf 8 8 (ti_push (.int 12) (ti_iload 1 (ti_imul (ti_iload 2 (ti_iadd (ti_aload 0 (ti_getf 8 22 (ti_i2l (ti_last (ti_push (.int 1) k)))))))))))) 60 := tg_seq (si_aload_n (i := 0) dX9_load_43 rfl) (tg_seq (si_getf (ci := 8) (f := 8) clX9 (Nat.le_of_ble_eq_true rfl) rfl flX9_30 dX9_load_44) (tg_seq (si_bipush (v := 12) dX9_load_47 (by decide)) (tg_seq (si_iload_n (i := 1) dX9_load_49 rfl) (tg_seq (si_imul dX9_load_50) (tg_seq (si_iload_n (i := 2) dX9_load_51 rfl) (tg_seq (si_iadd dX9_load_52) (tg_seq (si_aload_n (i := 0) dX9_load_53 rfl) (tg_seq (si_getf (ci := 8) (f := 22) clX9 (Nat.le_of_ble_eq_true rfl) rfl flX9_175 dX9_load_54) (tg_seq (si_i2l dX9_load_57) (tg_seq (si_last dX9_load_58) (si_iconst (v := 1) dX9_load_59 (by decide))))))))))))
theorem vX9_load_1 : tg_SS0 mX9_load 1 mX9_isRow 1 := ⟨okX9_isRow, ⟨242, dX9_load_1, mlX9_242⟩, staX9_isRow, parX9_isRow, rfl, rfl, Nat.le_of_ble_eq_true rfl, Nat.le_of_ble_eq_true rfl⟩
theorem vX9_load_12 : tg_VS mX9_load 12 mX9_isCell 1 := ⟨okX9_isCell, ⟨147, dX9_load_12, mlX9_147⟩, insX9_isCell, selX9_isCell, parX9_isCell, rfl, rfl, Nat.le_of_ble_eq_true rfl, Nat.le_of_ble_eq_true rfl⟩
theorem vX9_load_24 : tg_VS mX9_load 24 mX9_noPlace 2 := ⟨okX9_noPlace, ⟨245, dX9_load_24, mlX9_245⟩, insX9_noPlace, selX9_noPlace, parX9_noPlace, rfl, rfl, Nat.le_of_ble_eq_true rfl, Nat.le_of_ble_eq_true rfl⟩
theorem vX9_load_40 : tg_VS mX9_load 40 mX9_gather 2 := ⟨okX9_gather, ⟨197, dX9_load_40, mlX9_197⟩, insX9_gather, selX9_gather, parX9_gather, rfl, rfl, Nat.le_of_ble_eq_true rfl, Nat.le_of_ble_eq_true rfl⟩
theorem dX9_drop_0 : decode cX9_drop 0 = .ok (.iload_n 1, 1) := by decide +kernel
theorem dX9_drop_1 : decode cX9_drop 1 = .ok (.invokestatic 242, 3) := by decide +kernel
theorem dX9_drop_4 : decode cX9_drop 4 = .ok (.ifCond .ne 6, 3) := by decide +kernel
theorem dX9_drop_7 : decode cX9_drop 7 = .ok (.bipush (-2), 2) := by decide +kernel
theorem dX9_drop_9 : decode cX9_drop 9 = .ok (.ireturn, 1) := by decide +kernel
theorem dX9_drop_10 : decode cX9_drop 10 = .ok (.aload_n 0, 1) := by decide +kernel
theorem dX9_drop_11 : decode cX9_drop 11 = .ok (.getfield 27, 3) := by decide +kernel
theorem dX9_drop_14 : decode cX9_drop 14 = .ok (.iload_n 1, 1) := by decide +kernel
theorem dX9_drop_15 : decode cX9_drop 15 = .ok (.iaload, 1) := by decide +kernel
theorem dX9_drop_16 : decode cX9_drop 16 = .ok (.istore_n 2, 1) := by decide +kernel
theorem dX9_drop_17 : decode cX9_drop 17 = .ok (.aload_n 0, 1) := by decide +kernel
theorem dX9_drop_18 : decode cX9_drop 18 = .ok (.getfield 27, 3) := by decide +kernel
theorem dX9_drop_21 : decode cX9_drop 21 = .ok (.iload_n 1, 1) := by decide +kernel
theorem dX9_drop_22 : decode cX9_drop 22 = .ok (.iconst (-1), 1) := by decide +kernel
theorem dX9_drop_23 : decode cX9_drop 23 = .ok (.iastore, 1) := by decide +kernel
theorem dX9_drop_24 : decode cX9_drop 24 = .ok (.iload_n 2, 1) := by decide +kernel
theorem dX9_drop_25 : decode cX9_drop 25 = .ok (.ifCond .ge 8, 3) := by decide +kernel
theorem dX9_drop_28 : decode cX9_drop 28 = .ok (.bipush (-11), 2) := by decide +kernel
theorem dX9_drop_30 : decode cX9_drop 30 = .ok (.goto 4, 3) := by decide +kernel
theorem dX9_drop_33 : decode cX9_drop 33 = .ok (.iload_n 2, 1) := by decide +kernel
theorem dX9_drop_34 : decode cX9_drop 34 = .ok (.ireturn, 1) := by decide +kernel
theorem bX9_drop_0 : tg_Snd mX9_drop 0 (fun k => ti_iload 1 k) 1 := si_iload_n (i := 1) dX9_drop_0 rfl
theorem bX9_drop_7 : tg_Snd mX9_drop 7 (fun k => ti_push (.int (-2)) k) 9 := si_bipush (v := -2) dX9_drop_7 (by decide)
theorem bX9_drop_10 : tg_Snd mX9_drop 10 (fun k => ti_aload 0 (ti_getf 8 7 (ti_iload 1 (ti_iald (ti_istore 2 (ti_aload 0 (ti_getf 8 7 (ti_iload 1 (ti_push (.int (-1)) (ti_iast (ti_iload 2 k))))))))))) 25 := tg_seq (si_aload_n (i := 0) dX9_drop_10 rfl) (tg_seq (si_getf (ci := 8) (f := 7) clX9 (Nat.le_of_ble_eq_true rfl) rfl flX9_27 dX9_drop_11) (tg_seq (si_iload_n (i := 1) dX9_drop_14 rfl) (tg_seq (si_iald dX9_drop_15) (tg_seq (si_istore_n (i := 2) dX9_drop_16 rfl (Nat.le_of_ble_eq_true rfl)) (tg_seq (si_aload_n (i := 0) dX9_drop_17 rfl) (tg_seq (si_getf (ci := 8) (f := 7) clX9 (Nat.le_of_ble_eq_true rfl) rfl flX9_27 dX9_drop_18) (tg_seq (si_iload_n (i := 1) dX9_drop_21 rfl) (tg_seq (si_iconst (v := -1) dX9_drop_22 (by decide)) (tg_seq (si_iast dX9_drop_23) (si_iload_n (i := 2) dX9_drop_24 rfl))))))))))
theorem bX9_drop_28 : tg_Snd mX9_drop 28 (fun k => ti_push (.int (-11)) k) 30 := si_bipush (v := -11) dX9_drop_28 (by decide)
theorem bX9_drop_33 : tg_Snd mX9_drop 33 (fun k => ti_iload 2 k) 34 := si_iload_n (i := 2) dX9_drop_33 rfl
theorem vX9_drop_1 : tg_SS0 mX9_drop 1 mX9_isRow 1 := ⟨okX9_isRow, ⟨242, dX9_drop_1, mlX9_242⟩, staX9_isRow, parX9_isRow, rfl, rfl, Nat.le_of_ble_eq_true rfl, Nat.le_of_ble_eq_true rfl⟩
theorem dX9_asked_0 : decode cX9_asked 0 = .ok (.aload_n 0, 1) := by decide +kernel
theorem dX9_asked_1 : decode cX9_asked 1 = .ok (.getfield 258, 3) := by decide +kernel
theorem dX9_asked_4 : decode cX9_asked 4 = .ok (.lreturn, 1) := by decide +kernel
theorem bX9_asked_0 : tg_Snd mX9_asked 0 (fun k => ti_aload 0 (ti_getf 8 9 k)) 4 := tg_seq (si_aload_n (i := 0) dX9_asked_0 rfl) (si_getf (ci := 8) (f := 9) clX9 (Nat.le_of_ble_eq_true rfl) rfl flX9_258 dX9_asked_1)
theorem dX9_supported_0 : decode cX9_supported 0 = .ok (.iconst 0, 1) := by decide +kernel
theorem dX9_supported_1 : decode cX9_supported 1 = .ok (.istore_n 1, 1) := by decide +kernel
theorem dX9_supported_2 : decode cX9_supported 2 = .ok (.aload_n 0, 1) := by decide +kernel
theorem dX9_supported_3 : decode cX9_supported 3 = .ok (.invokevirtual 140, 3) := by decide +kernel
theorem dX9_supported_6 : decode cX9_supported 6 = .ok (.istore_n 2, 1) := by decide +kernel
theorem dX9_supported_7 : decode cX9_supported 7 = .ok (.iconst 0, 1) := by decide +kernel
theorem dX9_supported_8 : decode cX9_supported 8 = .ok (.istore_n 3, 1) := by decide +kernel
theorem dX9_supported_9 : decode cX9_supported 9 = .ok (.iload_n 3, 1) := by decide +kernel
theorem dX9_supported_10 : decode cX9_supported 10 = .ok (.iload_n 2, 1) := by decide +kernel
theorem dX9_supported_11 : decode cX9_supported 11 = .ok (.if_icmp .ge 43, 3) := by decide +kernel
theorem dX9_supported_14 : decode cX9_supported 14 = .ok (.aload_n 0, 1) := by decide +kernel
theorem dX9_supported_15 : decode cX9_supported 15 = .ok (.iconst 0, 1) := by decide +kernel
theorem dX9_supported_16 : decode cX9_supported 16 = .ok (.iload_n 3, 1) := by decide +kernel
theorem dX9_supported_17 : decode cX9_supported 17 = .ok (.invokevirtual 197, 3) := by decide +kernel
theorem dX9_supported_20 : decode cX9_supported 20 = .ok (.iload_n 1, 1) := by decide +kernel
theorem dX9_supported_21 : decode cX9_supported 21 = .ok (.aload_n 0, 1) := by decide +kernel
theorem dX9_supported_22 : decode cX9_supported 22 = .ok (.getfield 172, 3) := by decide +kernel
theorem dX9_supported_25 : decode cX9_supported 25 = .ok (.ifCond .le 20, 3) := by decide +kernel
theorem dX9_supported_28 : decode cX9_supported 28 = .ok (.aload_n 0, 1) := by decide +kernel
theorem dX9_supported_29 : decode cX9_supported 29 = .ok (.getfield 172, 3) := by decide +kernel
theorem dX9_supported_32 : decode cX9_supported 32 = .ok (.aload_n 0, 1) := by decide +kernel
theorem dX9_supported_33 : decode cX9_supported 33 = .ok (.getfield 7, 3) := by decide +kernel
theorem dX9_supported_36 : decode cX9_supported 36 = .ok (.iconst 1, 1) := by decide +kernel
theorem dX9_supported_37 : decode cX9_supported 37 = .ok (.iaload, 1) := by decide +kernel
theorem dX9_supported_38 : decode cX9_supported 38 = .ok (.if_icmp .lt 7, 3) := by decide +kernel
theorem dX9_supported_41 : decode cX9_supported 41 = .ok (.iconst 1, 1) := by decide +kernel
theorem dX9_supported_42 : decode cX9_supported 42 = .ok (.goto 4, 3) := by decide +kernel
theorem dX9_supported_45 : decode cX9_supported 45 = .ok (.iconst 0, 1) := by decide +kernel
theorem dX9_supported_46 : decode cX9_supported 46 = .ok (.iadd, 1) := by decide +kernel
theorem dX9_supported_47 : decode cX9_supported 47 = .ok (.istore_n 1, 1) := by decide +kernel
theorem dX9_supported_48 : decode cX9_supported 48 = .ok (.iinc 3 1, 3) := by decide +kernel
theorem dX9_supported_51 : decode cX9_supported 51 = .ok (.goto (-42), 3) := by decide +kernel
theorem dX9_supported_54 : decode cX9_supported 54 = .ok (.iload_n 1, 1) := by decide +kernel
theorem dX9_supported_55 : decode cX9_supported 55 = .ok (.ireturn, 1) := by decide +kernel
theorem bX9_supported_0 : tg_Snd mX9_supported 0 (fun k => ti_push (.int 0) (ti_istore 1 (ti_aload 0 k))) 3 := tg_seq (si_iconst (v := 0) dX9_supported_0 (by decide)) (tg_seq (si_istore_n (i := 1) dX9_supported_1 rfl (Nat.le_of_ble_eq_true rfl)) (si_aload_n (i := 0) dX9_supported_2 rfl))
theorem bX9_supported_6 : tg_Snd mX9_supported 6 (fun k => ti_istore 2 (ti_push (.int 0) (ti_istore 3 k))) 9 := tg_seq (si_istore_n (i := 2) dX9_supported_6 rfl (Nat.le_of_ble_eq_true rfl)) (tg_seq (si_iconst (v := 0) dX9_supported_7 (by decide)) (si_istore_n (i := 3) dX9_supported_8 rfl (Nat.le_of_ble_eq_true rfl)))
theorem bX9_supported_9 : tg_Snd mX9_supported 9 (fun k => ti_iload 3 (ti_iload 2 k)) 11 := tg_seq (si_iload_n (i := 3) dX9_supported_9 rfl) (si_iload_n (i := 2) dX9_supported_10 rfl)
theorem bX9_supported_14 : tg_Snd mX9_supported 14 (fun k => ti_aload 0 (ti_push (.int 0) (ti_iload 3 k))) 17 := tg_seq (si_aload_n (i := 0) dX9_supported_14 rfl) (tg_seq (si_iconst (v := 0) dX9_supported_15 (by decide)) (si_iload_n (i := 3) dX9_supported_16 rfl))
theorem bX9_supported_20 : tg_Snd mX9_supported 20 (fun k => ti_iload 1 (ti_aload 0 (ti_getf 8 21 k))) 25 := tg_seq (si_iload_n (i := 1) dX9_supported_20 rfl) (tg_seq (si_aload_n (i := 0) dX9_supported_21 rfl) (si_getf (ci := 8) (f := 21) clX9 (Nat.le_of_ble_eq_true rfl) rfl flX9_172 dX9_supported_22))
theorem bX9_supported_28 : tg_Snd mX9_supported 28 (fun k => ti_aload 0 (ti_getf 8 21 (ti_aload 0 (ti_getf 8 0 (ti_push (.int 1) (ti_iald k)))))) 38 := tg_seq (si_aload_n (i := 0) dX9_supported_28 rfl) (tg_seq (si_getf (ci := 8) (f := 21) clX9 (Nat.le_of_ble_eq_true rfl) rfl flX9_172 dX9_supported_29) (tg_seq (si_aload_n (i := 0) dX9_supported_32 rfl) (tg_seq (si_getf (ci := 8) (f := 0) clX9 (Nat.le_of_ble_eq_true rfl) rfl flX9_7 dX9_supported_33) (tg_seq (si_iconst (v := 1) dX9_supported_36 (by decide)) (si_iald dX9_supported_37)))))
theorem bX9_supported_41 : tg_Snd mX9_supported 41 (fun k => ti_push (.int 1) k) 42 := si_iconst (v := 1) dX9_supported_41 (by decide)
theorem bX9_supported_45 : tg_Snd mX9_supported 45 (fun k => ti_push (.int 0) k) 46 := si_iconst (v := 0) dX9_supported_45 (by decide)
theorem bX9_supported_46 : tg_Snd mX9_supported 46 (fun k => ti_iadd (ti_istore 1 (ti_iinc 3 1 k))) 51 := tg_seq (si_iadd dX9_supported_46) (tg_seq (si_istore_n (i := 1) dX9_supported_47 rfl (Nat.le_of_ble_eq_true rfl)) (si_iinc (v := 1) dX9_supported_48 (by decide) (Nat.le_of_ble_eq_true rfl)))
theorem bX9_supported_54 : tg_Snd mX9_supported 54 (fun k => ti_iload 1 k) 55 := si_iload_n (i := 1) dX9_supported_54 rfl
theorem vX9_supported_3 : tg_VS mX9_supported 3 mX9_codes 0 := ⟨okX9_codes, ⟨140, dX9_supported_3, mlX9_140⟩, insX9_codes, selX9_codes, parX9_codes, rfl, rfl, Nat.le_of_ble_eq_true rfl, Nat.le_of_ble_eq_true rfl⟩
theorem vX9_supported_17 : tg_VS mX9_supported 17 mX9_gather 2 := ⟨okX9_gather, ⟨197, dX9_supported_17, mlX9_197⟩, insX9_gather, selX9_gather, parX9_gather, rfl, rfl, Nat.le_of_ble_eq_true rfl, Nat.le_of_ble_eq_true rfl⟩
theorem dX9_valuesTold_0 : decode cX9_valuesTold 0 = .ok (.iconst 0, 1) := by decide +kernel
theorem dX9_valuesTold_1 : decode cX9_valuesTold 1 = .ok (.istore_n 1, 1) := by decide +kernel
theorem dX9_valuesTold_2 : decode cX9_valuesTold 2 = .ok (.iconst 0, 1) := by decide +kernel
theorem dX9_valuesTold_3 : decode cX9_valuesTold 3 = .ok (.istore_n 2, 1) := by decide +kernel
theorem dX9_valuesTold_4 : decode cX9_valuesTold 4 = .ok (.iload_n 2, 1) := by decide +kernel
theorem dX9_valuesTold_5 : decode cX9_valuesTold 5 = .ok (.aload_n 0, 1) := by decide +kernel
theorem dX9_valuesTold_6 : decode cX9_valuesTold 6 = .ok (.getfield 13, 3) := by decide +kernel
theorem dX9_valuesTold_9 : decode cX9_valuesTold 9 = .ok (.if_icmp .ge 21, 3) := by decide +kernel
theorem dX9_valuesTold_12 : decode cX9_valuesTold 12 = .ok (.bipush 10, 2) := by decide +kernel
theorem dX9_valuesTold_14 : decode cX9_valuesTold 14 = .ok (.iload_n 1, 1) := by decide +kernel
theorem dX9_valuesTold_15 : decode cX9_valuesTold 15 = .ok (.imul, 1) := by decide +kernel
theorem dX9_valuesTold_16 : decode cX9_valuesTold 16 = .ok (.aload_n 0, 1) := by decide +kernel
theorem dX9_valuesTold_17 : decode cX9_valuesTold 17 = .ok (.getfield 17, 3) := by decide +kernel
theorem dX9_valuesTold_20 : decode cX9_valuesTold 20 = .ok (.iload_n 2, 1) := by decide +kernel
theorem dX9_valuesTold_21 : decode cX9_valuesTold 21 = .ok (.iaload, 1) := by decide +kernel
theorem dX9_valuesTold_22 : decode cX9_valuesTold 22 = .ok (.iadd, 1) := by decide +kernel
theorem dX9_valuesTold_23 : decode cX9_valuesTold 23 = .ok (.istore_n 1, 1) := by decide +kernel
theorem dX9_valuesTold_24 : decode cX9_valuesTold 24 = .ok (.iinc 2 1, 3) := by decide +kernel
theorem dX9_valuesTold_27 : decode cX9_valuesTold 27 = .ok (.goto (-23), 3) := by decide +kernel
theorem dX9_valuesTold_30 : decode cX9_valuesTold 30 = .ok (.iload_n 1, 1) := by decide +kernel
theorem dX9_valuesTold_31 : decode cX9_valuesTold 31 = .ok (.ireturn, 1) := by decide +kernel
theorem bX9_valuesTold_0 : tg_Snd mX9_valuesTold 0 (fun k => ti_push (.int 0) (ti_istore 1 (ti_push (.int 0) (ti_istore 2 k)))) 4 := tg_seq (si_iconst (v := 0) dX9_valuesTold_0 (by decide)) (tg_seq (si_istore_n (i := 1) dX9_valuesTold_1 rfl (Nat.le_of_ble_eq_true rfl)) (tg_seq (si_iconst (v := 0) dX9_valuesTold_2 (by decide)) (si_istore_n (i := 2) dX9_valuesTold_3 rfl (Nat.le_of_ble_eq_true rfl))))
theorem bX9_valuesTold_4 : tg_Snd mX9_valuesTold 4 (fun k => ti_iload 2 (ti_aload 0 (ti_getf 8 1 k))) 9 := tg_seq (si_iload_n (i := 2) dX9_valuesTold_4 rfl) (tg_seq (si_aload_n (i := 0) dX9_valuesTold_5 rfl) (si_getf (ci := 8) (f := 1) clX9 (Nat.le_of_ble_eq_true rfl) rfl flX9_13 dX9_valuesTold_6))
theorem bX9_valuesTold_12 : tg_Snd mX9_valuesTold 12 (fun k => ti_push (.int 10) (ti_iload 1 (ti_imul (ti_aload 0 (ti_getf 8 2 (ti_iload 2 (ti_iald (ti_iadd (ti_istore 1 (ti_iinc 2 1 k)))))))))) 27 := tg_seq (si_bipush (v := 10) dX9_valuesTold_12 (by decide)) (tg_seq (si_iload_n (i := 1) dX9_valuesTold_14 rfl) (tg_seq (si_imul dX9_valuesTold_15) (tg_seq (si_aload_n (i := 0) dX9_valuesTold_16 rfl) (tg_seq (si_getf (ci := 8) (f := 2) clX9 (Nat.le_of_ble_eq_true rfl) rfl flX9_17 dX9_valuesTold_17) (tg_seq (si_iload_n (i := 2) dX9_valuesTold_20 rfl) (tg_seq (si_iald dX9_valuesTold_21) (tg_seq (si_iadd dX9_valuesTold_22) (tg_seq (si_istore_n (i := 1) dX9_valuesTold_23 rfl (Nat.le_of_ble_eq_true rfl)) (si_iinc (v := 1) dX9_valuesTold_24 (by decide) (Nat.le_of_ble_eq_true rfl))))))))))
theorem bX9_valuesTold_30 : tg_Snd mX9_valuesTold 30 (fun k => ti_iload 1 k) 31 := si_iload_n (i := 1) dX9_valuesTold_30 rfl
theorem dX9_allPlaces_0 : decode cX9_allPlaces 0 = .ok (.iconst 0, 1) := by decide +kernel
theorem dX9_allPlaces_1 : decode cX9_allPlaces 1 = .ok (.istore_n 1, 1) := by decide +kernel
theorem dX9_allPlaces_2 : decode cX9_allPlaces 2 = .ok (.iconst 0, 1) := by decide +kernel
theorem dX9_allPlaces_3 : decode cX9_allPlaces 3 = .ok (.istore_n 2, 1) := by decide +kernel
theorem dX9_allPlaces_4 : decode cX9_allPlaces 4 = .ok (.iload_n 2, 1) := by decide +kernel
theorem dX9_allPlaces_5 : decode cX9_allPlaces 5 = .ok (.iconst 3, 1) := by decide +kernel
theorem dX9_allPlaces_6 : decode cX9_allPlaces 6 = .ok (.if_icmp .ge 31, 3) := by decide +kernel
theorem dX9_allPlaces_9 : decode cX9_allPlaces 9 = .ok (.iload_n 1, 1) := by decide +kernel
theorem dX9_allPlaces_10 : decode cX9_allPlaces 10 = .ok (.aload_n 0, 1) := by decide +kernel
theorem dX9_allPlaces_11 : decode cX9_allPlaces 11 = .ok (.getfield 27, 3) := by decide +kernel
theorem dX9_allPlaces_14 : decode cX9_allPlaces 14 = .ok (.iload_n 2, 1) := by decide +kernel
theorem dX9_allPlaces_15 : decode cX9_allPlaces 15 = .ok (.iaload, 1) := by decide +kernel
theorem dX9_allPlaces_16 : decode cX9_allPlaces 16 = .ok (.ifCond .ge 7, 3) := by decide +kernel
theorem dX9_allPlaces_19 : decode cX9_allPlaces 19 = .ok (.iconst 0, 1) := by decide +kernel
theorem dX9_allPlaces_20 : decode cX9_allPlaces 20 = .ok (.goto 9, 3) := by decide +kernel
theorem dX9_allPlaces_23 : decode cX9_allPlaces 23 = .ok (.aload_n 0, 1) := by decide +kernel
theorem dX9_allPlaces_24 : decode cX9_allPlaces 24 = .ok (.getfield 27, 3) := by decide +kernel
theorem dX9_allPlaces_27 : decode cX9_allPlaces 27 = .ok (.iload_n 2, 1) := by decide +kernel
theorem dX9_allPlaces_28 : decode cX9_allPlaces 28 = .ok (.iaload, 1) := by decide +kernel
theorem dX9_allPlaces_29 : decode cX9_allPlaces 29 = .ok (.iadd, 1) := by decide +kernel
theorem dX9_allPlaces_30 : decode cX9_allPlaces 30 = .ok (.istore_n 1, 1) := by decide +kernel
theorem dX9_allPlaces_31 : decode cX9_allPlaces 31 = .ok (.iinc 2 1, 3) := by decide +kernel
theorem dX9_allPlaces_34 : decode cX9_allPlaces 34 = .ok (.goto (-30), 3) := by decide +kernel
theorem dX9_allPlaces_37 : decode cX9_allPlaces 37 = .ok (.iload_n 1, 1) := by decide +kernel
theorem dX9_allPlaces_38 : decode cX9_allPlaces 38 = .ok (.ireturn, 1) := by decide +kernel
theorem bX9_allPlaces_0 : tg_Snd mX9_allPlaces 0 (fun k => ti_push (.int 0) (ti_istore 1 (ti_push (.int 0) (ti_istore 2 k)))) 4 := tg_seq (si_iconst (v := 0) dX9_allPlaces_0 (by decide)) (tg_seq (si_istore_n (i := 1) dX9_allPlaces_1 rfl (Nat.le_of_ble_eq_true rfl)) (tg_seq (si_iconst (v := 0) dX9_allPlaces_2 (by decide)) (si_istore_n (i := 2) dX9_allPlaces_3 rfl (Nat.le_of_ble_eq_true rfl))))
theorem bX9_allPlaces_4 : tg_Snd mX9_allPlaces 4 (fun k => ti_iload 2 (ti_push (.int 3) k)) 6 := tg_seq (si_iload_n (i := 2) dX9_allPlaces_4 rfl) (si_iconst (v := 3) dX9_allPlaces_5 (by decide))
theorem bX9_allPlaces_9 : tg_Snd mX9_allPlaces 9 (fun k => ti_iload 1 (ti_aload 0 (ti_getf 8 7 (ti_iload 2 (ti_iald k))))) 16 := tg_seq (si_iload_n (i := 1) dX9_allPlaces_9 rfl) (tg_seq (si_aload_n (i := 0) dX9_allPlaces_10 rfl) (tg_seq (si_getf (ci := 8) (f := 7) clX9 (Nat.le_of_ble_eq_true rfl) rfl flX9_27 dX9_allPlaces_11) (tg_seq (si_iload_n (i := 2) dX9_allPlaces_14 rfl) (si_iald dX9_allPlaces_15))))
theorem bX9_allPlaces_19 : tg_Snd mX9_allPlaces 19 (fun k => ti_push (.int 0) k) 20 := si_iconst (v := 0) dX9_allPlaces_19 (by decide)
theorem bX9_allPlaces_23 : tg_Snd mX9_allPlaces 23 (fun k => ti_aload 0 (ti_getf 8 7 (ti_iload 2 (ti_iald k)))) 29 := tg_seq (si_aload_n (i := 0) dX9_allPlaces_23 rfl) (tg_seq (si_getf (ci := 8) (f := 7) clX9 (Nat.le_of_ble_eq_true rfl) rfl flX9_27 dX9_allPlaces_24) (tg_seq (si_iload_n (i := 2) dX9_allPlaces_27 rfl) (si_iald dX9_allPlaces_28)))
theorem bX9_allPlaces_29 : tg_Snd mX9_allPlaces 29 (fun k => ti_iadd (ti_istore 1 (ti_iinc 2 1 k))) 34 := tg_seq (si_iadd dX9_allPlaces_29) (tg_seq (si_istore_n (i := 1) dX9_allPlaces_30 rfl (Nat.le_of_ble_eq_true rfl)) (si_iinc (v := 1) dX9_allPlaces_31 (by decide) (Nat.le_of_ble_eq_true rfl)))
theorem bX9_allPlaces_37 : tg_Snd mX9_allPlaces 37 (fun k => ti_iload 1 k) 38 := si_iload_n (i := 1) dX9_allPlaces_37 rfl
theorem dX9_count_0 : decode cX9_count 0 = .ok (.iload_n 1, 1) := by decide +kernel
theorem dX9_count_1 : decode cX9_count 1 = .ok (.tableswitch 101 0 8 #[51, 56, 63, 70, 76, 81, 86, 91, 96], 51) := by decide +kernel
theorem dX9_count_52 : decode cX9_count 52 = .ok (.aload_n 0, 1) := by decide +kernel
theorem dX9_count_53 : decode cX9_count 53 = .ok (.getfield 13, 3) := by decide +kernel
theorem dX9_count_56 : decode cX9_count 56 = .ok (.ireturn, 1) := by decide +kernel
theorem dX9_count_57 : decode cX9_count 57 = .ok (.aload_n 0, 1) := by decide +kernel
theorem dX9_count_58 : decode cX9_count 58 = .ok (.getfield 7, 3) := by decide +kernel
theorem dX9_count_61 : decode cX9_count 61 = .ok (.iconst 0, 1) := by decide +kernel
theorem dX9_count_62 : decode cX9_count 62 = .ok (.iaload, 1) := by decide +kernel
theorem dX9_count_63 : decode cX9_count 63 = .ok (.ireturn, 1) := by decide +kernel
theorem dX9_count_64 : decode cX9_count 64 = .ok (.aload_n 0, 1) := by decide +kernel
theorem dX9_count_65 : decode cX9_count 65 = .ok (.getfield 7, 3) := by decide +kernel
theorem dX9_count_68 : decode cX9_count 68 = .ok (.iconst 1, 1) := by decide +kernel
theorem dX9_count_69 : decode cX9_count 69 = .ok (.iaload, 1) := by decide +kernel
theorem dX9_count_70 : decode cX9_count 70 = .ok (.ireturn, 1) := by decide +kernel
theorem dX9_count_71 : decode cX9_count 71 = .ok (.aload_n 0, 1) := by decide +kernel
theorem dX9_count_72 : decode cX9_count 72 = .ok (.iconst 0, 1) := by decide +kernel
theorem dX9_count_73 : decode cX9_count 73 = .ok (.invokevirtual 219, 3) := by decide +kernel
theorem dX9_count_76 : decode cX9_count 76 = .ok (.ireturn, 1) := by decide +kernel
theorem dX9_count_77 : decode cX9_count 77 = .ok (.aload_n 0, 1) := by decide +kernel
theorem dX9_count_78 : decode cX9_count 78 = .ok (.invokevirtual 262, 3) := by decide +kernel
theorem dX9_count_81 : decode cX9_count 81 = .ok (.ireturn, 1) := by decide +kernel
theorem dX9_count_82 : decode cX9_count 82 = .ok (.aload_n 0, 1) := by decide +kernel
theorem dX9_count_83 : decode cX9_count 83 = .ok (.invokevirtual 265, 3) := by decide +kernel
theorem dX9_count_86 : decode cX9_count 86 = .ok (.ireturn, 1) := by decide +kernel
theorem dX9_count_87 : decode cX9_count 87 = .ok (.aload_n 0, 1) := by decide +kernel
theorem dX9_count_88 : decode cX9_count 88 = .ok (.invokevirtual 268, 3) := by decide +kernel
theorem dX9_count_91 : decode cX9_count 91 = .ok (.ireturn, 1) := by decide +kernel
theorem dX9_count_92 : decode cX9_count 92 = .ok (.aload_n 0, 1) := by decide +kernel
theorem dX9_count_93 : decode cX9_count 93 = .ok (.getfield 137, 3) := by decide +kernel
theorem dX9_count_96 : decode cX9_count 96 = .ok (.ireturn, 1) := by decide +kernel
theorem dX9_count_97 : decode cX9_count 97 = .ok (.aload_n 0, 1) := by decide +kernel
theorem dX9_count_98 : decode cX9_count 98 = .ok (.getfield 58, 3) := by decide +kernel
theorem dX9_count_101 : decode cX9_count 101 = .ok (.ireturn, 1) := by decide +kernel
theorem dX9_count_102 : decode cX9_count 102 = .ok (.bipush (-3), 2) := by decide +kernel
theorem dX9_count_104 : decode cX9_count 104 = .ok (.ireturn, 1) := by decide +kernel
theorem bX9_count_0 : tg_Snd mX9_count 0 (fun k => ti_iload 1 k) 1 := si_iload_n (i := 1) dX9_count_0 rfl
theorem bX9_count_52 : tg_Snd mX9_count 52 (fun k => ti_aload 0 (ti_getf 8 1 k)) 56 := tg_seq (si_aload_n (i := 0) dX9_count_52 rfl) (si_getf (ci := 8) (f := 1) clX9 (Nat.le_of_ble_eq_true rfl) rfl flX9_13 dX9_count_53)
theorem bX9_count_57 : tg_Snd mX9_count 57 (fun k => ti_aload 0 (ti_getf 8 0 (ti_push (.int 0) (ti_iald k)))) 63 := tg_seq (si_aload_n (i := 0) dX9_count_57 rfl) (tg_seq (si_getf (ci := 8) (f := 0) clX9 (Nat.le_of_ble_eq_true rfl) rfl flX9_7 dX9_count_58) (tg_seq (si_iconst (v := 0) dX9_count_61 (by decide)) (si_iald dX9_count_62)))
theorem bX9_count_64 : tg_Snd mX9_count 64 (fun k => ti_aload 0 (ti_getf 8 0 (ti_push (.int 1) (ti_iald k)))) 70 := tg_seq (si_aload_n (i := 0) dX9_count_64 rfl) (tg_seq (si_getf (ci := 8) (f := 0) clX9 (Nat.le_of_ble_eq_true rfl) rfl flX9_7 dX9_count_65) (tg_seq (si_iconst (v := 1) dX9_count_68 (by decide)) (si_iald dX9_count_69)))
theorem bX9_count_71 : tg_Snd mX9_count 71 (fun k => ti_aload 0 (ti_push (.int 0) k)) 73 := tg_seq (si_aload_n (i := 0) dX9_count_71 rfl) (si_iconst (v := 0) dX9_count_72 (by decide))
theorem bX9_count_77 : tg_Snd mX9_count 77 (fun k => ti_aload 0 k) 78 := si_aload_n (i := 0) dX9_count_77 rfl
theorem bX9_count_82 : tg_Snd mX9_count 82 (fun k => ti_aload 0 k) 83 := si_aload_n (i := 0) dX9_count_82 rfl
theorem bX9_count_87 : tg_Snd mX9_count 87 (fun k => ti_aload 0 k) 88 := si_aload_n (i := 0) dX9_count_87 rfl
theorem bX9_count_92 : tg_Snd mX9_count 92 (fun k => ti_aload 0 (ti_getf 8 3 k)) 96 := tg_seq (si_aload_n (i := 0) dX9_count_92 rfl) (si_getf (ci := 8) (f := 3) clX9 (Nat.le_of_ble_eq_true rfl) rfl flX9_137 dX9_count_93)
theorem bX9_count_97 : tg_Snd mX9_count 97 (fun k => ti_aload 0 (ti_getf 8 6 k)) 101 := tg_seq (si_aload_n (i := 0) dX9_count_97 rfl) (si_getf (ci := 8) (f := 6) clX9 (Nat.le_of_ble_eq_true rfl) rfl flX9_58 dX9_count_98)
theorem bX9_count_102 : tg_Snd mX9_count 102 (fun k => ti_push (.int (-3)) k) 104 := si_bipush (v := -3) dX9_count_102 (by decide)
theorem vX9_count_73 : tg_VS mX9_count 73 mX9_cubeOf 1 := ⟨okX9_cubeOf, ⟨219, dX9_count_73, mlX9_219⟩, insX9_cubeOf, selX9_cubeOf, parX9_cubeOf, rfl, rfl, Nat.le_of_ble_eq_true rfl, Nat.le_of_ble_eq_true rfl⟩
theorem vX9_count_78 : tg_VS mX9_count 78 mX9_supported 0 := ⟨okX9_supported, ⟨262, dX9_count_78, mlX9_262⟩, insX9_supported, selX9_supported, parX9_supported, rfl, rfl, Nat.le_of_ble_eq_true rfl, Nat.le_of_ble_eq_true rfl⟩
theorem vX9_count_83 : tg_VS mX9_count 83 mX9_valuesTold 0 := ⟨okX9_valuesTold, ⟨265, dX9_count_83, mlX9_265⟩, insX9_valuesTold, selX9_valuesTold, parX9_valuesTold, rfl, rfl, Nat.le_of_ble_eq_true rfl, Nat.le_of_ble_eq_true rfl⟩
theorem vX9_count_88 : tg_VS mX9_count 88 mX9_allPlaces 0 := ⟨okX9_allPlaces, ⟨268, dX9_count_88, mlX9_268⟩, insX9_allPlaces, selX9_allPlaces, parX9_allPlaces, rfl, rfl, Nat.le_of_ble_eq_true rfl, Nat.le_of_ble_eq_true rfl⟩
