theorem dX8_write_0 : decode cX8_write 0 = .ok (.iload_n 1, 1) := by decide +kernel
theorem dX8_write_1 : decode cX8_write 1 = .ok (.ifCond .lt 10, 3) := by decide +kernel
theorem dX8_write_4 : decode cX8_write 4 = .ok (.iload_n 1, 1) := by decide +kernel
theorem dX8_write_5 : decode cX8_write 5 = .ok (.sipush 255, 3) := by decide +kernel
theorem dX8_write_8 : decode cX8_write 8 = .ok (.if_icmp .le 6, 3) := by decide +kernel
theorem dX8_write_11 : decode cX8_write 11 = .ok (.bipush (-3), 2) := by decide +kernel
theorem dX8_write_13 : decode cX8_write 13 = .ok (.ireturn, 1) := by decide +kernel
theorem dX8_write_14 : decode cX8_write 14 = .ok (.aload_n 0, 1) := by decide +kernel
theorem dX8_write_15 : decode cX8_write 15 = .ok (.getfield 20, 3) := by decide +kernel
theorem dX8_write_18 : decode cX8_write 18 = .ok (.iload_n 1, 1) := by decide +kernel
theorem dX8_write_19 : decode cX8_write 19 = .ok (.i2c, 1) := by decide +kernel
theorem dX8_write_20 : decode cX8_write 20 = .ok (.invokevirtual 66, 3) := by decide +kernel
theorem dX8_write_23 : decode cX8_write 23 = .ok (.ifCond .eq 13, 3) := by decide +kernel
theorem dX8_write_26 : decode cX8_write 26 = .ok (.aload_n 0, 1) := by decide +kernel
theorem dX8_write_27 : decode cX8_write 27 = .ok (.getfield 20, 3) := by decide +kernel
theorem dX8_write_30 : decode cX8_write 30 = .ok (.getfield 72, 3) := by decide +kernel
theorem dX8_write_33 : decode cX8_write 33 = .ok (.goto 5, 3) := by decide +kernel
theorem dX8_write_36 : decode cX8_write 36 = .ok (.bipush (-5), 2) := by decide +kernel
theorem dX8_write_38 : decode cX8_write 38 = .ok (.ireturn, 1) := by decide +kernel
theorem bX8_write_0 : tg_Snd mX8_write 0 (fun k => ti_iload 1 k) 1 := si_iload_n (i := 1) dX8_write_0 rfl
theorem bX8_write_4 : tg_Snd mX8_write 4 (fun k => ti_iload 1 (ti_push (.int 255) k)) 8 := tg_seq (si_iload_n (i := 1) dX8_write_4 rfl) (si_sipush (v := 255) dX8_write_5 (by decide))
theorem bX8_write_11 : tg_Snd mX8_write 11 (fun k => ti_push (.int (-3)) k) 13 := si_bipush (v := -3) dX8_write_11 (by decide)
theorem bX8_write_14 : tg_Snd mX8_write 14 (fun k => ti_aload 0 (ti_getf 7 1 (ti_iload 1 (ti_i2c k)))) 20 := tg_seq (si_aload_n (i := 0) dX8_write_14 rfl) (tg_seq (si_getf (ci := 7) (f := 1) clX8 (Nat.le_of_ble_eq_true rfl) rfl flX8_20 dX8_write_15) (tg_seq (si_iload_n (i := 1) dX8_write_18 rfl) (si_i2c dX8_write_19)))
theorem bX8_write_26 : tg_Snd mX8_write 26 (fun k => ti_aload 0 (ti_getf 7 1 (ti_getf 6 1 k))) 33 := tg_seq (si_aload_n (i := 0) dX8_write_26 rfl) (tg_seq (si_getf (ci := 7) (f := 1) clX8 (Nat.le_of_ble_eq_true rfl) rfl flX8_20 dX8_write_27) (si_getf (ci := 6) (f := 1) clX7 (Nat.le_of_ble_eq_true rfl) rfl flX8_72 dX8_write_30))
theorem bX8_write_36 : tg_Snd mX8_write 36 (fun k => ti_push (.int (-5)) k) 38 := si_bipush (v := -5) dX8_write_36 (by decide)
theorem vX8_write_20 : tg_VS mX8_write 20 mX7_append 1 := ⟨okX7_append, ⟨66, dX8_write_20, mlX8_66⟩, insX7_append, selX7_append, parX7_append, rfl, rfl, Nat.le_of_ble_eq_true rfl, Nat.le_of_ble_eq_true rfl⟩
theorem dX8_erase_0 : decode cX8_erase 0 = .ok (.aload_n 0, 1) := by decide +kernel
theorem dX8_erase_1 : decode cX8_erase 1 = .ok (.getfield 20, 3) := by decide +kernel
theorem dX8_erase_4 : decode cX8_erase 4 = .ok (.getfield 72, 3) := by decide +kernel
theorem dX8_erase_7 : decode cX8_erase 7 = .ok (.istore_n 1, 1) := by decide +kernel
theorem dX8_erase_8 : decode cX8_erase 8 = .ok (.aload_n 0, 1) := by decide +kernel
theorem dX8_erase_9 : decode cX8_erase 9 = .ok (.getfield 20, 3) := by decide +kernel
theorem dX8_erase_12 : decode cX8_erase 12 = .ok (.iconst 0, 1) := by decide +kernel
theorem dX8_erase_13 : decode cX8_erase 13 = .ok (.putfield 72, 3) := by decide +kernel
theorem dX8_erase_16 : decode cX8_erase 16 = .ok (.iload_n 1, 1) := by decide +kernel
theorem dX8_erase_17 : decode cX8_erase 17 = .ok (.ireturn, 1) := by decide +kernel
theorem bX8_erase_0 : tg_Snd mX8_erase 0 (fun k => ti_aload 0 (ti_getf 7 1 (ti_getf 6 1 (ti_istore 1 (ti_aload 0 (ti_getf 7 1 (ti_push (.int 0) (ti_putfI 6 1 (ti_iload 1 k))))))))) 17 := tg_seq (si_aload_n (i := 0) dX8_erase_0 rfl) (tg_seq (si_getf (ci := 7) (f := 1) clX8 (Nat.le_of_ble_eq_true rfl) rfl flX8_20 dX8_erase_1) (tg_seq (si_getf (ci := 6) (f := 1) clX7 (Nat.le_of_ble_eq_true rfl) rfl flX8_72 dX8_erase_4) (tg_seq (si_istore_n (i := 1) dX8_erase_7 rfl (Nat.le_of_ble_eq_true rfl)) (tg_seq (si_aload_n (i := 0) dX8_erase_8 rfl) (tg_seq (si_getf (ci := 7) (f := 1) clX8 (Nat.le_of_ble_eq_true rfl) rfl flX8_20 dX8_erase_9) (tg_seq (si_iconst (v := 0) dX8_erase_12 (by decide)) (tg_seq (si_putfI (ci := 6) (f := 1) (ty := .int) clX7 tyX7_ok nmX7 (Nat.le_of_ble_eq_true rfl) rfl (by decide +kernel) (fun _ _ => ⟨rfl, rfl⟩) flX8_72 dX8_erase_13) (si_iload_n (i := 1) dX8_erase_16 rfl))))))))
theorem dX8_fault_0 : decode cX8_fault 0 = .ok (.aload_n 0, 1) := by decide +kernel
theorem dX8_fault_1 : decode cX8_fault 1 = .ok (.getfield 12, 3) := by decide +kernel
theorem dX8_fault_4 : decode cX8_fault 4 = .ok (.aload_n 0, 1) := by decide +kernel
theorem dX8_fault_5 : decode cX8_fault 5 = .ok (.getfield 32, 3) := by decide +kernel
theorem dX8_fault_8 : decode cX8_fault 8 = .ok (.invokevirtual 76, 3) := by decide +kernel
theorem dX8_fault_11 : decode cX8_fault 11 = .ok (.ireturn, 1) := by decide +kernel
theorem bX8_fault_0 : tg_Snd mX8_fault 0 (fun k => ti_aload 0 (ti_getf 7 0 (ti_aload 0 (ti_getf 7 3 k)))) 8 := tg_seq (si_aload_n (i := 0) dX8_fault_0 rfl) (tg_seq (si_getf (ci := 7) (f := 0) clX8 (Nat.le_of_ble_eq_true rfl) rfl flX8_12 dX8_fault_1) (tg_seq (si_aload_n (i := 0) dX8_fault_4 rfl) (si_getf (ci := 7) (f := 3) clX8 (Nat.le_of_ble_eq_true rfl) rfl flX8_32 dX8_fault_5)))
theorem vX8_fault_8 : tg_VS mX8_fault 8 mX1_draftUpon 1 := ⟨okX1_draftUpon, ⟨76, dX8_fault_8, mlX8_76⟩, insX1_draftUpon, selX1_draftUpon, parX1_draftUpon, rfl, rfl, Nat.le_of_ble_eq_true rfl, Nat.le_of_ble_eq_true rfl⟩
theorem dX8_read_0 : decode cX8_read 0 = .ok (.aload_n 0, 1) := by decide +kernel
theorem dX8_read_1 : decode cX8_read 1 = .ok (.getfield 12, 3) := by decide +kernel
theorem dX8_read_4 : decode cX8_read 4 = .ok (.aload_n 0, 1) := by decide +kernel
theorem dX8_read_5 : decode cX8_read 5 = .ok (.getfield 32, 3) := by decide +kernel
theorem dX8_read_8 : decode cX8_read 8 = .ok (.invokevirtual 76, 3) := by decide +kernel
theorem dX8_read_11 : decode cX8_read 11 = .ok (.iconst (-1), 1) := by decide +kernel
theorem dX8_read_12 : decode cX8_read 12 = .ok (.if_icmp .eq 6, 3) := by decide +kernel
theorem dX8_read_15 : decode cX8_read 15 = .ok (.bipush (-4), 2) := by decide +kernel
theorem dX8_read_17 : decode cX8_read 17 = .ok (.ireturn, 1) := by decide +kernel
theorem dX8_read_18 : decode cX8_read 18 = .ok (.aload_n 0, 1) := by decide +kernel
theorem dX8_read_19 : decode cX8_read 19 = .ok (.getfield 32, 3) := by decide +kernel
theorem dX8_read_22 : decode cX8_read 22 = .ok (.aload_n 0, 1) := by decide +kernel
theorem dX8_read_23 : decode cX8_read 23 = .ok (.getfield 12, 3) := by decide +kernel
theorem dX8_read_26 : decode cX8_read 26 = .ok (.getfield 80, 3) := by decide +kernel
theorem dX8_read_29 : decode cX8_read 29 = .ok (.invokevirtual 83, 3) := by decide +kernel
theorem dX8_read_32 : decode cX8_read 32 = .ok (.aload_n 0, 1) := by decide +kernel
theorem dX8_read_33 : decode cX8_read 33 = .ok (.iconst 1, 1) := by decide +kernel
theorem dX8_read_34 : decode cX8_read 34 = .ok (.putfield 58, 3) := by decide +kernel
theorem dX8_read_37 : decode cX8_read 37 = .ok (.aload_n 0, 1) := by decide +kernel
theorem dX8_read_38 : decode cX8_read 38 = .ok (.getfield 36, 3) := by decide +kernel
theorem dX8_read_41 : decode cX8_read 41 = .ok (.iconst 0, 1) := by decide +kernel
theorem dX8_read_42 : decode cX8_read 42 = .ok (.putfield 87, 3) := by decide +kernel
theorem dX8_read_45 : decode cX8_read 45 = .ok (.iconst 0, 1) := by decide +kernel
theorem dX8_read_46 : decode cX8_read 46 = .ok (.istore_n 1, 1) := by decide +kernel
theorem dX8_read_47 : decode cX8_read 47 = .ok (.iload_n 1, 1) := by decide +kernel
theorem dX8_read_48 : decode cX8_read 48 = .ok (.iconst 2, 1) := by decide +kernel
theorem dX8_read_49 : decode cX8_read 49 = .ok (.if_icmp .ge 16, 3) := by decide +kernel
theorem dX8_read_52 : decode cX8_read 52 = .ok (.aload_n 0, 1) := by decide +kernel
theorem dX8_read_53 : decode cX8_read 53 = .ok (.getfield 47, 3) := by decide +kernel
theorem dX8_read_56 : decode cX8_read 56 = .ok (.iload_n 1, 1) := by decide +kernel
theorem dX8_read_57 : decode cX8_read 57 = .ok (.iconst 0, 1) := by decide +kernel
theorem dX8_read_58 : decode cX8_read 58 = .ok (.bastore, 1) := by decide +kernel
theorem dX8_read_59 : decode cX8_read 59 = .ok (.iinc 1 1, 3) := by decide +kernel
theorem dX8_read_62 : decode cX8_read 62 = .ok (.goto (-15), 3) := by decide +kernel
theorem dX8_read_65 : decode cX8_read 65 = .ok (.aload_n 0, 1) := by decide +kernel
theorem dX8_read_66 : decode cX8_read 66 = .ok (.getfield 20, 3) := by decide +kernel
theorem dX8_read_69 : decode cX8_read 69 = .ok (.iconst 0, 1) := by decide +kernel
theorem dX8_read_70 : decode cX8_read 70 = .ok (.putfield 72, 3) := by decide +kernel
theorem dX8_read_73 : decode cX8_read 73 = .ok (.aload_n 0, 1) := by decide +kernel
theorem dX8_read_74 : decode cX8_read 74 = .ok (.getfield 12, 3) := by decide +kernel
theorem dX8_read_77 : decode cX8_read 77 = .ok (.getfield 90, 3) := by decide +kernel
theorem dX8_read_80 : decode cX8_read 80 = .ok (.ireturn, 1) := by decide +kernel
theorem bX8_read_0 : tg_Snd mX8_read 0 (fun k => ti_aload 0 (ti_getf 7 0 (ti_aload 0 (ti_getf 7 3 k)))) 8 := tg_seq (si_aload_n (i := 0) dX8_read_0 rfl) (tg_seq (si_getf (ci := 7) (f := 0) clX8 (Nat.le_of_ble_eq_true rfl) rfl flX8_12 dX8_read_1) (tg_seq (si_aload_n (i := 0) dX8_read_4 rfl) (si_getf (ci := 7) (f := 3) clX8 (Nat.le_of_ble_eq_true rfl) rfl flX8_32 dX8_read_5)))
theorem bX8_read_11 : tg_Snd mX8_read 11 (fun k => ti_push (.int (-1)) k) 12 := si_iconst (v := -1) dX8_read_11 (by decide)
theorem bX8_read_15 : tg_Snd mX8_read 15 (fun k => ti_push (.int (-4)) k) 17 := si_bipush (v := -4) dX8_read_15 (by decide)
theorem bX8_read_18 : tg_Snd mX8_read 18 (fun k => ti_aload 0 (ti_getf 7 3 (ti_aload 0 (ti_getf 7 0 (ti_getf 1 1 k))))) 29 := tg_seq (si_aload_n (i := 0) dX8_read_18 rfl) (tg_seq (si_getf (ci := 7) (f := 3) clX8 (Nat.le_of_ble_eq_true rfl) rfl flX8_32 dX8_read_19) (tg_seq (si_aload_n (i := 0) dX8_read_22 rfl) (tg_seq (si_getf (ci := 7) (f := 0) clX8 (Nat.le_of_ble_eq_true rfl) rfl flX8_12 dX8_read_23) (si_getf (ci := 1) (f := 1) clX1 (Nat.le_of_ble_eq_true rfl) rfl flX8_80 dX8_read_26))))
theorem bX8_read_32 : tg_Snd mX8_read 32 (fun k => ti_aload 0 (ti_push (.int 1) (ti_putfZ 7 8 (ti_aload 0 (ti_getf 7 4 (ti_push (.int 0) (ti_putfI 4 0 (ti_push (.int 0) (ti_istore 1 k))))))))) 47 := tg_seq (si_aload_n (i := 0) dX8_read_32 rfl) (tg_seq (si_iconst (v := 1) dX8_read_33 (by decide)) (tg_seq (si_putfZ (ci := 7) (f := 8) (ty := .boolean) clX8 tyX8_ok nmX8 (Nat.le_of_ble_eq_true rfl) rfl (by decide +kernel) (fun x ad h => by rcases h with rfl | rfl <;> exact ⟨rfl, rfl⟩) flX8_58 dX8_read_34) (tg_seq (si_aload_n (i := 0) dX8_read_37 rfl) (tg_seq (si_getf (ci := 7) (f := 4) clX8 (Nat.le_of_ble_eq_true rfl) rfl flX8_36 dX8_read_38) (tg_seq (si_iconst (v := 0) dX8_read_41 (by decide)) (tg_seq (si_putfI (ci := 4) (f := 0) (ty := .int) clX5 tyX5_ok nmX5 (Nat.le_of_ble_eq_true rfl) rfl (by decide +kernel) (fun _ _ => ⟨rfl, rfl⟩) flX8_87 dX8_read_42) (tg_seq (si_iconst (v := 0) dX8_read_45 (by decide)) (si_istore_n (i := 1) dX8_read_46 rfl (Nat.le_of_ble_eq_true rfl)))))))))
theorem bX8_read_47 : tg_Snd mX8_read 47 (fun k => ti_iload 1 (ti_push (.int 2) k)) 49 := tg_seq (si_iload_n (i := 1) dX8_read_47 rfl) (si_iconst (v := 2) dX8_read_48 (by decide))
theorem bX8_read_52 : tg_Snd mX8_read 52 (fun k => ti_aload 0 (ti_getf 7 6 (ti_iload 1 (ti_push (.int 0) (ti_zast (ti_iinc 1 1 k)))))) 62 := tg_seq (si_aload_n (i := 0) dX8_read_52 rfl) (tg_seq (si_getf (ci := 7) (f := 6) clX8 (Nat.le_of_ble_eq_true rfl) rfl flX8_47 dX8_read_53) (tg_seq (si_iload_n (i := 1) dX8_read_56 rfl) (tg_seq (si_iconst (v := 0) dX8_read_57 (by decide)) (tg_seq (si_zast dX8_read_58) (si_iinc (v := 1) dX8_read_59 (by decide) (Nat.le_of_ble_eq_true rfl))))))
theorem bX8_read_65 : tg_Snd mX8_read 65 (fun k => ti_aload 0 (ti_getf 7 1 (ti_push (.int 0) (ti_putfI 6 1 (ti_aload 0 (ti_getf 7 0 (ti_getf 1 2 k))))))) 80 := tg_seq (si_aload_n (i := 0) dX8_read_65 rfl) (tg_seq (si_getf (ci := 7) (f := 1) clX8 (Nat.le_of_ble_eq_true rfl) rfl flX8_20 dX8_read_66) (tg_seq (si_iconst (v := 0) dX8_read_69 (by decide)) (tg_seq (si_putfI (ci := 6) (f := 1) (ty := .int) clX7 tyX7_ok nmX7 (Nat.le_of_ble_eq_true rfl) rfl (by decide +kernel) (fun _ _ => ⟨rfl, rfl⟩) flX8_72 dX8_read_70) (tg_seq (si_aload_n (i := 0) dX8_read_73 rfl) (tg_seq (si_getf (ci := 7) (f := 0) clX8 (Nat.le_of_ble_eq_true rfl) rfl flX8_12 dX8_read_74) (si_getf (ci := 1) (f := 2) clX1 (Nat.le_of_ble_eq_true rfl) rfl flX8_90 dX8_read_77))))))
theorem vX8_read_8 : tg_VS mX8_read 8 mX1_draftUpon 1 := ⟨okX1_draftUpon, ⟨76, dX8_read_8, mlX8_76⟩, insX1_draftUpon, selX1_draftUpon, parX1_draftUpon, rfl, rfl, Nat.le_of_ble_eq_true rfl, Nat.le_of_ble_eq_true rfl⟩
theorem vX8_read_29 : tg_VS mX8_read 29 mX6_copyFrom 1 := ⟨okX6_copyFrom, ⟨83, dX8_read_29, mlX8_83⟩, insX6_copyFrom, selX6_copyFrom, parX6_copyFrom, rfl, rfl, Nat.le_of_ble_eq_true rfl, Nat.le_of_ble_eq_true rfl⟩
theorem dX8_add_0 : decode cX8_add 0 = .ok (.aload_n 0, 1) := by decide +kernel
theorem dX8_add_1 : decode cX8_add 1 = .ok (.getfield 32, 3) := by decide +kernel
theorem dX8_add_4 : decode cX8_add 4 = .ok (.iload_n 1, 1) := by decide +kernel
theorem dX8_add_5 : decode cX8_add 5 = .ok (.invokevirtual 93, 3) := by decide +kernel
theorem dX8_add_8 : decode cX8_add 8 = .ok (.ifCond .eq 15, 3) := by decide +kernel
theorem dX8_add_11 : decode cX8_add 11 = .ok (.iload_n 2, 1) := by decide +kernel
theorem dX8_add_12 : decode cX8_add 12 = .ok (.bipush (-99), 2) := by decide +kernel
theorem dX8_add_14 : decode cX8_add 14 = .ok (.if_icmp .lt 9, 3) := by decide +kernel
theorem dX8_add_17 : decode cX8_add 17 = .ok (.iload_n 2, 1) := by decide +kernel
theorem dX8_add_18 : decode cX8_add 18 = .ok (.bipush 99, 2) := by decide +kernel
theorem dX8_add_20 : decode cX8_add 20 = .ok (.if_icmp .le 6, 3) := by decide +kernel
theorem dX8_add_23 : decode cX8_add 23 = .ok (.bipush (-3), 2) := by decide +kernel
theorem dX8_add_25 : decode cX8_add 25 = .ok (.ireturn, 1) := by decide +kernel
theorem dX8_add_26 : decode cX8_add 26 = .ok (.aload_n 0, 1) := by decide +kernel
theorem dX8_add_27 : decode cX8_add 27 = .ok (.getfield 32, 3) := by decide +kernel
theorem dX8_add_30 : decode cX8_add 30 = .ok (.getfield 97, 3) := by decide +kernel
theorem dX8_add_33 : decode cX8_add 33 = .ok (.bipush 40, 2) := by decide +kernel
theorem dX8_add_35 : decode cX8_add 35 = .ok (.if_icmp .lt 6, 3) := by decide +kernel
theorem dX8_add_38 : decode cX8_add 38 = .ok (.bipush (-5), 2) := by decide +kernel
theorem dX8_add_40 : decode cX8_add 40 = .ok (.ireturn, 1) := by decide +kernel
theorem dX8_add_41 : decode cX8_add 41 = .ok (.aload_n 0, 1) := by decide +kernel
theorem dX8_add_42 : decode cX8_add 42 = .ok (.getfield 36, 3) := by decide +kernel
theorem dX8_add_45 : decode cX8_add 45 = .ok (.iconst 0, 1) := by decide +kernel
theorem dX8_add_46 : decode cX8_add 46 = .ok (.aload_n 0, 1) := by decide +kernel
theorem dX8_add_47 : decode cX8_add 47 = .ok (.getfield 32, 3) := by decide +kernel
theorem dX8_add_50 : decode cX8_add 50 = .ok (.getfield 97, 3) := by decide +kernel
theorem dX8_add_53 : decode cX8_add 53 = .ok (.iload_n 1, 1) := by decide +kernel
theorem dX8_add_54 : decode cX8_add 54 = .ok (.iload_n 2, 1) := by decide +kernel
theorem dX8_add_55 : decode cX8_add 55 = .ok (.invokevirtual 98, 3) := by decide +kernel
theorem dX8_add_58 : decode cX8_add 58 = .ok (.aload_n 0, 1) := by decide +kernel
theorem dX8_add_59 : decode cX8_add 59 = .ok (.getfield 32, 3) := by decide +kernel
theorem dX8_add_62 : decode cX8_add 62 = .ok (.aload_n 0, 1) := by decide +kernel
theorem dX8_add_63 : decode cX8_add 63 = .ok (.getfield 32, 3) := by decide +kernel
theorem dX8_add_66 : decode cX8_add 66 = .ok (.getfield 97, 3) := by decide +kernel
theorem dX8_add_69 : decode cX8_add 69 = .ok (.iload_n 1, 1) := by decide +kernel
theorem dX8_add_70 : decode cX8_add 70 = .ok (.iload_n 2, 1) := by decide +kernel
theorem dX8_add_71 : decode cX8_add 71 = .ok (.invokevirtual 102, 3) := by decide +kernel
theorem dX8_add_74 : decode cX8_add 74 = .ok (.aload_n 0, 1) := by decide +kernel
theorem dX8_add_75 : decode cX8_add 75 = .ok (.iconst 1, 1) := by decide +kernel
theorem dX8_add_76 : decode cX8_add 76 = .ok (.putfield 58, 3) := by decide +kernel
theorem dX8_add_79 : decode cX8_add 79 = .ok (.aload_n 0, 1) := by decide +kernel
theorem dX8_add_80 : decode cX8_add 80 = .ok (.getfield 32, 3) := by decide +kernel
theorem dX8_add_83 : decode cX8_add 83 = .ok (.getfield 97, 3) := by decide +kernel
theorem dX8_add_86 : decode cX8_add 86 = .ok (.ireturn, 1) := by decide +kernel
theorem bX8_add_0 : tg_Snd mX8_add 0 (fun k => ti_aload 0 (ti_getf 7 3 (ti_iload 1 k))) 5 := tg_seq (si_aload_n (i := 0) dX8_add_0 rfl) (tg_seq (si_getf (ci := 7) (f := 3) clX8 (Nat.le_of_ble_eq_true rfl) rfl flX8_32 dX8_add_1) (si_iload_n (i := 1) dX8_add_4 rfl))
theorem bX8_add_11 : tg_Snd mX8_add 11 (fun k => ti_iload 2 (ti_push (.int (-99)) k)) 14 := tg_seq (si_iload_n (i := 2) dX8_add_11 rfl) (si_bipush (v := -99) dX8_add_12 (by decide))
theorem bX8_add_17 : tg_Snd mX8_add 17 (fun k => ti_iload 2 (ti_push (.int 99) k)) 20 := tg_seq (si_iload_n (i := 2) dX8_add_17 rfl) (si_bipush (v := 99) dX8_add_18 (by decide))
theorem bX8_add_23 : tg_Snd mX8_add 23 (fun k => ti_push (.int (-3)) k) 25 := si_bipush (v := -3) dX8_add_23 (by decide)
theorem bX8_add_26 : tg_Snd mX8_add 26 (fun k => ti_aload 0 (ti_getf 7 3 (ti_getf 5 2 (ti_push (.int 40) k)))) 35 := tg_seq (si_aload_n (i := 0) dX8_add_26 rfl) (tg_seq (si_getf (ci := 7) (f := 3) clX8 (Nat.le_of_ble_eq_true rfl) rfl flX8_32 dX8_add_27) (tg_seq (si_getf (ci := 5) (f := 2) clX6 (Nat.le_of_ble_eq_true rfl) rfl flX8_97 dX8_add_30) (si_bipush (v := 40) dX8_add_33 (by decide))))
theorem bX8_add_38 : tg_Snd mX8_add 38 (fun k => ti_push (.int (-5)) k) 40 := si_bipush (v := -5) dX8_add_38 (by decide)
theorem bX8_add_41 : tg_Snd mX8_add 41 (fun k => ti_aload 0 (ti_getf 7 4 (ti_push (.int 0) (ti_aload 0 (ti_getf 7 3 (ti_getf 5 2 (ti_iload 1 (ti_iload 2 k)))))))) 55 := tg_seq (si_aload_n (i := 0) dX8_add_41 rfl) (tg_seq (si_getf (ci := 7) (f := 4) clX8 (Nat.le_of_ble_eq_true rfl) rfl flX8_36 dX8_add_42) (tg_seq (si_iconst (v := 0) dX8_add_45 (by decide)) (tg_seq (si_aload_n (i := 0) dX8_add_46 rfl) (tg_seq (si_getf (ci := 7) (f := 3) clX8 (Nat.le_of_ble_eq_true rfl) rfl flX8_32 dX8_add_47) (tg_seq (si_getf (ci := 5) (f := 2) clX6 (Nat.le_of_ble_eq_true rfl) rfl flX8_97 dX8_add_50) (tg_seq (si_iload_n (i := 1) dX8_add_53 rfl) (si_iload_n (i := 2) dX8_add_54 rfl)))))))
theorem bX8_add_58 : tg_Snd mX8_add 58 (fun k => ti_aload 0 (ti_getf 7 3 (ti_aload 0 (ti_getf 7 3 (ti_getf 5 2 (ti_iload 1 (ti_iload 2 k))))))) 71 := tg_seq (si_aload_n (i := 0) dX8_add_58 rfl) (tg_seq (si_getf (ci := 7) (f := 3) clX8 (Nat.le_of_ble_eq_true rfl) rfl flX8_32 dX8_add_59) (tg_seq (si_aload_n (i := 0) dX8_add_62 rfl) (tg_seq (si_getf (ci := 7) (f := 3) clX8 (Nat.le_of_ble_eq_true rfl) rfl flX8_32 dX8_add_63) (tg_seq (si_getf (ci := 5) (f := 2) clX6 (Nat.le_of_ble_eq_true rfl) rfl flX8_97 dX8_add_66) (tg_seq (si_iload_n (i := 1) dX8_add_69 rfl) (si_iload_n (i := 2) dX8_add_70 rfl))))))
theorem bX8_add_74 : tg_Snd mX8_add 74 (fun k => ti_aload 0 (ti_push (.int 1) (ti_putfZ 7 8 (ti_aload 0 (ti_getf 7 3 (ti_getf 5 2 k)))))) 86 := tg_seq (si_aload_n (i := 0) dX8_add_74 rfl) (tg_seq (si_iconst (v := 1) dX8_add_75 (by decide)) (tg_seq (si_putfZ (ci := 7) (f := 8) (ty := .boolean) clX8 tyX8_ok nmX8 (Nat.le_of_ble_eq_true rfl) rfl (by decide +kernel) (fun x ad h => by rcases h with rfl | rfl <;> exact ⟨rfl, rfl⟩) flX8_58 dX8_add_76) (tg_seq (si_aload_n (i := 0) dX8_add_79 rfl) (tg_seq (si_getf (ci := 7) (f := 3) clX8 (Nat.le_of_ble_eq_true rfl) rfl flX8_32 dX8_add_80) (si_getf (ci := 5) (f := 2) clX6 (Nat.le_of_ble_eq_true rfl) rfl flX8_97 dX8_add_83)))))
theorem vX8_add_5 : tg_VS mX8_add 5 mX6_isEntryCode 1 := ⟨okX6_isEntryCode, ⟨93, dX8_add_5, mlX8_93⟩, insX6_isEntryCode, selX6_isEntryCode, parX6_isEntryCode, rfl, rfl, Nat.le_of_ble_eq_true rfl, Nat.le_of_ble_eq_true rfl⟩
theorem vX8_add_55 : tg_VS mX8_add 55 mX5_record 4 := ⟨okX5_record, ⟨98, dX8_add_55, mlX8_98⟩, insX5_record, selX5_record, parX5_record, rfl, rfl, Nat.le_of_ble_eq_true rfl, Nat.le_of_ble_eq_true rfl⟩
theorem vX8_add_71 : tg_VS mX8_add 71 mX6_insert 3 := ⟨okX6_insert, ⟨102, dX8_add_71, mlX8_102⟩, insX6_insert, selX6_insert, parX6_insert, rfl, rfl, Nat.le_of_ble_eq_true rfl, Nat.le_of_ble_eq_true rfl⟩
theorem dX8_remove_0 : decode cX8_remove 0 = .ok (.aload_n 0, 1) := by decide +kernel
theorem dX8_remove_1 : decode cX8_remove 1 = .ok (.getfield 32, 3) := by decide +kernel
theorem dX8_remove_4 : decode cX8_remove 4 = .ok (.iload_n 1, 1) := by decide +kernel
theorem dX8_remove_5 : decode cX8_remove 5 = .ok (.invokevirtual 106, 3) := by decide +kernel
theorem dX8_remove_8 : decode cX8_remove 8 = .ok (.ifCond .ne 6, 3) := by decide +kernel
theorem dX8_remove_11 : decode cX8_remove 11 = .ok (.bipush (-2), 2) := by decide +kernel
theorem dX8_remove_13 : decode cX8_remove 13 = .ok (.ireturn, 1) := by decide +kernel
theorem dX8_remove_14 : decode cX8_remove 14 = .ok (.aload_n 0, 1) := by decide +kernel
theorem dX8_remove_15 : decode cX8_remove 15 = .ok (.getfield 36, 3) := by decide +kernel
theorem dX8_remove_18 : decode cX8_remove 18 = .ok (.iconst 1, 1) := by decide +kernel
theorem dX8_remove_19 : decode cX8_remove 19 = .ok (.iload_n 1, 1) := by decide +kernel
theorem dX8_remove_20 : decode cX8_remove 20 = .ok (.aload_n 0, 1) := by decide +kernel
theorem dX8_remove_21 : decode cX8_remove 21 = .ok (.getfield 32, 3) := by decide +kernel
theorem dX8_remove_24 : decode cX8_remove 24 = .ok (.getfield 109, 3) := by decide +kernel
theorem dX8_remove_27 : decode cX8_remove 27 = .ok (.iload_n 1, 1) := by decide +kernel
theorem dX8_remove_28 : decode cX8_remove 28 = .ok (.iaload, 1) := by decide +kernel
theorem dX8_remove_29 : decode cX8_remove 29 = .ok (.aload_n 0, 1) := by decide +kernel
theorem dX8_remove_30 : decode cX8_remove 30 = .ok (.getfield 32, 3) := by decide +kernel
theorem dX8_remove_33 : decode cX8_remove 33 = .ok (.getfield 113, 3) := by decide +kernel
theorem dX8_remove_36 : decode cX8_remove 36 = .ok (.iload_n 1, 1) := by decide +kernel
theorem dX8_remove_37 : decode cX8_remove 37 = .ok (.iaload, 1) := by decide +kernel
theorem dX8_remove_38 : decode cX8_remove 38 = .ok (.invokevirtual 98, 3) := by decide +kernel
theorem dX8_remove_41 : decode cX8_remove 41 = .ok (.aload_n 0, 1) := by decide +kernel
theorem dX8_remove_42 : decode cX8_remove 42 = .ok (.getfield 32, 3) := by decide +kernel
theorem dX8_remove_45 : decode cX8_remove 45 = .ok (.iload_n 1, 1) := by decide +kernel
theorem dX8_remove_46 : decode cX8_remove 46 = .ok (.invokevirtual 116, 3) := by decide +kernel
theorem dX8_remove_49 : decode cX8_remove 49 = .ok (.aload_n 0, 1) := by decide +kernel
theorem dX8_remove_50 : decode cX8_remove 50 = .ok (.iconst 1, 1) := by decide +kernel
theorem dX8_remove_51 : decode cX8_remove 51 = .ok (.putfield 58, 3) := by decide +kernel
theorem dX8_remove_54 : decode cX8_remove 54 = .ok (.aload_n 0, 1) := by decide +kernel
theorem dX8_remove_55 : decode cX8_remove 55 = .ok (.getfield 32, 3) := by decide +kernel
theorem dX8_remove_58 : decode cX8_remove 58 = .ok (.getfield 97, 3) := by decide +kernel
theorem dX8_remove_61 : decode cX8_remove 61 = .ok (.ireturn, 1) := by decide +kernel
theorem bX8_remove_0 : tg_Snd mX8_remove 0 (fun k => ti_aload 0 (ti_getf 7 3 (ti_iload 1 k))) 5 := tg_seq (si_aload_n (i := 0) dX8_remove_0 rfl) (tg_seq (si_getf (ci := 7) (f := 3) clX8 (Nat.le_of_ble_eq_true rfl) rfl flX8_32 dX8_remove_1) (si_iload_n (i := 1) dX8_remove_4 rfl))
theorem bX8_remove_11 : tg_Snd mX8_remove 11 (fun k => ti_push (.int (-2)) k) 13 := si_bipush (v := -2) dX8_remove_11 (by decide)
theorem bX8_remove_14 : tg_Snd mX8_remove 14 (fun k => ti_aload 0 (ti_getf 7 4 (ti_push (.int 1) (ti_iload 1 (ti_aload 0 (ti_getf 7 3 (ti_getf 5 3 (ti_iload 1 (ti_iald (ti_aload 0 (ti_getf 7 3 (ti_getf 5 4 (ti_iload 1 (ti_iald k)))))))))))))) 38 := tg_seq (si_aload_n (i := 0) dX8_remove_14 rfl) (tg_seq (si_getf (ci := 7) (f := 4) clX8 (Nat.le_of_ble_eq_true rfl) rfl flX8_36 dX8_remove_15) (tg_seq (si_iconst (v := 1) dX8_remove_18 (by decide)) (tg_seq (si_iload_n (i := 1) dX8_remove_19 rfl) (tg_seq (si_aload_n (i := 0) dX8_remove_20 rfl) (tg_seq (si_getf (ci := 7) (f := 3) clX8 (Nat.le_of_ble_eq_true rfl) rfl flX8_32 dX8_remove_21) (tg_seq (si_getf (ci := 5) (f := 3) clX6 (Nat.le_of_ble_eq_true rfl) rfl flX8_109 dX8_remove_24) (tg_seq (si_iload_n (i := 1) dX8_remove_27 rfl) (tg_seq (si_iald dX8_remove_28) (tg_seq (si_aload_n (i := 0) dX8_remove_29 rfl) (tg_seq (si_getf (ci := 7) (f := 3) clX8 (Nat.le_of_ble_eq_true rfl) rfl flX8_32 dX8_remove_30) (tg_seq (si_getf (ci := 5) (f := 4) clX6 (Nat.le_of_ble_eq_true rfl) rfl flX8_113 dX8_remove_33) (tg_seq (si_iload_n (i := 1) dX8_remove_36 rfl) (si_iald dX8_remove_37)))))))))))))
theorem bX8_remove_41 : tg_Snd mX8_remove 41 (fun k => ti_aload 0 (ti_getf 7 3 (ti_iload 1 k))) 46 := tg_seq (si_aload_n (i := 0) dX8_remove_41 rfl) (tg_seq (si_getf (ci := 7) (f := 3) clX8 (Nat.le_of_ble_eq_true rfl) rfl flX8_32 dX8_remove_42) (si_iload_n (i := 1) dX8_remove_45 rfl))
theorem bX8_remove_49 : tg_Snd mX8_remove 49 (fun k => ti_aload 0 (ti_push (.int 1) (ti_putfZ 7 8 (ti_aload 0 (ti_getf 7 3 (ti_getf 5 2 k)))))) 61 := tg_seq (si_aload_n (i := 0) dX8_remove_49 rfl) (tg_seq (si_iconst (v := 1) dX8_remove_50 (by decide)) (tg_seq (si_putfZ (ci := 7) (f := 8) (ty := .boolean) clX8 tyX8_ok nmX8 (Nat.le_of_ble_eq_true rfl) rfl (by decide +kernel) (fun x ad h => by rcases h with rfl | rfl <;> exact ⟨rfl, rfl⟩) flX8_58 dX8_remove_51) (tg_seq (si_aload_n (i := 0) dX8_remove_54 rfl) (tg_seq (si_getf (ci := 7) (f := 3) clX8 (Nat.le_of_ble_eq_true rfl) rfl flX8_32 dX8_remove_55) (si_getf (ci := 5) (f := 2) clX6 (Nat.le_of_ble_eq_true rfl) rfl flX8_97 dX8_remove_58)))))
theorem vX8_remove_5 : tg_VS mX8_remove 5 mX6_hasEntry 1 := ⟨okX6_hasEntry, ⟨106, dX8_remove_5, mlX8_106⟩, insX6_hasEntry, selX6_hasEntry, parX6_hasEntry, rfl, rfl, Nat.le_of_ble_eq_true rfl, Nat.le_of_ble_eq_true rfl⟩
theorem vX8_remove_38 : tg_VS mX8_remove 38 mX5_record 4 := ⟨okX5_record, ⟨98, dX8_remove_38, mlX8_98⟩, insX5_record, selX5_record, parX5_record, rfl, rfl, Nat.le_of_ble_eq_true rfl, Nat.le_of_ble_eq_true rfl⟩
theorem vX8_remove_46 : tg_VS mX8_remove 46 mX6_takeOut 1 := ⟨okX6_takeOut, ⟨116, dX8_remove_46, mlX8_116⟩, insX6_takeOut, selX6_takeOut, parX6_takeOut, rfl, rfl, Nat.le_of_ble_eq_true rfl, Nat.le_of_ble_eq_true rfl⟩
theorem dX8_support_0 : decode cX8_support 0 = .ok (.iload_n 1, 1) := by decide +kernel
theorem dX8_support_1 : decode cX8_support 1 = .ok (.iconst 1, 1) := by decide +kernel
theorem dX8_support_2 : decode cX8_support 2 = .ok (.if_icmp .lt 9, 3) := by decide +kernel
theorem dX8_support_5 : decode cX8_support 5 = .ok (.iload_n 1, 1) := by decide +kernel
theorem dX8_support_6 : decode cX8_support 6 = .ok (.bipush 9, 2) := by decide +kernel
theorem dX8_support_8 : decode cX8_support 8 = .ok (.if_icmp .le 6, 3) := by decide +kernel
theorem dX8_support_11 : decode cX8_support 11 = .ok (.bipush (-3), 2) := by decide +kernel
theorem dX8_support_13 : decode cX8_support 13 = .ok (.ireturn, 1) := by decide +kernel
theorem dX8_support_14 : decode cX8_support 14 = .ok (.aload_n 0, 1) := by decide +kernel
theorem dX8_support_15 : decode cX8_support 15 = .ok (.getfield 32, 3) := by decide +kernel
theorem dX8_support_18 : decode cX8_support 18 = .ok (.getfield 120, 3) := by decide +kernel
theorem dX8_support_21 : decode cX8_support 21 = .ok (.istore_n 2, 1) := by decide +kernel
theorem dX8_support_22 : decode cX8_support 22 = .ok (.iload_n 1, 1) := by decide +kernel
theorem dX8_support_23 : decode cX8_support 23 = .ok (.iload_n 2, 1) := by decide +kernel
theorem dX8_support_24 : decode cX8_support 24 = .ok (.if_icmp .ne 6, 3) := by decide +kernel
theorem dX8_support_27 : decode cX8_support 27 = .ok (.bipush (-4), 2) := by decide +kernel
theorem dX8_support_29 : decode cX8_support 29 = .ok (.ireturn, 1) := by decide +kernel
theorem dX8_support_30 : decode cX8_support 30 = .ok (.aload_n 0, 1) := by decide +kernel
theorem dX8_support_31 : decode cX8_support 31 = .ok (.getfield 36, 3) := by decide +kernel
theorem dX8_support_34 : decode cX8_support 34 = .ok (.iconst 2, 1) := by decide +kernel
theorem dX8_support_35 : decode cX8_support 35 = .ok (.iload_n 2, 1) := by decide +kernel
theorem dX8_support_36 : decode cX8_support 36 = .ok (.iconst 0, 1) := by decide +kernel
theorem dX8_support_37 : decode cX8_support 37 = .ok (.iconst 0, 1) := by decide +kernel
theorem dX8_support_38 : decode cX8_support 38 = .ok (.invokevirtual 98, 3) := by decide +kernel
theorem dX8_support_41 : decode cX8_support 41 = .ok (.aload_n 0, 1) := by decide +kernel
theorem dX8_support_42 : decode cX8_support 42 = .ok (.getfield 32, 3) := by decide +kernel
theorem dX8_support_45 : decode cX8_support 45 = .ok (.iload_n 1, 1) := by decide +kernel
theorem dX8_support_46 : decode cX8_support 46 = .ok (.putfield 120, 3) := by decide +kernel
theorem dX8_support_49 : decode cX8_support 49 = .ok (.iload_n 2, 1) := by decide +kernel
theorem dX8_support_50 : decode cX8_support 50 = .ok (.ireturn, 1) := by decide +kernel
theorem bX8_support_0 : tg_Snd mX8_support 0 (fun k => ti_iload 1 (ti_push (.int 1) k)) 2 := tg_seq (si_iload_n (i := 1) dX8_support_0 rfl) (si_iconst (v := 1) dX8_support_1 (by decide))
theorem bX8_support_5 : tg_Snd mX8_support 5 (fun k => ti_iload 1 (ti_push (.int 9) k)) 8 := tg_seq (si_iload_n (i := 1) dX8_support_5 rfl) (si_bipush (v := 9) dX8_support_6 (by decide))
theorem bX8_support_11 : tg_Snd mX8_support 11 (fun k => ti_push (.int (-3)) k) 13 := si_bipush (v := -3) dX8_support_11 (by decide)
theorem bX8_support_14 : tg_Snd mX8_support 14 (fun k => ti_aload 0 (ti_getf 7 3 (ti_getf 5 5 (ti_istore 2 (ti_iload 1 (ti_iload 2 k)))))) 24 := tg_seq (si_aload_n (i := 0) dX8_support_14 rfl) (tg_seq (si_getf (ci := 7) (f := 3) clX8 (Nat.le_of_ble_eq_true rfl) rfl flX8_32 dX8_support_15) (tg_seq (si_getf (ci := 5) (f := 5) clX6 (Nat.le_of_ble_eq_true rfl) rfl flX8_120 dX8_support_18) (tg_seq (si_istore_n (i := 2) dX8_support_21 rfl (Nat.le_of_ble_eq_true rfl)) (tg_seq (si_iload_n (i := 1) dX8_support_22 rfl) (si_iload_n (i := 2) dX8_support_23 rfl)))))
theorem bX8_support_27 : tg_Snd mX8_support 27 (fun k => ti_push (.int (-4)) k) 29 := si_bipush (v := -4) dX8_support_27 (by decide)
theorem bX8_support_30 : tg_Snd mX8_support 30 (fun k => ti_aload 0 (ti_getf 7 4 (ti_push (.int 2) (ti_iload 2 (ti_push (.int 0) (ti_push (.int 0) k)))))) 38 := tg_seq (si_aload_n (i := 0) dX8_support_30 rfl) (tg_seq (si_getf (ci := 7) (f := 4) clX8 (Nat.le_of_ble_eq_true rfl) rfl flX8_36 dX8_support_31) (tg_seq (si_iconst (v := 2) dX8_support_34 (by decide)) (tg_seq (si_iload_n (i := 2) dX8_support_35 rfl) (tg_seq (si_iconst (v := 0) dX8_support_36 (by decide)) (si_iconst (v := 0) dX8_support_37 (by decide))))))
theorem bX8_support_41 : tg_Snd mX8_support 41 (fun k => ti_aload 0 (ti_getf 7 3 (ti_iload 1 (ti_putfI 5 5 (ti_iload 2 k))))) 50 := tg_seq (si_aload_n (i := 0) dX8_support_41 rfl) (tg_seq (si_getf (ci := 7) (f := 3) clX8 (Nat.le_of_ble_eq_true rfl) rfl flX8_32 dX8_support_42) (tg_seq (si_iload_n (i := 1) dX8_support_45 rfl) (tg_seq (si_putfI (ci := 5) (f := 5) (ty := .int) clX6 tyX6_ok nmX6 (Nat.le_of_ble_eq_true rfl) rfl (by decide +kernel) (fun _ _ => ⟨rfl, rfl⟩) flX8_120 dX8_support_46) (si_iload_n (i := 2) dX8_support_49 rfl))))
theorem vX8_support_38 : tg_VS mX8_support 38 mX5_record 4 := ⟨okX5_record, ⟨98, dX8_support_38, mlX8_98⟩, insX5_record, selX5_record, parX5_record, rfl, rfl, Nat.le_of_ble_eq_true rfl, Nat.le_of_ble_eq_true rfl⟩
theorem dX8_undo_0 : decode cX8_undo 0 = .ok (.aload_n 0, 1) := by decide +kernel
theorem dX8_undo_1 : decode cX8_undo 1 = .ok (.getfield 36, 3) := by decide +kernel
theorem dX8_undo_4 : decode cX8_undo 4 = .ok (.getfield 87, 3) := by decide +kernel
theorem dX8_undo_7 : decode cX8_undo 7 = .ok (.ifCond .ne 6, 3) := by decide +kernel
theorem dX8_undo_10 : decode cX8_undo 10 = .ok (.bipush (-4), 2) := by decide +kernel
theorem dX8_undo_12 : decode cX8_undo 12 = .ok (.ireturn, 1) := by decide +kernel
theorem dX8_undo_13 : decode cX8_undo 13 = .ok (.aload_n 0, 1) := by decide +kernel
theorem dX8_undo_14 : decode cX8_undo 14 = .ok (.getfield 36, 3) := by decide +kernel
theorem dX8_undo_17 : decode cX8_undo 17 = .ok (.aload_n 0, 1) := by decide +kernel
theorem dX8_undo_18 : decode cX8_undo 18 = .ok (.getfield 32, 3) := by decide +kernel
theorem dX8_undo_21 : decode cX8_undo 21 = .ok (.invokevirtual 123, 3) := by decide +kernel
theorem dX8_undo_24 : decode cX8_undo 24 = .ok (.aload_n 0, 1) := by decide +kernel
theorem dX8_undo_25 : decode cX8_undo 25 = .ok (.iconst 1, 1) := by decide +kernel
theorem dX8_undo_26 : decode cX8_undo 26 = .ok (.putfield 58, 3) := by decide +kernel
theorem dX8_undo_29 : decode cX8_undo 29 = .ok (.aload_n 0, 1) := by decide +kernel
theorem dX8_undo_30 : decode cX8_undo 30 = .ok (.getfield 36, 3) := by decide +kernel
theorem dX8_undo_33 : decode cX8_undo 33 = .ok (.getfield 87, 3) := by decide +kernel
theorem dX8_undo_36 : decode cX8_undo 36 = .ok (.ireturn, 1) := by decide +kernel
theorem bX8_undo_0 : tg_Snd mX8_undo 0 (fun k => ti_aload 0 (ti_getf 7 4 (ti_getf 4 0 k))) 7 := tg_seq (si_aload_n (i := 0) dX8_undo_0 rfl) (tg_seq (si_getf (ci := 7) (f := 4) clX8 (Nat.le_of_ble_eq_true rfl) rfl flX8_36 dX8_undo_1) (si_getf (ci := 4) (f := 0) clX5 (Nat.le_of_ble_eq_true rfl) rfl flX8_87 dX8_undo_4))
theorem bX8_undo_10 : tg_Snd mX8_undo 10 (fun k => ti_push (.int (-4)) k) 12 := si_bipush (v := -4) dX8_undo_10 (by decide)
theorem bX8_undo_13 : tg_Snd mX8_undo 13 (fun k => ti_aload 0 (ti_getf 7 4 (ti_aload 0 (ti_getf 7 3 k)))) 21 := tg_seq (si_aload_n (i := 0) dX8_undo_13 rfl) (tg_seq (si_getf (ci := 7) (f := 4) clX8 (Nat.le_of_ble_eq_true rfl) rfl flX8_36 dX8_undo_14) (tg_seq (si_aload_n (i := 0) dX8_undo_17 rfl) (si_getf (ci := 7) (f := 3) clX8 (Nat.le_of_ble_eq_true rfl) rfl flX8_32 dX8_undo_18)))
theorem bX8_undo_24 : tg_Snd mX8_undo 24 (fun k => ti_aload 0 (ti_push (.int 1) (ti_putfZ 7 8 (ti_aload 0 (ti_getf 7 4 (ti_getf 4 0 k)))))) 36 := tg_seq (si_aload_n (i := 0) dX8_undo_24 rfl) (tg_seq (si_iconst (v := 1) dX8_undo_25 (by decide)) (tg_seq (si_putfZ (ci := 7) (f := 8) (ty := .boolean) clX8 tyX8_ok nmX8 (Nat.le_of_ble_eq_true rfl) rfl (by decide +kernel) (fun x ad h => by rcases h with rfl | rfl <;> exact ⟨rfl, rfl⟩) flX8_58 dX8_undo_26) (tg_seq (si_aload_n (i := 0) dX8_undo_29 rfl) (tg_seq (si_getf (ci := 7) (f := 4) clX8 (Nat.le_of_ble_eq_true rfl) rfl flX8_36 dX8_undo_30) (si_getf (ci := 4) (f := 0) clX5 (Nat.le_of_ble_eq_true rfl) rfl flX8_87 dX8_undo_33)))))
theorem vX8_undo_21 : tg_VS mX8_undo 21 mX5_undoLatest 1 := ⟨okX5_undoLatest, ⟨123, dX8_undo_21, mlX8_123⟩, insX5_undoLatest, selX5_undoLatest, parX5_undoLatest, rfl, rfl, Nat.le_of_ble_eq_true rfl, Nat.le_of_ble_eq_true rfl⟩
theorem dX8_keep_0 : decode cX8_keep 0 = .ok (.iload_n 1, 1) := by decide +kernel
theorem dX8_keep_1 : decode cX8_keep 1 = .ok (.ifCond .lt 8, 3) := by decide +kernel
theorem dX8_keep_4 : decode cX8_keep 4 = .ok (.iload_n 1, 1) := by decide +kernel
theorem dX8_keep_5 : decode cX8_keep 5 = .ok (.iconst 2, 1) := by decide +kernel
theorem dX8_keep_6 : decode cX8_keep 6 = .ok (.if_icmp .lt 6, 3) := by decide +kernel
theorem dX8_keep_9 : decode cX8_keep 9 = .ok (.bipush (-2), 2) := by decide +kernel
theorem dX8_keep_11 : decode cX8_keep 11 = .ok (.ireturn, 1) := by decide +kernel
theorem dX8_keep_12 : decode cX8_keep 12 = .ok (.aload_n 0, 1) := by decide +kernel
theorem dX8_keep_13 : decode cX8_keep 13 = .ok (.getfield 42, 3) := by decide +kernel
theorem dX8_keep_16 : decode cX8_keep 16 = .ok (.iload_n 1, 1) := by decide +kernel
theorem dX8_keep_17 : decode cX8_keep 17 = .ok (.aaload, 1) := by decide +kernel
theorem dX8_keep_18 : decode cX8_keep 18 = .ok (.aload_n 0, 1) := by decide +kernel
theorem dX8_keep_19 : decode cX8_keep 19 = .ok (.getfield 32, 3) := by decide +kernel
theorem dX8_keep_22 : decode cX8_keep 22 = .ok (.invokevirtual 83, 3) := by decide +kernel
theorem dX8_keep_25 : decode cX8_keep 25 = .ok (.aload_n 0, 1) := by decide +kernel
theorem dX8_keep_26 : decode cX8_keep 26 = .ok (.getfield 47, 3) := by decide +kernel
theorem dX8_keep_29 : decode cX8_keep 29 = .ok (.iload_n 1, 1) := by decide +kernel
theorem dX8_keep_30 : decode cX8_keep 30 = .ok (.iconst 1, 1) := by decide +kernel
theorem dX8_keep_31 : decode cX8_keep 31 = .ok (.bastore, 1) := by decide +kernel
theorem dX8_keep_32 : decode cX8_keep 32 = .ok (.aload_n 0, 1) := by decide +kernel
theorem dX8_keep_33 : decode cX8_keep 33 = .ok (.getfield 32, 3) := by decide +kernel
theorem dX8_keep_36 : decode cX8_keep 36 = .ok (.getfield 97, 3) := by decide +kernel
theorem dX8_keep_39 : decode cX8_keep 39 = .ok (.ireturn, 1) := by decide +kernel
theorem bX8_keep_0 : tg_Snd mX8_keep 0 (fun k => ti_iload 1 k) 1 := si_iload_n (i := 1) dX8_keep_0 rfl
theorem bX8_keep_4 : tg_Snd mX8_keep 4 (fun k => ti_iload 1 (ti_push (.int 2) k)) 6 := tg_seq (si_iload_n (i := 1) dX8_keep_4 rfl) (si_iconst (v := 2) dX8_keep_5 (by decide))
theorem bX8_keep_9 : tg_Snd mX8_keep 9 (fun k => ti_push (.int (-2)) k) 11 := si_bipush (v := -2) dX8_keep_9 (by decide)
theorem bX8_keep_12 : tg_Snd mX8_keep 12 (fun k => ti_aload 0 (ti_getf 7 5 (ti_iload 1 (ti_aald (ti_aload 0 (ti_getf 7 3 k)))))) 22 := tg_seq (si_aload_n (i := 0) dX8_keep_12 rfl) (tg_seq (si_getf (ci := 7) (f := 5) clX8 (Nat.le_of_ble_eq_true rfl) rfl flX8_42 dX8_keep_13) (tg_seq (si_iload_n (i := 1) dX8_keep_16 rfl) (tg_seq (si_aald dX8_keep_17) (tg_seq (si_aload_n (i := 0) dX8_keep_18 rfl) (si_getf (ci := 7) (f := 3) clX8 (Nat.le_of_ble_eq_true rfl) rfl flX8_32 dX8_keep_19)))))
theorem bX8_keep_25 : tg_Snd mX8_keep 25 (fun k => ti_aload 0 (ti_getf 7 6 (ti_iload 1 (ti_push (.int 1) (ti_zast (ti_aload 0 (ti_getf 7 3 (ti_getf 5 2 k)))))))) 39 := tg_seq (si_aload_n (i := 0) dX8_keep_25 rfl) (tg_seq (si_getf (ci := 7) (f := 6) clX8 (Nat.le_of_ble_eq_true rfl) rfl flX8_47 dX8_keep_26) (tg_seq (si_iload_n (i := 1) dX8_keep_29 rfl) (tg_seq (si_iconst (v := 1) dX8_keep_30 (by decide)) (tg_seq (si_zast dX8_keep_31) (tg_seq (si_aload_n (i := 0) dX8_keep_32 rfl) (tg_seq (si_getf (ci := 7) (f := 3) clX8 (Nat.le_of_ble_eq_true rfl) rfl flX8_32 dX8_keep_33) (si_getf (ci := 5) (f := 2) clX6 (Nat.le_of_ble_eq_true rfl) rfl flX8_97 dX8_keep_36)))))))
theorem vX8_keep_22 : tg_VS mX8_keep 22 mX6_copyFrom 1 := ⟨okX6_copyFrom, ⟨83, dX8_keep_22, mlX8_83⟩, insX6_copyFrom, selX6_copyFrom, parX6_copyFrom, rfl, rfl, Nat.le_of_ble_eq_true rfl, Nat.le_of_ble_eq_true rfl⟩
theorem dX8_back_0 : decode cX8_back 0 = .ok (.iload_n 1, 1) := by decide +kernel
theorem dX8_back_1 : decode cX8_back 1 = .ok (.ifCond .lt 8, 3) := by decide +kernel
theorem dX8_back_4 : decode cX8_back 4 = .ok (.iload_n 1, 1) := by decide +kernel
theorem dX8_back_5 : decode cX8_back 5 = .ok (.iconst 2, 1) := by decide +kernel
theorem dX8_back_6 : decode cX8_back 6 = .ok (.if_icmp .lt 6, 3) := by decide +kernel
theorem dX8_back_9 : decode cX8_back 9 = .ok (.bipush (-2), 2) := by decide +kernel
theorem dX8_back_11 : decode cX8_back 11 = .ok (.ireturn, 1) := by decide +kernel
theorem dX8_back_12 : decode cX8_back 12 = .ok (.aload_n 0, 1) := by decide +kernel
theorem dX8_back_13 : decode cX8_back 13 = .ok (.getfield 47, 3) := by decide +kernel
theorem dX8_back_16 : decode cX8_back 16 = .ok (.iload_n 1, 1) := by decide +kernel
theorem dX8_back_17 : decode cX8_back 17 = .ok (.baload, 1) := by decide +kernel
theorem dX8_back_18 : decode cX8_back 18 = .ok (.ifCond .ne 6, 3) := by decide +kernel
theorem dX8_back_21 : decode cX8_back 21 = .ok (.bipush (-4), 2) := by decide +kernel
theorem dX8_back_23 : decode cX8_back 23 = .ok (.ireturn, 1) := by decide +kernel
theorem dX8_back_24 : decode cX8_back 24 = .ok (.aload_n 0, 1) := by decide +kernel
theorem dX8_back_25 : decode cX8_back 25 = .ok (.getfield 32, 3) := by decide +kernel
theorem dX8_back_28 : decode cX8_back 28 = .ok (.aload_n 0, 1) := by decide +kernel
theorem dX8_back_29 : decode cX8_back 29 = .ok (.getfield 42, 3) := by decide +kernel
theorem dX8_back_32 : decode cX8_back 32 = .ok (.iload_n 1, 1) := by decide +kernel
theorem dX8_back_33 : decode cX8_back 33 = .ok (.aaload, 1) := by decide +kernel
theorem dX8_back_34 : decode cX8_back 34 = .ok (.invokevirtual 83, 3) := by decide +kernel
theorem dX8_back_37 : decode cX8_back 37 = .ok (.aload_n 0, 1) := by decide +kernel
theorem dX8_back_38 : decode cX8_back 38 = .ok (.iconst 1, 1) := by decide +kernel
theorem dX8_back_39 : decode cX8_back 39 = .ok (.putfield 58, 3) := by decide +kernel
theorem dX8_back_42 : decode cX8_back 42 = .ok (.aload_n 0, 1) := by decide +kernel
theorem dX8_back_43 : decode cX8_back 43 = .ok (.getfield 36, 3) := by decide +kernel
theorem dX8_back_46 : decode cX8_back 46 = .ok (.iconst 0, 1) := by decide +kernel
theorem dX8_back_47 : decode cX8_back 47 = .ok (.putfield 87, 3) := by decide +kernel
theorem dX8_back_50 : decode cX8_back 50 = .ok (.aload_n 0, 1) := by decide +kernel
theorem dX8_back_51 : decode cX8_back 51 = .ok (.getfield 32, 3) := by decide +kernel
theorem dX8_back_54 : decode cX8_back 54 = .ok (.getfield 97, 3) := by decide +kernel
theorem dX8_back_57 : decode cX8_back 57 = .ok (.ireturn, 1) := by decide +kernel
theorem bX8_back_0 : tg_Snd mX8_back 0 (fun k => ti_iload 1 k) 1 := si_iload_n (i := 1) dX8_back_0 rfl
theorem bX8_back_4 : tg_Snd mX8_back 4 (fun k => ti_iload 1 (ti_push (.int 2) k)) 6 := tg_seq (si_iload_n (i := 1) dX8_back_4 rfl) (si_iconst (v := 2) dX8_back_5 (by decide))
theorem bX8_back_9 : tg_Snd mX8_back 9 (fun k => ti_push (.int (-2)) k) 11 := si_bipush (v := -2) dX8_back_9 (by decide)
theorem bX8_back_12 : tg_Snd mX8_back 12 (fun k => ti_aload 0 (ti_getf 7 6 (ti_iload 1 (ti_zald k)))) 18 := tg_seq (si_aload_n (i := 0) dX8_back_12 rfl) (tg_seq (si_getf (ci := 7) (f := 6) clX8 (Nat.le_of_ble_eq_true rfl) rfl flX8_47 dX8_back_13) (tg_seq (si_iload_n (i := 1) dX8_back_16 rfl) (si_zald dX8_back_17)))
theorem bX8_back_21 : tg_Snd mX8_back 21 (fun k => ti_push (.int (-4)) k) 23 := si_bipush (v := -4) dX8_back_21 (by decide)
theorem bX8_back_24 : tg_Snd mX8_back 24 (fun k => ti_aload 0 (ti_getf 7 3 (ti_aload 0 (ti_getf 7 5 (ti_iload 1 (ti_aald k)))))) 34 := tg_seq (si_aload_n (i := 0) dX8_back_24 rfl) (tg_seq (si_getf (ci := 7) (f := 3) clX8 (Nat.le_of_ble_eq_true rfl) rfl flX8_32 dX8_back_25) (tg_seq (si_aload_n (i := 0) dX8_back_28 rfl) (tg_seq (si_getf (ci := 7) (f := 5) clX8 (Nat.le_of_ble_eq_true rfl) rfl flX8_42 dX8_back_29) (tg_seq (si_iload_n (i := 1) dX8_back_32 rfl) (si_aald dX8_back_33)))))
theorem bX8_back_37 : tg_Snd mX8_back 37 (fun k => ti_aload 0 (ti_push (.int 1) (ti_putfZ 7 8 (ti_aload 0 (ti_getf 7 4 (ti_push (.int 0) (ti_putfI 4 0 (ti_aload 0 (ti_getf 7 3 (ti_getf 5 2 k)))))))))) 57 := tg_seq (si_aload_n (i := 0) dX8_back_37 rfl) (tg_seq (si_iconst (v := 1) dX8_back_38 (by decide)) (tg_seq (si_putfZ (ci := 7) (f := 8) (ty := .boolean) clX8 tyX8_ok nmX8 (Nat.le_of_ble_eq_true rfl) rfl (by decide +kernel) (fun x ad h => by rcases h with rfl | rfl <;> exact ⟨rfl, rfl⟩) flX8_58 dX8_back_39) (tg_seq (si_aload_n (i := 0) dX8_back_42 rfl) (tg_seq (si_getf (ci := 7) (f := 4) clX8 (Nat.le_of_ble_eq_true rfl) rfl flX8_36 dX8_back_43) (tg_seq (si_iconst (v := 0) dX8_back_46 (by decide)) (tg_seq (si_putfI (ci := 4) (f := 0) (ty := .int) clX5 tyX5_ok nmX5 (Nat.le_of_ble_eq_true rfl) rfl (by decide +kernel) (fun _ _ => ⟨rfl, rfl⟩) flX8_87 dX8_back_47) (tg_seq (si_aload_n (i := 0) dX8_back_50 rfl) (tg_seq (si_getf (ci := 7) (f := 3) clX8 (Nat.le_of_ble_eq_true rfl) rfl flX8_32 dX8_back_51) (si_getf (ci := 5) (f := 2) clX6 (Nat.le_of_ble_eq_true rfl) rfl flX8_97 dX8_back_54)))))))))
theorem vX8_back_34 : tg_VS mX8_back 34 mX6_copyFrom 1 := ⟨okX6_copyFrom, ⟨83, dX8_back_34, mlX8_83⟩, insX6_copyFrom, selX6_copyFrom, parX6_copyFrom, rfl, rfl, Nat.le_of_ble_eq_true rfl, Nat.le_of_ble_eq_true rfl⟩
theorem dX8_entry_0 : decode cX8_entry 0 = .ok (.aload_n 0, 1) := by decide +kernel
theorem dX8_entry_1 : decode cX8_entry 1 = .ok (.getfield 32, 3) := by decide +kernel
theorem dX8_entry_4 : decode cX8_entry 4 = .ok (.iload_n 1, 1) := by decide +kernel
theorem dX8_entry_5 : decode cX8_entry 5 = .ok (.invokevirtual 106, 3) := by decide +kernel
theorem dX8_entry_8 : decode cX8_entry 8 = .ok (.ifCond .ne 6, 3) := by decide +kernel
theorem dX8_entry_11 : decode cX8_entry 11 = .ok (.bipush (-2), 2) := by decide +kernel
theorem dX8_entry_13 : decode cX8_entry 13 = .ok (.ireturn, 1) := by decide +kernel
theorem dX8_entry_14 : decode cX8_entry 14 = .ok (.iload_n 2, 1) := by decide +kernel
theorem dX8_entry_15 : decode cX8_entry 15 = .ok (.lookupswitch 49 #[(0, 25), (1, 35)], 25) := by decide +kernel
theorem dX8_entry_40 : decode cX8_entry 40 = .ok (.aload_n 0, 1) := by decide +kernel
theorem dX8_entry_41 : decode cX8_entry 41 = .ok (.getfield 32, 3) := by decide +kernel
theorem dX8_entry_44 : decode cX8_entry 44 = .ok (.getfield 109, 3) := by decide +kernel
theorem dX8_entry_47 : decode cX8_entry 47 = .ok (.iload_n 1, 1) := by decide +kernel
theorem dX8_entry_48 : decode cX8_entry 48 = .ok (.iaload, 1) := by decide +kernel
theorem dX8_entry_49 : decode cX8_entry 49 = .ok (.ireturn, 1) := by decide +kernel
theorem dX8_entry_50 : decode cX8_entry 50 = .ok (.aload_n 0, 1) := by decide +kernel
theorem dX8_entry_51 : decode cX8_entry 51 = .ok (.getfield 32, 3) := by decide +kernel
theorem dX8_entry_54 : decode cX8_entry 54 = .ok (.getfield 113, 3) := by decide +kernel
theorem dX8_entry_57 : decode cX8_entry 57 = .ok (.iload_n 1, 1) := by decide +kernel
theorem dX8_entry_58 : decode cX8_entry 58 = .ok (.iaload, 1) := by decide +kernel
theorem dX8_entry_59 : decode cX8_entry 59 = .ok (.sipush 1000, 3) := by decide +kernel
theorem dX8_entry_62 : decode cX8_entry 62 = .ok (.iadd, 1) := by decide +kernel
theorem dX8_entry_63 : decode cX8_entry 63 = .ok (.ireturn, 1) := by decide +kernel
theorem dX8_entry_64 : decode cX8_entry 64 = .ok (.bipush (-3), 2) := by decide +kernel
theorem dX8_entry_66 : decode cX8_entry 66 = .ok (.ireturn, 1) := by decide +kernel
theorem bX8_entry_0 : tg_Snd mX8_entry 0 (fun k => ti_aload 0 (ti_getf 7 3 (ti_iload 1 k))) 5 := tg_seq (si_aload_n (i := 0) dX8_entry_0 rfl) (tg_seq (si_getf (ci := 7) (f := 3) clX8 (Nat.le_of_ble_eq_true rfl) rfl flX8_32 dX8_entry_1) (si_iload_n (i := 1) dX8_entry_4 rfl))
theorem bX8_entry_11 : tg_Snd mX8_entry 11 (fun k => ti_push (.int (-2)) k) 13 := si_bipush (v := -2) dX8_entry_11 (by decide)
theorem bX8_entry_14 : tg_Snd mX8_entry 14 (fun k => ti_iload 2 k) 15 := si_iload_n (i := 2) dX8_entry_14 rfl
theorem bX8_entry_40 : tg_Snd mX8_entry 40 (fun k => ti_aload 0 (ti_getf 7 3 (ti_getf 5 3 (ti_iload 1 (ti_iald k))))) 49 := tg_seq (si_aload_n (i := 0) dX8_entry_40 rfl) (tg_seq (si_getf (ci := 7) (f := 3) clX8 (Nat.le_of_ble_eq_true rfl) rfl flX8_32 dX8_entry_41) (tg_seq (si_getf (ci := 5) (f := 3) clX6 (Nat.le_of_ble_eq_true rfl) rfl flX8_109 dX8_entry_44) (tg_seq (si_iload_n (i := 1) dX8_entry_47 rfl) (si_iald dX8_entry_48))))
theorem bX8_entry_50 : tg_Snd mX8_entry 50 (fun k => ti_aload 0 (ti_getf 7 3 (ti_getf 5 4 (ti_iload 1 (ti_iald (ti_push (.int 1000) (ti_iadd k))))))) 63 := tg_seq (si_aload_n (i := 0) dX8_entry_50 rfl) (tg_seq (si_getf (ci := 7) (f := 3) clX8 (Nat.le_of_ble_eq_true rfl) rfl flX8_32 dX8_entry_51) (tg_seq (si_getf (ci := 5) (f := 4) clX6 (Nat.le_of_ble_eq_true rfl) rfl flX8_113 dX8_entry_54) (tg_seq (si_iload_n (i := 1) dX8_entry_57 rfl) (tg_seq (si_iald dX8_entry_58) (tg_seq (si_sipush (v := 1000) dX8_entry_59 (by decide)) (si_iadd dX8_entry_62))))))
theorem bX8_entry_64 : tg_Snd mX8_entry 64 (fun k => ti_push (.int (-3)) k) 66 := si_bipush (v := -3) dX8_entry_64 (by decide)
theorem vX8_entry_5 : tg_VS mX8_entry 5 mX6_hasEntry 1 := ⟨okX6_hasEntry, ⟨106, dX8_entry_5, mlX8_106⟩, insX6_hasEntry, selX6_hasEntry, parX6_hasEntry, rfl, rfl, Nat.le_of_ble_eq_true rfl, Nat.le_of_ble_eq_true rfl⟩
theorem dX8_cell_0 : decode cX8_cell 0 = .ok (.aload_n 0, 1) := by decide +kernel
theorem dX8_cell_1 : decode cX8_cell 1 = .ok (.getfield 32, 3) := by decide +kernel
theorem dX8_cell_4 : decode cX8_cell 4 = .ok (.iload_n 1, 1) := by decide +kernel
theorem dX8_cell_5 : decode cX8_cell 5 = .ok (.invokevirtual 126, 3) := by decide +kernel
theorem dX8_cell_8 : decode cX8_cell 8 = .ok (.ifCond .eq 12, 3) := by decide +kernel
theorem dX8_cell_11 : decode cX8_cell 11 = .ok (.iload_n 2, 1) := by decide +kernel
theorem dX8_cell_12 : decode cX8_cell 12 = .ok (.ifCond .lt 8, 3) := by decide +kernel
theorem dX8_cell_15 : decode cX8_cell 15 = .ok (.iload_n 2, 1) := by decide +kernel
theorem dX8_cell_16 : decode cX8_cell 16 = .ok (.iconst 3, 1) := by decide +kernel
theorem dX8_cell_17 : decode cX8_cell 17 = .ok (.if_icmp .le 6, 3) := by decide +kernel
theorem dX8_cell_20 : decode cX8_cell 20 = .ok (.bipush (-3), 2) := by decide +kernel
theorem dX8_cell_22 : decode cX8_cell 22 = .ok (.ireturn, 1) := by decide +kernel
theorem dX8_cell_23 : decode cX8_cell 23 = .ok (.aload_n 0, 1) := by decide +kernel
theorem dX8_cell_24 : decode cX8_cell 24 = .ok (.invokevirtual 129, 3) := by decide +kernel
theorem dX8_cell_27 : decode cX8_cell 27 = .ok (.iload_n 1, 1) := by decide +kernel
theorem dX8_cell_28 : decode cX8_cell 28 = .ok (.invokevirtual 133, 3) := by decide +kernel
theorem dX8_cell_31 : decode cX8_cell 31 = .ok (.lstore_n 3, 1) := by decide +kernel
theorem dX8_cell_32 : decode cX8_cell 32 = .ok (.iload_n 2, 1) := by decide +kernel
theorem dX8_cell_33 : decode cX8_cell 33 = .ok (.ifCond .ne 8, 3) := by decide +kernel
theorem dX8_cell_36 : decode cX8_cell 36 = .ok (.lload_n 3, 1) := by decide +kernel
theorem dX8_cell_37 : decode cX8_cell 37 = .ok (.invokestatic 137, 3) := by decide +kernel
theorem dX8_cell_40 : decode cX8_cell 40 = .ok (.ireturn, 1) := by decide +kernel
theorem dX8_cell_41 : decode cX8_cell 41 = .ok (.iload_n 2, 1) := by decide +kernel
theorem dX8_cell_42 : decode cX8_cell 42 = .ok (.iconst 1, 1) := by decide +kernel
theorem dX8_cell_43 : decode cX8_cell 43 = .ok (.if_icmp .ne 16, 3) := by decide +kernel
theorem dX8_cell_46 : decode cX8_cell 46 = .ok (.aload_n 0, 1) := by decide +kernel
theorem dX8_cell_47 : decode cX8_cell 47 = .ok (.getfield 32, 3) := by decide +kernel
theorem dX8_cell_50 : decode cX8_cell 50 = .ok (.lload_n 3, 1) := by decide +kernel
theorem dX8_cell_51 : decode cX8_cell 51 = .ok (.invokevirtual 143, 3) := by decide +kernel
theorem dX8_cell_54 : decode cX8_cell 54 = .ok (.sipush 10000, 3) := by decide +kernel
theorem dX8_cell_57 : decode cX8_cell 57 = .ok (.iadd, 1) := by decide +kernel
theorem dX8_cell_58 : decode cX8_cell 58 = .ok (.ireturn, 1) := by decide +kernel
theorem dX8_cell_59 : decode cX8_cell 59 = .ok (.lload_n 3, 1) := by decide +kernel
theorem dX8_cell_60 : decode cX8_cell 60 = .ok (.lconst 0, 1) := by decide +kernel
theorem dX8_cell_61 : decode cX8_cell 61 = .ok (.lcmp, 1) := by decide +kernel
theorem dX8_cell_62 : decode cX8_cell 62 = .ok (.ifCond .ne 5, 3) := by decide +kernel
theorem dX8_cell_65 : decode cX8_cell 65 = .ok (.iconst (-1), 1) := by decide +kernel
theorem dX8_cell_66 : decode cX8_cell 66 = .ok (.ireturn, 1) := by decide +kernel
theorem dX8_cell_67 : decode cX8_cell 67 = .ok (.iload_n 2, 1) := by decide +kernel
theorem dX8_cell_68 : decode cX8_cell 68 = .ok (.iconst 2, 1) := by decide +kernel
theorem dX8_cell_69 : decode cX8_cell 69 = .ok (.if_icmp .ne 14, 3) := by decide +kernel
theorem dX8_cell_72 : decode cX8_cell 72 = .ok (.aload_n 0, 1) := by decide +kernel
theorem dX8_cell_73 : decode cX8_cell 73 = .ok (.getfield 32, 3) := by decide +kernel
theorem dX8_cell_76 : decode cX8_cell 76 = .ok (.lload_n 3, 1) := by decide +kernel
theorem dX8_cell_77 : decode cX8_cell 77 = .ok (.invokevirtual 146, 3) := by decide +kernel
theorem dX8_cell_80 : decode cX8_cell 80 = .ok (.goto 11, 3) := by decide +kernel
theorem dX8_cell_83 : decode cX8_cell 83 = .ok (.aload_n 0, 1) := by decide +kernel
theorem dX8_cell_84 : decode cX8_cell 84 = .ok (.getfield 32, 3) := by decide +kernel
theorem dX8_cell_87 : decode cX8_cell 87 = .ok (.lload_n 3, 1) := by decide +kernel
theorem dX8_cell_88 : decode cX8_cell 88 = .ok (.invokevirtual 149, 3) := by decide +kernel
theorem dX8_cell_91 : decode cX8_cell 91 = .ok (.sipush 10000, 3) := by decide +kernel
theorem dX8_cell_94 : decode cX8_cell 94 = .ok (.iadd, 1) := by decide +kernel
theorem dX8_cell_95 : decode cX8_cell 95 = .ok (.ireturn, 1) := by decide +kernel
theorem bX8_cell_0 : tg_Snd mX8_cell 0 (fun k => ti_aload 0 (ti_getf 7 3 (ti_iload 1 k))) 5 := tg_seq (si_aload_n (i := 0) dX8_cell_0 rfl) (tg_seq (si_getf (ci := 7) (f := 3) clX8 (Nat.le_of_ble_eq_true rfl) rfl flX8_32 dX8_cell_1) (si_iload_n (i := 1) dX8_cell_4 rfl))
theorem bX8_cell_11 : tg_Snd mX8_cell 11 (fun k => ti_iload 2 k) 12 := si_iload_n (i := 2) dX8_cell_11 rfl
theorem bX8_cell_15 : tg_Snd mX8_cell 15 (fun k => ti_iload 2 (ti_push (.int 3) k)) 17 := tg_seq (si_iload_n (i := 2) dX8_cell_15 rfl) (si_iconst (v := 3) dX8_cell_16 (by decide))
theorem bX8_cell_20 : tg_Snd mX8_cell 20 (fun k => ti_push (.int (-3)) k) 22 := si_bipush (v := -3) dX8_cell_20 (by decide)
theorem bX8_cell_23 : tg_Snd mX8_cell 23 (fun k => ti_aload 0 k) 24 := si_aload_n (i := 0) dX8_cell_23 rfl
theorem bX8_cell_27 : tg_Snd mX8_cell 27 (fun k => ti_iload 1 k) 28 := si_iload_n (i := 1) dX8_cell_27 rfl
theorem bX8_cell_31 : tg_Snd mX8_cell 31 (fun k => ti_lstore 3 (ti_iload 2 k)) 33 := tg_seq (si_lstore_n (i := 3) dX8_cell_31 rfl (Nat.le_of_ble_eq_true rfl)) (si_iload_n (i := 2) dX8_cell_32 rfl)
theorem bX8_cell_36 : tg_Snd mX8_cell 36 (fun k => ti_lload 3 k) 37 := si_lload_n (i := 3) dX8_cell_36 rfl
theorem bX8_cell_41 : tg_Snd mX8_cell 41 (fun k => ti_iload 2 (ti_push (.int 1) k)) 43 := tg_seq (si_iload_n (i := 2) dX8_cell_41 rfl) (si_iconst (v := 1) dX8_cell_42 (by decide))
theorem bX8_cell_46 : tg_Snd mX8_cell 46 (fun k => ti_aload 0 (ti_getf 7 3 (ti_lload 3 k))) 51 := tg_seq (si_aload_n (i := 0) dX8_cell_46 rfl) (tg_seq (si_getf (ci := 7) (f := 3) clX8 (Nat.le_of_ble_eq_true rfl) rfl flX8_32 dX8_cell_47) (si_lload_n (i := 3) dX8_cell_50 rfl))
theorem bX8_cell_54 : tg_Snd mX8_cell 54 (fun k => ti_push (.int 10000) (ti_iadd k)) 58 := tg_seq (si_sipush (v := 10000) dX8_cell_54 (by decide)) (si_iadd dX8_cell_57)
theorem bX8_cell_59 : tg_Snd mX8_cell 59 (fun k => ti_lload 3 (ti_push (.long 0) (ti_lcmp k))) 62 := tg_seq (si_lload_n (i := 3) dX8_cell_59 rfl) (tg_seq (si_lconst (v := 0) dX8_cell_60 (by decide)) (si_lcmp dX8_cell_61))
theorem bX8_cell_65 : tg_Snd mX8_cell 65 (fun k => ti_push (.int (-1)) k) 66 := si_iconst (v := -1) dX8_cell_65 (by decide)
theorem bX8_cell_67 : tg_Snd mX8_cell 67 (fun k => ti_iload 2 (ti_push (.int 2) k)) 69 := tg_seq (si_iload_n (i := 2) dX8_cell_67 rfl) (si_iconst (v := 2) dX8_cell_68 (by decide))
theorem bX8_cell_72 : tg_Snd mX8_cell 72 (fun k => ti_aload 0 (ti_getf 7 3 (ti_lload 3 k))) 77 := tg_seq (si_aload_n (i := 0) dX8_cell_72 rfl) (tg_seq (si_getf (ci := 7) (f := 3) clX8 (Nat.le_of_ble_eq_true rfl) rfl flX8_32 dX8_cell_73) (si_lload_n (i := 3) dX8_cell_76 rfl))
theorem bX8_cell_83 : tg_Snd mX8_cell 83 (fun k => ti_aload 0 (ti_getf 7 3 (ti_lload 3 k))) 88 := tg_seq (si_aload_n (i := 0) dX8_cell_83 rfl) (tg_seq (si_getf (ci := 7) (f := 3) clX8 (Nat.le_of_ble_eq_true rfl) rfl flX8_32 dX8_cell_84) (si_lload_n (i := 3) dX8_cell_87 rfl))
theorem bX8_cell_91 : tg_Snd mX8_cell 91 (fun k => ti_push (.int 10000) (ti_iadd k)) 95 := tg_seq (si_sipush (v := 10000) dX8_cell_91 (by decide)) (si_iadd dX8_cell_94)
theorem vX8_cell_5 : tg_VS mX8_cell 5 mX6_isCellCode 1 := ⟨okX6_isCellCode, ⟨126, dX8_cell_5, mlX8_126⟩, insX6_isCellCode, selX6_isCellCode, parX6_isCellCode, rfl, rfl, Nat.le_of_ble_eq_true rfl, Nat.le_of_ble_eq_true rfl⟩
theorem vX8_cell_24 : tg_VS mX8_cell 24 mX8_freshCells 0 := ⟨okX8_freshCells, ⟨129, dX8_cell_24, mlX8_129⟩, insX8_freshCells, selX8_freshCells, parX8_freshCells, rfl, rfl, Nat.le_of_ble_eq_true rfl, Nat.le_of_ble_eq_true rfl⟩
theorem vX8_cell_28 : tg_VS mX8_cell 28 mX0_coverOf 1 := ⟨okX0_coverOf, ⟨133, dX8_cell_28, mlX8_133⟩, insX0_coverOf, selX0_coverOf, parX0_coverOf, rfl, rfl, Nat.le_of_ble_eq_true rfl, Nat.le_of_ble_eq_true rfl⟩
theorem vX8_cell_37 : tg_SS0 mX8_cell 37 mJ13_bitCount_95d88 1 := ⟨okJ13_bitCount_95d88, ⟨137, dX8_cell_37, mlX8_137⟩, staJ13_bitCount_95d88, parJ13_bitCount_95d88, rfl, rfl, Nat.le_of_ble_eq_true rfl, Nat.le_of_ble_eq_true rfl⟩
theorem vX8_cell_51 : tg_VS mX8_cell 51 mX6_sumOf 1 := ⟨okX6_sumOf, ⟨143, dX8_cell_51, mlX8_143⟩, insX6_sumOf, selX6_sumOf, parX6_sumOf, rfl, rfl, Nat.le_of_ble_eq_true rfl, Nat.le_of_ble_eq_true rfl⟩
theorem vX8_cell_77 : tg_VS mX8_cell 77 mX6_leastOf 1 := ⟨okX6_leastOf, ⟨146, dX8_cell_77, mlX8_146⟩, insX6_leastOf, selX6_leastOf, parX6_leastOf, rfl, rfl, Nat.le_of_ble_eq_true rfl, Nat.le_of_ble_eq_true rfl⟩
theorem vX8_cell_88 : tg_VS mX8_cell 88 mX6_greatestOf 1 := ⟨okX6_greatestOf, ⟨149, dX8_cell_88, mlX8_149⟩, insX6_greatestOf, selX6_greatestOf, parX6_greatestOf, rfl, rfl, Nat.le_of_ble_eq_true rfl, Nat.le_of_ble_eq_true rfl⟩
theorem dX8_closure_0 : decode cX8_closure 0 = .ok (.aload_n 0, 1) := by decide +kernel
theorem dX8_closure_1 : decode cX8_closure 1 = .ok (.getfield 32, 3) := by decide +kernel
theorem dX8_closure_4 : decode cX8_closure 4 = .ok (.iload_n 1, 1) := by decide +kernel
theorem dX8_closure_5 : decode cX8_closure 5 = .ok (.invokevirtual 126, 3) := by decide +kernel
theorem dX8_closure_8 : decode cX8_closure 8 = .ok (.ifCond .ne 6, 3) := by decide +kernel
theorem dX8_closure_11 : decode cX8_closure 11 = .ok (.bipush (-3), 2) := by decide +kernel
theorem dX8_closure_13 : decode cX8_closure 13 = .ok (.ireturn, 1) := by decide +kernel
theorem dX8_closure_14 : decode cX8_closure 14 = .ok (.aload_n 0, 1) := by decide +kernel
theorem dX8_closure_15 : decode cX8_closure 15 = .ok (.invokevirtual 129, 3) := by decide +kernel
theorem dX8_closure_18 : decode cX8_closure 18 = .ok (.astore_n 2, 1) := by decide +kernel
theorem dX8_closure_19 : decode cX8_closure 19 = .ok (.aload_n 2, 1) := by decide +kernel
theorem dX8_closure_20 : decode cX8_closure 20 = .ok (.aload_n 2, 1) := by decide +kernel
theorem dX8_closure_21 : decode cX8_closure 21 = .ok (.iload_n 1, 1) := by decide +kernel
theorem dX8_closure_22 : decode cX8_closure 22 = .ok (.invokevirtual 133, 3) := by decide +kernel
theorem dX8_closure_25 : decode cX8_closure 25 = .ok (.invokevirtual 152, 3) := by decide +kernel
theorem dX8_closure_28 : decode cX8_closure 28 = .ok (.ireturn, 1) := by decide +kernel
theorem bX8_closure_0 : tg_Snd mX8_closure 0 (fun k => ti_aload 0 (ti_getf 7 3 (ti_iload 1 k))) 5 := tg_seq (si_aload_n (i := 0) dX8_closure_0 rfl) (tg_seq (si_getf (ci := 7) (f := 3) clX8 (Nat.le_of_ble_eq_true rfl) rfl flX8_32 dX8_closure_1) (si_iload_n (i := 1) dX8_closure_4 rfl))
theorem bX8_closure_11 : tg_Snd mX8_closure 11 (fun k => ti_push (.int (-3)) k) 13 := si_bipush (v := -3) dX8_closure_11 (by decide)
theorem bX8_closure_14 : tg_Snd mX8_closure 14 (fun k => ti_aload 0 k) 15 := si_aload_n (i := 0) dX8_closure_14 rfl
theorem bX8_closure_18 : tg_Snd mX8_closure 18 (fun k => ti_astore 2 (ti_aload 2 (ti_aload 2 (ti_iload 1 k)))) 22 := tg_seq (si_astore_n (i := 2) dX8_closure_18 rfl (Nat.le_of_ble_eq_true rfl)) (tg_seq (si_aload_n (i := 2) dX8_closure_19 rfl) (tg_seq (si_aload_n (i := 2) dX8_closure_20 rfl) (si_iload_n (i := 1) dX8_closure_21 rfl)))
theorem vX8_closure_5 : tg_VS mX8_closure 5 mX6_isCellCode 1 := ⟨okX6_isCellCode, ⟨126, dX8_closure_5, mlX8_126⟩, insX6_isCellCode, selX6_isCellCode, parX6_isCellCode, rfl, rfl, Nat.le_of_ble_eq_true rfl, Nat.le_of_ble_eq_true rfl⟩
theorem vX8_closure_15 : tg_VS mX8_closure 15 mX8_freshCells 0 := ⟨okX8_freshCells, ⟨129, dX8_closure_15, mlX8_129⟩, insX8_freshCells, selX8_freshCells, parX8_freshCells, rfl, rfl, Nat.le_of_ble_eq_true rfl, Nat.le_of_ble_eq_true rfl⟩
theorem vX8_closure_22 : tg_VS mX8_closure 22 mX0_coverOf 1 := ⟨okX0_coverOf, ⟨133, dX8_closure_22, mlX8_133⟩, insX0_coverOf, selX0_coverOf, parX0_coverOf, rfl, rfl, Nat.le_of_ble_eq_true rfl, Nat.le_of_ble_eq_true rfl⟩
theorem vX8_closure_25 : tg_VS mX8_closure 25 mX0_closureOf 1 := ⟨okX0_closureOf, ⟨152, dX8_closure_25, mlX8_152⟩, insX0_closureOf, selX0_closureOf, parX0_closureOf, rfl, rfl, Nat.le_of_ble_eq_true rfl, Nat.le_of_ble_eq_true rfl⟩
theorem dX8_kept_0 : decode cX8_kept 0 = .ok (.iload_n 1, 1) := by decide +kernel
theorem dX8_kept_1 : decode cX8_kept 1 = .ok (.ifCond .ge 8, 3) := by decide +kernel
theorem dX8_kept_4 : decode cX8_kept 4 = .ok (.bipush (-3), 2) := by decide +kernel
theorem dX8_kept_6 : decode cX8_kept 6 = .ok (.goto 11, 3) := by decide +kernel
theorem dX8_kept_9 : decode cX8_kept 9 = .ok (.aload_n 0, 1) := by decide +kernel
theorem dX8_kept_10 : decode cX8_kept 10 = .ok (.invokevirtual 129, 3) := by decide +kernel
theorem dX8_kept_13 : decode cX8_kept 13 = .ok (.iload_n 1, 1) := by decide +kernel
theorem dX8_kept_14 : decode cX8_kept 14 = .ok (.invokevirtual 155, 3) := by decide +kernel
theorem dX8_kept_17 : decode cX8_kept 17 = .ok (.ireturn, 1) := by decide +kernel
theorem bX8_kept_0 : tg_Snd mX8_kept 0 (fun k => ti_iload 1 k) 1 := si_iload_n (i := 1) dX8_kept_0 rfl
theorem bX8_kept_4 : tg_Snd mX8_kept 4 (fun k => ti_push (.int (-3)) k) 6 := si_bipush (v := -3) dX8_kept_4 (by decide)
theorem bX8_kept_9 : tg_Snd mX8_kept 9 (fun k => ti_aload 0 k) 10 := si_aload_n (i := 0) dX8_kept_9 rfl
theorem bX8_kept_13 : tg_Snd mX8_kept 13 (fun k => ti_iload 1 k) 14 := si_iload_n (i := 1) dX8_kept_13 rfl
theorem vX8_kept_10 : tg_VS mX8_kept 10 mX8_freshCells 0 := ⟨okX8_freshCells, ⟨129, dX8_kept_10, mlX8_129⟩, insX8_freshCells, selX8_freshCells, parX8_freshCells, rfl, rfl, Nat.le_of_ble_eq_true rfl, Nat.le_of_ble_eq_true rfl⟩
theorem vX8_kept_14 : tg_VS mX8_kept 14 mX0_codeInCube 1 := ⟨okX0_codeInCube, ⟨155, dX8_kept_14, mlX8_155⟩, insX0_codeInCube, selX0_codeInCube, parX0_codeInCube, rfl, rfl, Nat.le_of_ble_eq_true rfl, Nat.le_of_ble_eq_true rfl⟩
theorem dX8_ask_0 : decode cX8_ask 0 = .ok (.aload_n 0, 1) := by decide +kernel
theorem dX8_ask_1 : decode cX8_ask 1 = .ok (.getfield 32, 3) := by decide +kernel
theorem dX8_ask_4 : decode cX8_ask 4 = .ok (.iload_n 1, 1) := by decide +kernel
theorem dX8_ask_5 : decode cX8_ask 5 = .ok (.invokevirtual 126, 3) := by decide +kernel
theorem dX8_ask_8 : decode cX8_ask 8 = .ok (.ifCond .eq 12, 3) := by decide +kernel
theorem dX8_ask_11 : decode cX8_ask 11 = .ok (.iload_n 2, 1) := by decide +kernel
theorem dX8_ask_12 : decode cX8_ask 12 = .ok (.ifCond .lt 8, 3) := by decide +kernel
theorem dX8_ask_15 : decode cX8_ask 15 = .ok (.iload_n 2, 1) := by decide +kernel
theorem dX8_ask_16 : decode cX8_ask 16 = .ok (.iconst 1, 1) := by decide +kernel
theorem dX8_ask_17 : decode cX8_ask 17 = .ok (.if_icmp .le 6, 3) := by decide +kernel
theorem dX8_ask_20 : decode cX8_ask 20 = .ok (.bipush (-3), 2) := by decide +kernel
theorem dX8_ask_22 : decode cX8_ask 22 = .ok (.ireturn, 1) := by decide +kernel
theorem dX8_ask_23 : decode cX8_ask 23 = .ok (.aload_n 0, 1) := by decide +kernel
theorem dX8_ask_24 : decode cX8_ask 24 = .ok (.invokevirtual 129, 3) := by decide +kernel
theorem dX8_ask_27 : decode cX8_ask 27 = .ok (.iload_n 1, 1) := by decide +kernel
theorem dX8_ask_28 : decode cX8_ask 28 = .ok (.invokevirtual 133, 3) := by decide +kernel
theorem dX8_ask_31 : decode cX8_ask 31 = .ok (.lstore_n 3, 1) := by decide +kernel
theorem dX8_ask_32 : decode cX8_ask 32 = .ok (.lload_n 3, 1) := by decide +kernel
theorem dX8_ask_33 : decode cX8_ask 33 = .ok (.invokestatic 137, 3) := by decide +kernel
theorem dX8_ask_36 : decode cX8_ask 36 = .ok (.istore 5, 2) := by decide +kernel
theorem dX8_ask_38 : decode cX8_ask 38 = .ok (.iload 5, 2) := by decide +kernel
theorem dX8_ask_40 : decode cX8_ask 40 = .ok (.aload_n 0, 1) := by decide +kernel
theorem dX8_ask_41 : decode cX8_ask 41 = .ok (.getfield 32, 3) := by decide +kernel
theorem dX8_ask_44 : decode cX8_ask 44 = .ok (.getfield 120, 3) := by decide +kernel
theorem dX8_ask_47 : decode cX8_ask 47 = .ok (.if_icmp .ge 5, 3) := by decide +kernel
theorem dX8_ask_50 : decode cX8_ask 50 = .ok (.iconst (-1), 1) := by decide +kernel
theorem dX8_ask_51 : decode cX8_ask 51 = .ok (.ireturn, 1) := by decide +kernel
theorem dX8_ask_52 : decode cX8_ask 52 = .ok (.iload_n 2, 1) := by decide +kernel
theorem dX8_ask_53 : decode cX8_ask 53 = .ok (.ifCond .ne 8, 3) := by decide +kernel
theorem dX8_ask_56 : decode cX8_ask 56 = .ok (.iload 5, 2) := by decide +kernel
theorem dX8_ask_58 : decode cX8_ask 58 = .ok (.goto 15, 3) := by decide +kernel
theorem dX8_ask_61 : decode cX8_ask 61 = .ok (.aload_n 0, 1) := by decide +kernel
theorem dX8_ask_62 : decode cX8_ask 62 = .ok (.getfield 32, 3) := by decide +kernel
theorem dX8_ask_65 : decode cX8_ask 65 = .ok (.lload_n 3, 1) := by decide +kernel
theorem dX8_ask_66 : decode cX8_ask 66 = .ok (.invokevirtual 143, 3) := by decide +kernel
theorem dX8_ask_69 : decode cX8_ask 69 = .ok (.sipush 10000, 3) := by decide +kernel
theorem dX8_ask_72 : decode cX8_ask 72 = .ok (.iadd, 1) := by decide +kernel
theorem dX8_ask_73 : decode cX8_ask 73 = .ok (.ireturn, 1) := by decide +kernel
theorem bX8_ask_0 : tg_Snd mX8_ask 0 (fun k => ti_aload 0 (ti_getf 7 3 (ti_iload 1 k))) 5 := tg_seq (si_aload_n (i := 0) dX8_ask_0 rfl) (tg_seq (si_getf (ci := 7) (f := 3) clX8 (Nat.le_of_ble_eq_true rfl) rfl flX8_32 dX8_ask_1) (si_iload_n (i := 1) dX8_ask_4 rfl))
theorem bX8_ask_11 : tg_Snd mX8_ask 11 (fun k => ti_iload 2 k) 12 := si_iload_n (i := 2) dX8_ask_11 rfl
theorem bX8_ask_15 : tg_Snd mX8_ask 15 (fun k => ti_iload 2 (ti_push (.int 1) k)) 17 := tg_seq (si_iload_n (i := 2) dX8_ask_15 rfl) (si_iconst (v := 1) dX8_ask_16 (by decide))
theorem bX8_ask_20 : tg_Snd mX8_ask 20 (fun k => ti_push (.int (-3)) k) 22 := si_bipush (v := -3) dX8_ask_20 (by decide)
theorem bX8_ask_23 : tg_Snd mX8_ask 23 (fun k => ti_aload 0 k) 24 := si_aload_n (i := 0) dX8_ask_23 rfl
theorem bX8_ask_27 : tg_Snd mX8_ask 27 (fun k => ti_iload 1 k) 28 := si_iload_n (i := 1) dX8_ask_27 rfl
theorem bX8_ask_31 : tg_Snd mX8_ask 31 (fun k => ti_lstore 3 (ti_lload 3 k)) 33 := tg_seq (si_lstore_n (i := 3) dX8_ask_31 rfl (Nat.le_of_ble_eq_true rfl)) (si_lload_n (i := 3) dX8_ask_32 rfl)
theorem bX8_ask_36 : tg_Snd mX8_ask 36 (fun k => ti_istore 5 (ti_iload 5 (ti_aload 0 (ti_getf 7 3 (ti_getf 5 5 k))))) 47 := tg_seq (si_istore (i := 5) dX8_ask_36 (Nat.le_of_ble_eq_true rfl)) (tg_seq (si_iload (i := 5) dX8_ask_38) (tg_seq (si_aload_n (i := 0) dX8_ask_40 rfl) (tg_seq (si_getf (ci := 7) (f := 3) clX8 (Nat.le_of_ble_eq_true rfl) rfl flX8_32 dX8_ask_41) (si_getf (ci := 5) (f := 5) clX6 (Nat.le_of_ble_eq_true rfl) rfl flX8_120 dX8_ask_44))))
theorem bX8_ask_50 : tg_Snd mX8_ask 50 (fun k => ti_push (.int (-1)) k) 51 := si_iconst (v := -1) dX8_ask_50 (by decide)
theorem bX8_ask_52 : tg_Snd mX8_ask 52 (fun k => ti_iload 2 k) 53 := si_iload_n (i := 2) dX8_ask_52 rfl
theorem bX8_ask_56 : tg_Snd mX8_ask 56 (fun k => ti_iload 5 k) 58 := si_iload (i := 5) dX8_ask_56
theorem bX8_ask_61 : tg_Snd mX8_ask 61 (fun k => ti_aload 0 (ti_getf 7 3 (ti_lload 3 k))) 66 := tg_seq (si_aload_n (i := 0) dX8_ask_61 rfl) (tg_seq (si_getf (ci := 7) (f := 3) clX8 (Nat.le_of_ble_eq_true rfl) rfl flX8_32 dX8_ask_62) (si_lload_n (i := 3) dX8_ask_65 rfl))
theorem bX8_ask_69 : tg_Snd mX8_ask 69 (fun k => ti_push (.int 10000) (ti_iadd k)) 73 := tg_seq (si_sipush (v := 10000) dX8_ask_69 (by decide)) (si_iadd dX8_ask_72)
theorem vX8_ask_5 : tg_VS mX8_ask 5 mX6_isCellCode 1 := ⟨okX6_isCellCode, ⟨126, dX8_ask_5, mlX8_126⟩, insX6_isCellCode, selX6_isCellCode, parX6_isCellCode, rfl, rfl, Nat.le_of_ble_eq_true rfl, Nat.le_of_ble_eq_true rfl⟩
theorem vX8_ask_24 : tg_VS mX8_ask 24 mX8_freshCells 0 := ⟨okX8_freshCells, ⟨129, dX8_ask_24, mlX8_129⟩, insX8_freshCells, selX8_freshCells, parX8_freshCells, rfl, rfl, Nat.le_of_ble_eq_true rfl, Nat.le_of_ble_eq_true rfl⟩
theorem vX8_ask_28 : tg_VS mX8_ask 28 mX0_coverOf 1 := ⟨okX0_coverOf, ⟨133, dX8_ask_28, mlX8_133⟩, insX0_coverOf, selX0_coverOf, parX0_coverOf, rfl, rfl, Nat.le_of_ble_eq_true rfl, Nat.le_of_ble_eq_true rfl⟩
theorem vX8_ask_33 : tg_SS0 mX8_ask 33 mJ13_bitCount_95d88 1 := ⟨okJ13_bitCount_95d88, ⟨137, dX8_ask_33, mlX8_137⟩, staJ13_bitCount_95d88, parJ13_bitCount_95d88, rfl, rfl, Nat.le_of_ble_eq_true rfl, Nat.le_of_ble_eq_true rfl⟩
theorem vX8_ask_66 : tg_VS mX8_ask 66 mX6_sumOf 1 := ⟨okX6_sumOf, ⟨143, dX8_ask_66, mlX8_143⟩, insX6_sumOf, selX6_sumOf, parX6_sumOf, rfl, rfl, Nat.le_of_ble_eq_true rfl, Nat.le_of_ble_eq_true rfl⟩
theorem dX8_part_0 : decode cX8_part 0 = .ok (.iload_n 1, 1) := by decide +kernel
theorem dX8_part_1 : decode cX8_part 1 = .ok (.aload_n 0, 1) := by decide +kernel
theorem dX8_part_2 : decode cX8_part 2 = .ok (.getfield 32, 3) := by decide +kernel
theorem dX8_part_5 : decode cX8_part 5 = .ok (.getfield 159, 3) := by decide +kernel
theorem dX8_part_8 : decode cX8_part 8 = .ok (.invokestatic 162, 3) := by decide +kernel
theorem dX8_part_11 : decode cX8_part 11 = .ok (.ifCond .eq 12, 3) := by decide +kernel
theorem dX8_part_14 : decode cX8_part 14 = .ok (.iload_n 2, 1) := by decide +kernel
theorem dX8_part_15 : decode cX8_part 15 = .ok (.ifCond .lt 8, 3) := by decide +kernel
theorem dX8_part_18 : decode cX8_part 18 = .ok (.iload_n 2, 1) := by decide +kernel
theorem dX8_part_19 : decode cX8_part 19 = .ok (.iconst 1, 1) := by decide +kernel
theorem dX8_part_20 : decode cX8_part 20 = .ok (.if_icmp .le 6, 3) := by decide +kernel
theorem dX8_part_23 : decode cX8_part 23 = .ok (.bipush (-3), 2) := by decide +kernel
theorem dX8_part_25 : decode cX8_part 25 = .ok (.ireturn, 1) := by decide +kernel
theorem dX8_part_26 : decode cX8_part 26 = .ok (.aload_n 0, 1) := by decide +kernel
theorem dX8_part_27 : decode cX8_part 27 = .ok (.invokevirtual 129, 3) := by decide +kernel
theorem dX8_part_30 : decode cX8_part 30 = .ok (.invokevirtual 168, 3) := by decide +kernel
theorem dX8_part_33 : decode cX8_part 33 = .ok (.astore_n 3, 1) := by decide +kernel
theorem dX8_part_34 : decode cX8_part 34 = .ok (.iload_n 2, 1) := by decide +kernel
theorem dX8_part_35 : decode cX8_part 35 = .ok (.ifCond .ne 11, 3) := by decide +kernel
theorem dX8_part_38 : decode cX8_part 38 = .ok (.aload_n 3, 1) := by decide +kernel
theorem dX8_part_39 : decode cX8_part 39 = .ok (.iload_n 1, 1) := by decide +kernel
theorem dX8_part_40 : decode cX8_part 40 = .ok (.invokevirtual 172, 3) := by decide +kernel
theorem dX8_part_43 : decode cX8_part 43 = .ok (.goto 7, 3) := by decide +kernel
theorem dX8_part_46 : decode cX8_part 46 = .ok (.aload_n 3, 1) := by decide +kernel
theorem dX8_part_47 : decode cX8_part 47 = .ok (.getfield 175, 3) := by decide +kernel
theorem dX8_part_50 : decode cX8_part 50 = .ok (.ireturn, 1) := by decide +kernel
theorem bX8_part_0 : tg_Snd mX8_part 0 (fun k => ti_iload 1 (ti_aload 0 (ti_getf 7 3 (ti_getf 5 0 k)))) 8 := tg_seq (si_iload_n (i := 1) dX8_part_0 rfl) (tg_seq (si_aload_n (i := 0) dX8_part_1 rfl) (tg_seq (si_getf (ci := 7) (f := 3) clX8 (Nat.le_of_ble_eq_true rfl) rfl flX8_32 dX8_part_2) (si_getf (ci := 5) (f := 0) clX6 (Nat.le_of_ble_eq_true rfl) rfl flX8_159 dX8_part_5)))
theorem bX8_part_14 : tg_Snd mX8_part 14 (fun k => ti_iload 2 k) 15 := si_iload_n (i := 2) dX8_part_14 rfl
theorem bX8_part_18 : tg_Snd mX8_part 18 (fun k => ti_iload 2 (ti_push (.int 1) k)) 20 := tg_seq (si_iload_n (i := 2) dX8_part_18 rfl) (si_iconst (v := 1) dX8_part_19 (by decide))
theorem bX8_part_23 : tg_Snd mX8_part 23 (fun k => ti_push (.int (-3)) k) 25 := si_bipush (v := -3) dX8_part_23 (by decide)
theorem bX8_part_26 : tg_Snd mX8_part 26 (fun k => ti_aload 0 k) 27 := si_aload_n (i := 0) dX8_part_26 rfl
theorem bX8_part_33 : tg_Snd mX8_part 33 (fun k => ti_astore 3 (ti_iload 2 k)) 35 := tg_seq (si_astore_n (i := 3) dX8_part_33 rfl (Nat.le_of_ble_eq_true rfl)) (si_iload_n (i := 2) dX8_part_34 rfl)
theorem bX8_part_38 : tg_Snd mX8_part 38 (fun k => ti_aload 3 (ti_iload 1 k)) 40 := tg_seq (si_aload_n (i := 3) dX8_part_38 rfl) (si_iload_n (i := 1) dX8_part_39 rfl)
theorem bX8_part_46 : tg_Snd mX8_part 46 (fun k => ti_aload 3 (ti_getf 3 1 k)) 50 := tg_seq (si_aload_n (i := 3) dX8_part_46 rfl) (si_getf (ci := 3) (f := 1) clX4 (Nat.le_of_ble_eq_true rfl) rfl flX8_175 dX8_part_47)
theorem vX8_part_8 : tg_SS0 mX8_part 8 mX4_isOrder 2 := ⟨okX4_isOrder, ⟨162, dX8_part_8, mlX8_162⟩, staX4_isOrder, parX4_isOrder, rfl, rfl, Nat.le_of_ble_eq_true rfl, Nat.le_of_ble_eq_true rfl⟩
theorem vX8_part_27 : tg_VS mX8_part 27 mX8_freshCells 0 := ⟨okX8_freshCells, ⟨129, dX8_part_27, mlX8_129⟩, insX8_freshCells, selX8_freshCells, parX8_freshCells, rfl, rfl, Nat.le_of_ble_eq_true rfl, Nat.le_of_ble_eq_true rfl⟩
theorem vX8_part_30 : tg_VS mX8_part 30 mX0_parted 0 := ⟨okX0_parted, ⟨168, dX8_part_30, mlX8_168⟩, insX0_parted, selX0_parted, parX0_parted, rfl, rfl, Nat.le_of_ble_eq_true rfl, Nat.le_of_ble_eq_true rfl⟩
theorem vX8_part_40 : tg_VS mX8_part 40 mX4_workBy 1 := ⟨okX4_workBy, ⟨172, dX8_part_40, mlX8_172⟩, insX4_workBy, selX4_workBy, parX4_workBy, rfl, rfl, Nat.le_of_ble_eq_true rfl, Nat.le_of_ble_eq_true rfl⟩
theorem dX8_best_0 : decode cX8_best 0 = .ok (.iload_n 1, 1) := by decide +kernel
theorem dX8_best_1 : decode cX8_best 1 = .ok (.ifCond .lt 8, 3) := by decide +kernel
theorem dX8_best_4 : decode cX8_best 4 = .ok (.iload_n 1, 1) := by decide +kernel
theorem dX8_best_5 : decode cX8_best 5 = .ok (.iconst 1, 1) := by decide +kernel
theorem dX8_best_6 : decode cX8_best 6 = .ok (.if_icmp .le 6, 3) := by decide +kernel
theorem dX8_best_9 : decode cX8_best 9 = .ok (.bipush (-3), 2) := by decide +kernel
theorem dX8_best_11 : decode cX8_best 11 = .ok (.ireturn, 1) := by decide +kernel
theorem dX8_best_12 : decode cX8_best 12 = .ok (.aload_n 0, 1) := by decide +kernel
theorem dX8_best_13 : decode cX8_best 13 = .ok (.invokevirtual 129, 3) := by decide +kernel
theorem dX8_best_16 : decode cX8_best 16 = .ok (.invokevirtual 168, 3) := by decide +kernel
theorem dX8_best_19 : decode cX8_best 19 = .ok (.astore_n 2, 1) := by decide +kernel
theorem dX8_best_20 : decode cX8_best 20 = .ok (.aload_n 2, 1) := by decide +kernel
theorem dX8_best_21 : decode cX8_best 21 = .ok (.invokevirtual 178, 3) := by decide +kernel
theorem dX8_best_24 : decode cX8_best 24 = .ok (.istore_n 3, 1) := by decide +kernel
theorem dX8_best_25 : decode cX8_best 25 = .ok (.iload_n 1, 1) := by decide +kernel
theorem dX8_best_26 : decode cX8_best 26 = .ok (.ifCond .ne 7, 3) := by decide +kernel
theorem dX8_best_29 : decode cX8_best 29 = .ok (.iload_n 3, 1) := by decide +kernel
theorem dX8_best_30 : decode cX8_best 30 = .ok (.goto 8, 3) := by decide +kernel
theorem dX8_best_33 : decode cX8_best 33 = .ok (.aload_n 2, 1) := by decide +kernel
theorem dX8_best_34 : decode cX8_best 34 = .ok (.iload_n 3, 1) := by decide +kernel
theorem dX8_best_35 : decode cX8_best 35 = .ok (.invokevirtual 172, 3) := by decide +kernel
theorem dX8_best_38 : decode cX8_best 38 = .ok (.ireturn, 1) := by decide +kernel
theorem bX8_best_0 : tg_Snd mX8_best 0 (fun k => ti_iload 1 k) 1 := si_iload_n (i := 1) dX8_best_0 rfl
theorem bX8_best_4 : tg_Snd mX8_best 4 (fun k => ti_iload 1 (ti_push (.int 1) k)) 6 := tg_seq (si_iload_n (i := 1) dX8_best_4 rfl) (si_iconst (v := 1) dX8_best_5 (by decide))
theorem bX8_best_9 : tg_Snd mX8_best 9 (fun k => ti_push (.int (-3)) k) 11 := si_bipush (v := -3) dX8_best_9 (by decide)
theorem bX8_best_12 : tg_Snd mX8_best 12 (fun k => ti_aload 0 k) 13 := si_aload_n (i := 0) dX8_best_12 rfl
theorem bX8_best_19 : tg_Snd mX8_best 19 (fun k => ti_astore 2 (ti_aload 2 k)) 21 := tg_seq (si_astore_n (i := 2) dX8_best_19 rfl (Nat.le_of_ble_eq_true rfl)) (si_aload_n (i := 2) dX8_best_20 rfl)
theorem bX8_best_24 : tg_Snd mX8_best 24 (fun k => ti_istore 3 (ti_iload 1 k)) 26 := tg_seq (si_istore_n (i := 3) dX8_best_24 rfl (Nat.le_of_ble_eq_true rfl)) (si_iload_n (i := 1) dX8_best_25 rfl)
theorem bX8_best_29 : tg_Snd mX8_best 29 (fun k => ti_iload 3 k) 30 := si_iload_n (i := 3) dX8_best_29 rfl
theorem bX8_best_33 : tg_Snd mX8_best 33 (fun k => ti_aload 2 (ti_iload 3 k)) 35 := tg_seq (si_aload_n (i := 2) dX8_best_33 rfl) (si_iload_n (i := 3) dX8_best_34 rfl)
theorem vX8_best_13 : tg_VS mX8_best 13 mX8_freshCells 0 := ⟨okX8_freshCells, ⟨129, dX8_best_13, mlX8_129⟩, insX8_freshCells, selX8_freshCells, parX8_freshCells, rfl, rfl, Nat.le_of_ble_eq_true rfl, Nat.le_of_ble_eq_true rfl⟩
theorem vX8_best_16 : tg_VS mX8_best 16 mX0_parted 0 := ⟨okX0_parted, ⟨168, dX8_best_16, mlX8_168⟩, insX0_parted, selX0_parted, parX0_parted, rfl, rfl, Nat.le_of_ble_eq_true rfl, Nat.le_of_ble_eq_true rfl⟩
theorem vX8_best_21 : tg_VS mX8_best 21 mX4_bestOrder 0 := ⟨okX4_bestOrder, ⟨178, dX8_best_21, mlX8_178⟩, insX4_bestOrder, selX4_bestOrder, parX4_bestOrder, rfl, rfl, Nat.le_of_ble_eq_true rfl, Nat.le_of_ble_eq_true rfl⟩
theorem vX8_best_35 : tg_VS mX8_best 35 mX4_workBy 1 := ⟨okX4_workBy, ⟨172, dX8_best_35, mlX8_172⟩, insX4_workBy, selX4_workBy, parX4_workBy, rfl, rfl, Nat.le_of_ble_eq_true rfl, Nat.le_of_ble_eq_true rfl⟩
theorem dX8_more_0 : decode cX8_more 0 = .ok (.aload_n 0, 1) := by decide +kernel
theorem dX8_more_1 : decode cX8_more 1 = .ok (.getfield 32, 3) := by decide +kernel
theorem dX8_more_4 : decode cX8_more 4 = .ok (.iload_n 1, 1) := by decide +kernel
theorem dX8_more_5 : decode cX8_more 5 = .ok (.invokevirtual 93, 3) := by decide +kernel
theorem dX8_more_8 : decode cX8_more 8 = .ok (.ifCond .eq 12, 3) := by decide +kernel
theorem dX8_more_11 : decode cX8_more 11 = .ok (.iload_n 2, 1) := by decide +kernel
theorem dX8_more_12 : decode cX8_more 12 = .ok (.ifCond .lt 8, 3) := by decide +kernel
theorem dX8_more_15 : decode cX8_more 15 = .ok (.iload_n 2, 1) := by decide +kernel
theorem dX8_more_16 : decode cX8_more 16 = .ok (.iconst 1, 1) := by decide +kernel
theorem dX8_more_17 : decode cX8_more 17 = .ok (.if_icmp .le 6, 3) := by decide +kernel
theorem dX8_more_20 : decode cX8_more 20 = .ok (.bipush (-3), 2) := by decide +kernel
theorem dX8_more_22 : decode cX8_more 22 = .ok (.ireturn, 1) := by decide +kernel
theorem dX8_more_23 : decode cX8_more 23 = .ok (.aload_n 0, 1) := by decide +kernel
theorem dX8_more_24 : decode cX8_more 24 = .ok (.getfield 32, 3) := by decide +kernel
theorem dX8_more_27 : decode cX8_more 27 = .ok (.getfield 97, 3) := by decide +kernel
theorem dX8_more_30 : decode cX8_more 30 = .ok (.bipush 40, 2) := by decide +kernel
theorem dX8_more_32 : decode cX8_more 32 = .ok (.if_icmp .lt 6, 3) := by decide +kernel
theorem dX8_more_35 : decode cX8_more 35 = .ok (.bipush (-5), 2) := by decide +kernel
theorem dX8_more_37 : decode cX8_more 37 = .ok (.ireturn, 1) := by decide +kernel
theorem dX8_more_38 : decode cX8_more 38 = .ok (.aload_n 0, 1) := by decide +kernel
theorem dX8_more_39 : decode cX8_more 39 = .ok (.invokevirtual 129, 3) := by decide +kernel
theorem dX8_more_42 : decode cX8_more 42 = .ok (.astore_n 3, 1) := by decide +kernel
theorem dX8_more_43 : decode cX8_more 43 = .ok (.aload_n 3, 1) := by decide +kernel
theorem dX8_more_44 : decode cX8_more 44 = .ok (.iload_n 1, 1) := by decide +kernel
theorem dX8_more_45 : decode cX8_more 45 = .ok (.invokevirtual 182, 3) := by decide +kernel
theorem dX8_more_48 : decode cX8_more 48 = .ok (.istore 4, 2) := by decide +kernel
theorem dX8_more_50 : decode cX8_more 50 = .ok (.iload_n 2, 1) := by decide +kernel
theorem dX8_more_51 : decode cX8_more 51 = .ok (.ifCond .ne 20, 3) := by decide +kernel
theorem dX8_more_54 : decode cX8_more 54 = .ok (.aload_n 3, 1) := by decide +kernel
theorem dX8_more_55 : decode cX8_more 55 = .ok (.aload_n 0, 1) := by decide +kernel
theorem dX8_more_56 : decode cX8_more 56 = .ok (.getfield 32, 3) := by decide +kernel
theorem dX8_more_59 : decode cX8_more 59 = .ok (.getfield 120, 3) := by decide +kernel
theorem dX8_more_62 : decode cX8_more 62 = .ok (.invokevirtual 185, 3) := by decide +kernel
theorem dX8_more_65 : decode cX8_more 65 = .ok (.iload 4, 2) := by decide +kernel
theorem dX8_more_67 : decode cX8_more 67 = .ok (.iadd, 1) := by decide +kernel
theorem dX8_more_68 : decode cX8_more 68 = .ok (.goto 5, 3) := by decide +kernel
theorem dX8_more_71 : decode cX8_more 71 = .ok (.iload 4, 2) := by decide +kernel
theorem dX8_more_73 : decode cX8_more 73 = .ok (.ireturn, 1) := by decide +kernel
theorem bX8_more_0 : tg_Snd mX8_more 0 (fun k => ti_aload 0 (ti_getf 7 3 (ti_iload 1 k))) 5 := tg_seq (si_aload_n (i := 0) dX8_more_0 rfl) (tg_seq (si_getf (ci := 7) (f := 3) clX8 (Nat.le_of_ble_eq_true rfl) rfl flX8_32 dX8_more_1) (si_iload_n (i := 1) dX8_more_4 rfl))
theorem bX8_more_11 : tg_Snd mX8_more 11 (fun k => ti_iload 2 k) 12 := si_iload_n (i := 2) dX8_more_11 rfl
theorem bX8_more_15 : tg_Snd mX8_more 15 (fun k => ti_iload 2 (ti_push (.int 1) k)) 17 := tg_seq (si_iload_n (i := 2) dX8_more_15 rfl) (si_iconst (v := 1) dX8_more_16 (by decide))
theorem bX8_more_20 : tg_Snd mX8_more 20 (fun k => ti_push (.int (-3)) k) 22 := si_bipush (v := -3) dX8_more_20 (by decide)
theorem bX8_more_23 : tg_Snd mX8_more 23 (fun k => ti_aload 0 (ti_getf 7 3 (ti_getf 5 2 (ti_push (.int 40) k)))) 32 := tg_seq (si_aload_n (i := 0) dX8_more_23 rfl) (tg_seq (si_getf (ci := 7) (f := 3) clX8 (Nat.le_of_ble_eq_true rfl) rfl flX8_32 dX8_more_24) (tg_seq (si_getf (ci := 5) (f := 2) clX6 (Nat.le_of_ble_eq_true rfl) rfl flX8_97 dX8_more_27) (si_bipush (v := 40) dX8_more_30 (by decide))))
theorem bX8_more_35 : tg_Snd mX8_more 35 (fun k => ti_push (.int (-5)) k) 37 := si_bipush (v := -5) dX8_more_35 (by decide)
theorem bX8_more_38 : tg_Snd mX8_more 38 (fun k => ti_aload 0 k) 39 := si_aload_n (i := 0) dX8_more_38 rfl
theorem bX8_more_42 : tg_Snd mX8_more 42 (fun k => ti_astore 3 (ti_aload 3 (ti_iload 1 k))) 45 := tg_seq (si_astore_n (i := 3) dX8_more_42 rfl (Nat.le_of_ble_eq_true rfl)) (tg_seq (si_aload_n (i := 3) dX8_more_43 rfl) (si_iload_n (i := 1) dX8_more_44 rfl))
theorem bX8_more_48 : tg_Snd mX8_more 48 (fun k => ti_istore 4 (ti_iload 2 k)) 51 := tg_seq (si_istore (i := 4) dX8_more_48 (Nat.le_of_ble_eq_true rfl)) (si_iload_n (i := 2) dX8_more_50 rfl)
theorem bX8_more_54 : tg_Snd mX8_more 54 (fun k => ti_aload 3 (ti_aload 0 (ti_getf 7 3 (ti_getf 5 5 k)))) 62 := tg_seq (si_aload_n (i := 3) dX8_more_54 rfl) (tg_seq (si_aload_n (i := 0) dX8_more_55 rfl) (tg_seq (si_getf (ci := 7) (f := 3) clX8 (Nat.le_of_ble_eq_true rfl) rfl flX8_32 dX8_more_56) (si_getf (ci := 5) (f := 5) clX6 (Nat.le_of_ble_eq_true rfl) rfl flX8_120 dX8_more_59)))
theorem bX8_more_65 : tg_Snd mX8_more 65 (fun k => ti_iload 4 (ti_iadd k)) 68 := tg_seq (si_iload (i := 4) dX8_more_65) (si_iadd dX8_more_67)
theorem bX8_more_71 : tg_Snd mX8_more 71 (fun k => ti_iload 4 k) 73 := si_iload (i := 4) dX8_more_71
theorem vX8_more_5 : tg_VS mX8_more 5 mX6_isEntryCode 1 := ⟨okX6_isEntryCode, ⟨93, dX8_more_5, mlX8_93⟩, insX6_isEntryCode, selX6_isEntryCode, parX6_isEntryCode, rfl, rfl, Nat.le_of_ble_eq_true rfl, Nat.le_of_ble_eq_true rfl⟩
theorem vX8_more_39 : tg_VS mX8_more 39 mX8_freshCells 0 := ⟨okX8_freshCells, ⟨129, dX8_more_39, mlX8_129⟩, insX8_freshCells, selX8_freshCells, parX8_freshCells, rfl, rfl, Nat.le_of_ble_eq_true rfl, Nat.le_of_ble_eq_true rfl⟩
theorem vX8_more_45 : tg_VS mX8_more 45 mX0_gainedWith 1 := ⟨okX0_gainedWith, ⟨182, dX8_more_45, mlX8_182⟩, insX0_gainedWith, selX0_gainedWith, parX0_gainedWith, rfl, rfl, Nat.le_of_ble_eq_true rfl, Nat.le_of_ble_eq_true rfl⟩
theorem vX8_more_62 : tg_VS mX8_more 62 mX0_cubeSize 1 := ⟨okX0_cubeSize, ⟨185, dX8_more_62, mlX8_185⟩, insX0_cubeSize, selX0_cubeSize, parX0_cubeSize, rfl, rfl, Nat.le_of_ble_eq_true rfl, Nat.le_of_ble_eq_true rfl⟩
theorem dX8_less_0 : decode cX8_less 0 = .ok (.aload_n 0, 1) := by decide +kernel
theorem dX8_less_1 : decode cX8_less 1 = .ok (.getfield 32, 3) := by decide +kernel
theorem dX8_less_4 : decode cX8_less 4 = .ok (.iload_n 1, 1) := by decide +kernel
theorem dX8_less_5 : decode cX8_less 5 = .ok (.invokevirtual 106, 3) := by decide +kernel
theorem dX8_less_8 : decode cX8_less 8 = .ok (.ifCond .ne 6, 3) := by decide +kernel
theorem dX8_less_11 : decode cX8_less 11 = .ok (.bipush (-2), 2) := by decide +kernel
theorem dX8_less_13 : decode cX8_less 13 = .ok (.ireturn, 1) := by decide +kernel
theorem dX8_less_14 : decode cX8_less 14 = .ok (.iload_n 2, 1) := by decide +kernel
theorem dX8_less_15 : decode cX8_less 15 = .ok (.ifCond .lt 8, 3) := by decide +kernel
theorem dX8_less_18 : decode cX8_less 18 = .ok (.iload_n 2, 1) := by decide +kernel
theorem dX8_less_19 : decode cX8_less 19 = .ok (.iconst 1, 1) := by decide +kernel
theorem dX8_less_20 : decode cX8_less 20 = .ok (.if_icmp .le 6, 3) := by decide +kernel
theorem dX8_less_23 : decode cX8_less 23 = .ok (.bipush (-3), 2) := by decide +kernel
theorem dX8_less_25 : decode cX8_less 25 = .ok (.ireturn, 1) := by decide +kernel
theorem dX8_less_26 : decode cX8_less 26 = .ok (.aload_n 0, 1) := by decide +kernel
theorem dX8_less_27 : decode cX8_less 27 = .ok (.invokevirtual 129, 3) := by decide +kernel
theorem dX8_less_30 : decode cX8_less 30 = .ok (.astore_n 3, 1) := by decide +kernel
theorem dX8_less_31 : decode cX8_less 31 = .ok (.aload_n 3, 1) := by decide +kernel
theorem dX8_less_32 : decode cX8_less 32 = .ok (.iload_n 1, 1) := by decide +kernel
theorem dX8_less_33 : decode cX8_less 33 = .ok (.invokevirtual 188, 3) := by decide +kernel
theorem dX8_less_36 : decode cX8_less 36 = .ok (.istore 4, 2) := by decide +kernel
theorem dX8_less_38 : decode cX8_less 38 = .ok (.iload_n 2, 1) := by decide +kernel
theorem dX8_less_39 : decode cX8_less 39 = .ok (.ifCond .ne 20, 3) := by decide +kernel
theorem dX8_less_42 : decode cX8_less 42 = .ok (.aload_n 3, 1) := by decide +kernel
theorem dX8_less_43 : decode cX8_less 43 = .ok (.aload_n 0, 1) := by decide +kernel
theorem dX8_less_44 : decode cX8_less 44 = .ok (.getfield 32, 3) := by decide +kernel
theorem dX8_less_47 : decode cX8_less 47 = .ok (.getfield 120, 3) := by decide +kernel
theorem dX8_less_50 : decode cX8_less 50 = .ok (.invokevirtual 185, 3) := by decide +kernel
theorem dX8_less_53 : decode cX8_less 53 = .ok (.iload 4, 2) := by decide +kernel
theorem dX8_less_55 : decode cX8_less 55 = .ok (.isub, 1) := by decide +kernel
theorem dX8_less_56 : decode cX8_less 56 = .ok (.goto 5, 3) := by decide +kernel
theorem dX8_less_59 : decode cX8_less 59 = .ok (.iload 4, 2) := by decide +kernel
theorem dX8_less_61 : decode cX8_less 61 = .ok (.ireturn, 1) := by decide +kernel
theorem bX8_less_0 : tg_Snd mX8_less 0 (fun k => ti_aload 0 (ti_getf 7 3 (ti_iload 1 k))) 5 := tg_seq (si_aload_n (i := 0) dX8_less_0 rfl) (tg_seq (si_getf (ci := 7) (f := 3) clX8 (Nat.le_of_ble_eq_true rfl) rfl flX8_32 dX8_less_1) (si_iload_n (i := 1) dX8_less_4 rfl))
theorem bX8_less_11 : tg_Snd mX8_less 11 (fun k => ti_push (.int (-2)) k) 13 := si_bipush (v := -2) dX8_less_11 (by decide)
theorem bX8_less_14 : tg_Snd mX8_less 14 (fun k => ti_iload 2 k) 15 := si_iload_n (i := 2) dX8_less_14 rfl
theorem bX8_less_18 : tg_Snd mX8_less 18 (fun k => ti_iload 2 (ti_push (.int 1) k)) 20 := tg_seq (si_iload_n (i := 2) dX8_less_18 rfl) (si_iconst (v := 1) dX8_less_19 (by decide))
theorem bX8_less_23 : tg_Snd mX8_less 23 (fun k => ti_push (.int (-3)) k) 25 := si_bipush (v := -3) dX8_less_23 (by decide)
theorem bX8_less_26 : tg_Snd mX8_less 26 (fun k => ti_aload 0 k) 27 := si_aload_n (i := 0) dX8_less_26 rfl
theorem bX8_less_30 : tg_Snd mX8_less 30 (fun k => ti_astore 3 (ti_aload 3 (ti_iload 1 k))) 33 := tg_seq (si_astore_n (i := 3) dX8_less_30 rfl (Nat.le_of_ble_eq_true rfl)) (tg_seq (si_aload_n (i := 3) dX8_less_31 rfl) (si_iload_n (i := 1) dX8_less_32 rfl))
theorem bX8_less_36 : tg_Snd mX8_less 36 (fun k => ti_istore 4 (ti_iload 2 k)) 39 := tg_seq (si_istore (i := 4) dX8_less_36 (Nat.le_of_ble_eq_true rfl)) (si_iload_n (i := 2) dX8_less_38 rfl)
theorem bX8_less_42 : tg_Snd mX8_less 42 (fun k => ti_aload 3 (ti_aload 0 (ti_getf 7 3 (ti_getf 5 5 k)))) 50 := tg_seq (si_aload_n (i := 3) dX8_less_42 rfl) (tg_seq (si_aload_n (i := 0) dX8_less_43 rfl) (tg_seq (si_getf (ci := 7) (f := 3) clX8 (Nat.le_of_ble_eq_true rfl) rfl flX8_32 dX8_less_44) (si_getf (ci := 5) (f := 5) clX6 (Nat.le_of_ble_eq_true rfl) rfl flX8_120 dX8_less_47)))
theorem bX8_less_53 : tg_Snd mX8_less 53 (fun k => ti_iload 4 (ti_isub k)) 56 := tg_seq (si_iload (i := 4) dX8_less_53) (si_isub dX8_less_55)
theorem bX8_less_59 : tg_Snd mX8_less 59 (fun k => ti_iload 4 k) 61 := si_iload (i := 4) dX8_less_59
theorem vX8_less_5 : tg_VS mX8_less 5 mX6_hasEntry 1 := ⟨okX6_hasEntry, ⟨106, dX8_less_5, mlX8_106⟩, insX6_hasEntry, selX6_hasEntry, parX6_hasEntry, rfl, rfl, Nat.le_of_ble_eq_true rfl, Nat.le_of_ble_eq_true rfl⟩
theorem vX8_less_27 : tg_VS mX8_less 27 mX8_freshCells 0 := ⟨okX8_freshCells, ⟨129, dX8_less_27, mlX8_129⟩, insX8_freshCells, selX8_freshCells, parX8_freshCells, rfl, rfl, Nat.le_of_ble_eq_true rfl, Nat.le_of_ble_eq_true rfl⟩
theorem vX8_less_33 : tg_VS mX8_less 33 mX0_lostWithout 1 := ⟨okX0_lostWithout, ⟨188, dX8_less_33, mlX8_188⟩, insX0_lostWithout, selX0_lostWithout, parX0_lostWithout, rfl, rfl, Nat.le_of_ble_eq_true rfl, Nat.le_of_ble_eq_true rfl⟩
theorem vX8_less_50 : tg_VS mX8_less 50 mX0_cubeSize 1 := ⟨okX0_cubeSize, ⟨185, dX8_less_50, mlX8_185⟩, insX0_cubeSize, selX0_cubeSize, parX0_cubeSize, rfl, rfl, Nat.le_of_ble_eq_true rfl, Nat.le_of_ble_eq_true rfl⟩
theorem dX8_cap_0 : decode cX8_cap 0 = .ok (.iload_n 1, 1) := by decide +kernel
theorem dX8_cap_1 : decode cX8_cap 1 = .ok (.ifCond .lt 10, 3) := by decide +kernel
theorem dX8_cap_4 : decode cX8_cap 4 = .ok (.iload_n 1, 1) := by decide +kernel
theorem dX8_cap_5 : decode cX8_cap 5 = .ok (.sipush 2400, 3) := by decide +kernel
theorem dX8_cap_8 : decode cX8_cap 8 = .ok (.if_icmp .le 8, 3) := by decide +kernel
theorem dX8_cap_11 : decode cX8_cap 11 = .ok (.bipush (-3), 2) := by decide +kernel
theorem dX8_cap_13 : decode cX8_cap 13 = .ok (.goto 11, 3) := by decide +kernel
theorem dX8_cap_16 : decode cX8_cap 16 = .ok (.aload_n 0, 1) := by decide +kernel
theorem dX8_cap_17 : decode cX8_cap 17 = .ok (.invokevirtual 129, 3) := by decide +kernel
theorem dX8_cap_20 : decode cX8_cap 20 = .ok (.iload_n 1, 1) := by decide +kernel
theorem dX8_cap_21 : decode cX8_cap 21 = .ok (.invokevirtual 191, 3) := by decide +kernel
theorem dX8_cap_24 : decode cX8_cap 24 = .ok (.ireturn, 1) := by decide +kernel
theorem bX8_cap_0 : tg_Snd mX8_cap 0 (fun k => ti_iload 1 k) 1 := si_iload_n (i := 1) dX8_cap_0 rfl
theorem bX8_cap_4 : tg_Snd mX8_cap 4 (fun k => ti_iload 1 (ti_push (.int 2400) k)) 8 := tg_seq (si_iload_n (i := 1) dX8_cap_4 rfl) (si_sipush (v := 2400) dX8_cap_5 (by decide))
theorem bX8_cap_11 : tg_Snd mX8_cap 11 (fun k => ti_push (.int (-3)) k) 13 := si_bipush (v := -3) dX8_cap_11 (by decide)
theorem bX8_cap_16 : tg_Snd mX8_cap 16 (fun k => ti_aload 0 k) 17 := si_aload_n (i := 0) dX8_cap_16 rfl
theorem bX8_cap_20 : tg_Snd mX8_cap 20 (fun k => ti_iload 1 k) 21 := si_iload_n (i := 1) dX8_cap_20 rfl
theorem vX8_cap_17 : tg_VS mX8_cap 17 mX8_freshCells 0 := ⟨okX8_freshCells, ⟨129, dX8_cap_17, mlX8_129⟩, insX8_freshCells, selX8_freshCells, parX8_freshCells, rfl, rfl, Nat.le_of_ble_eq_true rfl, Nat.le_of_ble_eq_true rfl⟩
theorem vX8_cap_21 : tg_VS mX8_cap 21 mX0_leastSupportFor 1 := ⟨okX0_leastSupportFor, ⟨191, dX8_cap_21, mlX8_191⟩, insX0_leastSupportFor, selX0_leastSupportFor, parX0_leastSupportFor, rfl, rfl, Nat.le_of_ble_eq_true rfl, Nat.le_of_ble_eq_true rfl⟩
theorem dX8_key_0 : decode cX8_key 0 = .ok (.aload_n 0, 1) := by decide +kernel
theorem dX8_key_1 : decode cX8_key 1 = .ok (.invokevirtual 129, 3) := by decide +kernel
theorem dX8_key_4 : decode cX8_key 4 = .ok (.invokevirtual 194, 3) := by decide +kernel
theorem dX8_key_7 : decode cX8_key 7 = .ok (.ireturn, 1) := by decide +kernel
theorem bX8_key_0 : tg_Snd mX8_key 0 (fun k => ti_aload 0 k) 1 := si_aload_n (i := 0) dX8_key_0 rfl
theorem vX8_key_1 : tg_VS mX8_key 1 mX8_freshCells 0 := ⟨okX8_freshCells, ⟨129, dX8_key_1, mlX8_129⟩, insX8_freshCells, selX8_freshCells, parX8_freshCells, rfl, rfl, Nat.le_of_ble_eq_true rfl, Nat.le_of_ble_eq_true rfl⟩
theorem vX8_key_4 : tg_VS mX8_key 4 mX0_leastKey 0 := ⟨okX0_leastKey, ⟨194, dX8_key_4, mlX8_194⟩, insX0_leastKey, selX0_leastKey, parX0_leastKey, rfl, rfl, Nat.le_of_ble_eq_true rfl, Nat.le_of_ble_eq_true rfl⟩
theorem dX8_rule_0 : decode cX8_rule 0 = .ok (.iload_n 1, 1) := by decide +kernel
theorem dX8_rule_1 : decode cX8_rule 1 = .ok (.ifCond .lt 31, 3) := by decide +kernel
theorem dX8_rule_4 : decode cX8_rule 4 = .ok (.iload_n 1, 1) := by decide +kernel
theorem dX8_rule_5 : decode cX8_rule 5 = .ok (.iconst 1, 1) := by decide +kernel
theorem dX8_rule_6 : decode cX8_rule 6 = .ok (.aload_n 0, 1) := by decide +kernel
theorem dX8_rule_7 : decode cX8_rule 7 = .ok (.getfield 32, 3) := by decide +kernel
theorem dX8_rule_10 : decode cX8_rule 10 = .ok (.getfield 159, 3) := by decide +kernel
theorem dX8_rule_13 : decode cX8_rule 13 = .ok (.ishl, 1) := by decide +kernel
theorem dX8_rule_14 : decode cX8_rule 14 = .ok (.if_icmp .ge 18, 3) := by decide +kernel
theorem dX8_rule_17 : decode cX8_rule 17 = .ok (.iload_n 2, 1) := by decide +kernel
theorem dX8_rule_18 : decode cX8_rule 18 = .ok (.ifCond .lt 14, 3) := by decide +kernel
theorem dX8_rule_21 : decode cX8_rule 21 = .ok (.iload_n 2, 1) := by decide +kernel
theorem dX8_rule_22 : decode cX8_rule 22 = .ok (.aload_n 0, 1) := by decide +kernel
theorem dX8_rule_23 : decode cX8_rule 23 = .ok (.getfield 32, 3) := by decide +kernel
theorem dX8_rule_26 : decode cX8_rule 26 = .ok (.getfield 159, 3) := by decide +kernel
theorem dX8_rule_29 : decode cX8_rule 29 = .ok (.if_icmp .lt 6, 3) := by decide +kernel
theorem dX8_rule_32 : decode cX8_rule 32 = .ok (.bipush (-3), 2) := by decide +kernel
theorem dX8_rule_34 : decode cX8_rule 34 = .ok (.ireturn, 1) := by decide +kernel
theorem dX8_rule_35 : decode cX8_rule 35 = .ok (.aload_n 0, 1) := by decide +kernel
theorem dX8_rule_36 : decode cX8_rule 36 = .ok (.invokevirtual 129, 3) := by decide +kernel
theorem dX8_rule_39 : decode cX8_rule 39 = .ok (.iload_n 1, 1) := by decide +kernel
theorem dX8_rule_40 : decode cX8_rule 40 = .ok (.iload_n 2, 1) := by decide +kernel
theorem dX8_rule_41 : decode cX8_rule 41 = .ok (.invokevirtual 197, 3) := by decide +kernel
theorem dX8_rule_44 : decode cX8_rule 44 = .ok (.ifCond .eq 7, 3) := by decide +kernel
theorem dX8_rule_47 : decode cX8_rule 47 = .ok (.iconst 1, 1) := by decide +kernel
theorem dX8_rule_48 : decode cX8_rule 48 = .ok (.goto 4, 3) := by decide +kernel
theorem dX8_rule_51 : decode cX8_rule 51 = .ok (.iconst 0, 1) := by decide +kernel
theorem dX8_rule_52 : decode cX8_rule 52 = .ok (.ireturn, 1) := by decide +kernel
theorem bX8_rule_0 : tg_Snd mX8_rule 0 (fun k => ti_iload 1 k) 1 := si_iload_n (i := 1) dX8_rule_0 rfl
theorem bX8_rule_4 : tg_Snd mX8_rule 4 (fun k => ti_iload 1 (ti_push (.int 1) (ti_aload 0 (ti_getf 7 3 (ti_getf 5 0 (ti_ishl k)))))) 14 := tg_seq (si_iload_n (i := 1) dX8_rule_4 rfl) (tg_seq (si_iconst (v := 1) dX8_rule_5 (by decide)) (tg_seq (si_aload_n (i := 0) dX8_rule_6 rfl) (tg_seq (si_getf (ci := 7) (f := 3) clX8 (Nat.le_of_ble_eq_true rfl) rfl flX8_32 dX8_rule_7) (tg_seq (si_getf (ci := 5) (f := 0) clX6 (Nat.le_of_ble_eq_true rfl) rfl flX8_159 dX8_rule_10) (si_ishl dX8_rule_13)))))
theorem bX8_rule_17 : tg_Snd mX8_rule 17 (fun k => ti_iload 2 k) 18 := si_iload_n (i := 2) dX8_rule_17 rfl
theorem bX8_rule_21 : tg_Snd mX8_rule 21 (fun k => ti_iload 2 (ti_aload 0 (ti_getf 7 3 (ti_getf 5 0 k)))) 29 := tg_seq (si_iload_n (i := 2) dX8_rule_21 rfl) (tg_seq (si_aload_n (i := 0) dX8_rule_22 rfl) (tg_seq (si_getf (ci := 7) (f := 3) clX8 (Nat.le_of_ble_eq_true rfl) rfl flX8_32 dX8_rule_23) (si_getf (ci := 5) (f := 0) clX6 (Nat.le_of_ble_eq_true rfl) rfl flX8_159 dX8_rule_26)))
theorem bX8_rule_32 : tg_Snd mX8_rule 32 (fun k => ti_push (.int (-3)) k) 34 := si_bipush (v := -3) dX8_rule_32 (by decide)
theorem bX8_rule_35 : tg_Snd mX8_rule 35 (fun k => ti_aload 0 k) 36 := si_aload_n (i := 0) dX8_rule_35 rfl
theorem bX8_rule_39 : tg_Snd mX8_rule 39 (fun k => ti_iload 1 (ti_iload 2 k)) 41 := tg_seq (si_iload_n (i := 1) dX8_rule_39 rfl) (si_iload_n (i := 2) dX8_rule_40 rfl)
theorem bX8_rule_47 : tg_Snd mX8_rule 47 (fun k => ti_push (.int 1) k) 48 := si_iconst (v := 1) dX8_rule_47 (by decide)
theorem bX8_rule_51 : tg_Snd mX8_rule 51 (fun k => ti_push (.int 0) k) 52 := si_iconst (v := 0) dX8_rule_51 (by decide)
theorem vX8_rule_36 : tg_VS mX8_rule 36 mX8_freshCells 0 := ⟨okX8_freshCells, ⟨129, dX8_rule_36, mlX8_129⟩, insX8_freshCells, selX8_freshCells, parX8_freshCells, rfl, rfl, Nat.le_of_ble_eq_true rfl, Nat.le_of_ble_eq_true rfl⟩
theorem vX8_rule_41 : tg_VS mX8_rule 41 mX0_settles 2 := ⟨okX0_settles, ⟨197, dX8_rule_41, mlX8_197⟩, insX0_settles, selX0_settles, parX0_settles, rfl, rfl, Nat.le_of_ble_eq_true rfl, Nat.le_of_ble_eq_true rfl⟩
theorem dX8_row_0 : decode cX8_row 0 = .ok (.iload_n 1, 1) := by decide +kernel
theorem dX8_row_1 : decode cX8_row 1 = .ok (.invokestatic 200, 3) := by decide +kernel
theorem dX8_row_4 : decode cX8_row 4 = .ok (.ifCond .ne 6, 3) := by decide +kernel
theorem dX8_row_7 : decode cX8_row 7 = .ok (.bipush (-2), 2) := by decide +kernel
theorem dX8_row_9 : decode cX8_row 9 = .ok (.ireturn, 1) := by decide +kernel
theorem dX8_row_10 : decode cX8_row 10 = .ok (.iload_n 2, 1) := by decide +kernel
theorem dX8_row_11 : decode cX8_row 11 = .ok (.bipush 12, 2) := by decide +kernel
theorem dX8_row_13 : decode cX8_row 13 = .ok (.if_icmp .le 6, 3) := by decide +kernel
theorem dX8_row_16 : decode cX8_row 16 = .ok (.bipush (-3), 2) := by decide +kernel
theorem dX8_row_18 : decode cX8_row 18 = .ok (.ireturn, 1) := by decide +kernel
theorem dX8_row_19 : decode cX8_row 19 = .ok (.iload_n 2, 1) := by decide +kernel
theorem dX8_row_20 : decode cX8_row 20 = .ok (.ifCond .ge 6, 3) := by decide +kernel
theorem dX8_row_23 : decode cX8_row 23 = .ok (.bipush (-13), 2) := by decide +kernel
theorem dX8_row_25 : decode cX8_row 25 = .ok (.ireturn, 1) := by decide +kernel
theorem dX8_row_26 : decode cX8_row 26 = .ok (.aload_n 0, 1) := by decide +kernel
theorem dX8_row_27 : decode cX8_row 27 = .ok (.getfield 54, 3) := by decide +kernel
theorem dX8_row_30 : decode cX8_row 30 = .ok (.iload_n 1, 1) := by decide +kernel
theorem dX8_row_31 : decode cX8_row 31 = .ok (.iload_n 2, 1) := by decide +kernel
theorem dX8_row_32 : decode cX8_row 32 = .ok (.invokevirtual 203, 3) := by decide +kernel
theorem dX8_row_35 : decode cX8_row 35 = .ok (.iload_n 2, 1) := by decide +kernel
theorem dX8_row_36 : decode cX8_row 36 = .ok (.ireturn, 1) := by decide +kernel
theorem bX8_row_0 : tg_Snd mX8_row 0 (fun k => ti_iload 1 k) 1 := si_iload_n (i := 1) dX8_row_0 rfl
theorem bX8_row_7 : tg_Snd mX8_row 7 (fun k => ti_push (.int (-2)) k) 9 := si_bipush (v := -2) dX8_row_7 (by decide)
theorem bX8_row_10 : tg_Snd mX8_row 10 (fun k => ti_iload 2 (ti_push (.int 12) k)) 13 := tg_seq (si_iload_n (i := 2) dX8_row_10 rfl) (si_bipush (v := 12) dX8_row_11 (by decide))
theorem bX8_row_16 : tg_Snd mX8_row 16 (fun k => ti_push (.int (-3)) k) 18 := si_bipush (v := -3) dX8_row_16 (by decide)
theorem bX8_row_19 : tg_Snd mX8_row 19 (fun k => ti_iload 2 k) 20 := si_iload_n (i := 2) dX8_row_19 rfl
theorem bX8_row_23 : tg_Snd mX8_row 23 (fun k => ti_push (.int (-13)) k) 25 := si_bipush (v := -13) dX8_row_23 (by decide)
theorem bX8_row_26 : tg_Snd mX8_row 26 (fun k => ti_aload 0 (ti_getf 7 7 (ti_iload 1 (ti_iload 2 k)))) 32 := tg_seq (si_aload_n (i := 0) dX8_row_26 rfl) (tg_seq (si_getf (ci := 7) (f := 7) clX8 (Nat.le_of_ble_eq_true rfl) rfl flX8_54 dX8_row_27) (tg_seq (si_iload_n (i := 1) dX8_row_30 rfl) (si_iload_n (i := 2) dX8_row_31 rfl)))
theorem bX8_row_35 : tg_Snd mX8_row 35 (fun k => ti_iload 2 k) 36 := si_iload_n (i := 2) dX8_row_35 rfl
theorem vX8_row_1 : tg_SS0 mX8_row 1 mX3_isRow 1 := ⟨okX3_isRow, ⟨200, dX8_row_1, mlX8_200⟩, staX3_isRow, parX3_isRow, rfl, rfl, Nat.le_of_ble_eq_true rfl, Nat.le_of_ble_eq_true rfl⟩
theorem vX8_row_32 : tg_VS mX8_row 32 mX3_renew 2 := ⟨okX3_renew, ⟨203, dX8_row_32, mlX8_203⟩, insX3_renew, selX3_renew, parX3_renew, rfl, rfl, Nat.le_of_ble_eq_true rfl, Nat.le_of_ble_eq_true rfl⟩
theorem dX8_set_0 : decode cX8_set 0 = .ok (.iload_n 1, 1) := by decide +kernel
theorem dX8_set_1 : decode cX8_set 1 = .ok (.invokestatic 200, 3) := by decide +kernel
theorem dX8_set_4 : decode cX8_set 4 = .ok (.ifCond .ne 6, 3) := by decide +kernel
theorem dX8_set_7 : decode cX8_set 7 = .ok (.bipush (-2), 2) := by decide +kernel
theorem dX8_set_9 : decode cX8_set 9 = .ok (.ireturn, 1) := by decide +kernel
theorem dX8_set_10 : decode cX8_set 10 = .ok (.aload_n 0, 1) := by decide +kernel
theorem dX8_set_11 : decode cX8_set 11 = .ok (.getfield 54, 3) := by decide +kernel
theorem dX8_set_14 : decode cX8_set 14 = .ok (.iload_n 1, 1) := by decide +kernel
theorem dX8_set_15 : decode cX8_set 15 = .ok (.iload_n 2, 1) := by decide +kernel
theorem dX8_set_16 : decode cX8_set 16 = .ok (.iload_n 3, 1) := by decide +kernel
theorem dX8_set_17 : decode cX8_set 17 = .ok (.i2l, 1) := by decide +kernel
theorem dX8_set_18 : decode cX8_set 18 = .ok (.invokevirtual 207, 3) := by decide +kernel
theorem dX8_set_21 : decode cX8_set 21 = .ok (.ireturn, 1) := by decide +kernel
theorem bX8_set_0 : tg_Snd mX8_set 0 (fun k => ti_iload 1 k) 1 := si_iload_n (i := 1) dX8_set_0 rfl
theorem bX8_set_7 : tg_Snd mX8_set 7 (fun k => ti_push (.int (-2)) k) 9 := si_bipush (v := -2) dX8_set_7 (by decide)
theorem bX8_set_10 : tg_Snd mX8_set 10 (fun k => ti_aload 0 (ti_getf 7 7 (ti_iload 1 (ti_iload 2 (ti_iload 3 (ti_i2l k)))))) 18 := tg_seq (si_aload_n (i := 0) dX8_set_10 rfl) (tg_seq (si_getf (ci := 7) (f := 7) clX8 (Nat.le_of_ble_eq_true rfl) rfl flX8_54 dX8_set_11) (tg_seq (si_iload_n (i := 1) dX8_set_14 rfl) (tg_seq (si_iload_n (i := 2) dX8_set_15 rfl) (tg_seq (si_iload_n (i := 3) dX8_set_16 rfl) (si_i2l dX8_set_17)))))
theorem vX8_set_1 : tg_SS0 mX8_set 1 mX3_isRow 1 := ⟨okX3_isRow, ⟨200, dX8_set_1, mlX8_200⟩, staX3_isRow, parX3_isRow, rfl, rfl, Nat.le_of_ble_eq_true rfl, Nat.le_of_ble_eq_true rfl⟩
theorem vX8_set_18 : tg_VS mX8_set 18 mX3_put 3 := ⟨okX3_put, ⟨207, dX8_set_18, mlX8_207⟩, insX3_put, selX3_put, parX3_put, rfl, rfl, Nat.le_of_ble_eq_true rfl, Nat.le_of_ble_eq_true rfl⟩
theorem dX8_work_0 : decode cX8_work 0 = .ok (.iload_n 1, 1) := by decide +kernel
theorem dX8_work_1 : decode cX8_work 1 = .ok (.invokestatic 200, 3) := by decide +kernel
theorem dX8_work_4 : decode cX8_work 4 = .ok (.ifCond .ne 6, 3) := by decide +kernel
theorem dX8_work_7 : decode cX8_work 7 = .ok (.bipush (-2), 2) := by decide +kernel
theorem dX8_work_9 : decode cX8_work 9 = .ok (.ireturn, 1) := by decide +kernel
theorem dX8_work_10 : decode cX8_work 10 = .ok (.iload_n 3, 1) := by decide +kernel
theorem dX8_work_11 : decode cX8_work 11 = .ok (.ifCond .lt 8, 3) := by decide +kernel
theorem dX8_work_14 : decode cX8_work 14 = .ok (.iload_n 3, 1) := by decide +kernel
theorem dX8_work_15 : decode cX8_work 15 = .ok (.iconst 2, 1) := by decide +kernel
theorem dX8_work_16 : decode cX8_work 16 = .ok (.if_icmp .le 6, 3) := by decide +kernel
theorem dX8_work_19 : decode cX8_work 19 = .ok (.bipush (-3), 2) := by decide +kernel
theorem dX8_work_21 : decode cX8_work 21 = .ok (.ireturn, 1) := by decide +kernel
theorem dX8_work_22 : decode cX8_work 22 = .ok (.aload_n 0, 1) := by decide +kernel
theorem dX8_work_23 : decode cX8_work 23 = .ok (.getfield 54, 3) := by decide +kernel
theorem dX8_work_26 : decode cX8_work 26 = .ok (.iload_n 1, 1) := by decide +kernel
theorem dX8_work_27 : decode cX8_work 27 = .ok (.iload_n 2, 1) := by decide +kernel
theorem dX8_work_28 : decode cX8_work 28 = .ok (.invokevirtual 211, 3) := by decide +kernel
theorem dX8_work_31 : decode cX8_work 31 = .ok (.istore 5, 2) := by decide +kernel
theorem dX8_work_33 : decode cX8_work 33 = .ok (.iload 5, 2) := by decide +kernel
theorem dX8_work_35 : decode cX8_work 35 = .ok (.ifCond .ge 6, 3) := by decide +kernel
theorem dX8_work_38 : decode cX8_work 38 = .ok (.iload 5, 2) := by decide +kernel
theorem dX8_work_40 : decode cX8_work 40 = .ok (.ireturn, 1) := by decide +kernel
theorem dX8_work_41 : decode cX8_work 41 = .ok (.aload_n 0, 1) := by decide +kernel
theorem dX8_work_42 : decode cX8_work 42 = .ok (.getfield 54, 3) := by decide +kernel
theorem dX8_work_45 : decode cX8_work 45 = .ok (.getfield 215, 3) := by decide +kernel
theorem dX8_work_48 : decode cX8_work 48 = .ok (.iload_n 1, 1) := by decide +kernel
theorem dX8_work_49 : decode cX8_work 49 = .ok (.aaload, 1) := by decide +kernel
theorem dX8_work_50 : decode cX8_work 50 = .ok (.iload_n 2, 1) := by decide +kernel
theorem dX8_work_51 : decode cX8_work 51 = .ok (.laload, 1) := by decide +kernel
theorem dX8_work_52 : decode cX8_work 52 = .ok (.lstore 6, 2) := by decide +kernel
theorem dX8_work_54 : decode cX8_work 54 = .ok (.lload 6, 2) := by decide +kernel
theorem dX8_work_56 : decode cX8_work 56 = .ok (.iload_n 3, 1) := by decide +kernel
theorem dX8_work_57 : decode cX8_work 57 = .ok (.iload 4, 2) := by decide +kernel
theorem dX8_work_59 : decode cX8_work 59 = .ok (.i2l, 1) := by decide +kernel
theorem dX8_work_60 : decode cX8_work 60 = .ok (.invokestatic 219, 3) := by decide +kernel
theorem dX8_work_63 : decode cX8_work 63 = .ok (.ifCond .eq 6, 3) := by decide +kernel
theorem dX8_work_66 : decode cX8_work 66 = .ok (.bipush (-14), 2) := by decide +kernel
theorem dX8_work_68 : decode cX8_work 68 = .ok (.ireturn, 1) := by decide +kernel
theorem dX8_work_69 : decode cX8_work 69 = .ok (.aload_n 0, 1) := by decide +kernel
theorem dX8_work_70 : decode cX8_work 70 = .ok (.lload 6, 2) := by decide +kernel
theorem dX8_work_72 : decode cX8_work 72 = .ok (.iload_n 3, 1) := by decide +kernel
theorem dX8_work_73 : decode cX8_work 73 = .ok (.iload 4, 2) := by decide +kernel
theorem dX8_work_75 : decode cX8_work 75 = .ok (.i2l, 1) := by decide +kernel
theorem dX8_work_76 : decode cX8_work 76 = .ok (.invokestatic 225, 3) := by decide +kernel
theorem dX8_work_79 : decode cX8_work 79 = .ok (.putfield 62, 3) := by decide +kernel
theorem dX8_work_82 : decode cX8_work 82 = .ok (.aload_n 0, 1) := by decide +kernel
theorem dX8_work_83 : decode cX8_work 83 = .ok (.getfield 54, 3) := by decide +kernel
theorem dX8_work_86 : decode cX8_work 86 = .ok (.getfield 215, 3) := by decide +kernel
theorem dX8_work_89 : decode cX8_work 89 = .ok (.iload_n 1, 1) := by decide +kernel
theorem dX8_work_90 : decode cX8_work 90 = .ok (.aaload, 1) := by decide +kernel
theorem dX8_work_91 : decode cX8_work 91 = .ok (.iload_n 2, 1) := by decide +kernel
theorem dX8_work_92 : decode cX8_work 92 = .ok (.aload_n 0, 1) := by decide +kernel
theorem dX8_work_93 : decode cX8_work 93 = .ok (.getfield 62, 3) := by decide +kernel
theorem dX8_work_96 : decode cX8_work 96 = .ok (.lastore, 1) := by decide +kernel
theorem dX8_work_97 : decode cX8_work 97 = .ok (.iconst 1, 1) := by decide +kernel
theorem dX8_work_98 : decode cX8_work 98 = .ok (.ireturn, 1) := by decide +kernel
theorem bX8_work_0 : tg_Snd mX8_work 0 (fun k => ti_iload 1 k) 1 := si_iload_n (i := 1) dX8_work_0 rfl
theorem bX8_work_7 : tg_Snd mX8_work 7 (fun k => ti_push (.int (-2)) k) 9 := si_bipush (v := -2) dX8_work_7 (by decide)
theorem bX8_work_10 : tg_Snd mX8_work 10 (fun k => ti_iload 3 k) 11 := si_iload_n (i := 3) dX8_work_10 rfl
theorem bX8_work_14 : tg_Snd mX8_work 14 (fun k => ti_iload 3 (ti_push (.int 2) k)) 16 := tg_seq (si_iload_n (i := 3) dX8_work_14 rfl) (si_iconst (v := 2) dX8_work_15 (by decide))
theorem bX8_work_19 : tg_Snd mX8_work 19 (fun k => ti_push (.int (-3)) k) 21 := si_bipush (v := -3) dX8_work_19 (by decide)
theorem bX8_work_22 : tg_Snd mX8_work 22 (fun k => ti_aload 0 (ti_getf 7 7 (ti_iload 1 (ti_iload 2 k)))) 28 := tg_seq (si_aload_n (i := 0) dX8_work_22 rfl) (tg_seq (si_getf (ci := 7) (f := 7) clX8 (Nat.le_of_ble_eq_true rfl) rfl flX8_54 dX8_work_23) (tg_seq (si_iload_n (i := 1) dX8_work_26 rfl) (si_iload_n (i := 2) dX8_work_27 rfl)))
theorem bX8_work_31 : tg_Snd mX8_work 31 (fun k => ti_istore 5 (ti_iload 5 k)) 35 := tg_seq (si_istore (i := 5) dX8_work_31 (Nat.le_of_ble_eq_true rfl)) (si_iload (i := 5) dX8_work_33)
theorem bX8_work_38 : tg_Snd mX8_work 38 (fun k => ti_iload 5 k) 40 := si_iload (i := 5) dX8_work_38
theorem bX8_work_41 : tg_Snd mX8_work 41 (fun k => ti_aload 0 (ti_getf 7 7 (ti_getf 2 1 (ti_iload 1 (ti_aald (ti_iload 2 (ti_lald (ti_lstore 6 (ti_lload 6 (ti_iload 3 (ti_iload 4 (ti_i2l k)))))))))))) 60 := tg_seq (si_aload_n (i := 0) dX8_work_41 rfl) (tg_seq (si_getf (ci := 7) (f := 7) clX8 (Nat.le_of_ble_eq_true rfl) rfl flX8_54 dX8_work_42) (tg_seq (si_getf (ci := 2) (f := 1) clX3 (Nat.le_of_ble_eq_true rfl) rfl flX8_215 dX8_work_45) (tg_seq (si_iload_n (i := 1) dX8_work_48 rfl) (tg_seq (si_aald dX8_work_49) (tg_seq (si_iload_n (i := 2) dX8_work_50 rfl) (tg_seq (si_lald dX8_work_51) (tg_seq (si_lstore (i := 6) dX8_work_52 (Nat.le_of_ble_eq_true rfl)) (tg_seq (si_lload (i := 6) dX8_work_54) (tg_seq (si_iload_n (i := 3) dX8_work_56 rfl) (tg_seq (si_iload (i := 4) dX8_work_57) (si_i2l dX8_work_59)))))))))))
theorem bX8_work_66 : tg_Snd mX8_work 66 (fun k => ti_push (.int (-14)) k) 68 := si_bipush (v := -14) dX8_work_66 (by decide)
theorem bX8_work_69 : tg_Snd mX8_work 69 (fun k => ti_aload 0 (ti_lload 6 (ti_iload 3 (ti_iload 4 (ti_i2l k))))) 76 := tg_seq (si_aload_n (i := 0) dX8_work_69 rfl) (tg_seq (si_lload (i := 6) dX8_work_70) (tg_seq (si_iload_n (i := 3) dX8_work_72 rfl) (tg_seq (si_iload (i := 4) dX8_work_73) (si_i2l dX8_work_75))))
theorem bX8_work_79 : tg_Snd mX8_work 79 (fun k => ti_putfJ 7 9 (ti_aload 0 (ti_getf 7 7 (ti_getf 2 1 (ti_iload 1 (ti_aald (ti_iload 2 (ti_aload 0 (ti_getf 7 9 (ti_last (ti_push (.int 1) k))))))))))) 98 := tg_seq (si_putfJ (ci := 7) (f := 9) (ty := .long) clX8 tyX8_ok nmX8 (Nat.le_of_ble_eq_true rfl) rfl (by decide +kernel) (fun _ _ => ⟨rfl, rfl⟩) flX8_62 dX8_work_79) (tg_seq (si_aload_n (i := 0) dX8_work_82 rfl) (tg_seq (si_getf (ci := 7) (f := 7) clX8 (Nat.le_of_ble_eq_true rfl) rfl flX8_54 dX8_work_83) (tg_seq (si_getf (ci := 2) (f := 1) clX3 (Nat.le_of_ble_eq_true rfl) rfl flX8_215 dX8_work_86) (tg_seq (si_iload_n (i := 1) dX8_work_89 rfl) (tg_seq (si_aald dX8_work_90) (tg_seq (si_iload_n (i := 2) dX8_work_91 rfl) (tg_seq (si_aload_n (i := 0) dX8_work_92 rfl) (tg_seq (si_getf (ci := 7) (f := 9) clX8 (Nat.le_of_ble_eq_true rfl) rfl flX8_62 dX8_work_93) (tg_seq (si_last dX8_work_96) (si_iconst (v := 1) dX8_work_97 (by decide)))))))))))
theorem vX8_work_1 : tg_SS0 mX8_work 1 mX3_isRow 1 := ⟨okX3_isRow, ⟨200, dX8_work_1, mlX8_200⟩, staX3_isRow, parX3_isRow, rfl, rfl, Nat.le_of_ble_eq_true rfl, Nat.le_of_ble_eq_true rfl⟩
theorem vX8_work_28 : tg_VS mX8_work 28 mX3_finds 2 := ⟨okX3_finds, ⟨211, dX8_work_28, mlX8_211⟩, insX3_finds, selX3_finds, parX3_finds, rfl, rfl, Nat.le_of_ble_eq_true rfl, Nat.le_of_ble_eq_true rfl⟩
theorem vX8_work_60 : tg_SS0 mX8_work 60 mX2_isOver 3 := ⟨okX2_isOver, ⟨219, dX8_work_60, mlX8_219⟩, staX2_isOver, parX2_isOver, rfl, rfl, Nat.le_of_ble_eq_true rfl, Nat.le_of_ble_eq_true rfl⟩
theorem vX8_work_76 : tg_SS0 mX8_work 76 mX2_result 3 := ⟨okX2_result, ⟨225, dX8_work_76, mlX8_225⟩, staX2_result, parX2_result, rfl, rfl, Nat.le_of_ble_eq_true rfl, Nat.le_of_ble_eq_true rfl⟩
theorem dX8_bits_0 : decode cX8_bits 0 = .ok (.iload_n 1, 1) := by decide +kernel
theorem dX8_bits_1 : decode cX8_bits 1 = .ok (.invokestatic 200, 3) := by decide +kernel
theorem dX8_bits_4 : decode cX8_bits 4 = .ok (.ifCond .ne 6, 3) := by decide +kernel
theorem dX8_bits_7 : decode cX8_bits 7 = .ok (.bipush (-2), 2) := by decide +kernel
theorem dX8_bits_9 : decode cX8_bits 9 = .ok (.ireturn, 1) := by decide +kernel
theorem dX8_bits_10 : decode cX8_bits 10 = .ok (.aload_n 0, 1) := by decide +kernel
theorem dX8_bits_11 : decode cX8_bits 11 = .ok (.getfield 54, 3) := by decide +kernel
theorem dX8_bits_14 : decode cX8_bits 14 = .ok (.iload_n 1, 1) := by decide +kernel
theorem dX8_bits_15 : decode cX8_bits 15 = .ok (.iload_n 2, 1) := by decide +kernel
theorem dX8_bits_16 : decode cX8_bits 16 = .ok (.invokevirtual 211, 3) := by decide +kernel
theorem dX8_bits_19 : decode cX8_bits 19 = .ok (.istore_n 3, 1) := by decide +kernel
theorem dX8_bits_20 : decode cX8_bits 20 = .ok (.iload_n 3, 1) := by decide +kernel
theorem dX8_bits_21 : decode cX8_bits 21 = .ok (.ifCond .ge 5, 3) := by decide +kernel
theorem dX8_bits_24 : decode cX8_bits 24 = .ok (.iload_n 3, 1) := by decide +kernel
theorem dX8_bits_25 : decode cX8_bits 25 = .ok (.ireturn, 1) := by decide +kernel
theorem dX8_bits_26 : decode cX8_bits 26 = .ok (.aload_n 0, 1) := by decide +kernel
theorem dX8_bits_27 : decode cX8_bits 27 = .ok (.aload_n 0, 1) := by decide +kernel
theorem dX8_bits_28 : decode cX8_bits 28 = .ok (.getfield 54, 3) := by decide +kernel
theorem dX8_bits_31 : decode cX8_bits 31 = .ok (.getfield 215, 3) := by decide +kernel
theorem dX8_bits_34 : decode cX8_bits 34 = .ok (.iload_n 1, 1) := by decide +kernel
theorem dX8_bits_35 : decode cX8_bits 35 = .ok (.aaload, 1) := by decide +kernel
theorem dX8_bits_36 : decode cX8_bits 36 = .ok (.iload_n 2, 1) := by decide +kernel
theorem dX8_bits_37 : decode cX8_bits 37 = .ok (.laload, 1) := by decide +kernel
theorem dX8_bits_38 : decode cX8_bits 38 = .ok (.invokestatic 137, 3) := by decide +kernel
theorem dX8_bits_41 : decode cX8_bits 41 = .ok (.i2l, 1) := by decide +kernel
theorem dX8_bits_42 : decode cX8_bits 42 = .ok (.putfield 62, 3) := by decide +kernel
theorem dX8_bits_45 : decode cX8_bits 45 = .ok (.iconst 1, 1) := by decide +kernel
theorem dX8_bits_46 : decode cX8_bits 46 = .ok (.ireturn, 1) := by decide +kernel
theorem bX8_bits_0 : tg_Snd mX8_bits 0 (fun k => ti_iload 1 k) 1 := si_iload_n (i := 1) dX8_bits_0 rfl
theorem bX8_bits_7 : tg_Snd mX8_bits 7 (fun k => ti_push (.int (-2)) k) 9 := si_bipush (v := -2) dX8_bits_7 (by decide)
theorem bX8_bits_10 : tg_Snd mX8_bits 10 (fun k => ti_aload 0 (ti_getf 7 7 (ti_iload 1 (ti_iload 2 k)))) 16 := tg_seq (si_aload_n (i := 0) dX8_bits_10 rfl) (tg_seq (si_getf (ci := 7) (f := 7) clX8 (Nat.le_of_ble_eq_true rfl) rfl flX8_54 dX8_bits_11) (tg_seq (si_iload_n (i := 1) dX8_bits_14 rfl) (si_iload_n (i := 2) dX8_bits_15 rfl)))
theorem bX8_bits_19 : tg_Snd mX8_bits 19 (fun k => ti_istore 3 (ti_iload 3 k)) 21 := tg_seq (si_istore_n (i := 3) dX8_bits_19 rfl (Nat.le_of_ble_eq_true rfl)) (si_iload_n (i := 3) dX8_bits_20 rfl)
theorem bX8_bits_24 : tg_Snd mX8_bits 24 (fun k => ti_iload 3 k) 25 := si_iload_n (i := 3) dX8_bits_24 rfl
theorem bX8_bits_26 : tg_Snd mX8_bits 26 (fun k => ti_aload 0 (ti_aload 0 (ti_getf 7 7 (ti_getf 2 1 (ti_iload 1 (ti_aald (ti_iload 2 (ti_lald k)))))))) 38 := tg_seq (si_aload_n (i := 0) dX8_bits_26 rfl) (tg_seq (si_aload_n (i := 0) dX8_bits_27 rfl) (tg_seq (si_getf (ci := 7) (f := 7) clX8 (Nat.le_of_ble_eq_true rfl) rfl flX8_54 dX8_bits_28) (tg_seq (si_getf (ci := 2) (f := 1) clX3 (Nat.le_of_ble_eq_true rfl) rfl flX8_215 dX8_bits_31) (tg_seq (si_iload_n (i := 1) dX8_bits_34 rfl) (tg_seq (si_aald dX8_bits_35) (tg_seq (si_iload_n (i := 2) dX8_bits_36 rfl) (si_lald dX8_bits_37)))))))
theorem bX8_bits_41 : tg_Snd mX8_bits 41 (fun k => ti_i2l (ti_putfJ 7 9 (ti_push (.int 1) k))) 46 := tg_seq (si_i2l dX8_bits_41) (tg_seq (si_putfJ (ci := 7) (f := 9) (ty := .long) clX8 tyX8_ok nmX8 (Nat.le_of_ble_eq_true rfl) rfl (by decide +kernel) (fun _ _ => ⟨rfl, rfl⟩) flX8_62 dX8_bits_42) (si_iconst (v := 1) dX8_bits_45 (by decide)))
theorem vX8_bits_1 : tg_SS0 mX8_bits 1 mX3_isRow 1 := ⟨okX3_isRow, ⟨200, dX8_bits_1, mlX8_200⟩, staX3_isRow, parX3_isRow, rfl, rfl, Nat.le_of_ble_eq_true rfl, Nat.le_of_ble_eq_true rfl⟩
theorem vX8_bits_16 : tg_VS mX8_bits 16 mX3_finds 2 := ⟨okX3_finds, ⟨211, dX8_bits_16, mlX8_211⟩, insX3_finds, selX3_finds, parX3_finds, rfl, rfl, Nat.le_of_ble_eq_true rfl, Nat.le_of_ble_eq_true rfl⟩
theorem vX8_bits_38 : tg_SS0 mX8_bits 38 mJ13_bitCount_95d88 1 := ⟨okJ13_bitCount_95d88, ⟨137, dX8_bits_38, mlX8_137⟩, staJ13_bitCount_95d88, parJ13_bitCount_95d88, rfl, rfl, Nat.le_of_ble_eq_true rfl, Nat.le_of_ble_eq_true rfl⟩
theorem dX8_sum_0 : decode cX8_sum 0 = .ok (.iload_n 1, 1) := by decide +kernel
theorem dX8_sum_1 : decode cX8_sum 1 = .ok (.invokestatic 200, 3) := by decide +kernel
theorem dX8_sum_4 : decode cX8_sum 4 = .ok (.ifCond .ne 6, 3) := by decide +kernel
theorem dX8_sum_7 : decode cX8_sum 7 = .ok (.bipush (-2), 2) := by decide +kernel
theorem dX8_sum_9 : decode cX8_sum 9 = .ok (.ireturn, 1) := by decide +kernel
theorem dX8_sum_10 : decode cX8_sum 10 = .ok (.aload_n 0, 1) := by decide +kernel
theorem dX8_sum_11 : decode cX8_sum 11 = .ok (.getfield 54, 3) := by decide +kernel
theorem dX8_sum_14 : decode cX8_sum 14 = .ok (.iload_n 1, 1) := by decide +kernel
theorem dX8_sum_15 : decode cX8_sum 15 = .ok (.invokevirtual 229, 3) := by decide +kernel
theorem dX8_sum_18 : decode cX8_sum 18 = .ok (.ifCond .eq 6, 3) := by decide +kernel
theorem dX8_sum_21 : decode cX8_sum 21 = .ok (.bipush (-11), 2) := by decide +kernel
theorem dX8_sum_23 : decode cX8_sum 23 = .ok (.ireturn, 1) := by decide +kernel
theorem dX8_sum_24 : decode cX8_sum 24 = .ok (.lconst 0, 1) := by decide +kernel
theorem dX8_sum_25 : decode cX8_sum 25 = .ok (.lstore_n 2, 1) := by decide +kernel
theorem dX8_sum_26 : decode cX8_sum 26 = .ok (.iconst 0, 1) := by decide +kernel
theorem dX8_sum_27 : decode cX8_sum 27 = .ok (.istore 4, 2) := by decide +kernel
theorem dX8_sum_29 : decode cX8_sum 29 = .ok (.iload 4, 2) := by decide +kernel
theorem dX8_sum_31 : decode cX8_sum 31 = .ok (.aload_n 0, 1) := by decide +kernel
theorem dX8_sum_32 : decode cX8_sum 32 = .ok (.getfield 54, 3) := by decide +kernel
theorem dX8_sum_35 : decode cX8_sum 35 = .ok (.getfield 232, 3) := by decide +kernel
theorem dX8_sum_38 : decode cX8_sum 38 = .ok (.iload_n 1, 1) := by decide +kernel
theorem dX8_sum_39 : decode cX8_sum 39 = .ok (.iaload, 1) := by decide +kernel
theorem dX8_sum_40 : decode cX8_sum 40 = .ok (.if_icmp .ge 41, 3) := by decide +kernel
theorem dX8_sum_43 : decode cX8_sum 43 = .ok (.aload_n 0, 1) := by decide +kernel
theorem dX8_sum_44 : decode cX8_sum 44 = .ok (.getfield 54, 3) := by decide +kernel
theorem dX8_sum_47 : decode cX8_sum 47 = .ok (.getfield 215, 3) := by decide +kernel
theorem dX8_sum_50 : decode cX8_sum 50 = .ok (.iload_n 1, 1) := by decide +kernel
theorem dX8_sum_51 : decode cX8_sum 51 = .ok (.aaload, 1) := by decide +kernel
theorem dX8_sum_52 : decode cX8_sum 52 = .ok (.iload 4, 2) := by decide +kernel
theorem dX8_sum_54 : decode cX8_sum 54 = .ok (.laload, 1) := by decide +kernel
theorem dX8_sum_55 : decode cX8_sum 55 = .ok (.lstore 5, 2) := by decide +kernel
theorem dX8_sum_57 : decode cX8_sum 57 = .ok (.lload_n 2, 1) := by decide +kernel
theorem dX8_sum_58 : decode cX8_sum 58 = .ok (.iconst 0, 1) := by decide +kernel
theorem dX8_sum_59 : decode cX8_sum 59 = .ok (.lload 5, 2) := by decide +kernel
theorem dX8_sum_61 : decode cX8_sum 61 = .ok (.invokestatic 219, 3) := by decide +kernel
theorem dX8_sum_64 : decode cX8_sum 64 = .ok (.ifCond .eq 6, 3) := by decide +kernel
theorem dX8_sum_67 : decode cX8_sum 67 = .ok (.bipush (-14), 2) := by decide +kernel
theorem dX8_sum_69 : decode cX8_sum 69 = .ok (.ireturn, 1) := by decide +kernel
theorem dX8_sum_70 : decode cX8_sum 70 = .ok (.lload_n 2, 1) := by decide +kernel
theorem dX8_sum_71 : decode cX8_sum 71 = .ok (.lload 5, 2) := by decide +kernel
theorem dX8_sum_73 : decode cX8_sum 73 = .ok (.ladd, 1) := by decide +kernel
theorem dX8_sum_74 : decode cX8_sum 74 = .ok (.lstore_n 2, 1) := by decide +kernel
theorem dX8_sum_75 : decode cX8_sum 75 = .ok (.iinc 4 1, 3) := by decide +kernel
theorem dX8_sum_78 : decode cX8_sum 78 = .ok (.goto (-49), 3) := by decide +kernel
theorem dX8_sum_81 : decode cX8_sum 81 = .ok (.aload_n 0, 1) := by decide +kernel
theorem dX8_sum_82 : decode cX8_sum 82 = .ok (.lload_n 2, 1) := by decide +kernel
theorem dX8_sum_83 : decode cX8_sum 83 = .ok (.putfield 62, 3) := by decide +kernel
theorem dX8_sum_86 : decode cX8_sum 86 = .ok (.aload_n 0, 1) := by decide +kernel
theorem dX8_sum_87 : decode cX8_sum 87 = .ok (.getfield 54, 3) := by decide +kernel
theorem dX8_sum_90 : decode cX8_sum 90 = .ok (.getfield 232, 3) := by decide +kernel
theorem dX8_sum_93 : decode cX8_sum 93 = .ok (.iload_n 1, 1) := by decide +kernel
theorem dX8_sum_94 : decode cX8_sum 94 = .ok (.iaload, 1) := by decide +kernel
theorem dX8_sum_95 : decode cX8_sum 95 = .ok (.ireturn, 1) := by decide +kernel
theorem bX8_sum_0 : tg_Snd mX8_sum 0 (fun k => ti_iload 1 k) 1 := si_iload_n (i := 1) dX8_sum_0 rfl
theorem bX8_sum_7 : tg_Snd mX8_sum 7 (fun k => ti_push (.int (-2)) k) 9 := si_bipush (v := -2) dX8_sum_7 (by decide)
theorem bX8_sum_10 : tg_Snd mX8_sum 10 (fun k => ti_aload 0 (ti_getf 7 7 (ti_iload 1 k))) 15 := tg_seq (si_aload_n (i := 0) dX8_sum_10 rfl) (tg_seq (si_getf (ci := 7) (f := 7) clX8 (Nat.le_of_ble_eq_true rfl) rfl flX8_54 dX8_sum_11) (si_iload_n (i := 1) dX8_sum_14 rfl))
theorem bX8_sum_21 : tg_Snd mX8_sum 21 (fun k => ti_push (.int (-11)) k) 23 := si_bipush (v := -11) dX8_sum_21 (by decide)
theorem bX8_sum_24 : tg_Snd mX8_sum 24 (fun k => ti_push (.long 0) (ti_lstore 2 (ti_push (.int 0) (ti_istore 4 k)))) 29 := tg_seq (si_lconst (v := 0) dX8_sum_24 (by decide)) (tg_seq (si_lstore_n (i := 2) dX8_sum_25 rfl (Nat.le_of_ble_eq_true rfl)) (tg_seq (si_iconst (v := 0) dX8_sum_26 (by decide)) (si_istore (i := 4) dX8_sum_27 (Nat.le_of_ble_eq_true rfl))))
theorem bX8_sum_29 : tg_Snd mX8_sum 29 (fun k => ti_iload 4 (ti_aload 0 (ti_getf 7 7 (ti_getf 2 0 (ti_iload 1 (ti_iald k)))))) 40 := tg_seq (si_iload (i := 4) dX8_sum_29) (tg_seq (si_aload_n (i := 0) dX8_sum_31 rfl) (tg_seq (si_getf (ci := 7) (f := 7) clX8 (Nat.le_of_ble_eq_true rfl) rfl flX8_54 dX8_sum_32) (tg_seq (si_getf (ci := 2) (f := 0) clX3 (Nat.le_of_ble_eq_true rfl) rfl flX8_232 dX8_sum_35) (tg_seq (si_iload_n (i := 1) dX8_sum_38 rfl) (si_iald dX8_sum_39)))))
theorem bX8_sum_43 : tg_Snd mX8_sum 43 (fun k => ti_aload 0 (ti_getf 7 7 (ti_getf 2 1 (ti_iload 1 (ti_aald (ti_iload 4 (ti_lald (ti_lstore 5 (ti_lload 2 (ti_push (.int 0) (ti_lload 5 k))))))))))) 61 := tg_seq (si_aload_n (i := 0) dX8_sum_43 rfl) (tg_seq (si_getf (ci := 7) (f := 7) clX8 (Nat.le_of_ble_eq_true rfl) rfl flX8_54 dX8_sum_44) (tg_seq (si_getf (ci := 2) (f := 1) clX3 (Nat.le_of_ble_eq_true rfl) rfl flX8_215 dX8_sum_47) (tg_seq (si_iload_n (i := 1) dX8_sum_50 rfl) (tg_seq (si_aald dX8_sum_51) (tg_seq (si_iload (i := 4) dX8_sum_52) (tg_seq (si_lald dX8_sum_54) (tg_seq (si_lstore (i := 5) dX8_sum_55 (Nat.le_of_ble_eq_true rfl)) (tg_seq (si_lload_n (i := 2) dX8_sum_57 rfl) (tg_seq (si_iconst (v := 0) dX8_sum_58 (by decide)) (si_lload (i := 5) dX8_sum_59))))))))))
theorem bX8_sum_67 : tg_Snd mX8_sum 67 (fun k => ti_push (.int (-14)) k) 69 := si_bipush (v := -14) dX8_sum_67 (by decide)
theorem bX8_sum_70 : tg_Snd mX8_sum 70 (fun k => ti_lload 2 (ti_lload 5 (ti_ladd (ti_lstore 2 (ti_iinc 4 1 k))))) 78 := tg_seq (si_lload_n (i := 2) dX8_sum_70 rfl) (tg_seq (si_lload (i := 5) dX8_sum_71) (tg_seq (si_ladd dX8_sum_73) (tg_seq (si_lstore_n (i := 2) dX8_sum_74 rfl (Nat.le_of_ble_eq_true rfl)) (si_iinc (v := 1) dX8_sum_75 (by decide) (Nat.le_of_ble_eq_true rfl)))))
theorem bX8_sum_81 : tg_Snd mX8_sum 81 (fun k => ti_aload 0 (ti_lload 2 (ti_putfJ 7 9 (ti_aload 0 (ti_getf 7 7 (ti_getf 2 0 (ti_iload 1 (ti_iald k)))))))) 95 := tg_seq (si_aload_n (i := 0) dX8_sum_81 rfl) (tg_seq (si_lload_n (i := 2) dX8_sum_82 rfl) (tg_seq (si_putfJ (ci := 7) (f := 9) (ty := .long) clX8 tyX8_ok nmX8 (Nat.le_of_ble_eq_true rfl) rfl (by decide +kernel) (fun _ _ => ⟨rfl, rfl⟩) flX8_62 dX8_sum_83) (tg_seq (si_aload_n (i := 0) dX8_sum_86 rfl) (tg_seq (si_getf (ci := 7) (f := 7) clX8 (Nat.le_of_ble_eq_true rfl) rfl flX8_54 dX8_sum_87) (tg_seq (si_getf (ci := 2) (f := 0) clX3 (Nat.le_of_ble_eq_true rfl) rfl flX8_232 dX8_sum_90) (tg_seq (si_iload_n (i := 1) dX8_sum_93 rfl) (si_iald dX8_sum_94)))))))
theorem vX8_sum_1 : tg_SS0 mX8_sum 1 mX3_isRow 1 := ⟨okX3_isRow, ⟨200, dX8_sum_1, mlX8_200⟩, staX3_isRow, parX3_isRow, rfl, rfl, Nat.le_of_ble_eq_true rfl, Nat.le_of_ble_eq_true rfl⟩
theorem vX8_sum_15 : tg_VS mX8_sum 15 mX3_isMissing 1 := ⟨okX3_isMissing, ⟨229, dX8_sum_15, mlX8_229⟩, insX3_isMissing, selX3_isMissing, parX3_isMissing, rfl, rfl, Nat.le_of_ble_eq_true rfl, Nat.le_of_ble_eq_true rfl⟩
theorem vX8_sum_61 : tg_SS0 mX8_sum 61 mX2_isOver 3 := ⟨okX2_isOver, ⟨219, dX8_sum_61, mlX8_219⟩, staX2_isOver, parX2_isOver, rfl, rfl, Nat.le_of_ble_eq_true rfl, Nat.le_of_ble_eq_true rfl⟩
theorem dX8_load_0 : decode cX8_load 0 = .ok (.iload_n 1, 1) := by decide +kernel
theorem dX8_load_1 : decode cX8_load 1 = .ok (.invokestatic 200, 3) := by decide +kernel
theorem dX8_load_4 : decode cX8_load 4 = .ok (.ifCond .ne 6, 3) := by decide +kernel
theorem dX8_load_7 : decode cX8_load 7 = .ok (.bipush (-2), 2) := by decide +kernel
theorem dX8_load_9 : decode cX8_load 9 = .ok (.ireturn, 1) := by decide +kernel
theorem dX8_load_10 : decode cX8_load 10 = .ok (.aload_n 0, 1) := by decide +kernel
theorem dX8_load_11 : decode cX8_load 11 = .ok (.getfield 32, 3) := by decide +kernel
theorem dX8_load_14 : decode cX8_load 14 = .ok (.iload_n 3, 1) := by decide +kernel
theorem dX8_load_15 : decode cX8_load 15 = .ok (.invokevirtual 126, 3) := by decide +kernel
theorem dX8_load_18 : decode cX8_load 18 = .ok (.ifCond .ne 6, 3) := by decide +kernel
theorem dX8_load_21 : decode cX8_load 21 = .ok (.bipush (-3), 2) := by decide +kernel
theorem dX8_load_23 : decode cX8_load 23 = .ok (.ireturn, 1) := by decide +kernel
theorem dX8_load_24 : decode cX8_load 24 = .ok (.aload_n 0, 1) := by decide +kernel
theorem dX8_load_25 : decode cX8_load 25 = .ok (.getfield 54, 3) := by decide +kernel
theorem dX8_load_28 : decode cX8_load 28 = .ok (.iload_n 1, 1) := by decide +kernel
theorem dX8_load_29 : decode cX8_load 29 = .ok (.iload_n 2, 1) := by decide +kernel
theorem dX8_load_30 : decode cX8_load 30 = .ok (.aload_n 0, 1) := by decide +kernel
theorem dX8_load_31 : decode cX8_load 31 = .ok (.getfield 32, 3) := by decide +kernel
theorem dX8_load_34 : decode cX8_load 34 = .ok (.aload_n 0, 1) := by decide +kernel
theorem dX8_load_35 : decode cX8_load 35 = .ok (.invokevirtual 129, 3) := by decide +kernel
theorem dX8_load_38 : decode cX8_load 38 = .ok (.iload_n 3, 1) := by decide +kernel
theorem dX8_load_39 : decode cX8_load 39 = .ok (.invokevirtual 133, 3) := by decide +kernel
theorem dX8_load_42 : decode cX8_load 42 = .ok (.invokevirtual 143, 3) := by decide +kernel
theorem dX8_load_45 : decode cX8_load 45 = .ok (.i2l, 1) := by decide +kernel
theorem dX8_load_46 : decode cX8_load 46 = .ok (.invokevirtual 207, 3) := by decide +kernel
theorem dX8_load_49 : decode cX8_load 49 = .ok (.ireturn, 1) := by decide +kernel
theorem bX8_load_0 : tg_Snd mX8_load 0 (fun k => ti_iload 1 k) 1 := si_iload_n (i := 1) dX8_load_0 rfl
theorem bX8_load_7 : tg_Snd mX8_load 7 (fun k => ti_push (.int (-2)) k) 9 := si_bipush (v := -2) dX8_load_7 (by decide)
theorem bX8_load_10 : tg_Snd mX8_load 10 (fun k => ti_aload 0 (ti_getf 7 3 (ti_iload 3 k))) 15 := tg_seq (si_aload_n (i := 0) dX8_load_10 rfl) (tg_seq (si_getf (ci := 7) (f := 3) clX8 (Nat.le_of_ble_eq_true rfl) rfl flX8_32 dX8_load_11) (si_iload_n (i := 3) dX8_load_14 rfl))
theorem bX8_load_21 : tg_Snd mX8_load 21 (fun k => ti_push (.int (-3)) k) 23 := si_bipush (v := -3) dX8_load_21 (by decide)
theorem bX8_load_24 : tg_Snd mX8_load 24 (fun k => ti_aload 0 (ti_getf 7 7 (ti_iload 1 (ti_iload 2 (ti_aload 0 (ti_getf 7 3 (ti_aload 0 k))))))) 35 := tg_seq (si_aload_n (i := 0) dX8_load_24 rfl) (tg_seq (si_getf (ci := 7) (f := 7) clX8 (Nat.le_of_ble_eq_true rfl) rfl flX8_54 dX8_load_25) (tg_seq (si_iload_n (i := 1) dX8_load_28 rfl) (tg_seq (si_iload_n (i := 2) dX8_load_29 rfl) (tg_seq (si_aload_n (i := 0) dX8_load_30 rfl) (tg_seq (si_getf (ci := 7) (f := 3) clX8 (Nat.le_of_ble_eq_true rfl) rfl flX8_32 dX8_load_31) (si_aload_n (i := 0) dX8_load_34 rfl))))))
theorem bX8_load_38 : tg_Snd mX8_load 38 (fun k => ti_iload 3 k) 39 := si_iload_n (i := 3) dX8_load_38 rfl
theorem bX8_load_45 : tg_Snd mX8_load 45 (fun k => ti_i2l k) 46 := si_i2l dX8_load_45
theorem vX8_load_1 : tg_SS0 mX8_load 1 mX3_isRow 1 := ⟨okX3_isRow, ⟨200, dX8_load_1, mlX8_200⟩, staX3_isRow, parX3_isRow, rfl, rfl, Nat.le_of_ble_eq_true rfl, Nat.le_of_ble_eq_true rfl⟩
theorem vX8_load_15 : tg_VS mX8_load 15 mX6_isCellCode 1 := ⟨okX6_isCellCode, ⟨126, dX8_load_15, mlX8_126⟩, insX6_isCellCode, selX6_isCellCode, parX6_isCellCode, rfl, rfl, Nat.le_of_ble_eq_true rfl, Nat.le_of_ble_eq_true rfl⟩
theorem vX8_load_35 : tg_VS mX8_load 35 mX8_freshCells 0 := ⟨okX8_freshCells, ⟨129, dX8_load_35, mlX8_129⟩, insX8_freshCells, selX8_freshCells, parX8_freshCells, rfl, rfl, Nat.le_of_ble_eq_true rfl, Nat.le_of_ble_eq_true rfl⟩
theorem vX8_load_39 : tg_VS mX8_load 39 mX0_coverOf 1 := ⟨okX0_coverOf, ⟨133, dX8_load_39, mlX8_133⟩, insX0_coverOf, selX0_coverOf, parX0_coverOf, rfl, rfl, Nat.le_of_ble_eq_true rfl, Nat.le_of_ble_eq_true rfl⟩
theorem vX8_load_42 : tg_VS mX8_load 42 mX6_sumOf 1 := ⟨okX6_sumOf, ⟨143, dX8_load_42, mlX8_143⟩, insX6_sumOf, selX6_sumOf, parX6_sumOf, rfl, rfl, Nat.le_of_ble_eq_true rfl, Nat.le_of_ble_eq_true rfl⟩
theorem vX8_load_46 : tg_VS mX8_load 46 mX3_put 3 := ⟨okX3_put, ⟨207, dX8_load_46, mlX8_207⟩, insX3_put, selX3_put, parX3_put, rfl, rfl, Nat.le_of_ble_eq_true rfl, Nat.le_of_ble_eq_true rfl⟩
theorem dX8_drop_0 : decode cX8_drop 0 = .ok (.iload_n 1, 1) := by decide +kernel
theorem dX8_drop_1 : decode cX8_drop 1 = .ok (.invokestatic 200, 3) := by decide +kernel
theorem dX8_drop_4 : decode cX8_drop 4 = .ok (.ifCond .ne 6, 3) := by decide +kernel
theorem dX8_drop_7 : decode cX8_drop 7 = .ok (.bipush (-2), 2) := by decide +kernel
theorem dX8_drop_9 : decode cX8_drop 9 = .ok (.ireturn, 1) := by decide +kernel
theorem dX8_drop_10 : decode cX8_drop 10 = .ok (.aload_n 0, 1) := by decide +kernel
theorem dX8_drop_11 : decode cX8_drop 11 = .ok (.getfield 54, 3) := by decide +kernel
theorem dX8_drop_14 : decode cX8_drop 14 = .ok (.iload_n 1, 1) := by decide +kernel
theorem dX8_drop_15 : decode cX8_drop 15 = .ok (.invokevirtual 229, 3) := by decide +kernel
theorem dX8_drop_18 : decode cX8_drop 18 = .ok (.ifCond .eq 6, 3) := by decide +kernel
theorem dX8_drop_21 : decode cX8_drop 21 = .ok (.bipush (-11), 2) := by decide +kernel
theorem dX8_drop_23 : decode cX8_drop 23 = .ok (.ireturn, 1) := by decide +kernel
theorem dX8_drop_24 : decode cX8_drop 24 = .ok (.aload_n 0, 1) := by decide +kernel
theorem dX8_drop_25 : decode cX8_drop 25 = .ok (.getfield 54, 3) := by decide +kernel
theorem dX8_drop_28 : decode cX8_drop 28 = .ok (.getfield 232, 3) := by decide +kernel
theorem dX8_drop_31 : decode cX8_drop 31 = .ok (.iload_n 1, 1) := by decide +kernel
theorem dX8_drop_32 : decode cX8_drop 32 = .ok (.iaload, 1) := by decide +kernel
theorem dX8_drop_33 : decode cX8_drop 33 = .ok (.istore_n 2, 1) := by decide +kernel
theorem dX8_drop_34 : decode cX8_drop 34 = .ok (.aload_n 0, 1) := by decide +kernel
theorem dX8_drop_35 : decode cX8_drop 35 = .ok (.getfield 54, 3) := by decide +kernel
theorem dX8_drop_38 : decode cX8_drop 38 = .ok (.getfield 232, 3) := by decide +kernel
theorem dX8_drop_41 : decode cX8_drop 41 = .ok (.iload_n 1, 1) := by decide +kernel
theorem dX8_drop_42 : decode cX8_drop 42 = .ok (.iconst (-1), 1) := by decide +kernel
theorem dX8_drop_43 : decode cX8_drop 43 = .ok (.iastore, 1) := by decide +kernel
theorem dX8_drop_44 : decode cX8_drop 44 = .ok (.iload_n 2, 1) := by decide +kernel
theorem dX8_drop_45 : decode cX8_drop 45 = .ok (.ireturn, 1) := by decide +kernel
theorem bX8_drop_0 : tg_Snd mX8_drop 0 (fun k => ti_iload 1 k) 1 := si_iload_n (i := 1) dX8_drop_0 rfl
theorem bX8_drop_7 : tg_Snd mX8_drop 7 (fun k => ti_push (.int (-2)) k) 9 := si_bipush (v := -2) dX8_drop_7 (by decide)
theorem bX8_drop_10 : tg_Snd mX8_drop 10 (fun k => ti_aload 0 (ti_getf 7 7 (ti_iload 1 k))) 15 := tg_seq (si_aload_n (i := 0) dX8_drop_10 rfl) (tg_seq (si_getf (ci := 7) (f := 7) clX8 (Nat.le_of_ble_eq_true rfl) rfl flX8_54 dX8_drop_11) (si_iload_n (i := 1) dX8_drop_14 rfl))
theorem bX8_drop_21 : tg_Snd mX8_drop 21 (fun k => ti_push (.int (-11)) k) 23 := si_bipush (v := -11) dX8_drop_21 (by decide)
theorem bX8_drop_24 : tg_Snd mX8_drop 24 (fun k => ti_aload 0 (ti_getf 7 7 (ti_getf 2 0 (ti_iload 1 (ti_iald (ti_istore 2 (ti_aload 0 (ti_getf 7 7 (ti_getf 2 0 (ti_iload 1 (ti_push (.int (-1)) (ti_iast (ti_iload 2 k))))))))))))) 45 := tg_seq (si_aload_n (i := 0) dX8_drop_24 rfl) (tg_seq (si_getf (ci := 7) (f := 7) clX8 (Nat.le_of_ble_eq_true rfl) rfl flX8_54 dX8_drop_25) (tg_seq (si_getf (ci := 2) (f := 0) clX3 (Nat.le_of_ble_eq_true rfl) rfl flX8_232 dX8_drop_28) (tg_seq (si_iload_n (i := 1) dX8_drop_31 rfl) (tg_seq (si_iald dX8_drop_32) (tg_seq (si_istore_n (i := 2) dX8_drop_33 rfl (Nat.le_of_ble_eq_true rfl)) (tg_seq (si_aload_n (i := 0) dX8_drop_34 rfl) (tg_seq (si_getf (ci := 7) (f := 7) clX8 (Nat.le_of_ble_eq_true rfl) rfl flX8_54 dX8_drop_35) (tg_seq (si_getf (ci := 2) (f := 0) clX3 (Nat.le_of_ble_eq_true rfl) rfl flX8_232 dX8_drop_38) (tg_seq (si_iload_n (i := 1) dX8_drop_41 rfl) (tg_seq (si_iconst (v := -1) dX8_drop_42 (by decide)) (tg_seq (si_iast dX8_drop_43) (si_iload_n (i := 2) dX8_drop_44 rfl))))))))))))
theorem vX8_drop_1 : tg_SS0 mX8_drop 1 mX3_isRow 1 := ⟨okX3_isRow, ⟨200, dX8_drop_1, mlX8_200⟩, staX3_isRow, parX3_isRow, rfl, rfl, Nat.le_of_ble_eq_true rfl, Nat.le_of_ble_eq_true rfl⟩
theorem vX8_drop_15 : tg_VS mX8_drop 15 mX3_isMissing 1 := ⟨okX3_isMissing, ⟨229, dX8_drop_15, mlX8_229⟩, insX3_isMissing, selX3_isMissing, parX3_isMissing, rfl, rfl, Nat.le_of_ble_eq_true rfl, Nat.le_of_ble_eq_true rfl⟩
theorem dX8_asked_0 : decode cX8_asked 0 = .ok (.aload_n 0, 1) := by decide +kernel
theorem dX8_asked_1 : decode cX8_asked 1 = .ok (.getfield 62, 3) := by decide +kernel
theorem dX8_asked_4 : decode cX8_asked 4 = .ok (.lreturn, 1) := by decide +kernel
theorem bX8_asked_0 : tg_Snd mX8_asked 0 (fun k => ti_aload 0 (ti_getf 7 9 k)) 4 := tg_seq (si_aload_n (i := 0) dX8_asked_0 rfl) (si_getf (ci := 7) (f := 9) clX8 (Nat.le_of_ble_eq_true rfl) rfl flX8_62 dX8_asked_1)
theorem dX8_count_0 : decode cX8_count 0 = .ok (.iload_n 1, 1) := by decide +kernel
theorem dX8_count_1 : decode cX8_count 1 = .ok (.tableswitch 137 0 8 #[51, 59, 67, 75, 90, 105, 113, 121, 129], 51) := by decide +kernel
theorem dX8_count_52 : decode cX8_count 52 = .ok (.aload_n 0, 1) := by decide +kernel
theorem dX8_count_53 : decode cX8_count 53 = .ok (.getfield 32, 3) := by decide +kernel
theorem dX8_count_56 : decode cX8_count 56 = .ok (.getfield 159, 3) := by decide +kernel
theorem dX8_count_59 : decode cX8_count 59 = .ok (.ireturn, 1) := by decide +kernel
theorem dX8_count_60 : decode cX8_count 60 = .ok (.aload_n 0, 1) := by decide +kernel
theorem dX8_count_61 : decode cX8_count 61 = .ok (.getfield 32, 3) := by decide +kernel
theorem dX8_count_64 : decode cX8_count 64 = .ok (.getfield 97, 3) := by decide +kernel
theorem dX8_count_67 : decode cX8_count 67 = .ok (.ireturn, 1) := by decide +kernel
theorem dX8_count_68 : decode cX8_count 68 = .ok (.aload_n 0, 1) := by decide +kernel
theorem dX8_count_69 : decode cX8_count 69 = .ok (.getfield 32, 3) := by decide +kernel
theorem dX8_count_72 : decode cX8_count 72 = .ok (.getfield 120, 3) := by decide +kernel
theorem dX8_count_75 : decode cX8_count 75 = .ok (.ireturn, 1) := by decide +kernel
theorem dX8_count_76 : decode cX8_count 76 = .ok (.aload_n 0, 1) := by decide +kernel
theorem dX8_count_77 : decode cX8_count 77 = .ok (.invokevirtual 129, 3) := by decide +kernel
theorem dX8_count_80 : decode cX8_count 80 = .ok (.aload_n 0, 1) := by decide +kernel
theorem dX8_count_81 : decode cX8_count 81 = .ok (.getfield 32, 3) := by decide +kernel
theorem dX8_count_84 : decode cX8_count 84 = .ok (.getfield 120, 3) := by decide +kernel
theorem dX8_count_87 : decode cX8_count 87 = .ok (.invokevirtual 185, 3) := by decide +kernel
theorem dX8_count_90 : decode cX8_count 90 = .ok (.ireturn, 1) := by decide +kernel
theorem dX8_count_91 : decode cX8_count 91 = .ok (.aload_n 0, 1) := by decide +kernel
theorem dX8_count_92 : decode cX8_count 92 = .ok (.invokevirtual 129, 3) := by decide +kernel
theorem dX8_count_95 : decode cX8_count 95 = .ok (.aload_n 0, 1) := by decide +kernel
theorem dX8_count_96 : decode cX8_count 96 = .ok (.getfield 32, 3) := by decide +kernel
theorem dX8_count_99 : decode cX8_count 99 = .ok (.getfield 120, 3) := by decide +kernel
theorem dX8_count_102 : decode cX8_count 102 = .ok (.invokevirtual 235, 3) := by decide +kernel
theorem dX8_count_105 : decode cX8_count 105 = .ok (.ireturn, 1) := by decide +kernel
theorem dX8_count_106 : decode cX8_count 106 = .ok (.aload_n 0, 1) := by decide +kernel
theorem dX8_count_107 : decode cX8_count 107 = .ok (.getfield 32, 3) := by decide +kernel
theorem dX8_count_110 : decode cX8_count 110 = .ok (.invokevirtual 238, 3) := by decide +kernel
theorem dX8_count_113 : decode cX8_count 113 = .ok (.ireturn, 1) := by decide +kernel
theorem dX8_count_114 : decode cX8_count 114 = .ok (.aload_n 0, 1) := by decide +kernel
theorem dX8_count_115 : decode cX8_count 115 = .ok (.getfield 54, 3) := by decide +kernel
theorem dX8_count_118 : decode cX8_count 118 = .ok (.invokevirtual 241, 3) := by decide +kernel
theorem dX8_count_121 : decode cX8_count 121 = .ok (.ireturn, 1) := by decide +kernel
theorem dX8_count_122 : decode cX8_count 122 = .ok (.aload_n 0, 1) := by decide +kernel
theorem dX8_count_123 : decode cX8_count 123 = .ok (.getfield 36, 3) := by decide +kernel
theorem dX8_count_126 : decode cX8_count 126 = .ok (.getfield 87, 3) := by decide +kernel
theorem dX8_count_129 : decode cX8_count 129 = .ok (.ireturn, 1) := by decide +kernel
theorem dX8_count_130 : decode cX8_count 130 = .ok (.aload_n 0, 1) := by decide +kernel
theorem dX8_count_131 : decode cX8_count 131 = .ok (.getfield 20, 3) := by decide +kernel
theorem dX8_count_134 : decode cX8_count 134 = .ok (.getfield 72, 3) := by decide +kernel
theorem dX8_count_137 : decode cX8_count 137 = .ok (.ireturn, 1) := by decide +kernel
theorem dX8_count_138 : decode cX8_count 138 = .ok (.bipush (-3), 2) := by decide +kernel
theorem dX8_count_140 : decode cX8_count 140 = .ok (.ireturn, 1) := by decide +kernel
theorem bX8_count_0 : tg_Snd mX8_count 0 (fun k => ti_iload 1 k) 1 := si_iload_n (i := 1) dX8_count_0 rfl
theorem bX8_count_52 : tg_Snd mX8_count 52 (fun k => ti_aload 0 (ti_getf 7 3 (ti_getf 5 0 k))) 59 := tg_seq (si_aload_n (i := 0) dX8_count_52 rfl) (tg_seq (si_getf (ci := 7) (f := 3) clX8 (Nat.le_of_ble_eq_true rfl) rfl flX8_32 dX8_count_53) (si_getf (ci := 5) (f := 0) clX6 (Nat.le_of_ble_eq_true rfl) rfl flX8_159 dX8_count_56))
theorem bX8_count_60 : tg_Snd mX8_count 60 (fun k => ti_aload 0 (ti_getf 7 3 (ti_getf 5 2 k))) 67 := tg_seq (si_aload_n (i := 0) dX8_count_60 rfl) (tg_seq (si_getf (ci := 7) (f := 3) clX8 (Nat.le_of_ble_eq_true rfl) rfl flX8_32 dX8_count_61) (si_getf (ci := 5) (f := 2) clX6 (Nat.le_of_ble_eq_true rfl) rfl flX8_97 dX8_count_64))
theorem bX8_count_68 : tg_Snd mX8_count 68 (fun k => ti_aload 0 (ti_getf 7 3 (ti_getf 5 5 k))) 75 := tg_seq (si_aload_n (i := 0) dX8_count_68 rfl) (tg_seq (si_getf (ci := 7) (f := 3) clX8 (Nat.le_of_ble_eq_true rfl) rfl flX8_32 dX8_count_69) (si_getf (ci := 5) (f := 5) clX6 (Nat.le_of_ble_eq_true rfl) rfl flX8_120 dX8_count_72))
theorem bX8_count_76 : tg_Snd mX8_count 76 (fun k => ti_aload 0 k) 77 := si_aload_n (i := 0) dX8_count_76 rfl
theorem bX8_count_80 : tg_Snd mX8_count 80 (fun k => ti_aload 0 (ti_getf 7 3 (ti_getf 5 5 k))) 87 := tg_seq (si_aload_n (i := 0) dX8_count_80 rfl) (tg_seq (si_getf (ci := 7) (f := 3) clX8 (Nat.le_of_ble_eq_true rfl) rfl flX8_32 dX8_count_81) (si_getf (ci := 5) (f := 5) clX6 (Nat.le_of_ble_eq_true rfl) rfl flX8_120 dX8_count_84))
theorem bX8_count_91 : tg_Snd mX8_count 91 (fun k => ti_aload 0 k) 92 := si_aload_n (i := 0) dX8_count_91 rfl
theorem bX8_count_95 : tg_Snd mX8_count 95 (fun k => ti_aload 0 (ti_getf 7 3 (ti_getf 5 5 k))) 102 := tg_seq (si_aload_n (i := 0) dX8_count_95 rfl) (tg_seq (si_getf (ci := 7) (f := 3) clX8 (Nat.le_of_ble_eq_true rfl) rfl flX8_32 dX8_count_96) (si_getf (ci := 5) (f := 5) clX6 (Nat.le_of_ble_eq_true rfl) rfl flX8_120 dX8_count_99))
theorem bX8_count_106 : tg_Snd mX8_count 106 (fun k => ti_aload 0 (ti_getf 7 3 k)) 110 := tg_seq (si_aload_n (i := 0) dX8_count_106 rfl) (si_getf (ci := 7) (f := 3) clX8 (Nat.le_of_ble_eq_true rfl) rfl flX8_32 dX8_count_107)
theorem bX8_count_114 : tg_Snd mX8_count 114 (fun k => ti_aload 0 (ti_getf 7 7 k)) 118 := tg_seq (si_aload_n (i := 0) dX8_count_114 rfl) (si_getf (ci := 7) (f := 7) clX8 (Nat.le_of_ble_eq_true rfl) rfl flX8_54 dX8_count_115)
theorem bX8_count_122 : tg_Snd mX8_count 122 (fun k => ti_aload 0 (ti_getf 7 4 (ti_getf 4 0 k))) 129 := tg_seq (si_aload_n (i := 0) dX8_count_122 rfl) (tg_seq (si_getf (ci := 7) (f := 4) clX8 (Nat.le_of_ble_eq_true rfl) rfl flX8_36 dX8_count_123) (si_getf (ci := 4) (f := 0) clX5 (Nat.le_of_ble_eq_true rfl) rfl flX8_87 dX8_count_126))
theorem bX8_count_130 : tg_Snd mX8_count 130 (fun k => ti_aload 0 (ti_getf 7 1 (ti_getf 6 1 k))) 137 := tg_seq (si_aload_n (i := 0) dX8_count_130 rfl) (tg_seq (si_getf (ci := 7) (f := 1) clX8 (Nat.le_of_ble_eq_true rfl) rfl flX8_20 dX8_count_131) (si_getf (ci := 6) (f := 1) clX7 (Nat.le_of_ble_eq_true rfl) rfl flX8_72 dX8_count_134))
theorem bX8_count_138 : tg_Snd mX8_count 138 (fun k => ti_push (.int (-3)) k) 140 := si_bipush (v := -3) dX8_count_138 (by decide)
theorem vX8_count_77 : tg_VS mX8_count 77 mX8_freshCells 0 := ⟨okX8_freshCells, ⟨129, dX8_count_77, mlX8_129⟩, insX8_freshCells, selX8_freshCells, parX8_freshCells, rfl, rfl, Nat.le_of_ble_eq_true rfl, Nat.le_of_ble_eq_true rfl⟩
theorem vX8_count_87 : tg_VS mX8_count 87 mX0_cubeSize 1 := ⟨okX0_cubeSize, ⟨185, dX8_count_87, mlX8_185⟩, insX0_cubeSize, selX0_cubeSize, parX0_cubeSize, rfl, rfl, Nat.le_of_ble_eq_true rfl, Nat.le_of_ble_eq_true rfl⟩
theorem vX8_count_92 : tg_VS mX8_count 92 mX8_freshCells 0 := ⟨okX8_freshCells, ⟨129, dX8_count_92, mlX8_129⟩, insX8_freshCells, selX8_freshCells, parX8_freshCells, rfl, rfl, Nat.le_of_ble_eq_true rfl, Nat.le_of_ble_eq_true rfl⟩
theorem vX8_count_102 : tg_VS mX8_count 102 mX0_cellsWith 1 := ⟨okX0_cellsWith, ⟨235, dX8_count_102, mlX8_235⟩, insX0_cellsWith, selX0_cellsWith, parX0_cellsWith, rfl, rfl, Nat.le_of_ble_eq_true rfl, Nat.le_of_ble_eq_true rfl⟩
theorem vX8_count_110 : tg_VS mX8_count 110 mX6_valueFigures 0 := ⟨okX6_valueFigures, ⟨238, dX8_count_110, mlX8_238⟩, insX6_valueFigures, selX6_valueFigures, parX6_valueFigures, rfl, rfl, Nat.le_of_ble_eq_true rfl, Nat.le_of_ble_eq_true rfl⟩
theorem vX8_count_118 : tg_VS mX8_count 118 mX3_placesInAll 0 := ⟨okX3_placesInAll, ⟨241, dX8_count_118, mlX8_241⟩, insX3_placesInAll, selX3_placesInAll, parX3_placesInAll, rfl, rfl, Nat.le_of_ble_eq_true rfl, Nat.le_of_ble_eq_true rfl⟩
theorem dX8_freshCells_0 : decode cX8_freshCells 0 = .ok (.aload_n 0, 1) := by decide +kernel
theorem dX8_freshCells_1 : decode cX8_freshCells 1 = .ok (.getfield 58, 3) := by decide +kernel
theorem dX8_freshCells_4 : decode cX8_freshCells 4 = .ok (.ifCond .eq 15, 3) := by decide +kernel
theorem dX8_freshCells_7 : decode cX8_freshCells 7 = .ok (.aload_n 0, 1) := by decide +kernel
theorem dX8_freshCells_8 : decode cX8_freshCells 8 = .ok (.getfield 24, 3) := by decide +kernel
theorem dX8_freshCells_11 : decode cX8_freshCells 11 = .ok (.invokevirtual 244, 3) := by decide +kernel
theorem dX8_freshCells_14 : decode cX8_freshCells 14 = .ok (.aload_n 0, 1) := by decide +kernel
theorem dX8_freshCells_15 : decode cX8_freshCells 15 = .ok (.iconst 0, 1) := by decide +kernel
theorem dX8_freshCells_16 : decode cX8_freshCells 16 = .ok (.putfield 58, 3) := by decide +kernel
theorem dX8_freshCells_19 : decode cX8_freshCells 19 = .ok (.aload_n 0, 1) := by decide +kernel
theorem dX8_freshCells_20 : decode cX8_freshCells 20 = .ok (.getfield 24, 3) := by decide +kernel
theorem dX8_freshCells_23 : decode cX8_freshCells 23 = .ok (.areturn, 1) := by decide +kernel
theorem bX8_freshCells_0 : tg_Snd mX8_freshCells 0 (fun k => ti_aload 0 (ti_getf 7 8 k)) 4 := tg_seq (si_aload_n (i := 0) dX8_freshCells_0 rfl) (si_getf (ci := 7) (f := 8) clX8 (Nat.le_of_ble_eq_true rfl) rfl flX8_58 dX8_freshCells_1)
theorem bX8_freshCells_7 : tg_Snd mX8_freshCells 7 (fun k => ti_aload 0 (ti_getf 7 2 k)) 11 := tg_seq (si_aload_n (i := 0) dX8_freshCells_7 rfl) (si_getf (ci := 7) (f := 2) clX8 (Nat.le_of_ble_eq_true rfl) rfl flX8_24 dX8_freshCells_8)
theorem bX8_freshCells_14 : tg_Snd mX8_freshCells 14 (fun k => ti_aload 0 (ti_push (.int 0) (ti_putfZ 7 8 k))) 19 := tg_seq (si_aload_n (i := 0) dX8_freshCells_14 rfl) (tg_seq (si_iconst (v := 0) dX8_freshCells_15 (by decide)) (si_putfZ (ci := 7) (f := 8) (ty := .boolean) clX8 tyX8_ok nmX8 (Nat.le_of_ble_eq_true rfl) rfl (by decide +kernel) (fun x ad h => by rcases h with rfl | rfl <;> exact ⟨rfl, rfl⟩) flX8_58 dX8_freshCells_16))
theorem bX8_freshCells_19 : tg_Snd mX8_freshCells 19 (fun k => ti_aload 0 (ti_getf 7 2 k)) 23 := tg_seq (si_aload_n (i := 0) dX8_freshCells_19 rfl) (si_getf (ci := 7) (f := 2) clX8 (Nat.le_of_ble_eq_true rfl) rfl flX8_24 dX8_freshCells_20)
theorem vX8_freshCells_11 : tg_VS mX8_freshCells 11 mX0_list 0 := ⟨okX0_list, ⟨244, dX8_freshCells_11, mlX8_244⟩, insX0_list, selX0_list, parX0_list, rfl, rfl, Nat.le_of_ble_eq_true rfl, Nat.le_of_ble_eq_true rfl⟩
