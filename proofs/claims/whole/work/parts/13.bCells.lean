theorem dX0_list_0 : decode cX0_list 0 = .ok (.aload_n 0, 1) := by decide +kernel
theorem dX0_list_1 : decode cX0_list 1 = .ok (.invokevirtual 55, 3) := by decide +kernel
theorem dX0_list_4 : decode cX0_list 4 = .ok (.aload_n 0, 1) := by decide +kernel
theorem dX0_list_5 : decode cX0_list 5 = .ok (.iconst 0, 1) := by decide +kernel
theorem dX0_list_6 : decode cX0_list 6 = .ok (.putfield 58, 3) := by decide +kernel
theorem dX0_list_9 : decode cX0_list 9 = .ok (.aload_n 0, 1) := by decide +kernel
theorem dX0_list_10 : decode cX0_list 10 = .ok (.getfield 12, 3) := by decide +kernel
theorem dX0_list_13 : decode cX0_list 13 = .ok (.getfield 62, 3) := by decide +kernel
theorem dX0_list_16 : decode cX0_list 16 = .ok (.ifCond .le 32, 3) := by decide +kernel
theorem dX0_list_19 : decode cX0_list 19 = .ok (.aload_n 0, 1) := by decide +kernel
theorem dX0_list_20 : decode cX0_list 20 = .ok (.getfield 29, 3) := by decide +kernel
theorem dX0_list_23 : decode cX0_list 23 = .ok (.iconst 0, 1) := by decide +kernel
theorem dX0_list_24 : decode cX0_list 24 = .ok (.iconst 0, 1) := by decide +kernel
theorem dX0_list_25 : decode cX0_list 25 = .ok (.iastore, 1) := by decide +kernel
theorem dX0_list_26 : decode cX0_list 26 = .ok (.aload_n 0, 1) := by decide +kernel
theorem dX0_list_27 : decode cX0_list 27 = .ok (.getfield 33, 3) := by decide +kernel
theorem dX0_list_30 : decode cX0_list 30 = .ok (.iconst 0, 1) := by decide +kernel
theorem dX0_list_31 : decode cX0_list 31 = .ok (.lconst 1, 1) := by decide +kernel
theorem dX0_list_32 : decode cX0_list 32 = .ok (.aload_n 0, 1) := by decide +kernel
theorem dX0_list_33 : decode cX0_list 33 = .ok (.getfield 12, 3) := by decide +kernel
theorem dX0_list_36 : decode cX0_list 36 = .ok (.getfield 62, 3) := by decide +kernel
theorem dX0_list_39 : decode cX0_list 39 = .ok (.lshl, 1) := by decide +kernel
theorem dX0_list_40 : decode cX0_list 40 = .ok (.lconst 1, 1) := by decide +kernel
theorem dX0_list_41 : decode cX0_list 41 = .ok (.lsub, 1) := by decide +kernel
theorem dX0_list_42 : decode cX0_list 42 = .ok (.lastore, 1) := by decide +kernel
theorem dX0_list_43 : decode cX0_list 43 = .ok (.aload_n 0, 1) := by decide +kernel
theorem dX0_list_44 : decode cX0_list 44 = .ok (.iconst 1, 1) := by decide +kernel
theorem dX0_list_45 : decode cX0_list 45 = .ok (.putfield 58, 3) := by decide +kernel
theorem dX0_list_48 : decode cX0_list 48 = .ok (.iconst 0, 1) := by decide +kernel
theorem dX0_list_49 : decode cX0_list 49 = .ok (.istore_n 1, 1) := by decide +kernel
theorem dX0_list_50 : decode cX0_list 50 = .ok (.iload_n 1, 1) := by decide +kernel
theorem dX0_list_51 : decode cX0_list 51 = .ok (.aload_n 0, 1) := by decide +kernel
theorem dX0_list_52 : decode cX0_list 52 = .ok (.getfield 12, 3) := by decide +kernel
theorem dX0_list_55 : decode cX0_list 55 = .ok (.getfield 63, 3) := by decide +kernel
theorem dX0_list_58 : decode cX0_list 58 = .ok (.if_icmp .ge 14, 3) := by decide +kernel
theorem dX0_list_61 : decode cX0_list 61 = .ok (.aload_n 0, 1) := by decide +kernel
theorem dX0_list_62 : decode cX0_list 62 = .ok (.iload_n 1, 1) := by decide +kernel
theorem dX0_list_63 : decode cX0_list 63 = .ok (.invokevirtual 66, 3) := by decide +kernel
theorem dX0_list_66 : decode cX0_list 66 = .ok (.iinc 1 1, 3) := by decide +kernel
theorem dX0_list_69 : decode cX0_list 69 = .ok (.goto (-19), 3) := by decide +kernel
theorem dX0_list_72 : decode cX0_list 72 = .ok (.aload_n 0, 1) := by decide +kernel
theorem dX0_list_73 : decode cX0_list 73 = .ok (.invokevirtual 70, 3) := by decide +kernel
theorem dX0_list_76 : decode cX0_list 76 = .ok (.return_, 1) := by decide +kernel
theorem bX0_list_0 : tg_Snd mX0_list 0 (fun k => ti_aload 0 k) 1 := si_aload_n (i := 0) dX0_list_0 rfl
theorem bX0_list_4 : tg_Snd mX0_list 4 (fun k => ti_aload 0 (ti_push (.int 0) (ti_putfI 0 3 (ti_aload 0 (ti_getf 0 0 (ti_getf 5 2 k)))))) 16 := tg_seq (si_aload_n (i := 0) dX0_list_4 rfl) (tg_seq (si_iconst (v := 0) dX0_list_5 (by decide)) (tg_seq (si_putfI (ci := 0) (f := 3) (ty := .int) clX0 tyX0_ok nmX0 (Nat.le_of_ble_eq_true rfl) rfl (by decide +kernel) (fun _ _ => ⟨rfl, rfl⟩) flX0_58 dX0_list_6) (tg_seq (si_aload_n (i := 0) dX0_list_9 rfl) (tg_seq (si_getf (ci := 0) (f := 0) clX0 (Nat.le_of_ble_eq_true rfl) rfl flX0_12 dX0_list_10) (si_getf (ci := 5) (f := 2) clX6 (Nat.le_of_ble_eq_true rfl) rfl flX0_62 dX0_list_13)))))
theorem bX0_list_19 : tg_Snd mX0_list 19 (fun k => ti_aload 0 (ti_getf 0 4 (ti_push (.int 0) (ti_push (.int 0) (ti_iast (ti_aload 0 (ti_getf 0 5 (ti_push (.int 0) (ti_push (.long 1) (ti_aload 0 (ti_getf 0 0 (ti_getf 5 2 (ti_lshl (ti_push (.long 1) (ti_lsub (ti_last (ti_aload 0 (ti_push (.int 1) (ti_putfI 0 3 k))))))))))))))))))) 48 := tg_seq (si_aload_n (i := 0) dX0_list_19 rfl) (tg_seq (si_getf (ci := 0) (f := 4) clX0 (Nat.le_of_ble_eq_true rfl) rfl flX0_29 dX0_list_20) (tg_seq (si_iconst (v := 0) dX0_list_23 (by decide)) (tg_seq (si_iconst (v := 0) dX0_list_24 (by decide)) (tg_seq (si_iast dX0_list_25) (tg_seq (si_aload_n (i := 0) dX0_list_26 rfl) (tg_seq (si_getf (ci := 0) (f := 5) clX0 (Nat.le_of_ble_eq_true rfl) rfl flX0_33 dX0_list_27) (tg_seq (si_iconst (v := 0) dX0_list_30 (by decide)) (tg_seq (si_lconst (v := 1) dX0_list_31 (by decide)) (tg_seq (si_aload_n (i := 0) dX0_list_32 rfl) (tg_seq (si_getf (ci := 0) (f := 0) clX0 (Nat.le_of_ble_eq_true rfl) rfl flX0_12 dX0_list_33) (tg_seq (si_getf (ci := 5) (f := 2) clX6 (Nat.le_of_ble_eq_true rfl) rfl flX0_62 dX0_list_36) (tg_seq (si_lshl dX0_list_39) (tg_seq (si_lconst (v := 1) dX0_list_40 (by decide)) (tg_seq (si_lsub dX0_list_41) (tg_seq (si_last dX0_list_42) (tg_seq (si_aload_n (i := 0) dX0_list_43 rfl) (tg_seq (si_iconst (v := 1) dX0_list_44 (by decide)) (si_putfI (ci := 0) (f := 3) (ty := .int) clX0 tyX0_ok nmX0 (Nat.le_of_ble_eq_true rfl) rfl (by decide +kernel) (fun _ _ => ⟨rfl, rfl⟩) flX0_58 dX0_list_45))))))))))))))))))
theorem bX0_list_48 : tg_Snd mX0_list 48 (fun k => ti_push (.int 0) (ti_istore 1 k)) 50 := tg_seq (si_iconst (v := 0) dX0_list_48 (by decide)) (si_istore_n (i := 1) dX0_list_49 rfl (Nat.le_of_ble_eq_true rfl))
theorem bX0_list_50 : tg_Snd mX0_list 50 (fun k => ti_iload 1 (ti_aload 0 (ti_getf 0 0 (ti_getf 5 0 k)))) 58 := tg_seq (si_iload_n (i := 1) dX0_list_50 rfl) (tg_seq (si_aload_n (i := 0) dX0_list_51 rfl) (tg_seq (si_getf (ci := 0) (f := 0) clX0 (Nat.le_of_ble_eq_true rfl) rfl flX0_12 dX0_list_52) (si_getf (ci := 5) (f := 0) clX6 (Nat.le_of_ble_eq_true rfl) rfl flX0_63 dX0_list_55)))
theorem bX0_list_61 : tg_Snd mX0_list 61 (fun k => ti_aload 0 (ti_iload 1 k)) 63 := tg_seq (si_aload_n (i := 0) dX0_list_61 rfl) (si_iload_n (i := 1) dX0_list_62 rfl)
theorem bX0_list_66 : tg_Snd mX0_list 66 (fun k => ti_iinc 1 1 k) 69 := si_iinc (v := 1) dX0_list_66 (by decide) (Nat.le_of_ble_eq_true rfl)
theorem bX0_list_72 : tg_Snd mX0_list 72 (fun k => ti_aload 0 k) 73 := si_aload_n (i := 0) dX0_list_72 rfl
theorem vX0_list_1 : tg_VS mX0_list 1 mX0_findHaving 0 := ⟨okX0_findHaving, ⟨55, dX0_list_1, mlX0_55⟩, insX0_findHaving, selX0_findHaving, parX0_findHaving, rfl, rfl, Nat.le_of_ble_eq_true rfl, Nat.le_of_ble_eq_true rfl⟩
theorem vX0_list_63 : tg_VS mX0_list 63 mX0_spreadBy 1 := ⟨okX0_spreadBy, ⟨66, dX0_list_63, mlX0_66⟩, insX0_spreadBy, selX0_spreadBy, parX0_spreadBy, rfl, rfl, Nat.le_of_ble_eq_true rfl, Nat.le_of_ble_eq_true rfl⟩
theorem vX0_list_73 : tg_VS mX0_list 73 mX0_tally 0 := ⟨okX0_tally, ⟨70, dX0_list_73, mlX0_70⟩, insX0_tally, selX0_tally, parX0_tally, rfl, rfl, Nat.le_of_ble_eq_true rfl, Nat.le_of_ble_eq_true rfl⟩
theorem dX0_findHaving_0 : decode cX0_findHaving 0 = .ok (.iconst 0, 1) := by decide +kernel
theorem dX0_findHaving_1 : decode cX0_findHaving 1 = .ok (.istore_n 1, 1) := by decide +kernel
theorem dX0_findHaving_2 : decode cX0_findHaving 2 = .ok (.iload_n 1, 1) := by decide +kernel
theorem dX0_findHaving_3 : decode cX0_findHaving 3 = .ok (.bipush 24, 2) := by decide +kernel
theorem dX0_findHaving_5 : decode cX0_findHaving 5 = .ok (.if_icmp .ge 16, 3) := by decide +kernel
theorem dX0_findHaving_8 : decode cX0_findHaving 8 = .ok (.aload_n 0, 1) := by decide +kernel
theorem dX0_findHaving_9 : decode cX0_findHaving 9 = .ok (.getfield 25, 3) := by decide +kernel
theorem dX0_findHaving_12 : decode cX0_findHaving 12 = .ok (.iload_n 1, 1) := by decide +kernel
theorem dX0_findHaving_13 : decode cX0_findHaving 13 = .ok (.lconst 0, 1) := by decide +kernel
theorem dX0_findHaving_14 : decode cX0_findHaving 14 = .ok (.lastore, 1) := by decide +kernel
theorem dX0_findHaving_15 : decode cX0_findHaving 15 = .ok (.iinc 1 1, 3) := by decide +kernel
theorem dX0_findHaving_18 : decode cX0_findHaving 18 = .ok (.goto (-16), 3) := by decide +kernel
theorem dX0_findHaving_21 : decode cX0_findHaving 21 = .ok (.iconst 0, 1) := by decide +kernel
theorem dX0_findHaving_22 : decode cX0_findHaving 22 = .ok (.istore_n 1, 1) := by decide +kernel
theorem dX0_findHaving_23 : decode cX0_findHaving 23 = .ok (.iload_n 1, 1) := by decide +kernel
theorem dX0_findHaving_24 : decode cX0_findHaving 24 = .ok (.aload_n 0, 1) := by decide +kernel
theorem dX0_findHaving_25 : decode cX0_findHaving 25 = .ok (.getfield 12, 3) := by decide +kernel
theorem dX0_findHaving_28 : decode cX0_findHaving 28 = .ok (.getfield 62, 3) := by decide +kernel
theorem dX0_findHaving_31 : decode cX0_findHaving 31 = .ok (.if_icmp .ge 75, 3) := by decide +kernel
theorem dX0_findHaving_34 : decode cX0_findHaving 34 = .ok (.aload_n 0, 1) := by decide +kernel
theorem dX0_findHaving_35 : decode cX0_findHaving 35 = .ok (.getfield 12, 3) := by decide +kernel
theorem dX0_findHaving_38 : decode cX0_findHaving 38 = .ok (.getfield 73, 3) := by decide +kernel
theorem dX0_findHaving_41 : decode cX0_findHaving 41 = .ok (.iload_n 1, 1) := by decide +kernel
theorem dX0_findHaving_42 : decode cX0_findHaving 42 = .ok (.iaload, 1) := by decide +kernel
theorem dX0_findHaving_43 : decode cX0_findHaving 43 = .ok (.istore_n 2, 1) := by decide +kernel
theorem dX0_findHaving_44 : decode cX0_findHaving 44 = .ok (.aload_n 0, 1) := by decide +kernel
theorem dX0_findHaving_45 : decode cX0_findHaving 45 = .ok (.getfield 12, 3) := by decide +kernel
theorem dX0_findHaving_48 : decode cX0_findHaving 48 = .ok (.getfield 63, 3) := by decide +kernel
theorem dX0_findHaving_51 : decode cX0_findHaving 51 = .ok (.iconst 1, 1) := by decide +kernel
theorem dX0_findHaving_52 : decode cX0_findHaving 52 = .ok (.isub, 1) := by decide +kernel
theorem dX0_findHaving_53 : decode cX0_findHaving 53 = .ok (.istore_n 3, 1) := by decide +kernel
theorem dX0_findHaving_54 : decode cX0_findHaving 54 = .ok (.iload_n 3, 1) := by decide +kernel
theorem dX0_findHaving_55 : decode cX0_findHaving 55 = .ok (.ifCond .lt 45, 3) := by decide +kernel
theorem dX0_findHaving_58 : decode cX0_findHaving 58 = .ok (.iload_n 2, 1) := by decide +kernel
theorem dX0_findHaving_59 : decode cX0_findHaving 59 = .ok (.bipush 7, 2) := by decide +kernel
theorem dX0_findHaving_61 : decode cX0_findHaving 61 = .ok (.irem, 1) := by decide +kernel
theorem dX0_findHaving_62 : decode cX0_findHaving 62 = .ok (.istore 4, 2) := by decide +kernel
theorem dX0_findHaving_64 : decode cX0_findHaving 64 = .ok (.iload 4, 2) := by decide +kernel
theorem dX0_findHaving_66 : decode cX0_findHaving 66 = .ok (.ifCond .le 23, 3) := by decide +kernel
theorem dX0_findHaving_69 : decode cX0_findHaving 69 = .ok (.aload_n 0, 1) := by decide +kernel
theorem dX0_findHaving_70 : decode cX0_findHaving 70 = .ok (.getfield 25, 3) := by decide +kernel
theorem dX0_findHaving_73 : decode cX0_findHaving 73 = .ok (.iload_n 3, 1) := by decide +kernel
theorem dX0_findHaving_74 : decode cX0_findHaving 74 = .ok (.bipush 6, 2) := by decide +kernel
theorem dX0_findHaving_76 : decode cX0_findHaving 76 = .ok (.imul, 1) := by decide +kernel
theorem dX0_findHaving_77 : decode cX0_findHaving 77 = .ok (.iload 4, 2) := by decide +kernel
theorem dX0_findHaving_79 : decode cX0_findHaving 79 = .ok (.iadd, 1) := by decide +kernel
theorem dX0_findHaving_80 : decode cX0_findHaving 80 = .ok (.iconst 1, 1) := by decide +kernel
theorem dX0_findHaving_81 : decode cX0_findHaving 81 = .ok (.isub, 1) := by decide +kernel
theorem dX0_findHaving_82 : decode cX0_findHaving 82 = .ok (.dup2, 1) := by decide +kernel
theorem dX0_findHaving_83 : decode cX0_findHaving 83 = .ok (.laload, 1) := by decide +kernel
theorem dX0_findHaving_84 : decode cX0_findHaving 84 = .ok (.lconst 1, 1) := by decide +kernel
theorem dX0_findHaving_85 : decode cX0_findHaving 85 = .ok (.iload_n 1, 1) := by decide +kernel
theorem dX0_findHaving_86 : decode cX0_findHaving 86 = .ok (.lshl, 1) := by decide +kernel
theorem dX0_findHaving_87 : decode cX0_findHaving 87 = .ok (.lor, 1) := by decide +kernel
theorem dX0_findHaving_88 : decode cX0_findHaving 88 = .ok (.lastore, 1) := by decide +kernel
theorem dX0_findHaving_89 : decode cX0_findHaving 89 = .ok (.iload_n 2, 1) := by decide +kernel
theorem dX0_findHaving_90 : decode cX0_findHaving 90 = .ok (.bipush 7, 2) := by decide +kernel
theorem dX0_findHaving_92 : decode cX0_findHaving 92 = .ok (.idiv, 1) := by decide +kernel
theorem dX0_findHaving_93 : decode cX0_findHaving 93 = .ok (.istore_n 2, 1) := by decide +kernel
theorem dX0_findHaving_94 : decode cX0_findHaving 94 = .ok (.iinc 3 (-1), 3) := by decide +kernel
theorem dX0_findHaving_97 : decode cX0_findHaving 97 = .ok (.goto (-43), 3) := by decide +kernel
theorem dX0_findHaving_100 : decode cX0_findHaving 100 = .ok (.iinc 1 1, 3) := by decide +kernel
theorem dX0_findHaving_103 : decode cX0_findHaving 103 = .ok (.goto (-80), 3) := by decide +kernel
theorem dX0_findHaving_106 : decode cX0_findHaving 106 = .ok (.return_, 1) := by decide +kernel
theorem bX0_findHaving_0 : tg_Snd mX0_findHaving 0 (fun k => ti_push (.int 0) (ti_istore 1 k)) 2 := tg_seq (si_iconst (v := 0) dX0_findHaving_0 (by decide)) (si_istore_n (i := 1) dX0_findHaving_1 rfl (Nat.le_of_ble_eq_true rfl))
theorem bX0_findHaving_2 : tg_Snd mX0_findHaving 2 (fun k => ti_iload 1 (ti_push (.int 24) k)) 5 := tg_seq (si_iload_n (i := 1) dX0_findHaving_2 rfl) (si_bipush (v := 24) dX0_findHaving_3 (by decide))
theorem bX0_findHaving_8 : tg_Snd mX0_findHaving 8 (fun k => ti_aload 0 (ti_getf 0 2 (ti_iload 1 (ti_push (.long 0) (ti_last (ti_iinc 1 1 k)))))) 18 := tg_seq (si_aload_n (i := 0) dX0_findHaving_8 rfl) (tg_seq (si_getf (ci := 0) (f := 2) clX0 (Nat.le_of_ble_eq_true rfl) rfl flX0_25 dX0_findHaving_9) (tg_seq (si_iload_n (i := 1) dX0_findHaving_12 rfl) (tg_seq (si_lconst (v := 0) dX0_findHaving_13 (by decide)) (tg_seq (si_last dX0_findHaving_14) (si_iinc (v := 1) dX0_findHaving_15 (by decide) (Nat.le_of_ble_eq_true rfl))))))
theorem bX0_findHaving_21 : tg_Snd mX0_findHaving 21 (fun k => ti_push (.int 0) (ti_istore 1 k)) 23 := tg_seq (si_iconst (v := 0) dX0_findHaving_21 (by decide)) (si_istore_n (i := 1) dX0_findHaving_22 rfl (Nat.le_of_ble_eq_true rfl))
theorem bX0_findHaving_23 : tg_Snd mX0_findHaving 23 (fun k => ti_iload 1 (ti_aload 0 (ti_getf 0 0 (ti_getf 5 2 k)))) 31 := tg_seq (si_iload_n (i := 1) dX0_findHaving_23 rfl) (tg_seq (si_aload_n (i := 0) dX0_findHaving_24 rfl) (tg_seq (si_getf (ci := 0) (f := 0) clX0 (Nat.le_of_ble_eq_true rfl) rfl flX0_12 dX0_findHaving_25) (si_getf (ci := 5) (f := 2) clX6 (Nat.le_of_ble_eq_true rfl) rfl flX0_62 dX0_findHaving_28)))
theorem bX0_findHaving_34 : tg_Snd mX0_findHaving 34 (fun k => ti_aload 0 (ti_getf 0 0 (ti_getf 5 3 (ti_iload 1 (ti_iald (ti_istore 2 (ti_aload 0 (ti_getf 0 0 (ti_getf 5 0 (ti_push (.int 1) (ti_isub (ti_istore 3 k)))))))))))) 54 := tg_seq (si_aload_n (i := 0) dX0_findHaving_34 rfl) (tg_seq (si_getf (ci := 0) (f := 0) clX0 (Nat.le_of_ble_eq_true rfl) rfl flX0_12 dX0_findHaving_35) (tg_seq (si_getf (ci := 5) (f := 3) clX6 (Nat.le_of_ble_eq_true rfl) rfl flX0_73 dX0_findHaving_38) (tg_seq (si_iload_n (i := 1) dX0_findHaving_41 rfl) (tg_seq (si_iald dX0_findHaving_42) (tg_seq (si_istore_n (i := 2) dX0_findHaving_43 rfl (Nat.le_of_ble_eq_true rfl)) (tg_seq (si_aload_n (i := 0) dX0_findHaving_44 rfl) (tg_seq (si_getf (ci := 0) (f := 0) clX0 (Nat.le_of_ble_eq_true rfl) rfl flX0_12 dX0_findHaving_45) (tg_seq (si_getf (ci := 5) (f := 0) clX6 (Nat.le_of_ble_eq_true rfl) rfl flX0_63 dX0_findHaving_48) (tg_seq (si_iconst (v := 1) dX0_findHaving_51 (by decide)) (tg_seq (si_isub dX0_findHaving_52) (si_istore_n (i := 3) dX0_findHaving_53 rfl (Nat.le_of_ble_eq_true rfl))))))))))))
theorem bX0_findHaving_54 : tg_Snd mX0_findHaving 54 (fun k => ti_iload 3 k) 55 := si_iload_n (i := 3) dX0_findHaving_54 rfl
theorem bX0_findHaving_58 : tg_Snd mX0_findHaving 58 (fun k => ti_iload 2 (ti_push (.int 7) (ti_irem (ti_istore 4 (ti_iload 4 k))))) 66 := tg_seq (si_iload_n (i := 2) dX0_findHaving_58 rfl) (tg_seq (si_bipush (v := 7) dX0_findHaving_59 (by decide)) (tg_seq (si_irem dX0_findHaving_61) (tg_seq (si_istore (i := 4) dX0_findHaving_62 (Nat.le_of_ble_eq_true rfl)) (si_iload (i := 4) dX0_findHaving_64))))
theorem bX0_findHaving_69 : tg_Snd mX0_findHaving 69 (fun k => ti_aload 0 (ti_getf 0 2 (ti_iload 3 (ti_push (.int 6) (ti_imul (ti_iload 4 (ti_iadd (ti_push (.int 1) (ti_isub (ti_dup2 (ti_lald (ti_push (.long 1) (ti_iload 1 (ti_lshl (ti_lor (ti_last k)))))))))))))))) 89 := tg_seq (si_aload_n (i := 0) dX0_findHaving_69 rfl) (tg_seq (si_getf (ci := 0) (f := 2) clX0 (Nat.le_of_ble_eq_true rfl) rfl flX0_25 dX0_findHaving_70) (tg_seq (si_iload_n (i := 3) dX0_findHaving_73 rfl) (tg_seq (si_bipush (v := 6) dX0_findHaving_74 (by decide)) (tg_seq (si_imul dX0_findHaving_76) (tg_seq (si_iload (i := 4) dX0_findHaving_77) (tg_seq (si_iadd dX0_findHaving_79) (tg_seq (si_iconst (v := 1) dX0_findHaving_80 (by decide)) (tg_seq (si_isub dX0_findHaving_81) (tg_seq (si_dup2 dX0_findHaving_82) (tg_seq (si_lald dX0_findHaving_83) (tg_seq (si_lconst (v := 1) dX0_findHaving_84 (by decide)) (tg_seq (si_iload_n (i := 1) dX0_findHaving_85 rfl) (tg_seq (si_lshl dX0_findHaving_86) (tg_seq (si_lor dX0_findHaving_87) (si_last dX0_findHaving_88)))))))))))))))
theorem bX0_findHaving_89 : tg_Snd mX0_findHaving 89 (fun k => ti_iload 2 (ti_push (.int 7) (ti_idiv (ti_istore 2 (ti_iinc 3 (-1) k))))) 97 := tg_seq (si_iload_n (i := 2) dX0_findHaving_89 rfl) (tg_seq (si_bipush (v := 7) dX0_findHaving_90 (by decide)) (tg_seq (si_idiv dX0_findHaving_92) (tg_seq (si_istore_n (i := 2) dX0_findHaving_93 rfl (Nat.le_of_ble_eq_true rfl)) (si_iinc (v := -1) dX0_findHaving_94 (by decide) (Nat.le_of_ble_eq_true rfl)))))
theorem bX0_findHaving_100 : tg_Snd mX0_findHaving 100 (fun k => ti_iinc 1 1 k) 103 := si_iinc (v := 1) dX0_findHaving_100 (by decide) (Nat.le_of_ble_eq_true rfl)
theorem dX0_spreadBy_0 : decode cX0_spreadBy 0 = .ok (.iconst 0, 1) := by decide +kernel
theorem dX0_spreadBy_1 : decode cX0_spreadBy 1 = .ok (.istore_n 2, 1) := by decide +kernel
theorem dX0_spreadBy_2 : decode cX0_spreadBy 2 = .ok (.iconst 0, 1) := by decide +kernel
theorem dX0_spreadBy_3 : decode cX0_spreadBy 3 = .ok (.istore_n 3, 1) := by decide +kernel
theorem dX0_spreadBy_4 : decode cX0_spreadBy 4 = .ok (.iload_n 3, 1) := by decide +kernel
theorem dX0_spreadBy_5 : decode cX0_spreadBy 5 = .ok (.aload_n 0, 1) := by decide +kernel
theorem dX0_spreadBy_6 : decode cX0_spreadBy 6 = .ok (.getfield 58, 3) := by decide +kernel
theorem dX0_spreadBy_9 : decode cX0_spreadBy 9 = .ok (.if_icmp .ge 105, 3) := by decide +kernel
theorem dX0_spreadBy_12 : decode cX0_spreadBy 12 = .ok (.iconst 0, 1) := by decide +kernel
theorem dX0_spreadBy_13 : decode cX0_spreadBy 13 = .ok (.istore 4, 2) := by decide +kernel
theorem dX0_spreadBy_15 : decode cX0_spreadBy 15 = .ok (.iload 4, 2) := by decide +kernel
theorem dX0_spreadBy_17 : decode cX0_spreadBy 17 = .ok (.aload_n 0, 1) := by decide +kernel
theorem dX0_spreadBy_18 : decode cX0_spreadBy 18 = .ok (.getfield 12, 3) := by decide +kernel
theorem dX0_spreadBy_21 : decode cX0_spreadBy 21 = .ok (.getfield 74, 3) := by decide +kernel
theorem dX0_spreadBy_24 : decode cX0_spreadBy 24 = .ok (.iload_n 1, 1) := by decide +kernel
theorem dX0_spreadBy_25 : decode cX0_spreadBy 25 = .ok (.iaload, 1) := by decide +kernel
theorem dX0_spreadBy_26 : decode cX0_spreadBy 26 = .ok (.if_icmp .gt 82, 3) := by decide +kernel
theorem dX0_spreadBy_29 : decode cX0_spreadBy 29 = .ok (.iload 4, 2) := by decide +kernel
theorem dX0_spreadBy_31 : decode cX0_spreadBy 31 = .ok (.ifCond .ne 12, 3) := by decide +kernel
theorem dX0_spreadBy_34 : decode cX0_spreadBy 34 = .ok (.aload_n 0, 1) := by decide +kernel
theorem dX0_spreadBy_35 : decode cX0_spreadBy 35 = .ok (.getfield 33, 3) := by decide +kernel
theorem dX0_spreadBy_38 : decode cX0_spreadBy 38 = .ok (.iload_n 3, 1) := by decide +kernel
theorem dX0_spreadBy_39 : decode cX0_spreadBy 39 = .ok (.laload, 1) := by decide +kernel
theorem dX0_spreadBy_40 : decode cX0_spreadBy 40 = .ok (.goto 17, 3) := by decide +kernel
theorem dX0_spreadBy_43 : decode cX0_spreadBy 43 = .ok (.aload_n 0, 1) := by decide +kernel
theorem dX0_spreadBy_44 : decode cX0_spreadBy 44 = .ok (.getfield 33, 3) := by decide +kernel
theorem dX0_spreadBy_47 : decode cX0_spreadBy 47 = .ok (.iload_n 3, 1) := by decide +kernel
theorem dX0_spreadBy_48 : decode cX0_spreadBy 48 = .ok (.laload, 1) := by decide +kernel
theorem dX0_spreadBy_49 : decode cX0_spreadBy 49 = .ok (.aload_n 0, 1) := by decide +kernel
theorem dX0_spreadBy_50 : decode cX0_spreadBy 50 = .ok (.iload_n 1, 1) := by decide +kernel
theorem dX0_spreadBy_51 : decode cX0_spreadBy 51 = .ok (.iload 4, 2) := by decide +kernel
theorem dX0_spreadBy_53 : decode cX0_spreadBy 53 = .ok (.invokevirtual 77, 3) := by decide +kernel
theorem dX0_spreadBy_56 : decode cX0_spreadBy 56 = .ok (.land, 1) := by decide +kernel
theorem dX0_spreadBy_57 : decode cX0_spreadBy 57 = .ok (.lstore 5, 2) := by decide +kernel
theorem dX0_spreadBy_59 : decode cX0_spreadBy 59 = .ok (.lload 5, 2) := by decide +kernel
theorem dX0_spreadBy_61 : decode cX0_spreadBy 61 = .ok (.lconst 0, 1) := by decide +kernel
theorem dX0_spreadBy_62 : decode cX0_spreadBy 62 = .ok (.lcmp, 1) := by decide +kernel
theorem dX0_spreadBy_63 : decode cX0_spreadBy 63 = .ok (.ifCond .eq 39, 3) := by decide +kernel
theorem dX0_spreadBy_66 : decode cX0_spreadBy 66 = .ok (.iload_n 2, 1) := by decide +kernel
theorem dX0_spreadBy_67 : decode cX0_spreadBy 67 = .ok (.sipush 640, 3) := by decide +kernel
theorem dX0_spreadBy_70 : decode cX0_spreadBy 70 = .ok (.if_icmp .ge 32, 3) := by decide +kernel
theorem dX0_spreadBy_73 : decode cX0_spreadBy 73 = .ok (.aload_n 0, 1) := by decide +kernel
theorem dX0_spreadBy_74 : decode cX0_spreadBy 74 = .ok (.getfield 36, 3) := by decide +kernel
theorem dX0_spreadBy_77 : decode cX0_spreadBy 77 = .ok (.iload_n 2, 1) := by decide +kernel
theorem dX0_spreadBy_78 : decode cX0_spreadBy 78 = .ok (.aload_n 0, 1) := by decide +kernel
theorem dX0_spreadBy_79 : decode cX0_spreadBy 79 = .ok (.getfield 29, 3) := by decide +kernel
theorem dX0_spreadBy_82 : decode cX0_spreadBy 82 = .ok (.iload_n 3, 1) := by decide +kernel
theorem dX0_spreadBy_83 : decode cX0_spreadBy 83 = .ok (.iaload, 1) := by decide +kernel
theorem dX0_spreadBy_84 : decode cX0_spreadBy 84 = .ok (.bipush 7, 2) := by decide +kernel
theorem dX0_spreadBy_86 : decode cX0_spreadBy 86 = .ok (.imul, 1) := by decide +kernel
theorem dX0_spreadBy_87 : decode cX0_spreadBy 87 = .ok (.iload 4, 2) := by decide +kernel
theorem dX0_spreadBy_89 : decode cX0_spreadBy 89 = .ok (.iadd, 1) := by decide +kernel
theorem dX0_spreadBy_90 : decode cX0_spreadBy 90 = .ok (.iastore, 1) := by decide +kernel
theorem dX0_spreadBy_91 : decode cX0_spreadBy 91 = .ok (.aload_n 0, 1) := by decide +kernel
theorem dX0_spreadBy_92 : decode cX0_spreadBy 92 = .ok (.getfield 39, 3) := by decide +kernel
theorem dX0_spreadBy_95 : decode cX0_spreadBy 95 = .ok (.iload_n 2, 1) := by decide +kernel
theorem dX0_spreadBy_96 : decode cX0_spreadBy 96 = .ok (.lload 5, 2) := by decide +kernel
theorem dX0_spreadBy_98 : decode cX0_spreadBy 98 = .ok (.lastore, 1) := by decide +kernel
theorem dX0_spreadBy_99 : decode cX0_spreadBy 99 = .ok (.iinc 2 1, 3) := by decide +kernel
theorem dX0_spreadBy_102 : decode cX0_spreadBy 102 = .ok (.iinc 4 1, 3) := by decide +kernel
theorem dX0_spreadBy_105 : decode cX0_spreadBy 105 = .ok (.goto (-90), 3) := by decide +kernel
theorem dX0_spreadBy_108 : decode cX0_spreadBy 108 = .ok (.iinc 3 1, 3) := by decide +kernel
theorem dX0_spreadBy_111 : decode cX0_spreadBy 111 = .ok (.goto (-107), 3) := by decide +kernel
theorem dX0_spreadBy_114 : decode cX0_spreadBy 114 = .ok (.aload_n 0, 1) := by decide +kernel
theorem dX0_spreadBy_115 : decode cX0_spreadBy 115 = .ok (.getfield 29, 3) := by decide +kernel
theorem dX0_spreadBy_118 : decode cX0_spreadBy 118 = .ok (.astore_n 3, 1) := by decide +kernel
theorem dX0_spreadBy_119 : decode cX0_spreadBy 119 = .ok (.aload_n 0, 1) := by decide +kernel
theorem dX0_spreadBy_120 : decode cX0_spreadBy 120 = .ok (.aload_n 0, 1) := by decide +kernel
theorem dX0_spreadBy_121 : decode cX0_spreadBy 121 = .ok (.getfield 36, 3) := by decide +kernel
theorem dX0_spreadBy_124 : decode cX0_spreadBy 124 = .ok (.putfield 29, 3) := by decide +kernel
theorem dX0_spreadBy_127 : decode cX0_spreadBy 127 = .ok (.aload_n 0, 1) := by decide +kernel
theorem dX0_spreadBy_128 : decode cX0_spreadBy 128 = .ok (.aload_n 3, 1) := by decide +kernel
theorem dX0_spreadBy_129 : decode cX0_spreadBy 129 = .ok (.putfield 36, 3) := by decide +kernel
theorem dX0_spreadBy_132 : decode cX0_spreadBy 132 = .ok (.aload_n 0, 1) := by decide +kernel
theorem dX0_spreadBy_133 : decode cX0_spreadBy 133 = .ok (.getfield 33, 3) := by decide +kernel
theorem dX0_spreadBy_136 : decode cX0_spreadBy 136 = .ok (.astore 4, 2) := by decide +kernel
theorem dX0_spreadBy_138 : decode cX0_spreadBy 138 = .ok (.aload_n 0, 1) := by decide +kernel
theorem dX0_spreadBy_139 : decode cX0_spreadBy 139 = .ok (.aload_n 0, 1) := by decide +kernel
theorem dX0_spreadBy_140 : decode cX0_spreadBy 140 = .ok (.getfield 39, 3) := by decide +kernel
theorem dX0_spreadBy_143 : decode cX0_spreadBy 143 = .ok (.putfield 33, 3) := by decide +kernel
theorem dX0_spreadBy_146 : decode cX0_spreadBy 146 = .ok (.aload_n 0, 1) := by decide +kernel
theorem dX0_spreadBy_147 : decode cX0_spreadBy 147 = .ok (.aload 4, 2) := by decide +kernel
theorem dX0_spreadBy_149 : decode cX0_spreadBy 149 = .ok (.putfield 39, 3) := by decide +kernel
theorem dX0_spreadBy_152 : decode cX0_spreadBy 152 = .ok (.aload_n 0, 1) := by decide +kernel
theorem dX0_spreadBy_153 : decode cX0_spreadBy 153 = .ok (.iload_n 2, 1) := by decide +kernel
theorem dX0_spreadBy_154 : decode cX0_spreadBy 154 = .ok (.putfield 58, 3) := by decide +kernel
theorem dX0_spreadBy_157 : decode cX0_spreadBy 157 = .ok (.return_, 1) := by decide +kernel
theorem bX0_spreadBy_0 : tg_Snd mX0_spreadBy 0 (fun k => ti_push (.int 0) (ti_istore 2 (ti_push (.int 0) (ti_istore 3 k)))) 4 := tg_seq (si_iconst (v := 0) dX0_spreadBy_0 (by decide)) (tg_seq (si_istore_n (i := 2) dX0_spreadBy_1 rfl (Nat.le_of_ble_eq_true rfl)) (tg_seq (si_iconst (v := 0) dX0_spreadBy_2 (by decide)) (si_istore_n (i := 3) dX0_spreadBy_3 rfl (Nat.le_of_ble_eq_true rfl))))
theorem bX0_spreadBy_4 : tg_Snd mX0_spreadBy 4 (fun k => ti_iload 3 (ti_aload 0 (ti_getf 0 3 k))) 9 := tg_seq (si_iload_n (i := 3) dX0_spreadBy_4 rfl) (tg_seq (si_aload_n (i := 0) dX0_spreadBy_5 rfl) (si_getf (ci := 0) (f := 3) clX0 (Nat.le_of_ble_eq_true rfl) rfl flX0_58 dX0_spreadBy_6))
theorem bX0_spreadBy_12 : tg_Snd mX0_spreadBy 12 (fun k => ti_push (.int 0) (ti_istore 4 k)) 15 := tg_seq (si_iconst (v := 0) dX0_spreadBy_12 (by decide)) (si_istore (i := 4) dX0_spreadBy_13 (Nat.le_of_ble_eq_true rfl))
theorem bX0_spreadBy_15 : tg_Snd mX0_spreadBy 15 (fun k => ti_iload 4 (ti_aload 0 (ti_getf 0 0 (ti_getf 5 1 (ti_iload 1 (ti_iald k)))))) 26 := tg_seq (si_iload (i := 4) dX0_spreadBy_15) (tg_seq (si_aload_n (i := 0) dX0_spreadBy_17 rfl) (tg_seq (si_getf (ci := 0) (f := 0) clX0 (Nat.le_of_ble_eq_true rfl) rfl flX0_12 dX0_spreadBy_18) (tg_seq (si_getf (ci := 5) (f := 1) clX6 (Nat.le_of_ble_eq_true rfl) rfl flX0_74 dX0_spreadBy_21) (tg_seq (si_iload_n (i := 1) dX0_spreadBy_24 rfl) (si_iald dX0_spreadBy_25)))))
theorem bX0_spreadBy_29 : tg_Snd mX0_spreadBy 29 (fun k => ti_iload 4 k) 31 := si_iload (i := 4) dX0_spreadBy_29
theorem bX0_spreadBy_34 : tg_Snd mX0_spreadBy 34 (fun k => ti_aload 0 (ti_getf 0 5 (ti_iload 3 (ti_lald k)))) 40 := tg_seq (si_aload_n (i := 0) dX0_spreadBy_34 rfl) (tg_seq (si_getf (ci := 0) (f := 5) clX0 (Nat.le_of_ble_eq_true rfl) rfl flX0_33 dX0_spreadBy_35) (tg_seq (si_iload_n (i := 3) dX0_spreadBy_38 rfl) (si_lald dX0_spreadBy_39)))
theorem bX0_spreadBy_43 : tg_Snd mX0_spreadBy 43 (fun k => ti_aload 0 (ti_getf 0 5 (ti_iload 3 (ti_lald (ti_aload 0 (ti_iload 1 (ti_iload 4 k))))))) 53 := tg_seq (si_aload_n (i := 0) dX0_spreadBy_43 rfl) (tg_seq (si_getf (ci := 0) (f := 5) clX0 (Nat.le_of_ble_eq_true rfl) rfl flX0_33 dX0_spreadBy_44) (tg_seq (si_iload_n (i := 3) dX0_spreadBy_47 rfl) (tg_seq (si_lald dX0_spreadBy_48) (tg_seq (si_aload_n (i := 0) dX0_spreadBy_49 rfl) (tg_seq (si_iload_n (i := 1) dX0_spreadBy_50 rfl) (si_iload (i := 4) dX0_spreadBy_51))))))
theorem bX0_spreadBy_56 : tg_Snd mX0_spreadBy 56 (fun k => ti_land k) 57 := si_land dX0_spreadBy_56
theorem bX0_spreadBy_57 : tg_Snd mX0_spreadBy 57 (fun k => ti_lstore 5 (ti_lload 5 (ti_push (.long 0) (ti_lcmp k)))) 63 := tg_seq (si_lstore (i := 5) dX0_spreadBy_57 (Nat.le_of_ble_eq_true rfl)) (tg_seq (si_lload (i := 5) dX0_spreadBy_59) (tg_seq (si_lconst (v := 0) dX0_spreadBy_61 (by decide)) (si_lcmp dX0_spreadBy_62)))
theorem bX0_spreadBy_66 : tg_Snd mX0_spreadBy 66 (fun k => ti_iload 2 (ti_push (.int 640) k)) 70 := tg_seq (si_iload_n (i := 2) dX0_spreadBy_66 rfl) (si_sipush (v := 640) dX0_spreadBy_67 (by decide))
theorem bX0_spreadBy_73 : tg_Snd mX0_spreadBy 73 (fun k => ti_aload 0 (ti_getf 0 6 (ti_iload 2 (ti_aload 0 (ti_getf 0 4 (ti_iload 3 (ti_iald (ti_push (.int 7) (ti_imul (ti_iload 4 (ti_iadd (ti_iast (ti_aload 0 (ti_getf 0 7 (ti_iload 2 (ti_lload 5 (ti_last (ti_iinc 2 1 k)))))))))))))))))) 102 := tg_seq (si_aload_n (i := 0) dX0_spreadBy_73 rfl) (tg_seq (si_getf (ci := 0) (f := 6) clX0 (Nat.le_of_ble_eq_true rfl) rfl flX0_36 dX0_spreadBy_74) (tg_seq (si_iload_n (i := 2) dX0_spreadBy_77 rfl) (tg_seq (si_aload_n (i := 0) dX0_spreadBy_78 rfl) (tg_seq (si_getf (ci := 0) (f := 4) clX0 (Nat.le_of_ble_eq_true rfl) rfl flX0_29 dX0_spreadBy_79) (tg_seq (si_iload_n (i := 3) dX0_spreadBy_82 rfl) (tg_seq (si_iald dX0_spreadBy_83) (tg_seq (si_bipush (v := 7) dX0_spreadBy_84 (by decide)) (tg_seq (si_imul dX0_spreadBy_86) (tg_seq (si_iload (i := 4) dX0_spreadBy_87) (tg_seq (si_iadd dX0_spreadBy_89) (tg_seq (si_iast dX0_spreadBy_90) (tg_seq (si_aload_n (i := 0) dX0_spreadBy_91 rfl) (tg_seq (si_getf (ci := 0) (f := 7) clX0 (Nat.le_of_ble_eq_true rfl) rfl flX0_39 dX0_spreadBy_92) (tg_seq (si_iload_n (i := 2) dX0_spreadBy_95 rfl) (tg_seq (si_lload (i := 5) dX0_spreadBy_96) (tg_seq (si_last dX0_spreadBy_98) (si_iinc (v := 1) dX0_spreadBy_99 (by decide) (Nat.le_of_ble_eq_true rfl))))))))))))))))))
theorem bX0_spreadBy_102 : tg_Snd mX0_spreadBy 102 (fun k => ti_iinc 4 1 k) 105 := si_iinc (v := 1) dX0_spreadBy_102 (by decide) (Nat.le_of_ble_eq_true rfl)
theorem bX0_spreadBy_108 : tg_Snd mX0_spreadBy 108 (fun k => ti_iinc 3 1 k) 111 := si_iinc (v := 1) dX0_spreadBy_108 (by decide) (Nat.le_of_ble_eq_true rfl)
theorem bX0_spreadBy_114 : tg_Snd mX0_spreadBy 114 (fun k => ti_aload 0 (ti_getf 0 4 (ti_astore 3 (ti_aload 0 (ti_aload 0 (ti_getf 0 6 (ti_putfR 0 4 (ti_aload 0 (ti_aload 3 (ti_putfR 0 6 (ti_aload 0 (ti_getf 0 5 (ti_astore 4 (ti_aload 0 (ti_aload 0 (ti_getf 0 7 (ti_putfR 0 5 (ti_aload 0 (ti_aload 4 (ti_putfR 0 7 (ti_aload 0 (ti_iload 2 (ti_putfI 0 3 k))))))))))))))))))))))) 157 := tg_seq (si_aload_n (i := 0) dX0_spreadBy_114 rfl) (tg_seq (si_getf (ci := 0) (f := 4) clX0 (Nat.le_of_ble_eq_true rfl) rfl flX0_29 dX0_spreadBy_115) (tg_seq (si_astore_n (i := 3) dX0_spreadBy_118 rfl (Nat.le_of_ble_eq_true rfl)) (tg_seq (si_aload_n (i := 0) dX0_spreadBy_119 rfl) (tg_seq (si_aload_n (i := 0) dX0_spreadBy_120 rfl) (tg_seq (si_getf (ci := 0) (f := 6) clX0 (Nat.le_of_ble_eq_true rfl) rfl flX0_36 dX0_spreadBy_121) (tg_seq (si_putfR (ci := 0) (f := 4) (ty := tyX0 4) clX0 tyX0_ok nmX0 (Nat.le_of_ble_eq_true rfl) rfl (by decide +kernel) (fun _ _ => ⟨rfl, rfl⟩) flX0_29 dX0_spreadBy_124) (tg_seq (si_aload_n (i := 0) dX0_spreadBy_127 rfl) (tg_seq (si_aload_n (i := 3) dX0_spreadBy_128 rfl) (tg_seq (si_putfR (ci := 0) (f := 6) (ty := tyX0 6) clX0 tyX0_ok nmX0 (Nat.le_of_ble_eq_true rfl) rfl (by decide +kernel) (fun _ _ => ⟨rfl, rfl⟩) flX0_36 dX0_spreadBy_129) (tg_seq (si_aload_n (i := 0) dX0_spreadBy_132 rfl) (tg_seq (si_getf (ci := 0) (f := 5) clX0 (Nat.le_of_ble_eq_true rfl) rfl flX0_33 dX0_spreadBy_133) (tg_seq (si_astore (i := 4) dX0_spreadBy_136 (Nat.le_of_ble_eq_true rfl)) (tg_seq (si_aload_n (i := 0) dX0_spreadBy_138 rfl) (tg_seq (si_aload_n (i := 0) dX0_spreadBy_139 rfl) (tg_seq (si_getf (ci := 0) (f := 7) clX0 (Nat.le_of_ble_eq_true rfl) rfl flX0_39 dX0_spreadBy_140) (tg_seq (si_putfR (ci := 0) (f := 5) (ty := tyX0 5) clX0 tyX0_ok nmX0 (Nat.le_of_ble_eq_true rfl) rfl (by decide +kernel) (fun _ _ => ⟨rfl, rfl⟩) flX0_33 dX0_spreadBy_143) (tg_seq (si_aload_n (i := 0) dX0_spreadBy_146 rfl) (tg_seq (si_aload (i := 4) dX0_spreadBy_147) (tg_seq (si_putfR (ci := 0) (f := 7) (ty := tyX0 7) clX0 tyX0_ok nmX0 (Nat.le_of_ble_eq_true rfl) rfl (by decide +kernel) (fun _ _ => ⟨rfl, rfl⟩) flX0_39 dX0_spreadBy_149) (tg_seq (si_aload_n (i := 0) dX0_spreadBy_152 rfl) (tg_seq (si_iload_n (i := 2) dX0_spreadBy_153 rfl) (si_putfI (ci := 0) (f := 3) (ty := .int) clX0 tyX0_ok nmX0 (Nat.le_of_ble_eq_true rfl) rfl (by decide +kernel) (fun _ _ => ⟨rfl, rfl⟩) flX0_58 dX0_spreadBy_154))))))))))))))))))))))
theorem vX0_spreadBy_53 : tg_VS mX0_spreadBy 53 mX0_havingFigure 2 := ⟨okX0_havingFigure, ⟨77, dX0_spreadBy_53, mlX0_77⟩, insX0_havingFigure, selX0_havingFigure, parX0_havingFigure, rfl, rfl, Nat.le_of_ble_eq_true rfl, Nat.le_of_ble_eq_true rfl⟩
theorem dX0_tally_0 : decode cX0_tally 0 = .ok (.iconst 0, 1) := by decide +kernel
theorem dX0_tally_1 : decode cX0_tally 1 = .ok (.istore_n 1, 1) := by decide +kernel
theorem dX0_tally_2 : decode cX0_tally 2 = .ok (.iload_n 1, 1) := by decide +kernel
theorem dX0_tally_3 : decode cX0_tally 3 = .ok (.bipush 40, 2) := by decide +kernel
theorem dX0_tally_5 : decode cX0_tally 5 = .ok (.if_icmp .gt 23, 3) := by decide +kernel
theorem dX0_tally_8 : decode cX0_tally 8 = .ok (.aload_n 0, 1) := by decide +kernel
theorem dX0_tally_9 : decode cX0_tally 9 = .ok (.getfield 46, 3) := by decide +kernel
theorem dX0_tally_12 : decode cX0_tally 12 = .ok (.iload_n 1, 1) := by decide +kernel
theorem dX0_tally_13 : decode cX0_tally 13 = .ok (.iconst 0, 1) := by decide +kernel
theorem dX0_tally_14 : decode cX0_tally 14 = .ok (.iastore, 1) := by decide +kernel
theorem dX0_tally_15 : decode cX0_tally 15 = .ok (.aload_n 0, 1) := by decide +kernel
theorem dX0_tally_16 : decode cX0_tally 16 = .ok (.getfield 49, 3) := by decide +kernel
theorem dX0_tally_19 : decode cX0_tally 19 = .ok (.iload_n 1, 1) := by decide +kernel
theorem dX0_tally_20 : decode cX0_tally 20 = .ok (.iconst 0, 1) := by decide +kernel
theorem dX0_tally_21 : decode cX0_tally 21 = .ok (.iastore, 1) := by decide +kernel
theorem dX0_tally_22 : decode cX0_tally 22 = .ok (.iinc 1 1, 3) := by decide +kernel
theorem dX0_tally_25 : decode cX0_tally 25 = .ok (.goto (-23), 3) := by decide +kernel
theorem dX0_tally_28 : decode cX0_tally 28 = .ok (.iconst 0, 1) := by decide +kernel
theorem dX0_tally_29 : decode cX0_tally 29 = .ok (.istore_n 1, 1) := by decide +kernel
theorem dX0_tally_30 : decode cX0_tally 30 = .ok (.iload_n 1, 1) := by decide +kernel
theorem dX0_tally_31 : decode cX0_tally 31 = .ok (.bipush 16, 2) := by decide +kernel
theorem dX0_tally_33 : decode cX0_tally 33 = .ok (.if_icmp .ge 16, 3) := by decide +kernel
theorem dX0_tally_36 : decode cX0_tally 36 = .ok (.aload_n 0, 1) := by decide +kernel
theorem dX0_tally_37 : decode cX0_tally 37 = .ok (.getfield 52, 3) := by decide +kernel
theorem dX0_tally_40 : decode cX0_tally 40 = .ok (.iload_n 1, 1) := by decide +kernel
theorem dX0_tally_41 : decode cX0_tally 41 = .ok (.iconst 0, 1) := by decide +kernel
theorem dX0_tally_42 : decode cX0_tally 42 = .ok (.iastore, 1) := by decide +kernel
theorem dX0_tally_43 : decode cX0_tally 43 = .ok (.iinc 1 1, 3) := by decide +kernel
theorem dX0_tally_46 : decode cX0_tally 46 = .ok (.goto (-16), 3) := by decide +kernel
theorem dX0_tally_49 : decode cX0_tally 49 = .ok (.iconst 0, 1) := by decide +kernel
theorem dX0_tally_50 : decode cX0_tally 50 = .ok (.istore_n 1, 1) := by decide +kernel
theorem dX0_tally_51 : decode cX0_tally 51 = .ok (.iload_n 1, 1) := by decide +kernel
theorem dX0_tally_52 : decode cX0_tally 52 = .ok (.aload_n 0, 1) := by decide +kernel
theorem dX0_tally_53 : decode cX0_tally 53 = .ok (.getfield 58, 3) := by decide +kernel
theorem dX0_tally_56 : decode cX0_tally 56 = .ok (.if_icmp .ge 102, 3) := by decide +kernel
theorem dX0_tally_59 : decode cX0_tally 59 = .ok (.aload_n 0, 1) := by decide +kernel
theorem dX0_tally_60 : decode cX0_tally 60 = .ok (.getfield 33, 3) := by decide +kernel
theorem dX0_tally_63 : decode cX0_tally 63 = .ok (.iload_n 1, 1) := by decide +kernel
theorem dX0_tally_64 : decode cX0_tally 64 = .ok (.laload, 1) := by decide +kernel
theorem dX0_tally_65 : decode cX0_tally 65 = .ok (.invokestatic 81, 3) := by decide +kernel
theorem dX0_tally_68 : decode cX0_tally 68 = .ok (.bipush 40, 2) := by decide +kernel
theorem dX0_tally_70 : decode cX0_tally 70 = .ok (.invokestatic 87, 3) := by decide +kernel
theorem dX0_tally_73 : decode cX0_tally 73 = .ok (.istore_n 2, 1) := by decide +kernel
theorem dX0_tally_74 : decode cX0_tally 74 = .ok (.aload_n 0, 1) := by decide +kernel
theorem dX0_tally_75 : decode cX0_tally 75 = .ok (.getfield 42, 3) := by decide +kernel
theorem dX0_tally_78 : decode cX0_tally 78 = .ok (.iload_n 1, 1) := by decide +kernel
theorem dX0_tally_79 : decode cX0_tally 79 = .ok (.aload_n 0, 1) := by decide +kernel
theorem dX0_tally_80 : decode cX0_tally 80 = .ok (.aload_n 0, 1) := by decide +kernel
theorem dX0_tally_81 : decode cX0_tally 81 = .ok (.getfield 33, 3) := by decide +kernel
theorem dX0_tally_84 : decode cX0_tally 84 = .ok (.iload_n 1, 1) := by decide +kernel
theorem dX0_tally_85 : decode cX0_tally 85 = .ok (.laload, 1) := by decide +kernel
theorem dX0_tally_86 : decode cX0_tally 86 = .ok (.invokevirtual 93, 3) := by decide +kernel
theorem dX0_tally_89 : decode cX0_tally 89 = .ok (.aload_n 0, 1) := by decide +kernel
theorem dX0_tally_90 : decode cX0_tally 90 = .ok (.getfield 29, 3) := by decide +kernel
theorem dX0_tally_93 : decode cX0_tally 93 = .ok (.iload_n 1, 1) := by decide +kernel
theorem dX0_tally_94 : decode cX0_tally 94 = .ok (.iaload, 1) := by decide +kernel
theorem dX0_tally_95 : decode cX0_tally 95 = .ok (.if_icmp .ne 7, 3) := by decide +kernel
theorem dX0_tally_98 : decode cX0_tally 98 = .ok (.iconst 1, 1) := by decide +kernel
theorem dX0_tally_99 : decode cX0_tally 99 = .ok (.goto 4, 3) := by decide +kernel
theorem dX0_tally_102 : decode cX0_tally 102 = .ok (.iconst 0, 1) := by decide +kernel
theorem dX0_tally_103 : decode cX0_tally 103 = .ok (.bastore, 1) := by decide +kernel
theorem dX0_tally_104 : decode cX0_tally 104 = .ok (.aload_n 0, 1) := by decide +kernel
theorem dX0_tally_105 : decode cX0_tally 105 = .ok (.getfield 46, 3) := by decide +kernel
theorem dX0_tally_108 : decode cX0_tally 108 = .ok (.iload_n 2, 1) := by decide +kernel
theorem dX0_tally_109 : decode cX0_tally 109 = .ok (.dup2, 1) := by decide +kernel
theorem dX0_tally_110 : decode cX0_tally 110 = .ok (.iaload, 1) := by decide +kernel
theorem dX0_tally_111 : decode cX0_tally 111 = .ok (.iconst 1, 1) := by decide +kernel
theorem dX0_tally_112 : decode cX0_tally 112 = .ok (.iadd, 1) := by decide +kernel
theorem dX0_tally_113 : decode cX0_tally 113 = .ok (.iastore, 1) := by decide +kernel
theorem dX0_tally_114 : decode cX0_tally 114 = .ok (.aload_n 0, 1) := by decide +kernel
theorem dX0_tally_115 : decode cX0_tally 115 = .ok (.getfield 42, 3) := by decide +kernel
theorem dX0_tally_118 : decode cX0_tally 118 = .ok (.iload_n 1, 1) := by decide +kernel
theorem dX0_tally_119 : decode cX0_tally 119 = .ok (.baload, 1) := by decide +kernel
theorem dX0_tally_120 : decode cX0_tally 120 = .ok (.ifCond .eq 13, 3) := by decide +kernel
theorem dX0_tally_123 : decode cX0_tally 123 = .ok (.aload_n 0, 1) := by decide +kernel
theorem dX0_tally_124 : decode cX0_tally 124 = .ok (.getfield 49, 3) := by decide +kernel
theorem dX0_tally_127 : decode cX0_tally 127 = .ok (.iload_n 2, 1) := by decide +kernel
theorem dX0_tally_128 : decode cX0_tally 128 = .ok (.dup2, 1) := by decide +kernel
theorem dX0_tally_129 : decode cX0_tally 129 = .ok (.iaload, 1) := by decide +kernel
theorem dX0_tally_130 : decode cX0_tally 130 = .ok (.iconst 1, 1) := by decide +kernel
theorem dX0_tally_131 : decode cX0_tally 131 = .ok (.iadd, 1) := by decide +kernel
theorem dX0_tally_132 : decode cX0_tally 132 = .ok (.iastore, 1) := by decide +kernel
theorem dX0_tally_133 : decode cX0_tally 133 = .ok (.aload_n 0, 1) := by decide +kernel
theorem dX0_tally_134 : decode cX0_tally 134 = .ok (.getfield 52, 3) := by decide +kernel
theorem dX0_tally_137 : decode cX0_tally 137 = .ok (.aload_n 0, 1) := by decide +kernel
theorem dX0_tally_138 : decode cX0_tally 138 = .ok (.aload_n 0, 1) := by decide +kernel
theorem dX0_tally_139 : decode cX0_tally 139 = .ok (.getfield 29, 3) := by decide +kernel
theorem dX0_tally_142 : decode cX0_tally 142 = .ok (.iload_n 1, 1) := by decide +kernel
theorem dX0_tally_143 : decode cX0_tally 143 = .ok (.iaload, 1) := by decide +kernel
theorem dX0_tally_144 : decode cX0_tally 144 = .ok (.invokevirtual 96, 3) := by decide +kernel
theorem dX0_tally_147 : decode cX0_tally 147 = .ok (.dup2, 1) := by decide +kernel
theorem dX0_tally_148 : decode cX0_tally 148 = .ok (.iaload, 1) := by decide +kernel
theorem dX0_tally_149 : decode cX0_tally 149 = .ok (.iconst 1, 1) := by decide +kernel
theorem dX0_tally_150 : decode cX0_tally 150 = .ok (.iadd, 1) := by decide +kernel
theorem dX0_tally_151 : decode cX0_tally 151 = .ok (.iastore, 1) := by decide +kernel
theorem dX0_tally_152 : decode cX0_tally 152 = .ok (.iinc 1 1, 3) := by decide +kernel
theorem dX0_tally_155 : decode cX0_tally 155 = .ok (.goto (-104), 3) := by decide +kernel
theorem dX0_tally_158 : decode cX0_tally 158 = .ok (.return_, 1) := by decide +kernel
theorem bX0_tally_0 : tg_Snd mX0_tally 0 (fun k => ti_push (.int 0) (ti_istore 1 k)) 2 := tg_seq (si_iconst (v := 0) dX0_tally_0 (by decide)) (si_istore_n (i := 1) dX0_tally_1 rfl (Nat.le_of_ble_eq_true rfl))
theorem bX0_tally_2 : tg_Snd mX0_tally 2 (fun k => ti_iload 1 (ti_push (.int 40) k)) 5 := tg_seq (si_iload_n (i := 1) dX0_tally_2 rfl) (si_bipush (v := 40) dX0_tally_3 (by decide))
theorem bX0_tally_8 : tg_Snd mX0_tally 8 (fun k => ti_aload 0 (ti_getf 0 9 (ti_iload 1 (ti_push (.int 0) (ti_iast (ti_aload 0 (ti_getf 0 10 (ti_iload 1 (ti_push (.int 0) (ti_iast (ti_iinc 1 1 k))))))))))) 25 := tg_seq (si_aload_n (i := 0) dX0_tally_8 rfl) (tg_seq (si_getf (ci := 0) (f := 9) clX0 (Nat.le_of_ble_eq_true rfl) rfl flX0_46 dX0_tally_9) (tg_seq (si_iload_n (i := 1) dX0_tally_12 rfl) (tg_seq (si_iconst (v := 0) dX0_tally_13 (by decide)) (tg_seq (si_iast dX0_tally_14) (tg_seq (si_aload_n (i := 0) dX0_tally_15 rfl) (tg_seq (si_getf (ci := 0) (f := 10) clX0 (Nat.le_of_ble_eq_true rfl) rfl flX0_49 dX0_tally_16) (tg_seq (si_iload_n (i := 1) dX0_tally_19 rfl) (tg_seq (si_iconst (v := 0) dX0_tally_20 (by decide)) (tg_seq (si_iast dX0_tally_21) (si_iinc (v := 1) dX0_tally_22 (by decide) (Nat.le_of_ble_eq_true rfl)))))))))))
theorem bX0_tally_28 : tg_Snd mX0_tally 28 (fun k => ti_push (.int 0) (ti_istore 1 k)) 30 := tg_seq (si_iconst (v := 0) dX0_tally_28 (by decide)) (si_istore_n (i := 1) dX0_tally_29 rfl (Nat.le_of_ble_eq_true rfl))
theorem bX0_tally_30 : tg_Snd mX0_tally 30 (fun k => ti_iload 1 (ti_push (.int 16) k)) 33 := tg_seq (si_iload_n (i := 1) dX0_tally_30 rfl) (si_bipush (v := 16) dX0_tally_31 (by decide))
theorem bX0_tally_36 : tg_Snd mX0_tally 36 (fun k => ti_aload 0 (ti_getf 0 11 (ti_iload 1 (ti_push (.int 0) (ti_iast (ti_iinc 1 1 k)))))) 46 := tg_seq (si_aload_n (i := 0) dX0_tally_36 rfl) (tg_seq (si_getf (ci := 0) (f := 11) clX0 (Nat.le_of_ble_eq_true rfl) rfl flX0_52 dX0_tally_37) (tg_seq (si_iload_n (i := 1) dX0_tally_40 rfl) (tg_seq (si_iconst (v := 0) dX0_tally_41 (by decide)) (tg_seq (si_iast dX0_tally_42) (si_iinc (v := 1) dX0_tally_43 (by decide) (Nat.le_of_ble_eq_true rfl))))))
theorem bX0_tally_49 : tg_Snd mX0_tally 49 (fun k => ti_push (.int 0) (ti_istore 1 k)) 51 := tg_seq (si_iconst (v := 0) dX0_tally_49 (by decide)) (si_istore_n (i := 1) dX0_tally_50 rfl (Nat.le_of_ble_eq_true rfl))
theorem bX0_tally_51 : tg_Snd mX0_tally 51 (fun k => ti_iload 1 (ti_aload 0 (ti_getf 0 3 k))) 56 := tg_seq (si_iload_n (i := 1) dX0_tally_51 rfl) (tg_seq (si_aload_n (i := 0) dX0_tally_52 rfl) (si_getf (ci := 0) (f := 3) clX0 (Nat.le_of_ble_eq_true rfl) rfl flX0_58 dX0_tally_53))
theorem bX0_tally_59 : tg_Snd mX0_tally 59 (fun k => ti_aload 0 (ti_getf 0 5 (ti_iload 1 (ti_lald k)))) 65 := tg_seq (si_aload_n (i := 0) dX0_tally_59 rfl) (tg_seq (si_getf (ci := 0) (f := 5) clX0 (Nat.le_of_ble_eq_true rfl) rfl flX0_33 dX0_tally_60) (tg_seq (si_iload_n (i := 1) dX0_tally_63 rfl) (si_lald dX0_tally_64)))
theorem bX0_tally_68 : tg_Snd mX0_tally 68 (fun k => ti_push (.int 40) (ti_mmin (ti_istore 2 (ti_aload 0 (ti_getf 0 8 (ti_iload 1 (ti_aload 0 (ti_aload 0 (ti_getf 0 5 (ti_iload 1 (ti_lald k))))))))))) 86 := tg_seq (si_bipush (v := 40) dX0_tally_68 (by decide)) (tg_seq (si_mmin dX0_tally_70 mlX0_87 staMin iniMath codMin (Nat.le_of_ble_eq_true rfl) (Nat.le_of_ble_eq_true rfl)) (tg_seq (si_istore_n (i := 2) dX0_tally_73 rfl (Nat.le_of_ble_eq_true rfl)) (tg_seq (si_aload_n (i := 0) dX0_tally_74 rfl) (tg_seq (si_getf (ci := 0) (f := 8) clX0 (Nat.le_of_ble_eq_true rfl) rfl flX0_42 dX0_tally_75) (tg_seq (si_iload_n (i := 1) dX0_tally_78 rfl) (tg_seq (si_aload_n (i := 0) dX0_tally_79 rfl) (tg_seq (si_aload_n (i := 0) dX0_tally_80 rfl) (tg_seq (si_getf (ci := 0) (f := 5) clX0 (Nat.le_of_ble_eq_true rfl) rfl flX0_33 dX0_tally_81) (tg_seq (si_iload_n (i := 1) dX0_tally_84 rfl) (si_lald dX0_tally_85))))))))))
theorem bX0_tally_89 : tg_Snd mX0_tally 89 (fun k => ti_aload 0 (ti_getf 0 4 (ti_iload 1 (ti_iald k)))) 95 := tg_seq (si_aload_n (i := 0) dX0_tally_89 rfl) (tg_seq (si_getf (ci := 0) (f := 4) clX0 (Nat.le_of_ble_eq_true rfl) rfl flX0_29 dX0_tally_90) (tg_seq (si_iload_n (i := 1) dX0_tally_93 rfl) (si_iald dX0_tally_94)))
theorem bX0_tally_98 : tg_Snd mX0_tally 98 (fun k => ti_push (.int 1) k) 99 := si_iconst (v := 1) dX0_tally_98 (by decide)
theorem bX0_tally_102 : tg_Snd mX0_tally 102 (fun k => ti_push (.int 0) k) 103 := si_iconst (v := 0) dX0_tally_102 (by decide)
theorem bX0_tally_103 : tg_Snd mX0_tally 103 (fun k => ti_zast (ti_aload 0 (ti_getf 0 9 (ti_iload 2 (ti_dup2 (ti_iald (ti_push (.int 1) (ti_iadd (ti_iast (ti_aload 0 (ti_getf 0 8 (ti_iload 1 (ti_zald k))))))))))))) 120 := tg_seq (si_zast dX0_tally_103) (tg_seq (si_aload_n (i := 0) dX0_tally_104 rfl) (tg_seq (si_getf (ci := 0) (f := 9) clX0 (Nat.le_of_ble_eq_true rfl) rfl flX0_46 dX0_tally_105) (tg_seq (si_iload_n (i := 2) dX0_tally_108 rfl) (tg_seq (si_dup2 dX0_tally_109) (tg_seq (si_iald dX0_tally_110) (tg_seq (si_iconst (v := 1) dX0_tally_111 (by decide)) (tg_seq (si_iadd dX0_tally_112) (tg_seq (si_iast dX0_tally_113) (tg_seq (si_aload_n (i := 0) dX0_tally_114 rfl) (tg_seq (si_getf (ci := 0) (f := 8) clX0 (Nat.le_of_ble_eq_true rfl) rfl flX0_42 dX0_tally_115) (tg_seq (si_iload_n (i := 1) dX0_tally_118 rfl) (si_zald dX0_tally_119))))))))))))
theorem bX0_tally_123 : tg_Snd mX0_tally 123 (fun k => ti_aload 0 (ti_getf 0 10 (ti_iload 2 (ti_dup2 (ti_iald (ti_push (.int 1) (ti_iadd (ti_iast k)))))))) 133 := tg_seq (si_aload_n (i := 0) dX0_tally_123 rfl) (tg_seq (si_getf (ci := 0) (f := 10) clX0 (Nat.le_of_ble_eq_true rfl) rfl flX0_49 dX0_tally_124) (tg_seq (si_iload_n (i := 2) dX0_tally_127 rfl) (tg_seq (si_dup2 dX0_tally_128) (tg_seq (si_iald dX0_tally_129) (tg_seq (si_iconst (v := 1) dX0_tally_130 (by decide)) (tg_seq (si_iadd dX0_tally_131) (si_iast dX0_tally_132)))))))
theorem bX0_tally_133 : tg_Snd mX0_tally 133 (fun k => ti_aload 0 (ti_getf 0 11 (ti_aload 0 (ti_aload 0 (ti_getf 0 4 (ti_iload 1 (ti_iald k))))))) 144 := tg_seq (si_aload_n (i := 0) dX0_tally_133 rfl) (tg_seq (si_getf (ci := 0) (f := 11) clX0 (Nat.le_of_ble_eq_true rfl) rfl flX0_52 dX0_tally_134) (tg_seq (si_aload_n (i := 0) dX0_tally_137 rfl) (tg_seq (si_aload_n (i := 0) dX0_tally_138 rfl) (tg_seq (si_getf (ci := 0) (f := 4) clX0 (Nat.le_of_ble_eq_true rfl) rfl flX0_29 dX0_tally_139) (tg_seq (si_iload_n (i := 1) dX0_tally_142 rfl) (si_iald dX0_tally_143))))))
theorem bX0_tally_147 : tg_Snd mX0_tally 147 (fun k => ti_dup2 (ti_iald (ti_push (.int 1) (ti_iadd (ti_iast (ti_iinc 1 1 k)))))) 155 := tg_seq (si_dup2 dX0_tally_147) (tg_seq (si_iald dX0_tally_148) (tg_seq (si_iconst (v := 1) dX0_tally_149 (by decide)) (tg_seq (si_iadd dX0_tally_150) (tg_seq (si_iast dX0_tally_151) (si_iinc (v := 1) dX0_tally_152 (by decide) (Nat.le_of_ble_eq_true rfl))))))
theorem vX0_tally_65 : tg_SS0 mX0_tally 65 mJ13_bitCount_95d88 1 := ⟨okJ13_bitCount_95d88, ⟨81, dX0_tally_65, mlX0_81⟩, staJ13_bitCount_95d88, parJ13_bitCount_95d88, rfl, rfl, Nat.le_of_ble_eq_true rfl, Nat.le_of_ble_eq_true rfl⟩
theorem vX0_tally_86 : tg_VS mX0_tally 86 mX0_closureOf 1 := ⟨okX0_closureOf, ⟨93, dX0_tally_86, mlX0_93⟩, insX0_closureOf, selX0_closureOf, parX0_closureOf, rfl, rfl, Nat.le_of_ble_eq_true rfl, Nat.le_of_ble_eq_true rfl⟩
theorem vX0_tally_144 : tg_VS mX0_tally 144 mX0_dimensionsOf 1 := ⟨okX0_dimensionsOf, ⟨96, dX0_tally_144, mlX0_96⟩, insX0_dimensionsOf, selX0_dimensionsOf, parX0_dimensionsOf, rfl, rfl, Nat.le_of_ble_eq_true rfl, Nat.le_of_ble_eq_true rfl⟩
theorem dX0_havingFigure_0 : decode cX0_havingFigure 0 = .ok (.iload_n 1, 1) := by decide +kernel
theorem dX0_havingFigure_1 : decode cX0_havingFigure 1 = .ok (.bipush 6, 2) := by decide +kernel
theorem dX0_havingFigure_3 : decode cX0_havingFigure 3 = .ok (.imul, 1) := by decide +kernel
theorem dX0_havingFigure_4 : decode cX0_havingFigure 4 = .ok (.iload_n 2, 1) := by decide +kernel
theorem dX0_havingFigure_5 : decode cX0_havingFigure 5 = .ok (.iadd, 1) := by decide +kernel
theorem dX0_havingFigure_6 : decode cX0_havingFigure 6 = .ok (.iconst 1, 1) := by decide +kernel
theorem dX0_havingFigure_7 : decode cX0_havingFigure 7 = .ok (.isub, 1) := by decide +kernel
theorem dX0_havingFigure_8 : decode cX0_havingFigure 8 = .ok (.istore_n 3, 1) := by decide +kernel
theorem dX0_havingFigure_9 : decode cX0_havingFigure 9 = .ok (.iload_n 3, 1) := by decide +kernel
theorem dX0_havingFigure_10 : decode cX0_havingFigure 10 = .ok (.ifCond .lt 21, 3) := by decide +kernel
theorem dX0_havingFigure_13 : decode cX0_havingFigure 13 = .ok (.iload_n 3, 1) := by decide +kernel
theorem dX0_havingFigure_14 : decode cX0_havingFigure 14 = .ok (.aload_n 0, 1) := by decide +kernel
theorem dX0_havingFigure_15 : decode cX0_havingFigure 15 = .ok (.getfield 25, 3) := by decide +kernel
theorem dX0_havingFigure_18 : decode cX0_havingFigure 18 = .ok (.arraylength, 1) := by decide +kernel
theorem dX0_havingFigure_19 : decode cX0_havingFigure 19 = .ok (.if_icmp .ge 12, 3) := by decide +kernel
theorem dX0_havingFigure_22 : decode cX0_havingFigure 22 = .ok (.aload_n 0, 1) := by decide +kernel
theorem dX0_havingFigure_23 : decode cX0_havingFigure 23 = .ok (.getfield 25, 3) := by decide +kernel
theorem dX0_havingFigure_26 : decode cX0_havingFigure 26 = .ok (.iload_n 3, 1) := by decide +kernel
theorem dX0_havingFigure_27 : decode cX0_havingFigure 27 = .ok (.laload, 1) := by decide +kernel
theorem dX0_havingFigure_28 : decode cX0_havingFigure 28 = .ok (.goto 4, 3) := by decide +kernel
theorem dX0_havingFigure_31 : decode cX0_havingFigure 31 = .ok (.lconst 0, 1) := by decide +kernel
theorem dX0_havingFigure_32 : decode cX0_havingFigure 32 = .ok (.lreturn, 1) := by decide +kernel
theorem bX0_havingFigure_0 : tg_Snd mX0_havingFigure 0 (fun k => ti_iload 1 (ti_push (.int 6) (ti_imul (ti_iload 2 (ti_iadd (ti_push (.int 1) (ti_isub (ti_istore 3 (ti_iload 3 k))))))))) 10 := tg_seq (si_iload_n (i := 1) dX0_havingFigure_0 rfl) (tg_seq (si_bipush (v := 6) dX0_havingFigure_1 (by decide)) (tg_seq (si_imul dX0_havingFigure_3) (tg_seq (si_iload_n (i := 2) dX0_havingFigure_4 rfl) (tg_seq (si_iadd dX0_havingFigure_5) (tg_seq (si_iconst (v := 1) dX0_havingFigure_6 (by decide)) (tg_seq (si_isub dX0_havingFigure_7) (tg_seq (si_istore_n (i := 3) dX0_havingFigure_8 rfl (Nat.le_of_ble_eq_true rfl)) (si_iload_n (i := 3) dX0_havingFigure_9 rfl))))))))
theorem bX0_havingFigure_13 : tg_Snd mX0_havingFigure 13 (fun k => ti_iload 3 (ti_aload 0 (ti_getf 0 2 (ti_alen k)))) 19 := tg_seq (si_iload_n (i := 3) dX0_havingFigure_13 rfl) (tg_seq (si_aload_n (i := 0) dX0_havingFigure_14 rfl) (tg_seq (si_getf (ci := 0) (f := 2) clX0 (Nat.le_of_ble_eq_true rfl) rfl flX0_25 dX0_havingFigure_15) (si_alen dX0_havingFigure_18)))
theorem bX0_havingFigure_22 : tg_Snd mX0_havingFigure 22 (fun k => ti_aload 0 (ti_getf 0 2 (ti_iload 3 (ti_lald k)))) 28 := tg_seq (si_aload_n (i := 0) dX0_havingFigure_22 rfl) (tg_seq (si_getf (ci := 0) (f := 2) clX0 (Nat.le_of_ble_eq_true rfl) rfl flX0_25 dX0_havingFigure_23) (tg_seq (si_iload_n (i := 3) dX0_havingFigure_26 rfl) (si_lald dX0_havingFigure_27)))
theorem bX0_havingFigure_31 : tg_Snd mX0_havingFigure 31 (fun k => ti_push (.long 0) k) 32 := si_lconst (v := 0) dX0_havingFigure_31 (by decide)
theorem dX0_coverOf_0 : decode cX0_coverOf 0 = .ok (.lconst 1, 1) := by decide +kernel
theorem dX0_coverOf_1 : decode cX0_coverOf 1 = .ok (.aload_n 0, 1) := by decide +kernel
theorem dX0_coverOf_2 : decode cX0_coverOf 2 = .ok (.getfield 12, 3) := by decide +kernel
theorem dX0_coverOf_5 : decode cX0_coverOf 5 = .ok (.getfield 62, 3) := by decide +kernel
theorem dX0_coverOf_8 : decode cX0_coverOf 8 = .ok (.lshl, 1) := by decide +kernel
theorem dX0_coverOf_9 : decode cX0_coverOf 9 = .ok (.lconst 1, 1) := by decide +kernel
theorem dX0_coverOf_10 : decode cX0_coverOf 10 = .ok (.lsub, 1) := by decide +kernel
theorem dX0_coverOf_11 : decode cX0_coverOf 11 = .ok (.lstore_n 2, 1) := by decide +kernel
theorem dX0_coverOf_12 : decode cX0_coverOf 12 = .ok (.iload_n 1, 1) := by decide +kernel
theorem dX0_coverOf_13 : decode cX0_coverOf 13 = .ok (.istore 4, 2) := by decide +kernel
theorem dX0_coverOf_15 : decode cX0_coverOf 15 = .ok (.aload_n 0, 1) := by decide +kernel
theorem dX0_coverOf_16 : decode cX0_coverOf 16 = .ok (.getfield 12, 3) := by decide +kernel
theorem dX0_coverOf_19 : decode cX0_coverOf 19 = .ok (.getfield 63, 3) := by decide +kernel
theorem dX0_coverOf_22 : decode cX0_coverOf 22 = .ok (.iconst 1, 1) := by decide +kernel
theorem dX0_coverOf_23 : decode cX0_coverOf 23 = .ok (.isub, 1) := by decide +kernel
theorem dX0_coverOf_24 : decode cX0_coverOf 24 = .ok (.istore 5, 2) := by decide +kernel
theorem dX0_coverOf_26 : decode cX0_coverOf 26 = .ok (.iload 5, 2) := by decide +kernel
theorem dX0_coverOf_28 : decode cX0_coverOf 28 = .ok (.ifCond .lt 39, 3) := by decide +kernel
theorem dX0_coverOf_31 : decode cX0_coverOf 31 = .ok (.iload 4, 2) := by decide +kernel
theorem dX0_coverOf_33 : decode cX0_coverOf 33 = .ok (.bipush 7, 2) := by decide +kernel
theorem dX0_coverOf_35 : decode cX0_coverOf 35 = .ok (.irem, 1) := by decide +kernel
theorem dX0_coverOf_36 : decode cX0_coverOf 36 = .ok (.istore 6, 2) := by decide +kernel
theorem dX0_coverOf_38 : decode cX0_coverOf 38 = .ok (.iload 6, 2) := by decide +kernel
theorem dX0_coverOf_40 : decode cX0_coverOf 40 = .ok (.ifCond .le 14, 3) := by decide +kernel
theorem dX0_coverOf_43 : decode cX0_coverOf 43 = .ok (.lload_n 2, 1) := by decide +kernel
theorem dX0_coverOf_44 : decode cX0_coverOf 44 = .ok (.aload_n 0, 1) := by decide +kernel
theorem dX0_coverOf_45 : decode cX0_coverOf 45 = .ok (.iload 5, 2) := by decide +kernel
theorem dX0_coverOf_47 : decode cX0_coverOf 47 = .ok (.iload 6, 2) := by decide +kernel
theorem dX0_coverOf_49 : decode cX0_coverOf 49 = .ok (.invokevirtual 77, 3) := by decide +kernel
theorem dX0_coverOf_52 : decode cX0_coverOf 52 = .ok (.land, 1) := by decide +kernel
theorem dX0_coverOf_53 : decode cX0_coverOf 53 = .ok (.lstore_n 2, 1) := by decide +kernel
theorem dX0_coverOf_54 : decode cX0_coverOf 54 = .ok (.iload 4, 2) := by decide +kernel
theorem dX0_coverOf_56 : decode cX0_coverOf 56 = .ok (.bipush 7, 2) := by decide +kernel
theorem dX0_coverOf_58 : decode cX0_coverOf 58 = .ok (.idiv, 1) := by decide +kernel
theorem dX0_coverOf_59 : decode cX0_coverOf 59 = .ok (.istore 4, 2) := by decide +kernel
theorem dX0_coverOf_61 : decode cX0_coverOf 61 = .ok (.iinc 5 (-1), 3) := by decide +kernel
theorem dX0_coverOf_64 : decode cX0_coverOf 64 = .ok (.goto (-38), 3) := by decide +kernel
theorem dX0_coverOf_67 : decode cX0_coverOf 67 = .ok (.lload_n 2, 1) := by decide +kernel
theorem dX0_coverOf_68 : decode cX0_coverOf 68 = .ok (.lreturn, 1) := by decide +kernel
theorem bX0_coverOf_0 : tg_Snd mX0_coverOf 0 (fun k => ti_push (.long 1) (ti_aload 0 (ti_getf 0 0 (ti_getf 5 2 (ti_lshl (ti_push (.long 1) (ti_lsub (ti_lstore 2 (ti_iload 1 (ti_istore 4 (ti_aload 0 (ti_getf 0 0 (ti_getf 5 0 (ti_push (.int 1) (ti_isub (ti_istore 5 k)))))))))))))))) 26 := tg_seq (si_lconst (v := 1) dX0_coverOf_0 (by decide)) (tg_seq (si_aload_n (i := 0) dX0_coverOf_1 rfl) (tg_seq (si_getf (ci := 0) (f := 0) clX0 (Nat.le_of_ble_eq_true rfl) rfl flX0_12 dX0_coverOf_2) (tg_seq (si_getf (ci := 5) (f := 2) clX6 (Nat.le_of_ble_eq_true rfl) rfl flX0_62 dX0_coverOf_5) (tg_seq (si_lshl dX0_coverOf_8) (tg_seq (si_lconst (v := 1) dX0_coverOf_9 (by decide)) (tg_seq (si_lsub dX0_coverOf_10) (tg_seq (si_lstore_n (i := 2) dX0_coverOf_11 rfl (Nat.le_of_ble_eq_true rfl)) (tg_seq (si_iload_n (i := 1) dX0_coverOf_12 rfl) (tg_seq (si_istore (i := 4) dX0_coverOf_13 (Nat.le_of_ble_eq_true rfl)) (tg_seq (si_aload_n (i := 0) dX0_coverOf_15 rfl) (tg_seq (si_getf (ci := 0) (f := 0) clX0 (Nat.le_of_ble_eq_true rfl) rfl flX0_12 dX0_coverOf_16) (tg_seq (si_getf (ci := 5) (f := 0) clX6 (Nat.le_of_ble_eq_true rfl) rfl flX0_63 dX0_coverOf_19) (tg_seq (si_iconst (v := 1) dX0_coverOf_22 (by decide)) (tg_seq (si_isub dX0_coverOf_23) (si_istore (i := 5) dX0_coverOf_24 (Nat.le_of_ble_eq_true rfl))))))))))))))))
theorem bX0_coverOf_26 : tg_Snd mX0_coverOf 26 (fun k => ti_iload 5 k) 28 := si_iload (i := 5) dX0_coverOf_26
theorem bX0_coverOf_31 : tg_Snd mX0_coverOf 31 (fun k => ti_iload 4 (ti_push (.int 7) (ti_irem (ti_istore 6 (ti_iload 6 k))))) 40 := tg_seq (si_iload (i := 4) dX0_coverOf_31) (tg_seq (si_bipush (v := 7) dX0_coverOf_33 (by decide)) (tg_seq (si_irem dX0_coverOf_35) (tg_seq (si_istore (i := 6) dX0_coverOf_36 (Nat.le_of_ble_eq_true rfl)) (si_iload (i := 6) dX0_coverOf_38))))
theorem bX0_coverOf_43 : tg_Snd mX0_coverOf 43 (fun k => ti_lload 2 (ti_aload 0 (ti_iload 5 (ti_iload 6 k)))) 49 := tg_seq (si_lload_n (i := 2) dX0_coverOf_43 rfl) (tg_seq (si_aload_n (i := 0) dX0_coverOf_44 rfl) (tg_seq (si_iload (i := 5) dX0_coverOf_45) (si_iload (i := 6) dX0_coverOf_47)))
theorem bX0_coverOf_52 : tg_Snd mX0_coverOf 52 (fun k => ti_land (ti_lstore 2 k)) 54 := tg_seq (si_land dX0_coverOf_52) (si_lstore_n (i := 2) dX0_coverOf_53 rfl (Nat.le_of_ble_eq_true rfl))
theorem bX0_coverOf_54 : tg_Snd mX0_coverOf 54 (fun k => ti_iload 4 (ti_push (.int 7) (ti_idiv (ti_istore 4 (ti_iinc 5 (-1) k))))) 64 := tg_seq (si_iload (i := 4) dX0_coverOf_54) (tg_seq (si_bipush (v := 7) dX0_coverOf_56 (by decide)) (tg_seq (si_idiv dX0_coverOf_58) (tg_seq (si_istore (i := 4) dX0_coverOf_59 (Nat.le_of_ble_eq_true rfl)) (si_iinc (v := -1) dX0_coverOf_61 (by decide) (Nat.le_of_ble_eq_true rfl)))))
theorem bX0_coverOf_67 : tg_Snd mX0_coverOf 67 (fun k => ti_lload 2 k) 68 := si_lload_n (i := 2) dX0_coverOf_67 rfl
theorem vX0_coverOf_49 : tg_VS mX0_coverOf 49 mX0_havingFigure 2 := ⟨okX0_havingFigure, ⟨77, dX0_coverOf_49, mlX0_77⟩, insX0_havingFigure, selX0_havingFigure, parX0_havingFigure, rfl, rfl, Nat.le_of_ble_eq_true rfl, Nat.le_of_ble_eq_true rfl⟩
theorem dX0_closureOf_0 : decode cX0_closureOf 0 = .ok (.lload_n 1, 1) := by decide +kernel
theorem dX0_closureOf_1 : decode cX0_closureOf 1 = .ok (.lconst 0, 1) := by decide +kernel
theorem dX0_closureOf_2 : decode cX0_closureOf 2 = .ok (.lcmp, 1) := by decide +kernel
theorem dX0_closureOf_3 : decode cX0_closureOf 3 = .ok (.ifCond .ne 5, 3) := by decide +kernel
theorem dX0_closureOf_6 : decode cX0_closureOf 6 = .ok (.iconst (-1), 1) := by decide +kernel
theorem dX0_closureOf_7 : decode cX0_closureOf 7 = .ok (.ireturn, 1) := by decide +kernel
theorem dX0_closureOf_8 : decode cX0_closureOf 8 = .ok (.lload_n 1, 1) := by decide +kernel
theorem dX0_closureOf_9 : decode cX0_closureOf 9 = .ok (.lload_n 1, 1) := by decide +kernel
theorem dX0_closureOf_10 : decode cX0_closureOf 10 = .ok (.lneg, 1) := by decide +kernel
theorem dX0_closureOf_11 : decode cX0_closureOf 11 = .ok (.land, 1) := by decide +kernel
theorem dX0_closureOf_12 : decode cX0_closureOf 12 = .ok (.lconst 1, 1) := by decide +kernel
theorem dX0_closureOf_13 : decode cX0_closureOf 13 = .ok (.lsub, 1) := by decide +kernel
theorem dX0_closureOf_14 : decode cX0_closureOf 14 = .ok (.invokestatic 81, 3) := by decide +kernel
theorem dX0_closureOf_17 : decode cX0_closureOf 17 = .ok (.istore_n 3, 1) := by decide +kernel
theorem dX0_closureOf_18 : decode cX0_closureOf 18 = .ok (.aload_n 0, 1) := by decide +kernel
theorem dX0_closureOf_19 : decode cX0_closureOf 19 = .ok (.getfield 12, 3) := by decide +kernel
theorem dX0_closureOf_22 : decode cX0_closureOf 22 = .ok (.iload_n 3, 1) := by decide +kernel
theorem dX0_closureOf_23 : decode cX0_closureOf 23 = .ok (.invokevirtual 100, 3) := by decide +kernel
theorem dX0_closureOf_26 : decode cX0_closureOf 26 = .ok (.ifCond .eq 20, 3) := by decide +kernel
theorem dX0_closureOf_29 : decode cX0_closureOf 29 = .ok (.aload_n 0, 1) := by decide +kernel
theorem dX0_closureOf_30 : decode cX0_closureOf 30 = .ok (.aload_n 0, 1) := by decide +kernel
theorem dX0_closureOf_31 : decode cX0_closureOf 31 = .ok (.getfield 12, 3) := by decide +kernel
theorem dX0_closureOf_34 : decode cX0_closureOf 34 = .ok (.getfield 73, 3) := by decide +kernel
theorem dX0_closureOf_37 : decode cX0_closureOf 37 = .ok (.iload_n 3, 1) := by decide +kernel
theorem dX0_closureOf_38 : decode cX0_closureOf 38 = .ok (.iaload, 1) := by decide +kernel
theorem dX0_closureOf_39 : decode cX0_closureOf 39 = .ok (.lload_n 1, 1) := by decide +kernel
theorem dX0_closureOf_40 : decode cX0_closureOf 40 = .ok (.invokevirtual 104, 3) := by decide +kernel
theorem dX0_closureOf_43 : decode cX0_closureOf 43 = .ok (.goto 4, 3) := by decide +kernel
theorem dX0_closureOf_46 : decode cX0_closureOf 46 = .ok (.iconst (-1), 1) := by decide +kernel
theorem dX0_closureOf_47 : decode cX0_closureOf 47 = .ok (.ireturn, 1) := by decide +kernel
theorem bX0_closureOf_0 : tg_Snd mX0_closureOf 0 (fun k => ti_lload 1 (ti_push (.long 0) (ti_lcmp k))) 3 := tg_seq (si_lload_n (i := 1) dX0_closureOf_0 rfl) (tg_seq (si_lconst (v := 0) dX0_closureOf_1 (by decide)) (si_lcmp dX0_closureOf_2))
theorem bX0_closureOf_6 : tg_Snd mX0_closureOf 6 (fun k => ti_push (.int (-1)) k) 7 := si_iconst (v := -1) dX0_closureOf_6 (by decide)
theorem bX0_closureOf_8 : tg_Snd mX0_closureOf 8 (fun k => ti_lload 1 (ti_lload 1 (ti_lneg (ti_land (ti_push (.long 1) (ti_lsub k)))))) 14 := tg_seq (si_lload_n (i := 1) dX0_closureOf_8 rfl) (tg_seq (si_lload_n (i := 1) dX0_closureOf_9 rfl) (tg_seq (si_lneg dX0_closureOf_10) (tg_seq (si_land dX0_closureOf_11) (tg_seq (si_lconst (v := 1) dX0_closureOf_12 (by decide)) (si_lsub dX0_closureOf_13)))))
theorem bX0_closureOf_17 : tg_Snd mX0_closureOf 17 (fun k => ti_istore 3 (ti_aload 0 (ti_getf 0 0 (ti_iload 3 k)))) 23 := tg_seq (si_istore_n (i := 3) dX0_closureOf_17 rfl (Nat.le_of_ble_eq_true rfl)) (tg_seq (si_aload_n (i := 0) dX0_closureOf_18 rfl) (tg_seq (si_getf (ci := 0) (f := 0) clX0 (Nat.le_of_ble_eq_true rfl) rfl flX0_12 dX0_closureOf_19) (si_iload_n (i := 3) dX0_closureOf_22 rfl)))
theorem bX0_closureOf_29 : tg_Snd mX0_closureOf 29 (fun k => ti_aload 0 (ti_aload 0 (ti_getf 0 0 (ti_getf 5 3 (ti_iload 3 (ti_iald (ti_lload 1 k))))))) 40 := tg_seq (si_aload_n (i := 0) dX0_closureOf_29 rfl) (tg_seq (si_aload_n (i := 0) dX0_closureOf_30 rfl) (tg_seq (si_getf (ci := 0) (f := 0) clX0 (Nat.le_of_ble_eq_true rfl) rfl flX0_12 dX0_closureOf_31) (tg_seq (si_getf (ci := 5) (f := 3) clX6 (Nat.le_of_ble_eq_true rfl) rfl flX0_73 dX0_closureOf_34) (tg_seq (si_iload_n (i := 3) dX0_closureOf_37 rfl) (tg_seq (si_iald dX0_closureOf_38) (si_lload_n (i := 1) dX0_closureOf_39 rfl))))))
theorem bX0_closureOf_46 : tg_Snd mX0_closureOf 46 (fun k => ti_push (.int (-1)) k) 47 := si_iconst (v := -1) dX0_closureOf_46 (by decide)
theorem vX0_closureOf_14 : tg_SS0 mX0_closureOf 14 mJ13_bitCount_95d88 1 := ⟨okJ13_bitCount_95d88, ⟨81, dX0_closureOf_14, mlX0_81⟩, staJ13_bitCount_95d88, parJ13_bitCount_95d88, rfl, rfl, Nat.le_of_ble_eq_true rfl, Nat.le_of_ble_eq_true rfl⟩
theorem vX0_closureOf_23 : tg_VS mX0_closureOf 23 mX6_hasEntry 1 := ⟨okX6_hasEntry, ⟨100, dX0_closureOf_23, mlX0_100⟩, insX6_hasEntry, selX6_hasEntry, parX6_hasEntry, rfl, rfl, Nat.le_of_ble_eq_true rfl, Nat.le_of_ble_eq_true rfl⟩
theorem vX0_closureOf_40 : tg_VS mX0_closureOf 40 mX0_sharedWith 2 := ⟨okX0_sharedWith, ⟨104, dX0_closureOf_40, mlX0_104⟩, insX0_sharedWith, selX0_sharedWith, parX0_sharedWith, rfl, rfl, Nat.le_of_ble_eq_true rfl, Nat.le_of_ble_eq_true rfl⟩
theorem dX0_sharedWith_0 : decode cX0_sharedWith 0 = .ok (.iconst 0, 1) := by decide +kernel
theorem dX0_sharedWith_1 : decode cX0_sharedWith 1 = .ok (.istore 4, 2) := by decide +kernel
theorem dX0_sharedWith_3 : decode cX0_sharedWith 3 = .ok (.iconst 1, 1) := by decide +kernel
theorem dX0_sharedWith_4 : decode cX0_sharedWith 4 = .ok (.istore 5, 2) := by decide +kernel
theorem dX0_sharedWith_6 : decode cX0_sharedWith 6 = .ok (.iload_n 1, 1) := by decide +kernel
theorem dX0_sharedWith_7 : decode cX0_sharedWith 7 = .ok (.istore 6, 2) := by decide +kernel
theorem dX0_sharedWith_9 : decode cX0_sharedWith 9 = .ok (.aload_n 0, 1) := by decide +kernel
theorem dX0_sharedWith_10 : decode cX0_sharedWith 10 = .ok (.getfield 12, 3) := by decide +kernel
theorem dX0_sharedWith_13 : decode cX0_sharedWith 13 = .ok (.getfield 63, 3) := by decide +kernel
theorem dX0_sharedWith_16 : decode cX0_sharedWith 16 = .ok (.iconst 1, 1) := by decide +kernel
theorem dX0_sharedWith_17 : decode cX0_sharedWith 17 = .ok (.isub, 1) := by decide +kernel
theorem dX0_sharedWith_18 : decode cX0_sharedWith 18 = .ok (.istore 7, 2) := by decide +kernel
theorem dX0_sharedWith_20 : decode cX0_sharedWith 20 = .ok (.iload 7, 2) := by decide +kernel
theorem dX0_sharedWith_22 : decode cX0_sharedWith 22 = .ok (.ifCond .lt 64, 3) := by decide +kernel
theorem dX0_sharedWith_25 : decode cX0_sharedWith 25 = .ok (.iload 6, 2) := by decide +kernel
theorem dX0_sharedWith_27 : decode cX0_sharedWith 27 = .ok (.bipush 7, 2) := by decide +kernel
theorem dX0_sharedWith_29 : decode cX0_sharedWith 29 = .ok (.irem, 1) := by decide +kernel
theorem dX0_sharedWith_30 : decode cX0_sharedWith 30 = .ok (.istore 8, 2) := by decide +kernel
theorem dX0_sharedWith_32 : decode cX0_sharedWith 32 = .ok (.iload 8, 2) := by decide +kernel
theorem dX0_sharedWith_34 : decode cX0_sharedWith 34 = .ok (.ifCond .le 32, 3) := by decide +kernel
theorem dX0_sharedWith_37 : decode cX0_sharedWith 37 = .ok (.lload_n 2, 1) := by decide +kernel
theorem dX0_sharedWith_38 : decode cX0_sharedWith 38 = .ok (.aload_n 0, 1) := by decide +kernel
theorem dX0_sharedWith_39 : decode cX0_sharedWith 39 = .ok (.iload 7, 2) := by decide +kernel
theorem dX0_sharedWith_41 : decode cX0_sharedWith 41 = .ok (.iload 8, 2) := by decide +kernel
theorem dX0_sharedWith_43 : decode cX0_sharedWith 43 = .ok (.invokevirtual 77, 3) := by decide +kernel
theorem dX0_sharedWith_46 : decode cX0_sharedWith 46 = .ok (.ldc2_w 108, 3) := by decide +kernel
theorem dX0_sharedWith_49 : decode cX0_sharedWith 49 = .ok (.lxor, 1) := by decide +kernel
theorem dX0_sharedWith_50 : decode cX0_sharedWith 50 = .ok (.land, 1) := by decide +kernel
theorem dX0_sharedWith_51 : decode cX0_sharedWith 51 = .ok (.lconst 0, 1) := by decide +kernel
theorem dX0_sharedWith_52 : decode cX0_sharedWith 52 = .ok (.lcmp, 1) := by decide +kernel
theorem dX0_sharedWith_53 : decode cX0_sharedWith 53 = .ok (.ifCond .ne 13, 3) := by decide +kernel
theorem dX0_sharedWith_56 : decode cX0_sharedWith 56 = .ok (.iload 4, 2) := by decide +kernel
theorem dX0_sharedWith_58 : decode cX0_sharedWith 58 = .ok (.iload 8, 2) := by decide +kernel
theorem dX0_sharedWith_60 : decode cX0_sharedWith 60 = .ok (.iload 5, 2) := by decide +kernel
theorem dX0_sharedWith_62 : decode cX0_sharedWith 62 = .ok (.imul, 1) := by decide +kernel
theorem dX0_sharedWith_63 : decode cX0_sharedWith 63 = .ok (.iadd, 1) := by decide +kernel
theorem dX0_sharedWith_64 : decode cX0_sharedWith 64 = .ok (.istore 4, 2) := by decide +kernel
theorem dX0_sharedWith_66 : decode cX0_sharedWith 66 = .ok (.iload 5, 2) := by decide +kernel
theorem dX0_sharedWith_68 : decode cX0_sharedWith 68 = .ok (.bipush 7, 2) := by decide +kernel
theorem dX0_sharedWith_70 : decode cX0_sharedWith 70 = .ok (.imul, 1) := by decide +kernel
theorem dX0_sharedWith_71 : decode cX0_sharedWith 71 = .ok (.istore 5, 2) := by decide +kernel
theorem dX0_sharedWith_73 : decode cX0_sharedWith 73 = .ok (.iload 6, 2) := by decide +kernel
theorem dX0_sharedWith_75 : decode cX0_sharedWith 75 = .ok (.bipush 7, 2) := by decide +kernel
theorem dX0_sharedWith_77 : decode cX0_sharedWith 77 = .ok (.idiv, 1) := by decide +kernel
theorem dX0_sharedWith_78 : decode cX0_sharedWith 78 = .ok (.istore 6, 2) := by decide +kernel
theorem dX0_sharedWith_80 : decode cX0_sharedWith 80 = .ok (.iinc 7 (-1), 3) := by decide +kernel
theorem dX0_sharedWith_83 : decode cX0_sharedWith 83 = .ok (.goto (-63), 3) := by decide +kernel
theorem dX0_sharedWith_86 : decode cX0_sharedWith 86 = .ok (.iload 4, 2) := by decide +kernel
theorem dX0_sharedWith_88 : decode cX0_sharedWith 88 = .ok (.ireturn, 1) := by decide +kernel
theorem bX0_sharedWith_0 : tg_Snd mX0_sharedWith 0 (fun k => ti_push (.int 0) (ti_istore 4 (ti_push (.int 1) (ti_istore 5 (ti_iload 1 (ti_istore 6 (ti_aload 0 (ti_getf 0 0 (ti_getf 5 0 (ti_push (.int 1) (ti_isub (ti_istore 7 k)))))))))))) 20 := tg_seq (si_iconst (v := 0) dX0_sharedWith_0 (by decide)) (tg_seq (si_istore (i := 4) dX0_sharedWith_1 (Nat.le_of_ble_eq_true rfl)) (tg_seq (si_iconst (v := 1) dX0_sharedWith_3 (by decide)) (tg_seq (si_istore (i := 5) dX0_sharedWith_4 (Nat.le_of_ble_eq_true rfl)) (tg_seq (si_iload_n (i := 1) dX0_sharedWith_6 rfl) (tg_seq (si_istore (i := 6) dX0_sharedWith_7 (Nat.le_of_ble_eq_true rfl)) (tg_seq (si_aload_n (i := 0) dX0_sharedWith_9 rfl) (tg_seq (si_getf (ci := 0) (f := 0) clX0 (Nat.le_of_ble_eq_true rfl) rfl flX0_12 dX0_sharedWith_10) (tg_seq (si_getf (ci := 5) (f := 0) clX6 (Nat.le_of_ble_eq_true rfl) rfl flX0_63 dX0_sharedWith_13) (tg_seq (si_iconst (v := 1) dX0_sharedWith_16 (by decide)) (tg_seq (si_isub dX0_sharedWith_17) (si_istore (i := 7) dX0_sharedWith_18 (Nat.le_of_ble_eq_true rfl))))))))))))
theorem bX0_sharedWith_20 : tg_Snd mX0_sharedWith 20 (fun k => ti_iload 7 k) 22 := si_iload (i := 7) dX0_sharedWith_20
theorem bX0_sharedWith_25 : tg_Snd mX0_sharedWith 25 (fun k => ti_iload 6 (ti_push (.int 7) (ti_irem (ti_istore 8 (ti_iload 8 k))))) 34 := tg_seq (si_iload (i := 6) dX0_sharedWith_25) (tg_seq (si_bipush (v := 7) dX0_sharedWith_27 (by decide)) (tg_seq (si_irem dX0_sharedWith_29) (tg_seq (si_istore (i := 8) dX0_sharedWith_30 (Nat.le_of_ble_eq_true rfl)) (si_iload (i := 8) dX0_sharedWith_32))))
theorem bX0_sharedWith_37 : tg_Snd mX0_sharedWith 37 (fun k => ti_lload 2 (ti_aload 0 (ti_iload 7 (ti_iload 8 k)))) 43 := tg_seq (si_lload_n (i := 2) dX0_sharedWith_37 rfl) (tg_seq (si_aload_n (i := 0) dX0_sharedWith_38 rfl) (tg_seq (si_iload (i := 7) dX0_sharedWith_39) (si_iload (i := 8) dX0_sharedWith_41)))
theorem bX0_sharedWith_46 : tg_Snd mX0_sharedWith 46 (fun k => ti_push (.long (-1)) (ti_lxor (ti_land (ti_push (.long 0) (ti_lcmp k))))) 53 := tg_seq (si_ldc2 (v := -1) dX0_sharedWith_46 klX0_108) (tg_seq (si_lxor dX0_sharedWith_49) (tg_seq (si_land dX0_sharedWith_50) (tg_seq (si_lconst (v := 0) dX0_sharedWith_51 (by decide)) (si_lcmp dX0_sharedWith_52))))
theorem bX0_sharedWith_56 : tg_Snd mX0_sharedWith 56 (fun k => ti_iload 4 (ti_iload 8 (ti_iload 5 (ti_imul (ti_iadd (ti_istore 4 k)))))) 66 := tg_seq (si_iload (i := 4) dX0_sharedWith_56) (tg_seq (si_iload (i := 8) dX0_sharedWith_58) (tg_seq (si_iload (i := 5) dX0_sharedWith_60) (tg_seq (si_imul dX0_sharedWith_62) (tg_seq (si_iadd dX0_sharedWith_63) (si_istore (i := 4) dX0_sharedWith_64 (Nat.le_of_ble_eq_true rfl))))))
theorem bX0_sharedWith_66 : tg_Snd mX0_sharedWith 66 (fun k => ti_iload 5 (ti_push (.int 7) (ti_imul (ti_istore 5 (ti_iload 6 (ti_push (.int 7) (ti_idiv (ti_istore 6 (ti_iinc 7 (-1) k))))))))) 83 := tg_seq (si_iload (i := 5) dX0_sharedWith_66) (tg_seq (si_bipush (v := 7) dX0_sharedWith_68 (by decide)) (tg_seq (si_imul dX0_sharedWith_70) (tg_seq (si_istore (i := 5) dX0_sharedWith_71 (Nat.le_of_ble_eq_true rfl)) (tg_seq (si_iload (i := 6) dX0_sharedWith_73) (tg_seq (si_bipush (v := 7) dX0_sharedWith_75 (by decide)) (tg_seq (si_idiv dX0_sharedWith_77) (tg_seq (si_istore (i := 6) dX0_sharedWith_78 (Nat.le_of_ble_eq_true rfl)) (si_iinc (v := -1) dX0_sharedWith_80 (by decide) (Nat.le_of_ble_eq_true rfl)))))))))
theorem bX0_sharedWith_86 : tg_Snd mX0_sharedWith 86 (fun k => ti_iload 4 k) 88 := si_iload (i := 4) dX0_sharedWith_86
theorem vX0_sharedWith_43 : tg_VS mX0_sharedWith 43 mX0_havingFigure 2 := ⟨okX0_havingFigure, ⟨77, dX0_sharedWith_43, mlX0_77⟩, insX0_havingFigure, selX0_havingFigure, parX0_havingFigure, rfl, rfl, Nat.le_of_ble_eq_true rfl, Nat.le_of_ble_eq_true rfl⟩
theorem dX0_dimensionsOf_0 : decode cX0_dimensionsOf 0 = .ok (.iconst 0, 1) := by decide +kernel
theorem dX0_dimensionsOf_1 : decode cX0_dimensionsOf 1 = .ok (.istore_n 2, 1) := by decide +kernel
theorem dX0_dimensionsOf_2 : decode cX0_dimensionsOf 2 = .ok (.iload_n 1, 1) := by decide +kernel
theorem dX0_dimensionsOf_3 : decode cX0_dimensionsOf 3 = .ok (.istore_n 3, 1) := by decide +kernel
theorem dX0_dimensionsOf_4 : decode cX0_dimensionsOf 4 = .ok (.aload_n 0, 1) := by decide +kernel
theorem dX0_dimensionsOf_5 : decode cX0_dimensionsOf 5 = .ok (.getfield 12, 3) := by decide +kernel
theorem dX0_dimensionsOf_8 : decode cX0_dimensionsOf 8 = .ok (.getfield 63, 3) := by decide +kernel
theorem dX0_dimensionsOf_11 : decode cX0_dimensionsOf 11 = .ok (.iconst 1, 1) := by decide +kernel
theorem dX0_dimensionsOf_12 : decode cX0_dimensionsOf 12 = .ok (.isub, 1) := by decide +kernel
theorem dX0_dimensionsOf_13 : decode cX0_dimensionsOf 13 = .ok (.istore 4, 2) := by decide +kernel
theorem dX0_dimensionsOf_15 : decode cX0_dimensionsOf 15 = .ok (.iload 4, 2) := by decide +kernel
theorem dX0_dimensionsOf_17 : decode cX0_dimensionsOf 17 = .ok (.ifCond .lt 28, 3) := by decide +kernel
theorem dX0_dimensionsOf_20 : decode cX0_dimensionsOf 20 = .ok (.iload_n 3, 1) := by decide +kernel
theorem dX0_dimensionsOf_21 : decode cX0_dimensionsOf 21 = .ok (.bipush 7, 2) := by decide +kernel
theorem dX0_dimensionsOf_23 : decode cX0_dimensionsOf 23 = .ok (.irem, 1) := by decide +kernel
theorem dX0_dimensionsOf_24 : decode cX0_dimensionsOf 24 = .ok (.ifCond .le 10, 3) := by decide +kernel
theorem dX0_dimensionsOf_27 : decode cX0_dimensionsOf 27 = .ok (.iload_n 2, 1) := by decide +kernel
theorem dX0_dimensionsOf_28 : decode cX0_dimensionsOf 28 = .ok (.iconst 1, 1) := by decide +kernel
theorem dX0_dimensionsOf_29 : decode cX0_dimensionsOf 29 = .ok (.iload 4, 2) := by decide +kernel
theorem dX0_dimensionsOf_31 : decode cX0_dimensionsOf 31 = .ok (.ishl, 1) := by decide +kernel
theorem dX0_dimensionsOf_32 : decode cX0_dimensionsOf 32 = .ok (.ior, 1) := by decide +kernel
theorem dX0_dimensionsOf_33 : decode cX0_dimensionsOf 33 = .ok (.istore_n 2, 1) := by decide +kernel
theorem dX0_dimensionsOf_34 : decode cX0_dimensionsOf 34 = .ok (.iload_n 3, 1) := by decide +kernel
theorem dX0_dimensionsOf_35 : decode cX0_dimensionsOf 35 = .ok (.bipush 7, 2) := by decide +kernel
theorem dX0_dimensionsOf_37 : decode cX0_dimensionsOf 37 = .ok (.idiv, 1) := by decide +kernel
theorem dX0_dimensionsOf_38 : decode cX0_dimensionsOf 38 = .ok (.istore_n 3, 1) := by decide +kernel
theorem dX0_dimensionsOf_39 : decode cX0_dimensionsOf 39 = .ok (.iinc 4 (-1), 3) := by decide +kernel
theorem dX0_dimensionsOf_42 : decode cX0_dimensionsOf 42 = .ok (.goto (-27), 3) := by decide +kernel
theorem dX0_dimensionsOf_45 : decode cX0_dimensionsOf 45 = .ok (.iload_n 2, 1) := by decide +kernel
theorem dX0_dimensionsOf_46 : decode cX0_dimensionsOf 46 = .ok (.ireturn, 1) := by decide +kernel
theorem bX0_dimensionsOf_0 : tg_Snd mX0_dimensionsOf 0 (fun k => ti_push (.int 0) (ti_istore 2 (ti_iload 1 (ti_istore 3 (ti_aload 0 (ti_getf 0 0 (ti_getf 5 0 (ti_push (.int 1) (ti_isub (ti_istore 4 k)))))))))) 15 := tg_seq (si_iconst (v := 0) dX0_dimensionsOf_0 (by decide)) (tg_seq (si_istore_n (i := 2) dX0_dimensionsOf_1 rfl (Nat.le_of_ble_eq_true rfl)) (tg_seq (si_iload_n (i := 1) dX0_dimensionsOf_2 rfl) (tg_seq (si_istore_n (i := 3) dX0_dimensionsOf_3 rfl (Nat.le_of_ble_eq_true rfl)) (tg_seq (si_aload_n (i := 0) dX0_dimensionsOf_4 rfl) (tg_seq (si_getf (ci := 0) (f := 0) clX0 (Nat.le_of_ble_eq_true rfl) rfl flX0_12 dX0_dimensionsOf_5) (tg_seq (si_getf (ci := 5) (f := 0) clX6 (Nat.le_of_ble_eq_true rfl) rfl flX0_63 dX0_dimensionsOf_8) (tg_seq (si_iconst (v := 1) dX0_dimensionsOf_11 (by decide)) (tg_seq (si_isub dX0_dimensionsOf_12) (si_istore (i := 4) dX0_dimensionsOf_13 (Nat.le_of_ble_eq_true rfl))))))))))
theorem bX0_dimensionsOf_15 : tg_Snd mX0_dimensionsOf 15 (fun k => ti_iload 4 k) 17 := si_iload (i := 4) dX0_dimensionsOf_15
theorem bX0_dimensionsOf_20 : tg_Snd mX0_dimensionsOf 20 (fun k => ti_iload 3 (ti_push (.int 7) (ti_irem k))) 24 := tg_seq (si_iload_n (i := 3) dX0_dimensionsOf_20 rfl) (tg_seq (si_bipush (v := 7) dX0_dimensionsOf_21 (by decide)) (si_irem dX0_dimensionsOf_23))
theorem bX0_dimensionsOf_27 : tg_Snd mX0_dimensionsOf 27 (fun k => ti_iload 2 (ti_push (.int 1) (ti_iload 4 (ti_ishl (ti_ior (ti_istore 2 k)))))) 34 := tg_seq (si_iload_n (i := 2) dX0_dimensionsOf_27 rfl) (tg_seq (si_iconst (v := 1) dX0_dimensionsOf_28 (by decide)) (tg_seq (si_iload (i := 4) dX0_dimensionsOf_29) (tg_seq (si_ishl dX0_dimensionsOf_31) (tg_seq (si_ior dX0_dimensionsOf_32) (si_istore_n (i := 2) dX0_dimensionsOf_33 rfl (Nat.le_of_ble_eq_true rfl))))))
theorem bX0_dimensionsOf_34 : tg_Snd mX0_dimensionsOf 34 (fun k => ti_iload 3 (ti_push (.int 7) (ti_idiv (ti_istore 3 (ti_iinc 4 (-1) k))))) 42 := tg_seq (si_iload_n (i := 3) dX0_dimensionsOf_34 rfl) (tg_seq (si_bipush (v := 7) dX0_dimensionsOf_35 (by decide)) (tg_seq (si_idiv dX0_dimensionsOf_37) (tg_seq (si_istore_n (i := 3) dX0_dimensionsOf_38 rfl (Nat.le_of_ble_eq_true rfl)) (si_iinc (v := -1) dX0_dimensionsOf_39 (by decide) (Nat.le_of_ble_eq_true rfl)))))
theorem bX0_dimensionsOf_45 : tg_Snd mX0_dimensionsOf 45 (fun k => ti_iload 2 k) 46 := si_iload_n (i := 2) dX0_dimensionsOf_45 rfl
theorem dX0_within_0 : decode cX0_within 0 = .ok (.iconst 0, 1) := by decide +kernel
theorem dX0_within_1 : decode cX0_within 1 = .ok (.istore_n 3, 1) := by decide +kernel
theorem dX0_within_2 : decode cX0_within 2 = .ok (.iconst 1, 1) := by decide +kernel
theorem dX0_within_3 : decode cX0_within 3 = .ok (.istore 4, 2) := by decide +kernel
theorem dX0_within_5 : decode cX0_within 5 = .ok (.iload_n 1, 1) := by decide +kernel
theorem dX0_within_6 : decode cX0_within 6 = .ok (.istore 5, 2) := by decide +kernel
theorem dX0_within_8 : decode cX0_within 8 = .ok (.aload_n 0, 1) := by decide +kernel
theorem dX0_within_9 : decode cX0_within 9 = .ok (.getfield 12, 3) := by decide +kernel
theorem dX0_within_12 : decode cX0_within 12 = .ok (.getfield 63, 3) := by decide +kernel
theorem dX0_within_15 : decode cX0_within 15 = .ok (.iconst 1, 1) := by decide +kernel
theorem dX0_within_16 : decode cX0_within 16 = .ok (.isub, 1) := by decide +kernel
theorem dX0_within_17 : decode cX0_within 17 = .ok (.istore 6, 2) := by decide +kernel
theorem dX0_within_19 : decode cX0_within 19 = .ok (.iload 6, 2) := by decide +kernel
theorem dX0_within_21 : decode cX0_within 21 = .ok (.ifCond .lt 43, 3) := by decide +kernel
theorem dX0_within_24 : decode cX0_within 24 = .ok (.iload_n 2, 1) := by decide +kernel
theorem dX0_within_25 : decode cX0_within 25 = .ok (.iload 6, 2) := by decide +kernel
theorem dX0_within_27 : decode cX0_within 27 = .ok (.ishr, 1) := by decide +kernel
theorem dX0_within_28 : decode cX0_within 28 = .ok (.iconst 1, 1) := by decide +kernel
theorem dX0_within_29 : decode cX0_within 29 = .ok (.iand, 1) := by decide +kernel
theorem dX0_within_30 : decode cX0_within 30 = .ok (.ifCond .eq 14, 3) := by decide +kernel
theorem dX0_within_33 : decode cX0_within 33 = .ok (.iload_n 3, 1) := by decide +kernel
theorem dX0_within_34 : decode cX0_within 34 = .ok (.iload 5, 2) := by decide +kernel
theorem dX0_within_36 : decode cX0_within 36 = .ok (.bipush 7, 2) := by decide +kernel
theorem dX0_within_38 : decode cX0_within 38 = .ok (.irem, 1) := by decide +kernel
theorem dX0_within_39 : decode cX0_within 39 = .ok (.iload 4, 2) := by decide +kernel
theorem dX0_within_41 : decode cX0_within 41 = .ok (.imul, 1) := by decide +kernel
theorem dX0_within_42 : decode cX0_within 42 = .ok (.iadd, 1) := by decide +kernel
theorem dX0_within_43 : decode cX0_within 43 = .ok (.istore_n 3, 1) := by decide +kernel
theorem dX0_within_44 : decode cX0_within 44 = .ok (.iload 4, 2) := by decide +kernel
theorem dX0_within_46 : decode cX0_within 46 = .ok (.bipush 7, 2) := by decide +kernel
theorem dX0_within_48 : decode cX0_within 48 = .ok (.imul, 1) := by decide +kernel
theorem dX0_within_49 : decode cX0_within 49 = .ok (.istore 4, 2) := by decide +kernel
theorem dX0_within_51 : decode cX0_within 51 = .ok (.iload 5, 2) := by decide +kernel
theorem dX0_within_53 : decode cX0_within 53 = .ok (.bipush 7, 2) := by decide +kernel
theorem dX0_within_55 : decode cX0_within 55 = .ok (.idiv, 1) := by decide +kernel
theorem dX0_within_56 : decode cX0_within 56 = .ok (.istore 5, 2) := by decide +kernel
theorem dX0_within_58 : decode cX0_within 58 = .ok (.iinc 6 (-1), 3) := by decide +kernel
theorem dX0_within_61 : decode cX0_within 61 = .ok (.goto (-42), 3) := by decide +kernel
theorem dX0_within_64 : decode cX0_within 64 = .ok (.iload_n 3, 1) := by decide +kernel
theorem dX0_within_65 : decode cX0_within 65 = .ok (.ireturn, 1) := by decide +kernel
theorem bX0_within_0 : tg_Snd mX0_within 0 (fun k => ti_push (.int 0) (ti_istore 3 (ti_push (.int 1) (ti_istore 4 (ti_iload 1 (ti_istore 5 (ti_aload 0 (ti_getf 0 0 (ti_getf 5 0 (ti_push (.int 1) (ti_isub (ti_istore 6 k)))))))))))) 19 := tg_seq (si_iconst (v := 0) dX0_within_0 (by decide)) (tg_seq (si_istore_n (i := 3) dX0_within_1 rfl (Nat.le_of_ble_eq_true rfl)) (tg_seq (si_iconst (v := 1) dX0_within_2 (by decide)) (tg_seq (si_istore (i := 4) dX0_within_3 (Nat.le_of_ble_eq_true rfl)) (tg_seq (si_iload_n (i := 1) dX0_within_5 rfl) (tg_seq (si_istore (i := 5) dX0_within_6 (Nat.le_of_ble_eq_true rfl)) (tg_seq (si_aload_n (i := 0) dX0_within_8 rfl) (tg_seq (si_getf (ci := 0) (f := 0) clX0 (Nat.le_of_ble_eq_true rfl) rfl flX0_12 dX0_within_9) (tg_seq (si_getf (ci := 5) (f := 0) clX6 (Nat.le_of_ble_eq_true rfl) rfl flX0_63 dX0_within_12) (tg_seq (si_iconst (v := 1) dX0_within_15 (by decide)) (tg_seq (si_isub dX0_within_16) (si_istore (i := 6) dX0_within_17 (Nat.le_of_ble_eq_true rfl))))))))))))
theorem bX0_within_19 : tg_Snd mX0_within 19 (fun k => ti_iload 6 k) 21 := si_iload (i := 6) dX0_within_19
theorem bX0_within_24 : tg_Snd mX0_within 24 (fun k => ti_iload 2 (ti_iload 6 (ti_ishr (ti_push (.int 1) (ti_iand k))))) 30 := tg_seq (si_iload_n (i := 2) dX0_within_24 rfl) (tg_seq (si_iload (i := 6) dX0_within_25) (tg_seq (si_ishr dX0_within_27) (tg_seq (si_iconst (v := 1) dX0_within_28 (by decide)) (si_iand dX0_within_29))))
theorem bX0_within_33 : tg_Snd mX0_within 33 (fun k => ti_iload 3 (ti_iload 5 (ti_push (.int 7) (ti_irem (ti_iload 4 (ti_imul (ti_iadd (ti_istore 3 k)))))))) 44 := tg_seq (si_iload_n (i := 3) dX0_within_33 rfl) (tg_seq (si_iload (i := 5) dX0_within_34) (tg_seq (si_bipush (v := 7) dX0_within_36 (by decide)) (tg_seq (si_irem dX0_within_38) (tg_seq (si_iload (i := 4) dX0_within_39) (tg_seq (si_imul dX0_within_41) (tg_seq (si_iadd dX0_within_42) (si_istore_n (i := 3) dX0_within_43 rfl (Nat.le_of_ble_eq_true rfl))))))))
theorem bX0_within_44 : tg_Snd mX0_within 44 (fun k => ti_iload 4 (ti_push (.int 7) (ti_imul (ti_istore 4 (ti_iload 5 (ti_push (.int 7) (ti_idiv (ti_istore 5 (ti_iinc 6 (-1) k))))))))) 61 := tg_seq (si_iload (i := 4) dX0_within_44) (tg_seq (si_bipush (v := 7) dX0_within_46 (by decide)) (tg_seq (si_imul dX0_within_48) (tg_seq (si_istore (i := 4) dX0_within_49 (Nat.le_of_ble_eq_true rfl)) (tg_seq (si_iload (i := 5) dX0_within_51) (tg_seq (si_bipush (v := 7) dX0_within_53 (by decide)) (tg_seq (si_idiv dX0_within_55) (tg_seq (si_istore (i := 5) dX0_within_56 (Nat.le_of_ble_eq_true rfl)) (si_iinc (v := -1) dX0_within_58 (by decide) (Nat.le_of_ble_eq_true rfl)))))))))
theorem bX0_within_64 : tg_Snd mX0_within 64 (fun k => ti_iload 3 k) 65 := si_iload_n (i := 3) dX0_within_64 rfl
theorem dX0_codeInCube_0 : decode cX0_codeInCube 0 = .ok (.iconst 0, 1) := by decide +kernel
theorem dX0_codeInCube_1 : decode cX0_codeInCube 1 = .ok (.istore_n 2, 1) := by decide +kernel
theorem dX0_codeInCube_2 : decode cX0_codeInCube 2 = .ok (.iconst 0, 1) := by decide +kernel
theorem dX0_codeInCube_3 : decode cX0_codeInCube 3 = .ok (.istore_n 3, 1) := by decide +kernel
theorem dX0_codeInCube_4 : decode cX0_codeInCube 4 = .ok (.iload_n 3, 1) := by decide +kernel
theorem dX0_codeInCube_5 : decode cX0_codeInCube 5 = .ok (.aload_n 0, 1) := by decide +kernel
theorem dX0_codeInCube_6 : decode cX0_codeInCube 6 = .ok (.getfield 58, 3) := by decide +kernel
theorem dX0_codeInCube_9 : decode cX0_codeInCube 9 = .ok (.if_icmp .ge 52, 3) := by decide +kernel
theorem dX0_codeInCube_12 : decode cX0_codeInCube 12 = .ok (.aload_n 0, 1) := by decide +kernel
theorem dX0_codeInCube_13 : decode cX0_codeInCube 13 = .ok (.getfield 42, 3) := by decide +kernel
theorem dX0_codeInCube_16 : decode cX0_codeInCube 16 = .ok (.iload_n 3, 1) := by decide +kernel
theorem dX0_codeInCube_17 : decode cX0_codeInCube 17 = .ok (.baload, 1) := by decide +kernel
theorem dX0_codeInCube_18 : decode cX0_codeInCube 18 = .ok (.ifCond .eq 37, 3) := by decide +kernel
theorem dX0_codeInCube_21 : decode cX0_codeInCube 21 = .ok (.aload_n 0, 1) := by decide +kernel
theorem dX0_codeInCube_22 : decode cX0_codeInCube 22 = .ok (.getfield 33, 3) := by decide +kernel
theorem dX0_codeInCube_25 : decode cX0_codeInCube 25 = .ok (.iload_n 3, 1) := by decide +kernel
theorem dX0_codeInCube_26 : decode cX0_codeInCube 26 = .ok (.laload, 1) := by decide +kernel
theorem dX0_codeInCube_27 : decode cX0_codeInCube 27 = .ok (.invokestatic 81, 3) := by decide +kernel
theorem dX0_codeInCube_30 : decode cX0_codeInCube 30 = .ok (.aload_n 0, 1) := by decide +kernel
theorem dX0_codeInCube_31 : decode cX0_codeInCube 31 = .ok (.getfield 12, 3) := by decide +kernel
theorem dX0_codeInCube_34 : decode cX0_codeInCube 34 = .ok (.getfield 110, 3) := by decide +kernel
theorem dX0_codeInCube_37 : decode cX0_codeInCube 37 = .ok (.if_icmp .lt 18, 3) := by decide +kernel
theorem dX0_codeInCube_40 : decode cX0_codeInCube 40 = .ok (.iload_n 2, 1) := by decide +kernel
theorem dX0_codeInCube_41 : decode cX0_codeInCube 41 = .ok (.iload_n 1, 1) := by decide +kernel
theorem dX0_codeInCube_42 : decode cX0_codeInCube 42 = .ok (.if_icmp .ne 10, 3) := by decide +kernel
theorem dX0_codeInCube_45 : decode cX0_codeInCube 45 = .ok (.aload_n 0, 1) := by decide +kernel
theorem dX0_codeInCube_46 : decode cX0_codeInCube 46 = .ok (.getfield 29, 3) := by decide +kernel
theorem dX0_codeInCube_49 : decode cX0_codeInCube 49 = .ok (.iload_n 3, 1) := by decide +kernel
theorem dX0_codeInCube_50 : decode cX0_codeInCube 50 = .ok (.iaload, 1) := by decide +kernel
theorem dX0_codeInCube_51 : decode cX0_codeInCube 51 = .ok (.ireturn, 1) := by decide +kernel
theorem dX0_codeInCube_52 : decode cX0_codeInCube 52 = .ok (.iinc 2 1, 3) := by decide +kernel
theorem dX0_codeInCube_55 : decode cX0_codeInCube 55 = .ok (.iinc 3 1, 3) := by decide +kernel
theorem dX0_codeInCube_58 : decode cX0_codeInCube 58 = .ok (.goto (-54), 3) := by decide +kernel
theorem dX0_codeInCube_61 : decode cX0_codeInCube 61 = .ok (.iconst (-1), 1) := by decide +kernel
theorem dX0_codeInCube_62 : decode cX0_codeInCube 62 = .ok (.ireturn, 1) := by decide +kernel
theorem bX0_codeInCube_0 : tg_Snd mX0_codeInCube 0 (fun k => ti_push (.int 0) (ti_istore 2 (ti_push (.int 0) (ti_istore 3 k)))) 4 := tg_seq (si_iconst (v := 0) dX0_codeInCube_0 (by decide)) (tg_seq (si_istore_n (i := 2) dX0_codeInCube_1 rfl (Nat.le_of_ble_eq_true rfl)) (tg_seq (si_iconst (v := 0) dX0_codeInCube_2 (by decide)) (si_istore_n (i := 3) dX0_codeInCube_3 rfl (Nat.le_of_ble_eq_true rfl))))
theorem bX0_codeInCube_4 : tg_Snd mX0_codeInCube 4 (fun k => ti_iload 3 (ti_aload 0 (ti_getf 0 3 k))) 9 := tg_seq (si_iload_n (i := 3) dX0_codeInCube_4 rfl) (tg_seq (si_aload_n (i := 0) dX0_codeInCube_5 rfl) (si_getf (ci := 0) (f := 3) clX0 (Nat.le_of_ble_eq_true rfl) rfl flX0_58 dX0_codeInCube_6))
theorem bX0_codeInCube_12 : tg_Snd mX0_codeInCube 12 (fun k => ti_aload 0 (ti_getf 0 8 (ti_iload 3 (ti_zald k)))) 18 := tg_seq (si_aload_n (i := 0) dX0_codeInCube_12 rfl) (tg_seq (si_getf (ci := 0) (f := 8) clX0 (Nat.le_of_ble_eq_true rfl) rfl flX0_42 dX0_codeInCube_13) (tg_seq (si_iload_n (i := 3) dX0_codeInCube_16 rfl) (si_zald dX0_codeInCube_17)))
theorem bX0_codeInCube_21 : tg_Snd mX0_codeInCube 21 (fun k => ti_aload 0 (ti_getf 0 5 (ti_iload 3 (ti_lald k)))) 27 := tg_seq (si_aload_n (i := 0) dX0_codeInCube_21 rfl) (tg_seq (si_getf (ci := 0) (f := 5) clX0 (Nat.le_of_ble_eq_true rfl) rfl flX0_33 dX0_codeInCube_22) (tg_seq (si_iload_n (i := 3) dX0_codeInCube_25 rfl) (si_lald dX0_codeInCube_26)))
theorem bX0_codeInCube_30 : tg_Snd mX0_codeInCube 30 (fun k => ti_aload 0 (ti_getf 0 0 (ti_getf 5 5 k))) 37 := tg_seq (si_aload_n (i := 0) dX0_codeInCube_30 rfl) (tg_seq (si_getf (ci := 0) (f := 0) clX0 (Nat.le_of_ble_eq_true rfl) rfl flX0_12 dX0_codeInCube_31) (si_getf (ci := 5) (f := 5) clX6 (Nat.le_of_ble_eq_true rfl) rfl flX0_110 dX0_codeInCube_34))
theorem bX0_codeInCube_40 : tg_Snd mX0_codeInCube 40 (fun k => ti_iload 2 (ti_iload 1 k)) 42 := tg_seq (si_iload_n (i := 2) dX0_codeInCube_40 rfl) (si_iload_n (i := 1) dX0_codeInCube_41 rfl)
theorem bX0_codeInCube_45 : tg_Snd mX0_codeInCube 45 (fun k => ti_aload 0 (ti_getf 0 4 (ti_iload 3 (ti_iald k)))) 51 := tg_seq (si_aload_n (i := 0) dX0_codeInCube_45 rfl) (tg_seq (si_getf (ci := 0) (f := 4) clX0 (Nat.le_of_ble_eq_true rfl) rfl flX0_29 dX0_codeInCube_46) (tg_seq (si_iload_n (i := 3) dX0_codeInCube_49 rfl) (si_iald dX0_codeInCube_50)))
theorem bX0_codeInCube_52 : tg_Snd mX0_codeInCube 52 (fun k => ti_iinc 2 1 k) 55 := si_iinc (v := 1) dX0_codeInCube_52 (by decide) (Nat.le_of_ble_eq_true rfl)
theorem bX0_codeInCube_55 : tg_Snd mX0_codeInCube 55 (fun k => ti_iinc 3 1 k) 58 := si_iinc (v := 1) dX0_codeInCube_55 (by decide) (Nat.le_of_ble_eq_true rfl)
theorem bX0_codeInCube_61 : tg_Snd mX0_codeInCube 61 (fun k => ti_push (.int (-1)) k) 62 := si_iconst (v := -1) dX0_codeInCube_61 (by decide)
theorem vX0_codeInCube_27 : tg_SS0 mX0_codeInCube 27 mJ13_bitCount_95d88 1 := ⟨okJ13_bitCount_95d88, ⟨81, dX0_codeInCube_27, mlX0_81⟩, staJ13_bitCount_95d88, parJ13_bitCount_95d88, rfl, rfl, Nat.le_of_ble_eq_true rfl, Nat.le_of_ble_eq_true rfl⟩
theorem dX0_cubeSize_0 : decode cX0_cubeSize 0 = .ok (.aload_n 0, 1) := by decide +kernel
theorem dX0_cubeSize_1 : decode cX0_cubeSize 1 = .ok (.getfield 49, 3) := by decide +kernel
theorem dX0_cubeSize_4 : decode cX0_cubeSize 4 = .ok (.iload_n 1, 1) := by decide +kernel
theorem dX0_cubeSize_5 : decode cX0_cubeSize 5 = .ok (.invokestatic 113, 3) := by decide +kernel
theorem dX0_cubeSize_8 : decode cX0_cubeSize 8 = .ok (.ireturn, 1) := by decide +kernel
theorem bX0_cubeSize_0 : tg_Snd mX0_cubeSize 0 (fun k => ti_aload 0 (ti_getf 0 10 (ti_iload 1 k))) 5 := tg_seq (si_aload_n (i := 0) dX0_cubeSize_0 rfl) (tg_seq (si_getf (ci := 0) (f := 10) clX0 (Nat.le_of_ble_eq_true rfl) rfl flX0_49 dX0_cubeSize_1) (si_iload_n (i := 1) dX0_cubeSize_4 rfl))
theorem vX0_cubeSize_5 : tg_SS0 mX0_cubeSize 5 mX0_ofSizeOrMore 2 := ⟨okX0_ofSizeOrMore, ⟨113, dX0_cubeSize_5, mlX0_113⟩, staX0_ofSizeOrMore, parX0_ofSizeOrMore, rfl, rfl, Nat.le_of_ble_eq_true rfl, Nat.le_of_ble_eq_true rfl⟩
theorem dX0_cellsWith_0 : decode cX0_cellsWith 0 = .ok (.aload_n 0, 1) := by decide +kernel
theorem dX0_cellsWith_1 : decode cX0_cellsWith 1 = .ok (.getfield 46, 3) := by decide +kernel
theorem dX0_cellsWith_4 : decode cX0_cellsWith 4 = .ok (.iload_n 1, 1) := by decide +kernel
theorem dX0_cellsWith_5 : decode cX0_cellsWith 5 = .ok (.invokestatic 113, 3) := by decide +kernel
theorem dX0_cellsWith_8 : decode cX0_cellsWith 8 = .ok (.ireturn, 1) := by decide +kernel
theorem bX0_cellsWith_0 : tg_Snd mX0_cellsWith 0 (fun k => ti_aload 0 (ti_getf 0 9 (ti_iload 1 k))) 5 := tg_seq (si_aload_n (i := 0) dX0_cellsWith_0 rfl) (tg_seq (si_getf (ci := 0) (f := 9) clX0 (Nat.le_of_ble_eq_true rfl) rfl flX0_46 dX0_cellsWith_1) (si_iload_n (i := 1) dX0_cellsWith_4 rfl))
theorem vX0_cellsWith_5 : tg_SS0 mX0_cellsWith 5 mX0_ofSizeOrMore 2 := ⟨okX0_ofSizeOrMore, ⟨113, dX0_cellsWith_5, mlX0_113⟩, staX0_ofSizeOrMore, parX0_ofSizeOrMore, rfl, rfl, Nat.le_of_ble_eq_true rfl, Nat.le_of_ble_eq_true rfl⟩
theorem dX0_ofSizeOrMore_0 : decode cX0_ofSizeOrMore 0 = .ok (.iconst 0, 1) := by decide +kernel
theorem dX0_ofSizeOrMore_1 : decode cX0_ofSizeOrMore 1 = .ok (.istore_n 2, 1) := by decide +kernel
theorem dX0_ofSizeOrMore_2 : decode cX0_ofSizeOrMore 2 = .ok (.iload_n 1, 1) := by decide +kernel
theorem dX0_ofSizeOrMore_3 : decode cX0_ofSizeOrMore 3 = .ok (.iconst 0, 1) := by decide +kernel
theorem dX0_ofSizeOrMore_4 : decode cX0_ofSizeOrMore 4 = .ok (.invokestatic 117, 3) := by decide +kernel
theorem dX0_ofSizeOrMore_7 : decode cX0_ofSizeOrMore 7 = .ok (.istore_n 3, 1) := by decide +kernel
theorem dX0_ofSizeOrMore_8 : decode cX0_ofSizeOrMore 8 = .ok (.iload_n 3, 1) := by decide +kernel
theorem dX0_ofSizeOrMore_9 : decode cX0_ofSizeOrMore 9 = .ok (.bipush 40, 2) := by decide +kernel
theorem dX0_ofSizeOrMore_11 : decode cX0_ofSizeOrMore 11 = .ok (.if_icmp .gt 15, 3) := by decide +kernel
theorem dX0_ofSizeOrMore_14 : decode cX0_ofSizeOrMore 14 = .ok (.iload_n 2, 1) := by decide +kernel
theorem dX0_ofSizeOrMore_15 : decode cX0_ofSizeOrMore 15 = .ok (.aload_n 0, 1) := by decide +kernel
theorem dX0_ofSizeOrMore_16 : decode cX0_ofSizeOrMore 16 = .ok (.iload_n 3, 1) := by decide +kernel
theorem dX0_ofSizeOrMore_17 : decode cX0_ofSizeOrMore 17 = .ok (.iaload, 1) := by decide +kernel
theorem dX0_ofSizeOrMore_18 : decode cX0_ofSizeOrMore 18 = .ok (.iadd, 1) := by decide +kernel
theorem dX0_ofSizeOrMore_19 : decode cX0_ofSizeOrMore 19 = .ok (.istore_n 2, 1) := by decide +kernel
theorem dX0_ofSizeOrMore_20 : decode cX0_ofSizeOrMore 20 = .ok (.iinc 3 1, 3) := by decide +kernel
theorem dX0_ofSizeOrMore_23 : decode cX0_ofSizeOrMore 23 = .ok (.goto (-15), 3) := by decide +kernel
theorem dX0_ofSizeOrMore_26 : decode cX0_ofSizeOrMore 26 = .ok (.iload_n 2, 1) := by decide +kernel
theorem dX0_ofSizeOrMore_27 : decode cX0_ofSizeOrMore 27 = .ok (.ireturn, 1) := by decide +kernel
theorem bX0_ofSizeOrMore_0 : tg_Snd mX0_ofSizeOrMore 0 (fun k => ti_push (.int 0) (ti_istore 2 (ti_iload 1 (ti_push (.int 0) (ti_mmax (ti_istore 3 k)))))) 8 := tg_seq (si_iconst (v := 0) dX0_ofSizeOrMore_0 (by decide)) (tg_seq (si_istore_n (i := 2) dX0_ofSizeOrMore_1 rfl (Nat.le_of_ble_eq_true rfl)) (tg_seq (si_iload_n (i := 1) dX0_ofSizeOrMore_2 rfl) (tg_seq (si_iconst (v := 0) dX0_ofSizeOrMore_3 (by decide)) (tg_seq (si_mmax dX0_ofSizeOrMore_4 mlX0_117 staMax iniMath codMax (Nat.le_of_ble_eq_true rfl) (Nat.le_of_ble_eq_true rfl)) (si_istore_n (i := 3) dX0_ofSizeOrMore_7 rfl (Nat.le_of_ble_eq_true rfl))))))
theorem bX0_ofSizeOrMore_8 : tg_Snd mX0_ofSizeOrMore 8 (fun k => ti_iload 3 (ti_push (.int 40) k)) 11 := tg_seq (si_iload_n (i := 3) dX0_ofSizeOrMore_8 rfl) (si_bipush (v := 40) dX0_ofSizeOrMore_9 (by decide))
theorem bX0_ofSizeOrMore_14 : tg_Snd mX0_ofSizeOrMore 14 (fun k => ti_iload 2 (ti_aload 0 (ti_iload 3 (ti_iald (ti_iadd (ti_istore 2 (ti_iinc 3 1 k))))))) 23 := tg_seq (si_iload_n (i := 2) dX0_ofSizeOrMore_14 rfl) (tg_seq (si_aload_n (i := 0) dX0_ofSizeOrMore_15 rfl) (tg_seq (si_iload_n (i := 3) dX0_ofSizeOrMore_16 rfl) (tg_seq (si_iald dX0_ofSizeOrMore_17) (tg_seq (si_iadd dX0_ofSizeOrMore_18) (tg_seq (si_istore_n (i := 2) dX0_ofSizeOrMore_19 rfl (Nat.le_of_ble_eq_true rfl)) (si_iinc (v := 1) dX0_ofSizeOrMore_20 (by decide) (Nat.le_of_ble_eq_true rfl)))))))
theorem bX0_ofSizeOrMore_26 : tg_Snd mX0_ofSizeOrMore 26 (fun k => ti_iload 2 k) 27 := si_iload_n (i := 2) dX0_ofSizeOrMore_26 rfl
theorem dX0_leastSupportFor_0 : decode cX0_leastSupportFor 0 = .ok (.iconst 1, 1) := by decide +kernel
theorem dX0_leastSupportFor_1 : decode cX0_leastSupportFor 1 = .ok (.istore_n 2, 1) := by decide +kernel
theorem dX0_leastSupportFor_2 : decode cX0_leastSupportFor 2 = .ok (.iload_n 2, 1) := by decide +kernel
theorem dX0_leastSupportFor_3 : decode cX0_leastSupportFor 3 = .ok (.bipush 40, 2) := by decide +kernel
theorem dX0_leastSupportFor_5 : decode cX0_leastSupportFor 5 = .ok (.if_icmp .gt 20, 3) := by decide +kernel
theorem dX0_leastSupportFor_8 : decode cX0_leastSupportFor 8 = .ok (.aload_n 0, 1) := by decide +kernel
theorem dX0_leastSupportFor_9 : decode cX0_leastSupportFor 9 = .ok (.iload_n 2, 1) := by decide +kernel
theorem dX0_leastSupportFor_10 : decode cX0_leastSupportFor 10 = .ok (.invokevirtual 120, 3) := by decide +kernel
theorem dX0_leastSupportFor_13 : decode cX0_leastSupportFor 13 = .ok (.iload_n 1, 1) := by decide +kernel
theorem dX0_leastSupportFor_14 : decode cX0_leastSupportFor 14 = .ok (.if_icmp .gt 5, 3) := by decide +kernel
theorem dX0_leastSupportFor_17 : decode cX0_leastSupportFor 17 = .ok (.iload_n 2, 1) := by decide +kernel
theorem dX0_leastSupportFor_18 : decode cX0_leastSupportFor 18 = .ok (.ireturn, 1) := by decide +kernel
theorem dX0_leastSupportFor_19 : decode cX0_leastSupportFor 19 = .ok (.iinc 2 1, 3) := by decide +kernel
theorem dX0_leastSupportFor_22 : decode cX0_leastSupportFor 22 = .ok (.goto (-20), 3) := by decide +kernel
theorem dX0_leastSupportFor_25 : decode cX0_leastSupportFor 25 = .ok (.bipush 41, 2) := by decide +kernel
theorem dX0_leastSupportFor_27 : decode cX0_leastSupportFor 27 = .ok (.ireturn, 1) := by decide +kernel
theorem bX0_leastSupportFor_0 : tg_Snd mX0_leastSupportFor 0 (fun k => ti_push (.int 1) (ti_istore 2 k)) 2 := tg_seq (si_iconst (v := 1) dX0_leastSupportFor_0 (by decide)) (si_istore_n (i := 2) dX0_leastSupportFor_1 rfl (Nat.le_of_ble_eq_true rfl))
theorem bX0_leastSupportFor_2 : tg_Snd mX0_leastSupportFor 2 (fun k => ti_iload 2 (ti_push (.int 40) k)) 5 := tg_seq (si_iload_n (i := 2) dX0_leastSupportFor_2 rfl) (si_bipush (v := 40) dX0_leastSupportFor_3 (by decide))
theorem bX0_leastSupportFor_8 : tg_Snd mX0_leastSupportFor 8 (fun k => ti_aload 0 (ti_iload 2 k)) 10 := tg_seq (si_aload_n (i := 0) dX0_leastSupportFor_8 rfl) (si_iload_n (i := 2) dX0_leastSupportFor_9 rfl)
theorem bX0_leastSupportFor_13 : tg_Snd mX0_leastSupportFor 13 (fun k => ti_iload 1 k) 14 := si_iload_n (i := 1) dX0_leastSupportFor_13 rfl
theorem bX0_leastSupportFor_17 : tg_Snd mX0_leastSupportFor 17 (fun k => ti_iload 2 k) 18 := si_iload_n (i := 2) dX0_leastSupportFor_17 rfl
theorem bX0_leastSupportFor_19 : tg_Snd mX0_leastSupportFor 19 (fun k => ti_iinc 2 1 k) 22 := si_iinc (v := 1) dX0_leastSupportFor_19 (by decide) (Nat.le_of_ble_eq_true rfl)
theorem bX0_leastSupportFor_25 : tg_Snd mX0_leastSupportFor 25 (fun k => ti_push (.int 41) k) 27 := si_bipush (v := 41) dX0_leastSupportFor_25 (by decide)
theorem vX0_leastSupportFor_10 : tg_VS mX0_leastSupportFor 10 mX0_cubeSize 1 := ⟨okX0_cubeSize, ⟨120, dX0_leastSupportFor_10, mlX0_120⟩, insX0_cubeSize, selX0_cubeSize, parX0_cubeSize, rfl, rfl, Nat.le_of_ble_eq_true rfl, Nat.le_of_ble_eq_true rfl⟩
theorem dX0_isInCube_0 : decode cX0_isInCube 0 = .ok (.lload_n 2, 1) := by decide +kernel
theorem dX0_isInCube_1 : decode cX0_isInCube 1 = .ok (.invokestatic 81, 3) := by decide +kernel
theorem dX0_isInCube_4 : decode cX0_isInCube 4 = .ok (.aload_n 0, 1) := by decide +kernel
theorem dX0_isInCube_5 : decode cX0_isInCube 5 = .ok (.getfield 12, 3) := by decide +kernel
theorem dX0_isInCube_8 : decode cX0_isInCube 8 = .ok (.getfield 110, 3) := by decide +kernel
theorem dX0_isInCube_11 : decode cX0_isInCube 11 = .ok (.if_icmp .lt 16, 3) := by decide +kernel
theorem dX0_isInCube_14 : decode cX0_isInCube 14 = .ok (.aload_n 0, 1) := by decide +kernel
theorem dX0_isInCube_15 : decode cX0_isInCube 15 = .ok (.lload_n 2, 1) := by decide +kernel
theorem dX0_isInCube_16 : decode cX0_isInCube 16 = .ok (.invokevirtual 93, 3) := by decide +kernel
theorem dX0_isInCube_19 : decode cX0_isInCube 19 = .ok (.iload_n 1, 1) := by decide +kernel
theorem dX0_isInCube_20 : decode cX0_isInCube 20 = .ok (.if_icmp .ne 7, 3) := by decide +kernel
theorem dX0_isInCube_23 : decode cX0_isInCube 23 = .ok (.iconst 1, 1) := by decide +kernel
theorem dX0_isInCube_24 : decode cX0_isInCube 24 = .ok (.goto 4, 3) := by decide +kernel
theorem dX0_isInCube_27 : decode cX0_isInCube 27 = .ok (.iconst 0, 1) := by decide +kernel
theorem dX0_isInCube_28 : decode cX0_isInCube 28 = .ok (.ireturn, 1) := by decide +kernel
theorem bX0_isInCube_0 : tg_Snd mX0_isInCube 0 (fun k => ti_lload 2 k) 1 := si_lload_n (i := 2) dX0_isInCube_0 rfl
theorem bX0_isInCube_4 : tg_Snd mX0_isInCube 4 (fun k => ti_aload 0 (ti_getf 0 0 (ti_getf 5 5 k))) 11 := tg_seq (si_aload_n (i := 0) dX0_isInCube_4 rfl) (tg_seq (si_getf (ci := 0) (f := 0) clX0 (Nat.le_of_ble_eq_true rfl) rfl flX0_12 dX0_isInCube_5) (si_getf (ci := 5) (f := 5) clX6 (Nat.le_of_ble_eq_true rfl) rfl flX0_110 dX0_isInCube_8))
theorem bX0_isInCube_14 : tg_Snd mX0_isInCube 14 (fun k => ti_aload 0 (ti_lload 2 k)) 16 := tg_seq (si_aload_n (i := 0) dX0_isInCube_14 rfl) (si_lload_n (i := 2) dX0_isInCube_15 rfl)
theorem bX0_isInCube_19 : tg_Snd mX0_isInCube 19 (fun k => ti_iload 1 k) 20 := si_iload_n (i := 1) dX0_isInCube_19 rfl
theorem bX0_isInCube_23 : tg_Snd mX0_isInCube 23 (fun k => ti_push (.int 1) k) 24 := si_iconst (v := 1) dX0_isInCube_23 (by decide)
theorem bX0_isInCube_27 : tg_Snd mX0_isInCube 27 (fun k => ti_push (.int 0) k) 28 := si_iconst (v := 0) dX0_isInCube_27 (by decide)
theorem vX0_isInCube_1 : tg_SS0 mX0_isInCube 1 mJ13_bitCount_95d88 1 := ⟨okJ13_bitCount_95d88, ⟨81, dX0_isInCube_1, mlX0_81⟩, staJ13_bitCount_95d88, parJ13_bitCount_95d88, rfl, rfl, Nat.le_of_ble_eq_true rfl, Nat.le_of_ble_eq_true rfl⟩
theorem vX0_isInCube_16 : tg_VS mX0_isInCube 16 mX0_closureOf 1 := ⟨okX0_closureOf, ⟨93, dX0_isInCube_16, mlX0_93⟩, insX0_closureOf, selX0_closureOf, parX0_closureOf, rfl, rfl, Nat.le_of_ble_eq_true rfl, Nat.le_of_ble_eq_true rfl⟩
theorem dX0_gainedWith_0 : decode cX0_gainedWith 0 = .ok (.iconst 0, 1) := by decide +kernel
theorem dX0_gainedWith_1 : decode cX0_gainedWith 1 = .ok (.istore_n 2, 1) := by decide +kernel
theorem dX0_gainedWith_2 : decode cX0_gainedWith 2 = .ok (.iconst 0, 1) := by decide +kernel
theorem dX0_gainedWith_3 : decode cX0_gainedWith 3 = .ok (.istore_n 3, 1) := by decide +kernel
theorem dX0_gainedWith_4 : decode cX0_gainedWith 4 = .ok (.iload_n 3, 1) := by decide +kernel
theorem dX0_gainedWith_5 : decode cX0_gainedWith 5 = .ok (.iconst 1, 1) := by decide +kernel
theorem dX0_gainedWith_6 : decode cX0_gainedWith 6 = .ok (.aload_n 0, 1) := by decide +kernel
theorem dX0_gainedWith_7 : decode cX0_gainedWith 7 = .ok (.getfield 12, 3) := by decide +kernel
theorem dX0_gainedWith_10 : decode cX0_gainedWith 10 = .ok (.getfield 63, 3) := by decide +kernel
theorem dX0_gainedWith_13 : decode cX0_gainedWith 13 = .ok (.ishl, 1) := by decide +kernel
theorem dX0_gainedWith_14 : decode cX0_gainedWith 14 = .ok (.if_icmp .ge 80, 3) := by decide +kernel
theorem dX0_gainedWith_17 : decode cX0_gainedWith 17 = .ok (.aload_n 0, 1) := by decide +kernel
theorem dX0_gainedWith_18 : decode cX0_gainedWith 18 = .ok (.iload_n 1, 1) := by decide +kernel
theorem dX0_gainedWith_19 : decode cX0_gainedWith 19 = .ok (.iload_n 3, 1) := by decide +kernel
theorem dX0_gainedWith_20 : decode cX0_gainedWith 20 = .ok (.invokevirtual 123, 3) := by decide +kernel
theorem dX0_gainedWith_23 : decode cX0_gainedWith 23 = .ok (.istore 4, 2) := by decide +kernel
theorem dX0_gainedWith_25 : decode cX0_gainedWith 25 = .ok (.aload_n 0, 1) := by decide +kernel
theorem dX0_gainedWith_26 : decode cX0_gainedWith 26 = .ok (.iload 4, 2) := by decide +kernel
theorem dX0_gainedWith_28 : decode cX0_gainedWith 28 = .ok (.invokevirtual 126, 3) := by decide +kernel
theorem dX0_gainedWith_31 : decode cX0_gainedWith 31 = .ok (.lstore 5, 2) := by decide +kernel
theorem dX0_gainedWith_33 : decode cX0_gainedWith 33 = .ok (.lload 5, 2) := by decide +kernel
theorem dX0_gainedWith_35 : decode cX0_gainedWith 35 = .ok (.invokestatic 81, 3) := by decide +kernel
theorem dX0_gainedWith_38 : decode cX0_gainedWith 38 = .ok (.iconst 1, 1) := by decide +kernel
theorem dX0_gainedWith_39 : decode cX0_gainedWith 39 = .ok (.iadd, 1) := by decide +kernel
theorem dX0_gainedWith_40 : decode cX0_gainedWith 40 = .ok (.aload_n 0, 1) := by decide +kernel
theorem dX0_gainedWith_41 : decode cX0_gainedWith 41 = .ok (.getfield 12, 3) := by decide +kernel
theorem dX0_gainedWith_44 : decode cX0_gainedWith 44 = .ok (.getfield 110, 3) := by decide +kernel
theorem dX0_gainedWith_47 : decode cX0_gainedWith 47 = .ok (.if_icmp .lt 19, 3) := by decide +kernel
theorem dX0_gainedWith_50 : decode cX0_gainedWith 50 = .ok (.aload_n 0, 1) := by decide +kernel
theorem dX0_gainedWith_51 : decode cX0_gainedWith 51 = .ok (.iload_n 1, 1) := by decide +kernel
theorem dX0_gainedWith_52 : decode cX0_gainedWith 52 = .ok (.lload 5, 2) := by decide +kernel
theorem dX0_gainedWith_54 : decode cX0_gainedWith 54 = .ok (.invokevirtual 104, 3) := by decide +kernel
theorem dX0_gainedWith_57 : decode cX0_gainedWith 57 = .ok (.iload 4, 2) := by decide +kernel
theorem dX0_gainedWith_59 : decode cX0_gainedWith 59 = .ok (.if_icmp .ne 7, 3) := by decide +kernel
theorem dX0_gainedWith_62 : decode cX0_gainedWith 62 = .ok (.iconst 1, 1) := by decide +kernel
theorem dX0_gainedWith_63 : decode cX0_gainedWith 63 = .ok (.goto 4, 3) := by decide +kernel
theorem dX0_gainedWith_66 : decode cX0_gainedWith 66 = .ok (.iconst 0, 1) := by decide +kernel
theorem dX0_gainedWith_67 : decode cX0_gainedWith 67 = .ok (.istore 7, 2) := by decide +kernel
theorem dX0_gainedWith_69 : decode cX0_gainedWith 69 = .ok (.iload 7, 2) := by decide +kernel
theorem dX0_gainedWith_71 : decode cX0_gainedWith 71 = .ok (.ifCond .eq 17, 3) := by decide +kernel
theorem dX0_gainedWith_74 : decode cX0_gainedWith 74 = .ok (.aload_n 0, 1) := by decide +kernel
theorem dX0_gainedWith_75 : decode cX0_gainedWith 75 = .ok (.iload 4, 2) := by decide +kernel
theorem dX0_gainedWith_77 : decode cX0_gainedWith 77 = .ok (.lload 5, 2) := by decide +kernel
theorem dX0_gainedWith_79 : decode cX0_gainedWith 79 = .ok (.invokevirtual 130, 3) := by decide +kernel
theorem dX0_gainedWith_82 : decode cX0_gainedWith 82 = .ok (.ifCond .ne 6, 3) := by decide +kernel
theorem dX0_gainedWith_85 : decode cX0_gainedWith 85 = .ok (.iinc 2 1, 3) := by decide +kernel
theorem dX0_gainedWith_88 : decode cX0_gainedWith 88 = .ok (.iinc 3 1, 3) := by decide +kernel
theorem dX0_gainedWith_91 : decode cX0_gainedWith 91 = .ok (.goto (-87), 3) := by decide +kernel
theorem dX0_gainedWith_94 : decode cX0_gainedWith 94 = .ok (.iload_n 2, 1) := by decide +kernel
theorem dX0_gainedWith_95 : decode cX0_gainedWith 95 = .ok (.ireturn, 1) := by decide +kernel
theorem bX0_gainedWith_0 : tg_Snd mX0_gainedWith 0 (fun k => ti_push (.int 0) (ti_istore 2 (ti_push (.int 0) (ti_istore 3 k)))) 4 := tg_seq (si_iconst (v := 0) dX0_gainedWith_0 (by decide)) (tg_seq (si_istore_n (i := 2) dX0_gainedWith_1 rfl (Nat.le_of_ble_eq_true rfl)) (tg_seq (si_iconst (v := 0) dX0_gainedWith_2 (by decide)) (si_istore_n (i := 3) dX0_gainedWith_3 rfl (Nat.le_of_ble_eq_true rfl))))
theorem bX0_gainedWith_4 : tg_Snd mX0_gainedWith 4 (fun k => ti_iload 3 (ti_push (.int 1) (ti_aload 0 (ti_getf 0 0 (ti_getf 5 0 (ti_ishl k)))))) 14 := tg_seq (si_iload_n (i := 3) dX0_gainedWith_4 rfl) (tg_seq (si_iconst (v := 1) dX0_gainedWith_5 (by decide)) (tg_seq (si_aload_n (i := 0) dX0_gainedWith_6 rfl) (tg_seq (si_getf (ci := 0) (f := 0) clX0 (Nat.le_of_ble_eq_true rfl) rfl flX0_12 dX0_gainedWith_7) (tg_seq (si_getf (ci := 5) (f := 0) clX6 (Nat.le_of_ble_eq_true rfl) rfl flX0_63 dX0_gainedWith_10) (si_ishl dX0_gainedWith_13)))))
theorem bX0_gainedWith_17 : tg_Snd mX0_gainedWith 17 (fun k => ti_aload 0 (ti_iload 1 (ti_iload 3 k))) 20 := tg_seq (si_aload_n (i := 0) dX0_gainedWith_17 rfl) (tg_seq (si_iload_n (i := 1) dX0_gainedWith_18 rfl) (si_iload_n (i := 3) dX0_gainedWith_19 rfl))
theorem bX0_gainedWith_23 : tg_Snd mX0_gainedWith 23 (fun k => ti_istore 4 (ti_aload 0 (ti_iload 4 k))) 28 := tg_seq (si_istore (i := 4) dX0_gainedWith_23 (Nat.le_of_ble_eq_true rfl)) (tg_seq (si_aload_n (i := 0) dX0_gainedWith_25 rfl) (si_iload (i := 4) dX0_gainedWith_26))
theorem bX0_gainedWith_31 : tg_Snd mX0_gainedWith 31 (fun k => ti_lstore 5 (ti_lload 5 k)) 35 := tg_seq (si_lstore (i := 5) dX0_gainedWith_31 (Nat.le_of_ble_eq_true rfl)) (si_lload (i := 5) dX0_gainedWith_33)
theorem bX0_gainedWith_38 : tg_Snd mX0_gainedWith 38 (fun k => ti_push (.int 1) (ti_iadd (ti_aload 0 (ti_getf 0 0 (ti_getf 5 5 k))))) 47 := tg_seq (si_iconst (v := 1) dX0_gainedWith_38 (by decide)) (tg_seq (si_iadd dX0_gainedWith_39) (tg_seq (si_aload_n (i := 0) dX0_gainedWith_40 rfl) (tg_seq (si_getf (ci := 0) (f := 0) clX0 (Nat.le_of_ble_eq_true rfl) rfl flX0_12 dX0_gainedWith_41) (si_getf (ci := 5) (f := 5) clX6 (Nat.le_of_ble_eq_true rfl) rfl flX0_110 dX0_gainedWith_44))))
theorem bX0_gainedWith_50 : tg_Snd mX0_gainedWith 50 (fun k => ti_aload 0 (ti_iload 1 (ti_lload 5 k))) 54 := tg_seq (si_aload_n (i := 0) dX0_gainedWith_50 rfl) (tg_seq (si_iload_n (i := 1) dX0_gainedWith_51 rfl) (si_lload (i := 5) dX0_gainedWith_52))
theorem bX0_gainedWith_57 : tg_Snd mX0_gainedWith 57 (fun k => ti_iload 4 k) 59 := si_iload (i := 4) dX0_gainedWith_57
theorem bX0_gainedWith_62 : tg_Snd mX0_gainedWith 62 (fun k => ti_push (.int 1) k) 63 := si_iconst (v := 1) dX0_gainedWith_62 (by decide)
theorem bX0_gainedWith_66 : tg_Snd mX0_gainedWith 66 (fun k => ti_push (.int 0) k) 67 := si_iconst (v := 0) dX0_gainedWith_66 (by decide)
theorem bX0_gainedWith_67 : tg_Snd mX0_gainedWith 67 (fun k => ti_istore 7 (ti_iload 7 k)) 71 := tg_seq (si_istore (i := 7) dX0_gainedWith_67 (Nat.le_of_ble_eq_true rfl)) (si_iload (i := 7) dX0_gainedWith_69)
theorem bX0_gainedWith_74 : tg_Snd mX0_gainedWith 74 (fun k => ti_aload 0 (ti_iload 4 (ti_lload 5 k))) 79 := tg_seq (si_aload_n (i := 0) dX0_gainedWith_74 rfl) (tg_seq (si_iload (i := 4) dX0_gainedWith_75) (si_lload (i := 5) dX0_gainedWith_77))
theorem bX0_gainedWith_85 : tg_Snd mX0_gainedWith 85 (fun k => ti_iinc 2 1 k) 88 := si_iinc (v := 1) dX0_gainedWith_85 (by decide) (Nat.le_of_ble_eq_true rfl)
theorem bX0_gainedWith_88 : tg_Snd mX0_gainedWith 88 (fun k => ti_iinc 3 1 k) 91 := si_iinc (v := 1) dX0_gainedWith_88 (by decide) (Nat.le_of_ble_eq_true rfl)
theorem bX0_gainedWith_94 : tg_Snd mX0_gainedWith 94 (fun k => ti_iload 2 k) 95 := si_iload_n (i := 2) dX0_gainedWith_94 rfl
theorem vX0_gainedWith_20 : tg_VS mX0_gainedWith 20 mX0_within 2 := ⟨okX0_within, ⟨123, dX0_gainedWith_20, mlX0_123⟩, insX0_within, selX0_within, parX0_within, rfl, rfl, Nat.le_of_ble_eq_true rfl, Nat.le_of_ble_eq_true rfl⟩
theorem vX0_gainedWith_28 : tg_VS mX0_gainedWith 28 mX0_coverOf 1 := ⟨okX0_coverOf, ⟨126, dX0_gainedWith_28, mlX0_126⟩, insX0_coverOf, selX0_coverOf, parX0_coverOf, rfl, rfl, Nat.le_of_ble_eq_true rfl, Nat.le_of_ble_eq_true rfl⟩
theorem vX0_gainedWith_35 : tg_SS0 mX0_gainedWith 35 mJ13_bitCount_95d88 1 := ⟨okJ13_bitCount_95d88, ⟨81, dX0_gainedWith_35, mlX0_81⟩, staJ13_bitCount_95d88, parJ13_bitCount_95d88, rfl, rfl, Nat.le_of_ble_eq_true rfl, Nat.le_of_ble_eq_true rfl⟩
theorem vX0_gainedWith_54 : tg_VS mX0_gainedWith 54 mX0_sharedWith 2 := ⟨okX0_sharedWith, ⟨104, dX0_gainedWith_54, mlX0_104⟩, insX0_sharedWith, selX0_sharedWith, parX0_sharedWith, rfl, rfl, Nat.le_of_ble_eq_true rfl, Nat.le_of_ble_eq_true rfl⟩
theorem vX0_gainedWith_79 : tg_VS mX0_gainedWith 79 mX0_isInCube 2 := ⟨okX0_isInCube, ⟨130, dX0_gainedWith_79, mlX0_130⟩, insX0_isInCube, selX0_isInCube, parX0_isInCube, rfl, rfl, Nat.le_of_ble_eq_true rfl, Nat.le_of_ble_eq_true rfl⟩
theorem dX0_lostWithout_0 : decode cX0_lostWithout 0 = .ok (.aload_n 0, 1) := by decide +kernel
theorem dX0_lostWithout_1 : decode cX0_lostWithout 1 = .ok (.getfield 12, 3) := by decide +kernel
theorem dX0_lostWithout_4 : decode cX0_lostWithout 4 = .ok (.iload_n 1, 1) := by decide +kernel
theorem dX0_lostWithout_5 : decode cX0_lostWithout 5 = .ok (.invokevirtual 100, 3) := by decide +kernel
theorem dX0_lostWithout_8 : decode cX0_lostWithout 8 = .ok (.ifCond .ne 5, 3) := by decide +kernel
theorem dX0_lostWithout_11 : decode cX0_lostWithout 11 = .ok (.iconst 0, 1) := by decide +kernel
theorem dX0_lostWithout_12 : decode cX0_lostWithout 12 = .ok (.ireturn, 1) := by decide +kernel
theorem dX0_lostWithout_13 : decode cX0_lostWithout 13 = .ok (.iconst 0, 1) := by decide +kernel
theorem dX0_lostWithout_14 : decode cX0_lostWithout 14 = .ok (.istore_n 2, 1) := by decide +kernel
theorem dX0_lostWithout_15 : decode cX0_lostWithout 15 = .ok (.iconst 0, 1) := by decide +kernel
theorem dX0_lostWithout_16 : decode cX0_lostWithout 16 = .ok (.istore_n 3, 1) := by decide +kernel
theorem dX0_lostWithout_17 : decode cX0_lostWithout 17 = .ok (.iload_n 3, 1) := by decide +kernel
theorem dX0_lostWithout_18 : decode cX0_lostWithout 18 = .ok (.iconst 1, 1) := by decide +kernel
theorem dX0_lostWithout_19 : decode cX0_lostWithout 19 = .ok (.aload_n 0, 1) := by decide +kernel
theorem dX0_lostWithout_20 : decode cX0_lostWithout 20 = .ok (.getfield 12, 3) := by decide +kernel
theorem dX0_lostWithout_23 : decode cX0_lostWithout 23 = .ok (.getfield 63, 3) := by decide +kernel
theorem dX0_lostWithout_26 : decode cX0_lostWithout 26 = .ok (.ishl, 1) := by decide +kernel
theorem dX0_lostWithout_27 : decode cX0_lostWithout 27 = .ok (.if_icmp .ge 66, 3) := by decide +kernel
theorem dX0_lostWithout_30 : decode cX0_lostWithout 30 = .ok (.aload_n 0, 1) := by decide +kernel
theorem dX0_lostWithout_31 : decode cX0_lostWithout 31 = .ok (.aload_n 0, 1) := by decide +kernel
theorem dX0_lostWithout_32 : decode cX0_lostWithout 32 = .ok (.getfield 12, 3) := by decide +kernel
theorem dX0_lostWithout_35 : decode cX0_lostWithout 35 = .ok (.getfield 73, 3) := by decide +kernel
theorem dX0_lostWithout_38 : decode cX0_lostWithout 38 = .ok (.iload_n 1, 1) := by decide +kernel
theorem dX0_lostWithout_39 : decode cX0_lostWithout 39 = .ok (.iaload, 1) := by decide +kernel
theorem dX0_lostWithout_40 : decode cX0_lostWithout 40 = .ok (.iload_n 3, 1) := by decide +kernel
theorem dX0_lostWithout_41 : decode cX0_lostWithout 41 = .ok (.invokevirtual 123, 3) := by decide +kernel
theorem dX0_lostWithout_44 : decode cX0_lostWithout 44 = .ok (.istore 4, 2) := by decide +kernel
theorem dX0_lostWithout_46 : decode cX0_lostWithout 46 = .ok (.aload_n 0, 1) := by decide +kernel
theorem dX0_lostWithout_47 : decode cX0_lostWithout 47 = .ok (.iload 4, 2) := by decide +kernel
theorem dX0_lostWithout_49 : decode cX0_lostWithout 49 = .ok (.invokevirtual 126, 3) := by decide +kernel
theorem dX0_lostWithout_52 : decode cX0_lostWithout 52 = .ok (.lstore 5, 2) := by decide +kernel
theorem dX0_lostWithout_54 : decode cX0_lostWithout 54 = .ok (.aload_n 0, 1) := by decide +kernel
theorem dX0_lostWithout_55 : decode cX0_lostWithout 55 = .ok (.iload 4, 2) := by decide +kernel
theorem dX0_lostWithout_57 : decode cX0_lostWithout 57 = .ok (.lload 5, 2) := by decide +kernel
theorem dX0_lostWithout_59 : decode cX0_lostWithout 59 = .ok (.invokevirtual 130, 3) := by decide +kernel
theorem dX0_lostWithout_62 : decode cX0_lostWithout 62 = .ok (.ifCond .eq 25, 3) := by decide +kernel
theorem dX0_lostWithout_65 : decode cX0_lostWithout 65 = .ok (.aload_n 0, 1) := by decide +kernel
theorem dX0_lostWithout_66 : decode cX0_lostWithout 66 = .ok (.iload 4, 2) := by decide +kernel
theorem dX0_lostWithout_68 : decode cX0_lostWithout 68 = .ok (.lload 5, 2) := by decide +kernel
theorem dX0_lostWithout_70 : decode cX0_lostWithout 70 = .ok (.lconst 1, 1) := by decide +kernel
theorem dX0_lostWithout_71 : decode cX0_lostWithout 71 = .ok (.iload_n 1, 1) := by decide +kernel
theorem dX0_lostWithout_72 : decode cX0_lostWithout 72 = .ok (.lshl, 1) := by decide +kernel
theorem dX0_lostWithout_73 : decode cX0_lostWithout 73 = .ok (.ldc2_w 108, 3) := by decide +kernel
theorem dX0_lostWithout_76 : decode cX0_lostWithout 76 = .ok (.lxor, 1) := by decide +kernel
theorem dX0_lostWithout_77 : decode cX0_lostWithout 77 = .ok (.land, 1) := by decide +kernel
theorem dX0_lostWithout_78 : decode cX0_lostWithout 78 = .ok (.invokevirtual 130, 3) := by decide +kernel
theorem dX0_lostWithout_81 : decode cX0_lostWithout 81 = .ok (.ifCond .ne 6, 3) := by decide +kernel
theorem dX0_lostWithout_84 : decode cX0_lostWithout 84 = .ok (.iinc 2 1, 3) := by decide +kernel
theorem dX0_lostWithout_87 : decode cX0_lostWithout 87 = .ok (.iinc 3 1, 3) := by decide +kernel
theorem dX0_lostWithout_90 : decode cX0_lostWithout 90 = .ok (.goto (-73), 3) := by decide +kernel
theorem dX0_lostWithout_93 : decode cX0_lostWithout 93 = .ok (.iload_n 2, 1) := by decide +kernel
theorem dX0_lostWithout_94 : decode cX0_lostWithout 94 = .ok (.ireturn, 1) := by decide +kernel
theorem bX0_lostWithout_0 : tg_Snd mX0_lostWithout 0 (fun k => ti_aload 0 (ti_getf 0 0 (ti_iload 1 k))) 5 := tg_seq (si_aload_n (i := 0) dX0_lostWithout_0 rfl) (tg_seq (si_getf (ci := 0) (f := 0) clX0 (Nat.le_of_ble_eq_true rfl) rfl flX0_12 dX0_lostWithout_1) (si_iload_n (i := 1) dX0_lostWithout_4 rfl))
theorem bX0_lostWithout_11 : tg_Snd mX0_lostWithout 11 (fun k => ti_push (.int 0) k) 12 := si_iconst (v := 0) dX0_lostWithout_11 (by decide)
theorem bX0_lostWithout_13 : tg_Snd mX0_lostWithout 13 (fun k => ti_push (.int 0) (ti_istore 2 (ti_push (.int 0) (ti_istore 3 k)))) 17 := tg_seq (si_iconst (v := 0) dX0_lostWithout_13 (by decide)) (tg_seq (si_istore_n (i := 2) dX0_lostWithout_14 rfl (Nat.le_of_ble_eq_true rfl)) (tg_seq (si_iconst (v := 0) dX0_lostWithout_15 (by decide)) (si_istore_n (i := 3) dX0_lostWithout_16 rfl (Nat.le_of_ble_eq_true rfl))))
theorem bX0_lostWithout_17 : tg_Snd mX0_lostWithout 17 (fun k => ti_iload 3 (ti_push (.int 1) (ti_aload 0 (ti_getf 0 0 (ti_getf 5 0 (ti_ishl k)))))) 27 := tg_seq (si_iload_n (i := 3) dX0_lostWithout_17 rfl) (tg_seq (si_iconst (v := 1) dX0_lostWithout_18 (by decide)) (tg_seq (si_aload_n (i := 0) dX0_lostWithout_19 rfl) (tg_seq (si_getf (ci := 0) (f := 0) clX0 (Nat.le_of_ble_eq_true rfl) rfl flX0_12 dX0_lostWithout_20) (tg_seq (si_getf (ci := 5) (f := 0) clX6 (Nat.le_of_ble_eq_true rfl) rfl flX0_63 dX0_lostWithout_23) (si_ishl dX0_lostWithout_26)))))
theorem bX0_lostWithout_30 : tg_Snd mX0_lostWithout 30 (fun k => ti_aload 0 (ti_aload 0 (ti_getf 0 0 (ti_getf 5 3 (ti_iload 1 (ti_iald (ti_iload 3 k))))))) 41 := tg_seq (si_aload_n (i := 0) dX0_lostWithout_30 rfl) (tg_seq (si_aload_n (i := 0) dX0_lostWithout_31 rfl) (tg_seq (si_getf (ci := 0) (f := 0) clX0 (Nat.le_of_ble_eq_true rfl) rfl flX0_12 dX0_lostWithout_32) (tg_seq (si_getf (ci := 5) (f := 3) clX6 (Nat.le_of_ble_eq_true rfl) rfl flX0_73 dX0_lostWithout_35) (tg_seq (si_iload_n (i := 1) dX0_lostWithout_38 rfl) (tg_seq (si_iald dX0_lostWithout_39) (si_iload_n (i := 3) dX0_lostWithout_40 rfl))))))
theorem bX0_lostWithout_44 : tg_Snd mX0_lostWithout 44 (fun k => ti_istore 4 (ti_aload 0 (ti_iload 4 k))) 49 := tg_seq (si_istore (i := 4) dX0_lostWithout_44 (Nat.le_of_ble_eq_true rfl)) (tg_seq (si_aload_n (i := 0) dX0_lostWithout_46 rfl) (si_iload (i := 4) dX0_lostWithout_47))
theorem bX0_lostWithout_52 : tg_Snd mX0_lostWithout 52 (fun k => ti_lstore 5 (ti_aload 0 (ti_iload 4 (ti_lload 5 k)))) 59 := tg_seq (si_lstore (i := 5) dX0_lostWithout_52 (Nat.le_of_ble_eq_true rfl)) (tg_seq (si_aload_n (i := 0) dX0_lostWithout_54 rfl) (tg_seq (si_iload (i := 4) dX0_lostWithout_55) (si_lload (i := 5) dX0_lostWithout_57)))
theorem bX0_lostWithout_65 : tg_Snd mX0_lostWithout 65 (fun k => ti_aload 0 (ti_iload 4 (ti_lload 5 (ti_push (.long 1) (ti_iload 1 (ti_lshl (ti_push (.long (-1)) (ti_lxor (ti_land k))))))))) 78 := tg_seq (si_aload_n (i := 0) dX0_lostWithout_65 rfl) (tg_seq (si_iload (i := 4) dX0_lostWithout_66) (tg_seq (si_lload (i := 5) dX0_lostWithout_68) (tg_seq (si_lconst (v := 1) dX0_lostWithout_70 (by decide)) (tg_seq (si_iload_n (i := 1) dX0_lostWithout_71 rfl) (tg_seq (si_lshl dX0_lostWithout_72) (tg_seq (si_ldc2 (v := -1) dX0_lostWithout_73 klX0_108) (tg_seq (si_lxor dX0_lostWithout_76) (si_land dX0_lostWithout_77))))))))
theorem bX0_lostWithout_84 : tg_Snd mX0_lostWithout 84 (fun k => ti_iinc 2 1 k) 87 := si_iinc (v := 1) dX0_lostWithout_84 (by decide) (Nat.le_of_ble_eq_true rfl)
theorem bX0_lostWithout_87 : tg_Snd mX0_lostWithout 87 (fun k => ti_iinc 3 1 k) 90 := si_iinc (v := 1) dX0_lostWithout_87 (by decide) (Nat.le_of_ble_eq_true rfl)
theorem bX0_lostWithout_93 : tg_Snd mX0_lostWithout 93 (fun k => ti_iload 2 k) 94 := si_iload_n (i := 2) dX0_lostWithout_93 rfl
theorem vX0_lostWithout_5 : tg_VS mX0_lostWithout 5 mX6_hasEntry 1 := ⟨okX6_hasEntry, ⟨100, dX0_lostWithout_5, mlX0_100⟩, insX6_hasEntry, selX6_hasEntry, parX6_hasEntry, rfl, rfl, Nat.le_of_ble_eq_true rfl, Nat.le_of_ble_eq_true rfl⟩
theorem vX0_lostWithout_41 : tg_VS mX0_lostWithout 41 mX0_within 2 := ⟨okX0_within, ⟨123, dX0_lostWithout_41, mlX0_123⟩, insX0_within, selX0_within, parX0_within, rfl, rfl, Nat.le_of_ble_eq_true rfl, Nat.le_of_ble_eq_true rfl⟩
theorem vX0_lostWithout_49 : tg_VS mX0_lostWithout 49 mX0_coverOf 1 := ⟨okX0_coverOf, ⟨126, dX0_lostWithout_49, mlX0_126⟩, insX0_coverOf, selX0_coverOf, parX0_coverOf, rfl, rfl, Nat.le_of_ble_eq_true rfl, Nat.le_of_ble_eq_true rfl⟩
theorem vX0_lostWithout_59 : tg_VS mX0_lostWithout 59 mX0_isInCube 2 := ⟨okX0_isInCube, ⟨130, dX0_lostWithout_59, mlX0_130⟩, insX0_isInCube, selX0_isInCube, parX0_isInCube, rfl, rfl, Nat.le_of_ble_eq_true rfl, Nat.le_of_ble_eq_true rfl⟩
theorem vX0_lostWithout_78 : tg_VS mX0_lostWithout 78 mX0_isInCube 2 := ⟨okX0_isInCube, ⟨130, dX0_lostWithout_78, mlX0_130⟩, insX0_isInCube, selX0_isInCube, parX0_isInCube, rfl, rfl, Nat.le_of_ble_eq_true rfl, Nat.le_of_ble_eq_true rfl⟩
theorem dX0_leastKey_0 : decode cX0_leastKey 0 = .ok (.iconst (-1), 1) := by decide +kernel
theorem dX0_leastKey_1 : decode cX0_leastKey 1 = .ok (.istore_n 1, 1) := by decide +kernel
theorem dX0_leastKey_2 : decode cX0_leastKey 2 = .ok (.iconst 0, 1) := by decide +kernel
theorem dX0_leastKey_3 : decode cX0_leastKey 3 = .ok (.istore_n 2, 1) := by decide +kernel
theorem dX0_leastKey_4 : decode cX0_leastKey 4 = .ok (.iload_n 2, 1) := by decide +kernel
theorem dX0_leastKey_5 : decode cX0_leastKey 5 = .ok (.iconst 1, 1) := by decide +kernel
theorem dX0_leastKey_6 : decode cX0_leastKey 6 = .ok (.aload_n 0, 1) := by decide +kernel
theorem dX0_leastKey_7 : decode cX0_leastKey 7 = .ok (.getfield 12, 3) := by decide +kernel
theorem dX0_leastKey_10 : decode cX0_leastKey 10 = .ok (.getfield 63, 3) := by decide +kernel
theorem dX0_leastKey_13 : decode cX0_leastKey 13 = .ok (.ishl, 1) := by decide +kernel
theorem dX0_leastKey_14 : decode cX0_leastKey 14 = .ok (.if_icmp .ge 53, 3) := by decide +kernel
theorem dX0_leastKey_17 : decode cX0_leastKey 17 = .ok (.iload_n 1, 1) := by decide +kernel
theorem dX0_leastKey_18 : decode cX0_leastKey 18 = .ok (.iconst (-1), 1) := by decide +kernel
theorem dX0_leastKey_19 : decode cX0_leastKey 19 = .ok (.if_icmp .eq 14, 3) := by decide +kernel
theorem dX0_leastKey_22 : decode cX0_leastKey 22 = .ok (.iload_n 2, 1) := by decide +kernel
theorem dX0_leastKey_23 : decode cX0_leastKey 23 = .ok (.invokestatic 134, 3) := by decide +kernel
theorem dX0_leastKey_26 : decode cX0_leastKey 26 = .ok (.iload_n 1, 1) := by decide +kernel
theorem dX0_leastKey_27 : decode cX0_leastKey 27 = .ok (.invokestatic 134, 3) := by decide +kernel
theorem dX0_leastKey_30 : decode cX0_leastKey 30 = .ok (.if_icmp .ge 7, 3) := by decide +kernel
theorem dX0_leastKey_33 : decode cX0_leastKey 33 = .ok (.iconst 1, 1) := by decide +kernel
theorem dX0_leastKey_34 : decode cX0_leastKey 34 = .ok (.goto 4, 3) := by decide +kernel
theorem dX0_leastKey_37 : decode cX0_leastKey 37 = .ok (.iconst 0, 1) := by decide +kernel
theorem dX0_leastKey_38 : decode cX0_leastKey 38 = .ok (.istore_n 3, 1) := by decide +kernel
theorem dX0_leastKey_39 : decode cX0_leastKey 39 = .ok (.iload_n 3, 1) := by decide +kernel
theorem dX0_leastKey_40 : decode cX0_leastKey 40 = .ok (.ifCond .eq 21, 3) := by decide +kernel
theorem dX0_leastKey_43 : decode cX0_leastKey 43 = .ok (.aload_n 0, 1) := by decide +kernel
theorem dX0_leastKey_44 : decode cX0_leastKey 44 = .ok (.getfield 52, 3) := by decide +kernel
theorem dX0_leastKey_47 : decode cX0_leastKey 47 = .ok (.iload_n 2, 1) := by decide +kernel
theorem dX0_leastKey_48 : decode cX0_leastKey 48 = .ok (.iaload, 1) := by decide +kernel
theorem dX0_leastKey_49 : decode cX0_leastKey 49 = .ok (.aload_n 0, 1) := by decide +kernel
theorem dX0_leastKey_50 : decode cX0_leastKey 50 = .ok (.getfield 12, 3) := by decide +kernel
theorem dX0_leastKey_53 : decode cX0_leastKey 53 = .ok (.getfield 62, 3) := by decide +kernel
theorem dX0_leastKey_56 : decode cX0_leastKey 56 = .ok (.if_icmp .ne 5, 3) := by decide +kernel
theorem dX0_leastKey_59 : decode cX0_leastKey 59 = .ok (.iload_n 2, 1) := by decide +kernel
theorem dX0_leastKey_60 : decode cX0_leastKey 60 = .ok (.istore_n 1, 1) := by decide +kernel
theorem dX0_leastKey_61 : decode cX0_leastKey 61 = .ok (.iinc 2 1, 3) := by decide +kernel
theorem dX0_leastKey_64 : decode cX0_leastKey 64 = .ok (.goto (-60), 3) := by decide +kernel
theorem dX0_leastKey_67 : decode cX0_leastKey 67 = .ok (.iload_n 1, 1) := by decide +kernel
theorem dX0_leastKey_68 : decode cX0_leastKey 68 = .ok (.ireturn, 1) := by decide +kernel
theorem bX0_leastKey_0 : tg_Snd mX0_leastKey 0 (fun k => ti_push (.int (-1)) (ti_istore 1 (ti_push (.int 0) (ti_istore 2 k)))) 4 := tg_seq (si_iconst (v := -1) dX0_leastKey_0 (by decide)) (tg_seq (si_istore_n (i := 1) dX0_leastKey_1 rfl (Nat.le_of_ble_eq_true rfl)) (tg_seq (si_iconst (v := 0) dX0_leastKey_2 (by decide)) (si_istore_n (i := 2) dX0_leastKey_3 rfl (Nat.le_of_ble_eq_true rfl))))
theorem bX0_leastKey_4 : tg_Snd mX0_leastKey 4 (fun k => ti_iload 2 (ti_push (.int 1) (ti_aload 0 (ti_getf 0 0 (ti_getf 5 0 (ti_ishl k)))))) 14 := tg_seq (si_iload_n (i := 2) dX0_leastKey_4 rfl) (tg_seq (si_iconst (v := 1) dX0_leastKey_5 (by decide)) (tg_seq (si_aload_n (i := 0) dX0_leastKey_6 rfl) (tg_seq (si_getf (ci := 0) (f := 0) clX0 (Nat.le_of_ble_eq_true rfl) rfl flX0_12 dX0_leastKey_7) (tg_seq (si_getf (ci := 5) (f := 0) clX6 (Nat.le_of_ble_eq_true rfl) rfl flX0_63 dX0_leastKey_10) (si_ishl dX0_leastKey_13)))))
theorem bX0_leastKey_17 : tg_Snd mX0_leastKey 17 (fun k => ti_iload 1 (ti_push (.int (-1)) k)) 19 := tg_seq (si_iload_n (i := 1) dX0_leastKey_17 rfl) (si_iconst (v := -1) dX0_leastKey_18 (by decide))
theorem bX0_leastKey_22 : tg_Snd mX0_leastKey 22 (fun k => ti_iload 2 k) 23 := si_iload_n (i := 2) dX0_leastKey_22 rfl
theorem bX0_leastKey_26 : tg_Snd mX0_leastKey 26 (fun k => ti_iload 1 k) 27 := si_iload_n (i := 1) dX0_leastKey_26 rfl
theorem bX0_leastKey_33 : tg_Snd mX0_leastKey 33 (fun k => ti_push (.int 1) k) 34 := si_iconst (v := 1) dX0_leastKey_33 (by decide)
theorem bX0_leastKey_37 : tg_Snd mX0_leastKey 37 (fun k => ti_push (.int 0) k) 38 := si_iconst (v := 0) dX0_leastKey_37 (by decide)
theorem bX0_leastKey_38 : tg_Snd mX0_leastKey 38 (fun k => ti_istore 3 (ti_iload 3 k)) 40 := tg_seq (si_istore_n (i := 3) dX0_leastKey_38 rfl (Nat.le_of_ble_eq_true rfl)) (si_iload_n (i := 3) dX0_leastKey_39 rfl)
theorem bX0_leastKey_43 : tg_Snd mX0_leastKey 43 (fun k => ti_aload 0 (ti_getf 0 11 (ti_iload 2 (ti_iald (ti_aload 0 (ti_getf 0 0 (ti_getf 5 2 k))))))) 56 := tg_seq (si_aload_n (i := 0) dX0_leastKey_43 rfl) (tg_seq (si_getf (ci := 0) (f := 11) clX0 (Nat.le_of_ble_eq_true rfl) rfl flX0_52 dX0_leastKey_44) (tg_seq (si_iload_n (i := 2) dX0_leastKey_47 rfl) (tg_seq (si_iald dX0_leastKey_48) (tg_seq (si_aload_n (i := 0) dX0_leastKey_49 rfl) (tg_seq (si_getf (ci := 0) (f := 0) clX0 (Nat.le_of_ble_eq_true rfl) rfl flX0_12 dX0_leastKey_50) (si_getf (ci := 5) (f := 2) clX6 (Nat.le_of_ble_eq_true rfl) rfl flX0_62 dX0_leastKey_53))))))
theorem bX0_leastKey_59 : tg_Snd mX0_leastKey 59 (fun k => ti_iload 2 (ti_istore 1 k)) 61 := tg_seq (si_iload_n (i := 2) dX0_leastKey_59 rfl) (si_istore_n (i := 1) dX0_leastKey_60 rfl (Nat.le_of_ble_eq_true rfl))
theorem bX0_leastKey_61 : tg_Snd mX0_leastKey 61 (fun k => ti_iinc 2 1 k) 64 := si_iinc (v := 1) dX0_leastKey_61 (by decide) (Nat.le_of_ble_eq_true rfl)
theorem bX0_leastKey_67 : tg_Snd mX0_leastKey 67 (fun k => ti_iload 1 k) 68 := si_iload_n (i := 1) dX0_leastKey_67 rfl
theorem vX0_leastKey_23 : tg_SS0 mX0_leastKey 23 mJ6_bitCount_0f7a4 1 := ⟨okJ6_bitCount_0f7a4, ⟨134, dX0_leastKey_23, mlX0_134⟩, staJ6_bitCount_0f7a4, parJ6_bitCount_0f7a4, rfl, rfl, Nat.le_of_ble_eq_true rfl, Nat.le_of_ble_eq_true rfl⟩
theorem vX0_leastKey_27 : tg_SS0 mX0_leastKey 27 mJ6_bitCount_0f7a4 1 := ⟨okJ6_bitCount_0f7a4, ⟨134, dX0_leastKey_27, mlX0_134⟩, staJ6_bitCount_0f7a4, parJ6_bitCount_0f7a4, rfl, rfl, Nat.le_of_ble_eq_true rfl, Nat.le_of_ble_eq_true rfl⟩
theorem dX0_settles_0 : decode cX0_settles 0 = .ok (.iload_n 1, 1) := by decide +kernel
theorem dX0_settles_1 : decode cX0_settles 1 = .ok (.iconst 1, 1) := by decide +kernel
theorem dX0_settles_2 : decode cX0_settles 2 = .ok (.iload_n 2, 1) := by decide +kernel
theorem dX0_settles_3 : decode cX0_settles 3 = .ok (.ishl, 1) := by decide +kernel
theorem dX0_settles_4 : decode cX0_settles 4 = .ok (.ior, 1) := by decide +kernel
theorem dX0_settles_5 : decode cX0_settles 5 = .ok (.istore_n 3, 1) := by decide +kernel
theorem dX0_settles_6 : decode cX0_settles 6 = .ok (.iload_n 1, 1) := by decide +kernel
theorem dX0_settles_7 : decode cX0_settles 7 = .ok (.ifCond .lt 32, 3) := by decide +kernel
theorem dX0_settles_10 : decode cX0_settles 10 = .ok (.iload_n 3, 1) := by decide +kernel
theorem dX0_settles_11 : decode cX0_settles 11 = .ok (.ifCond .lt 28, 3) := by decide +kernel
theorem dX0_settles_14 : decode cX0_settles 14 = .ok (.iload_n 3, 1) := by decide +kernel
theorem dX0_settles_15 : decode cX0_settles 15 = .ok (.bipush 16, 2) := by decide +kernel
theorem dX0_settles_17 : decode cX0_settles 17 = .ok (.if_icmp .ge 22, 3) := by decide +kernel
theorem dX0_settles_20 : decode cX0_settles 20 = .ok (.aload_n 0, 1) := by decide +kernel
theorem dX0_settles_21 : decode cX0_settles 21 = .ok (.getfield 52, 3) := by decide +kernel
theorem dX0_settles_24 : decode cX0_settles 24 = .ok (.iload_n 1, 1) := by decide +kernel
theorem dX0_settles_25 : decode cX0_settles 25 = .ok (.iaload, 1) := by decide +kernel
theorem dX0_settles_26 : decode cX0_settles 26 = .ok (.aload_n 0, 1) := by decide +kernel
theorem dX0_settles_27 : decode cX0_settles 27 = .ok (.getfield 52, 3) := by decide +kernel
theorem dX0_settles_30 : decode cX0_settles 30 = .ok (.iload_n 3, 1) := by decide +kernel
theorem dX0_settles_31 : decode cX0_settles 31 = .ok (.iaload, 1) := by decide +kernel
theorem dX0_settles_32 : decode cX0_settles 32 = .ok (.if_icmp .ne 7, 3) := by decide +kernel
theorem dX0_settles_35 : decode cX0_settles 35 = .ok (.iconst 1, 1) := by decide +kernel
theorem dX0_settles_36 : decode cX0_settles 36 = .ok (.goto 4, 3) := by decide +kernel
theorem dX0_settles_39 : decode cX0_settles 39 = .ok (.iconst 0, 1) := by decide +kernel
theorem dX0_settles_40 : decode cX0_settles 40 = .ok (.ireturn, 1) := by decide +kernel
theorem bX0_settles_0 : tg_Snd mX0_settles 0 (fun k => ti_iload 1 (ti_push (.int 1) (ti_iload 2 (ti_ishl (ti_ior (ti_istore 3 (ti_iload 1 k))))))) 7 := tg_seq (si_iload_n (i := 1) dX0_settles_0 rfl) (tg_seq (si_iconst (v := 1) dX0_settles_1 (by decide)) (tg_seq (si_iload_n (i := 2) dX0_settles_2 rfl) (tg_seq (si_ishl dX0_settles_3) (tg_seq (si_ior dX0_settles_4) (tg_seq (si_istore_n (i := 3) dX0_settles_5 rfl (Nat.le_of_ble_eq_true rfl)) (si_iload_n (i := 1) dX0_settles_6 rfl))))))
theorem bX0_settles_10 : tg_Snd mX0_settles 10 (fun k => ti_iload 3 k) 11 := si_iload_n (i := 3) dX0_settles_10 rfl
theorem bX0_settles_14 : tg_Snd mX0_settles 14 (fun k => ti_iload 3 (ti_push (.int 16) k)) 17 := tg_seq (si_iload_n (i := 3) dX0_settles_14 rfl) (si_bipush (v := 16) dX0_settles_15 (by decide))
theorem bX0_settles_20 : tg_Snd mX0_settles 20 (fun k => ti_aload 0 (ti_getf 0 11 (ti_iload 1 (ti_iald (ti_aload 0 (ti_getf 0 11 (ti_iload 3 (ti_iald k)))))))) 32 := tg_seq (si_aload_n (i := 0) dX0_settles_20 rfl) (tg_seq (si_getf (ci := 0) (f := 11) clX0 (Nat.le_of_ble_eq_true rfl) rfl flX0_52 dX0_settles_21) (tg_seq (si_iload_n (i := 1) dX0_settles_24 rfl) (tg_seq (si_iald dX0_settles_25) (tg_seq (si_aload_n (i := 0) dX0_settles_26 rfl) (tg_seq (si_getf (ci := 0) (f := 11) clX0 (Nat.le_of_ble_eq_true rfl) rfl flX0_52 dX0_settles_27) (tg_seq (si_iload_n (i := 3) dX0_settles_30 rfl) (si_iald dX0_settles_31)))))))
theorem bX0_settles_35 : tg_Snd mX0_settles 35 (fun k => ti_push (.int 1) k) 36 := si_iconst (v := 1) dX0_settles_35 (by decide)
theorem bX0_settles_39 : tg_Snd mX0_settles 39 (fun k => ti_push (.int 0) k) 40 := si_iconst (v := 0) dX0_settles_39 (by decide)
theorem dX0_parted_0 : decode cX0_parted 0 = .ok (.aload_n 0, 1) := by decide +kernel
theorem dX0_parted_1 : decode cX0_parted 1 = .ok (.getfield 21, 3) := by decide +kernel
theorem dX0_parted_4 : decode cX0_parted 4 = .ok (.aload_n 0, 1) := by decide +kernel
theorem dX0_parted_5 : decode cX0_parted 5 = .ok (.getfield 12, 3) := by decide +kernel
theorem dX0_parted_8 : decode cX0_parted 8 = .ok (.getfield 63, 3) := by decide +kernel
theorem dX0_parted_11 : decode cX0_parted 11 = .ok (.aload_n 0, 1) := by decide +kernel
theorem dX0_parted_12 : decode cX0_parted 12 = .ok (.getfield 12, 3) := by decide +kernel
theorem dX0_parted_15 : decode cX0_parted 15 = .ok (.getfield 62, 3) := by decide +kernel
theorem dX0_parted_18 : decode cX0_parted 18 = .ok (.invokevirtual 138, 3) := by decide +kernel
theorem dX0_parted_21 : decode cX0_parted 21 = .ok (.iconst 0, 1) := by decide +kernel
theorem dX0_parted_22 : decode cX0_parted 22 = .ok (.istore_n 1, 1) := by decide +kernel
theorem dX0_parted_23 : decode cX0_parted 23 = .ok (.iload_n 1, 1) := by decide +kernel
theorem dX0_parted_24 : decode cX0_parted 24 = .ok (.aload_n 0, 1) := by decide +kernel
theorem dX0_parted_25 : decode cX0_parted 25 = .ok (.getfield 58, 3) := by decide +kernel
theorem dX0_parted_28 : decode cX0_parted 28 = .ok (.if_icmp .ge 57, 3) := by decide +kernel
theorem dX0_parted_31 : decode cX0_parted 31 = .ok (.aload_n 0, 1) := by decide +kernel
theorem dX0_parted_32 : decode cX0_parted 32 = .ok (.getfield 33, 3) := by decide +kernel
theorem dX0_parted_35 : decode cX0_parted 35 = .ok (.iload_n 1, 1) := by decide +kernel
theorem dX0_parted_36 : decode cX0_parted 36 = .ok (.laload, 1) := by decide +kernel
theorem dX0_parted_37 : decode cX0_parted 37 = .ok (.invokestatic 81, 3) := by decide +kernel
theorem dX0_parted_40 : decode cX0_parted 40 = .ok (.istore_n 2, 1) := by decide +kernel
theorem dX0_parted_41 : decode cX0_parted 41 = .ok (.aload_n 0, 1) := by decide +kernel
theorem dX0_parted_42 : decode cX0_parted 42 = .ok (.getfield 29, 3) := by decide +kernel
theorem dX0_parted_45 : decode cX0_parted 45 = .ok (.iload_n 1, 1) := by decide +kernel
theorem dX0_parted_46 : decode cX0_parted 46 = .ok (.iaload, 1) := by decide +kernel
theorem dX0_parted_47 : decode cX0_parted 47 = .ok (.ifCond .eq 32, 3) := by decide +kernel
theorem dX0_parted_50 : decode cX0_parted 50 = .ok (.iload_n 2, 1) := by decide +kernel
theorem dX0_parted_51 : decode cX0_parted 51 = .ok (.aload_n 0, 1) := by decide +kernel
theorem dX0_parted_52 : decode cX0_parted 52 = .ok (.getfield 12, 3) := by decide +kernel
theorem dX0_parted_55 : decode cX0_parted 55 = .ok (.getfield 110, 3) := by decide +kernel
theorem dX0_parted_58 : decode cX0_parted 58 = .ok (.if_icmp .lt 21, 3) := by decide +kernel
theorem dX0_parted_61 : decode cX0_parted 61 = .ok (.aload_n 0, 1) := by decide +kernel
theorem dX0_parted_62 : decode cX0_parted 62 = .ok (.getfield 21, 3) := by decide +kernel
theorem dX0_parted_65 : decode cX0_parted 65 = .ok (.aload_n 0, 1) := by decide +kernel
theorem dX0_parted_66 : decode cX0_parted 66 = .ok (.aload_n 0, 1) := by decide +kernel
theorem dX0_parted_67 : decode cX0_parted 67 = .ok (.getfield 29, 3) := by decide +kernel
theorem dX0_parted_70 : decode cX0_parted 70 = .ok (.iload_n 1, 1) := by decide +kernel
theorem dX0_parted_71 : decode cX0_parted 71 = .ok (.iaload, 1) := by decide +kernel
theorem dX0_parted_72 : decode cX0_parted 72 = .ok (.invokevirtual 96, 3) := by decide +kernel
theorem dX0_parted_75 : decode cX0_parted 75 = .ok (.iload_n 2, 1) := by decide +kernel
theorem dX0_parted_76 : decode cX0_parted 76 = .ok (.invokevirtual 142, 3) := by decide +kernel
theorem dX0_parted_79 : decode cX0_parted 79 = .ok (.iinc 1 1, 3) := by decide +kernel
theorem dX0_parted_82 : decode cX0_parted 82 = .ok (.goto (-59), 3) := by decide +kernel
theorem dX0_parted_85 : decode cX0_parted 85 = .ok (.aload_n 0, 1) := by decide +kernel
theorem dX0_parted_86 : decode cX0_parted 86 = .ok (.getfield 21, 3) := by decide +kernel
theorem dX0_parted_89 : decode cX0_parted 89 = .ok (.areturn, 1) := by decide +kernel
theorem bX0_parted_0 : tg_Snd mX0_parted 0 (fun k => ti_aload 0 (ti_getf 0 1 (ti_aload 0 (ti_getf 0 0 (ti_getf 5 0 (ti_aload 0 (ti_getf 0 0 (ti_getf 5 2 k)))))))) 18 := tg_seq (si_aload_n (i := 0) dX0_parted_0 rfl) (tg_seq (si_getf (ci := 0) (f := 1) clX0 (Nat.le_of_ble_eq_true rfl) rfl flX0_21 dX0_parted_1) (tg_seq (si_aload_n (i := 0) dX0_parted_4 rfl) (tg_seq (si_getf (ci := 0) (f := 0) clX0 (Nat.le_of_ble_eq_true rfl) rfl flX0_12 dX0_parted_5) (tg_seq (si_getf (ci := 5) (f := 0) clX6 (Nat.le_of_ble_eq_true rfl) rfl flX0_63 dX0_parted_8) (tg_seq (si_aload_n (i := 0) dX0_parted_11 rfl) (tg_seq (si_getf (ci := 0) (f := 0) clX0 (Nat.le_of_ble_eq_true rfl) rfl flX0_12 dX0_parted_12) (si_getf (ci := 5) (f := 2) clX6 (Nat.le_of_ble_eq_true rfl) rfl flX0_62 dX0_parted_15)))))))
theorem bX0_parted_21 : tg_Snd mX0_parted 21 (fun k => ti_push (.int 0) (ti_istore 1 k)) 23 := tg_seq (si_iconst (v := 0) dX0_parted_21 (by decide)) (si_istore_n (i := 1) dX0_parted_22 rfl (Nat.le_of_ble_eq_true rfl))
theorem bX0_parted_23 : tg_Snd mX0_parted 23 (fun k => ti_iload 1 (ti_aload 0 (ti_getf 0 3 k))) 28 := tg_seq (si_iload_n (i := 1) dX0_parted_23 rfl) (tg_seq (si_aload_n (i := 0) dX0_parted_24 rfl) (si_getf (ci := 0) (f := 3) clX0 (Nat.le_of_ble_eq_true rfl) rfl flX0_58 dX0_parted_25))
theorem bX0_parted_31 : tg_Snd mX0_parted 31 (fun k => ti_aload 0 (ti_getf 0 5 (ti_iload 1 (ti_lald k)))) 37 := tg_seq (si_aload_n (i := 0) dX0_parted_31 rfl) (tg_seq (si_getf (ci := 0) (f := 5) clX0 (Nat.le_of_ble_eq_true rfl) rfl flX0_33 dX0_parted_32) (tg_seq (si_iload_n (i := 1) dX0_parted_35 rfl) (si_lald dX0_parted_36)))
theorem bX0_parted_40 : tg_Snd mX0_parted 40 (fun k => ti_istore 2 (ti_aload 0 (ti_getf 0 4 (ti_iload 1 (ti_iald k))))) 47 := tg_seq (si_istore_n (i := 2) dX0_parted_40 rfl (Nat.le_of_ble_eq_true rfl)) (tg_seq (si_aload_n (i := 0) dX0_parted_41 rfl) (tg_seq (si_getf (ci := 0) (f := 4) clX0 (Nat.le_of_ble_eq_true rfl) rfl flX0_29 dX0_parted_42) (tg_seq (si_iload_n (i := 1) dX0_parted_45 rfl) (si_iald dX0_parted_46))))
theorem bX0_parted_50 : tg_Snd mX0_parted 50 (fun k => ti_iload 2 (ti_aload 0 (ti_getf 0 0 (ti_getf 5 5 k)))) 58 := tg_seq (si_iload_n (i := 2) dX0_parted_50 rfl) (tg_seq (si_aload_n (i := 0) dX0_parted_51 rfl) (tg_seq (si_getf (ci := 0) (f := 0) clX0 (Nat.le_of_ble_eq_true rfl) rfl flX0_12 dX0_parted_52) (si_getf (ci := 5) (f := 5) clX6 (Nat.le_of_ble_eq_true rfl) rfl flX0_110 dX0_parted_55)))
theorem bX0_parted_61 : tg_Snd mX0_parted 61 (fun k => ti_aload 0 (ti_getf 0 1 (ti_aload 0 (ti_aload 0 (ti_getf 0 4 (ti_iload 1 (ti_iald k))))))) 72 := tg_seq (si_aload_n (i := 0) dX0_parted_61 rfl) (tg_seq (si_getf (ci := 0) (f := 1) clX0 (Nat.le_of_ble_eq_true rfl) rfl flX0_21 dX0_parted_62) (tg_seq (si_aload_n (i := 0) dX0_parted_65 rfl) (tg_seq (si_aload_n (i := 0) dX0_parted_66 rfl) (tg_seq (si_getf (ci := 0) (f := 4) clX0 (Nat.le_of_ble_eq_true rfl) rfl flX0_29 dX0_parted_67) (tg_seq (si_iload_n (i := 1) dX0_parted_70 rfl) (si_iald dX0_parted_71))))))
theorem bX0_parted_75 : tg_Snd mX0_parted 75 (fun k => ti_iload 2 k) 76 := si_iload_n (i := 2) dX0_parted_75 rfl
theorem bX0_parted_79 : tg_Snd mX0_parted 79 (fun k => ti_iinc 1 1 k) 82 := si_iinc (v := 1) dX0_parted_79 (by decide) (Nat.le_of_ble_eq_true rfl)
theorem bX0_parted_85 : tg_Snd mX0_parted 85 (fun k => ti_aload 0 (ti_getf 0 1 k)) 89 := tg_seq (si_aload_n (i := 0) dX0_parted_85 rfl) (si_getf (ci := 0) (f := 1) clX0 (Nat.le_of_ble_eq_true rfl) rfl flX0_21 dX0_parted_86)
theorem vX0_parted_18 : tg_VS mX0_parted 18 mX4_startWith 2 := ⟨okX4_startWith, ⟨138, dX0_parted_18, mlX0_138⟩, insX4_startWith, selX4_startWith, parX4_startWith, rfl, rfl, Nat.le_of_ble_eq_true rfl, Nat.le_of_ble_eq_true rfl⟩
theorem vX0_parted_37 : tg_SS0 mX0_parted 37 mJ13_bitCount_95d88 1 := ⟨okJ13_bitCount_95d88, ⟨81, dX0_parted_37, mlX0_81⟩, staJ13_bitCount_95d88, parJ13_bitCount_95d88, rfl, rfl, Nat.le_of_ble_eq_true rfl, Nat.le_of_ble_eq_true rfl⟩
theorem vX0_parted_72 : tg_VS mX0_parted 72 mX0_dimensionsOf 1 := ⟨okX0_dimensionsOf, ⟨96, dX0_parted_72, mlX0_96⟩, insX0_dimensionsOf, selX0_dimensionsOf, parX0_dimensionsOf, rfl, rfl, Nat.le_of_ble_eq_true rfl, Nat.le_of_ble_eq_true rfl⟩
theorem vX0_parted_76 : tg_VS mX0_parted 76 mX4_goInto 2 := ⟨okX4_goInto, ⟨142, dX0_parted_76, mlX0_142⟩, insX4_goInto, selX4_goInto, parX4_goInto, rfl, rfl, Nat.le_of_ble_eq_true rfl, Nat.le_of_ble_eq_true rfl⟩
