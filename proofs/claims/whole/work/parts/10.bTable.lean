theorem dX6_startWith_0 : decode cX6_startWith 0 = .ok (.aload_n 0, 1) := by decide +kernel
theorem dX6_startWith_1 : decode cX6_startWith 1 = .ok (.iload_n 1, 1) := by decide +kernel
theorem dX6_startWith_2 : decode cX6_startWith 2 = .ok (.putfield 21, 3) := by decide +kernel
theorem dX6_startWith_5 : decode cX6_startWith 5 = .ok (.aload_n 2, 1) := by decide +kernel
theorem dX6_startWith_6 : decode cX6_startWith 6 = .ok (.iconst 0, 1) := by decide +kernel
theorem dX6_startWith_7 : decode cX6_startWith 7 = .ok (.aload_n 0, 1) := by decide +kernel
theorem dX6_startWith_8 : decode cX6_startWith 8 = .ok (.getfield 9, 3) := by decide +kernel
theorem dX6_startWith_11 : decode cX6_startWith 11 = .ok (.iconst 0, 1) := by decide +kernel
theorem dX6_startWith_12 : decode cX6_startWith 12 = .ok (.iconst 4, 1) := by decide +kernel
theorem dX6_startWith_13 : decode cX6_startWith 13 = .ok (.invokestatic 31, 3) := by decide +kernel
theorem dX6_startWith_16 : decode cX6_startWith 16 = .ok (.aload_n 0, 1) := by decide +kernel
theorem dX6_startWith_17 : decode cX6_startWith 17 = .ok (.iconst 0, 1) := by decide +kernel
theorem dX6_startWith_18 : decode cX6_startWith 18 = .ok (.putfield 25, 3) := by decide +kernel
theorem dX6_startWith_21 : decode cX6_startWith 21 = .ok (.aload_n 0, 1) := by decide +kernel
theorem dX6_startWith_22 : decode cX6_startWith 22 = .ok (.iconst 1, 1) := by decide +kernel
theorem dX6_startWith_23 : decode cX6_startWith 23 = .ok (.putfield 28, 3) := by decide +kernel
theorem dX6_startWith_26 : decode cX6_startWith 26 = .ok (.return_, 1) := by decide +kernel
theorem bX6_startWith_0 : tg_Snd mX6_startWith 0 (fun k => ti_aload 0 (ti_iload 1 (ti_putfI 5 0 (ti_aload 2 (ti_push (.int 0) (ti_aload 0 (ti_getf 5 1 (ti_push (.int 0) (ti_push (.int 4) (ti_acopy (ti_aload 0 (ti_push (.int 0) (ti_putfI 5 2 (ti_aload 0 (ti_push (.int 1) (ti_putfI 5 5 k)))))))))))))))) 26 := tg_seq (si_aload_n (i := 0) dX6_startWith_0 rfl) (tg_seq (si_iload_n (i := 1) dX6_startWith_1 rfl) (tg_seq (si_putfI (ci := 5) (f := 0) (ty := .int) clX6 tyX6_ok nmX6 (Nat.le_of_ble_eq_true rfl) rfl (by decide +kernel) (fun _ _ => ⟨rfl, rfl⟩) flX6_21 dX6_startWith_2) (tg_seq (si_aload_n (i := 2) dX6_startWith_5 rfl) (tg_seq (si_iconst (v := 0) dX6_startWith_6 (by decide)) (tg_seq (si_aload_n (i := 0) dX6_startWith_7 rfl) (tg_seq (si_getf (ci := 5) (f := 1) clX6 (Nat.le_of_ble_eq_true rfl) rfl flX6_9 dX6_startWith_8) (tg_seq (si_iconst (v := 0) dX6_startWith_11 (by decide)) (tg_seq (si_iconst (v := 4) dX6_startWith_12 (by decide)) (tg_seq (si_acopy dX6_startWith_13 mlX6_31 natCpy staCpy iniSys (Nat.le_of_ble_eq_true rfl) (Nat.le_of_ble_eq_true rfl)) (tg_seq (si_aload_n (i := 0) dX6_startWith_16 rfl) (tg_seq (si_iconst (v := 0) dX6_startWith_17 (by decide)) (tg_seq (si_putfI (ci := 5) (f := 2) (ty := .int) clX6 tyX6_ok nmX6 (Nat.le_of_ble_eq_true rfl) rfl (by decide +kernel) (fun _ _ => ⟨rfl, rfl⟩) flX6_25 dX6_startWith_18) (tg_seq (si_aload_n (i := 0) dX6_startWith_21 rfl) (tg_seq (si_iconst (v := 1) dX6_startWith_22 (by decide)) (si_putfI (ci := 5) (f := 5) (ty := .int) clX6 tyX6_ok nmX6 (Nat.le_of_ble_eq_true rfl) rfl (by decide +kernel) (fun _ _ => ⟨rfl, rfl⟩) flX6_28 dX6_startWith_23)))))))))))))))
theorem dX6_copyFrom_0 : decode cX6_copyFrom 0 = .ok (.aload_n 0, 1) := by decide +kernel
theorem dX6_copyFrom_1 : decode cX6_copyFrom 1 = .ok (.aload_n 1, 1) := by decide +kernel
theorem dX6_copyFrom_2 : decode cX6_copyFrom 2 = .ok (.getfield 21, 3) := by decide +kernel
theorem dX6_copyFrom_5 : decode cX6_copyFrom 5 = .ok (.putfield 21, 3) := by decide +kernel
theorem dX6_copyFrom_8 : decode cX6_copyFrom 8 = .ok (.aload_n 1, 1) := by decide +kernel
theorem dX6_copyFrom_9 : decode cX6_copyFrom 9 = .ok (.getfield 9, 3) := by decide +kernel
theorem dX6_copyFrom_12 : decode cX6_copyFrom 12 = .ok (.iconst 0, 1) := by decide +kernel
theorem dX6_copyFrom_13 : decode cX6_copyFrom 13 = .ok (.aload_n 0, 1) := by decide +kernel
theorem dX6_copyFrom_14 : decode cX6_copyFrom 14 = .ok (.getfield 9, 3) := by decide +kernel
theorem dX6_copyFrom_17 : decode cX6_copyFrom 17 = .ok (.iconst 0, 1) := by decide +kernel
theorem dX6_copyFrom_18 : decode cX6_copyFrom 18 = .ok (.iconst 4, 1) := by decide +kernel
theorem dX6_copyFrom_19 : decode cX6_copyFrom 19 = .ok (.invokestatic 31, 3) := by decide +kernel
theorem dX6_copyFrom_22 : decode cX6_copyFrom 22 = .ok (.aload_n 0, 1) := by decide +kernel
theorem dX6_copyFrom_23 : decode cX6_copyFrom 23 = .ok (.aload_n 1, 1) := by decide +kernel
theorem dX6_copyFrom_24 : decode cX6_copyFrom 24 = .ok (.getfield 25, 3) := by decide +kernel
theorem dX6_copyFrom_27 : decode cX6_copyFrom 27 = .ok (.putfield 25, 3) := by decide +kernel
theorem dX6_copyFrom_30 : decode cX6_copyFrom 30 = .ok (.aload_n 1, 1) := by decide +kernel
theorem dX6_copyFrom_31 : decode cX6_copyFrom 31 = .ok (.getfield 15, 3) := by decide +kernel
theorem dX6_copyFrom_34 : decode cX6_copyFrom 34 = .ok (.iconst 0, 1) := by decide +kernel
theorem dX6_copyFrom_35 : decode cX6_copyFrom 35 = .ok (.aload_n 0, 1) := by decide +kernel
theorem dX6_copyFrom_36 : decode cX6_copyFrom 36 = .ok (.getfield 15, 3) := by decide +kernel
theorem dX6_copyFrom_39 : decode cX6_copyFrom 39 = .ok (.iconst 0, 1) := by decide +kernel
theorem dX6_copyFrom_40 : decode cX6_copyFrom 40 = .ok (.bipush 40, 2) := by decide +kernel
theorem dX6_copyFrom_42 : decode cX6_copyFrom 42 = .ok (.invokestatic 31, 3) := by decide +kernel
theorem dX6_copyFrom_45 : decode cX6_copyFrom 45 = .ok (.aload_n 1, 1) := by decide +kernel
theorem dX6_copyFrom_46 : decode cX6_copyFrom 46 = .ok (.getfield 18, 3) := by decide +kernel
theorem dX6_copyFrom_49 : decode cX6_copyFrom 49 = .ok (.iconst 0, 1) := by decide +kernel
theorem dX6_copyFrom_50 : decode cX6_copyFrom 50 = .ok (.aload_n 0, 1) := by decide +kernel
theorem dX6_copyFrom_51 : decode cX6_copyFrom 51 = .ok (.getfield 18, 3) := by decide +kernel
theorem dX6_copyFrom_54 : decode cX6_copyFrom 54 = .ok (.iconst 0, 1) := by decide +kernel
theorem dX6_copyFrom_55 : decode cX6_copyFrom 55 = .ok (.bipush 40, 2) := by decide +kernel
theorem dX6_copyFrom_57 : decode cX6_copyFrom 57 = .ok (.invokestatic 31, 3) := by decide +kernel
theorem dX6_copyFrom_60 : decode cX6_copyFrom 60 = .ok (.aload_n 0, 1) := by decide +kernel
theorem dX6_copyFrom_61 : decode cX6_copyFrom 61 = .ok (.aload_n 1, 1) := by decide +kernel
theorem dX6_copyFrom_62 : decode cX6_copyFrom 62 = .ok (.getfield 28, 3) := by decide +kernel
theorem dX6_copyFrom_65 : decode cX6_copyFrom 65 = .ok (.putfield 28, 3) := by decide +kernel
theorem dX6_copyFrom_68 : decode cX6_copyFrom 68 = .ok (.return_, 1) := by decide +kernel
theorem bX6_copyFrom_0 : tg_Snd mX6_copyFrom 0 (fun k => ti_aload 0 (ti_aload 1 (ti_getf 5 0 (ti_putfI 5 0 (ti_aload 1 (ti_getf 5 1 (ti_push (.int 0) (ti_aload 0 (ti_getf 5 1 (ti_push (.int 0) (ti_push (.int 4) (ti_acopy (ti_aload 0 (ti_aload 1 (ti_getf 5 2 (ti_putfI 5 2 (ti_aload 1 (ti_getf 5 3 (ti_push (.int 0) (ti_aload 0 (ti_getf 5 3 (ti_push (.int 0) (ti_push (.int 40) (ti_acopy (ti_aload 1 (ti_getf 5 4 (ti_push (.int 0) (ti_aload 0 (ti_getf 5 4 (ti_push (.int 0) (ti_push (.int 40) (ti_acopy (ti_aload 0 (ti_aload 1 (ti_getf 5 5 (ti_putfI 5 5 k)))))))))))))))))))))))))))))))))))) 68 := tg_seq (si_aload_n (i := 0) dX6_copyFrom_0 rfl) (tg_seq (si_aload_n (i := 1) dX6_copyFrom_1 rfl) (tg_seq (si_getf (ci := 5) (f := 0) clX6 (Nat.le_of_ble_eq_true rfl) rfl flX6_21 dX6_copyFrom_2) (tg_seq (si_putfI (ci := 5) (f := 0) (ty := .int) clX6 tyX6_ok nmX6 (Nat.le_of_ble_eq_true rfl) rfl (by decide +kernel) (fun _ _ => ⟨rfl, rfl⟩) flX6_21 dX6_copyFrom_5) (tg_seq (si_aload_n (i := 1) dX6_copyFrom_8 rfl) (tg_seq (si_getf (ci := 5) (f := 1) clX6 (Nat.le_of_ble_eq_true rfl) rfl flX6_9 dX6_copyFrom_9) (tg_seq (si_iconst (v := 0) dX6_copyFrom_12 (by decide)) (tg_seq (si_aload_n (i := 0) dX6_copyFrom_13 rfl) (tg_seq (si_getf (ci := 5) (f := 1) clX6 (Nat.le_of_ble_eq_true rfl) rfl flX6_9 dX6_copyFrom_14) (tg_seq (si_iconst (v := 0) dX6_copyFrom_17 (by decide)) (tg_seq (si_iconst (v := 4) dX6_copyFrom_18 (by decide)) (tg_seq (si_acopy dX6_copyFrom_19 mlX6_31 natCpy staCpy iniSys (Nat.le_of_ble_eq_true rfl) (Nat.le_of_ble_eq_true rfl)) (tg_seq (si_aload_n (i := 0) dX6_copyFrom_22 rfl) (tg_seq (si_aload_n (i := 1) dX6_copyFrom_23 rfl) (tg_seq (si_getf (ci := 5) (f := 2) clX6 (Nat.le_of_ble_eq_true rfl) rfl flX6_25 dX6_copyFrom_24) (tg_seq (si_putfI (ci := 5) (f := 2) (ty := .int) clX6 tyX6_ok nmX6 (Nat.le_of_ble_eq_true rfl) rfl (by decide +kernel) (fun _ _ => ⟨rfl, rfl⟩) flX6_25 dX6_copyFrom_27) (tg_seq (si_aload_n (i := 1) dX6_copyFrom_30 rfl) (tg_seq (si_getf (ci := 5) (f := 3) clX6 (Nat.le_of_ble_eq_true rfl) rfl flX6_15 dX6_copyFrom_31) (tg_seq (si_iconst (v := 0) dX6_copyFrom_34 (by decide)) (tg_seq (si_aload_n (i := 0) dX6_copyFrom_35 rfl) (tg_seq (si_getf (ci := 5) (f := 3) clX6 (Nat.le_of_ble_eq_true rfl) rfl flX6_15 dX6_copyFrom_36) (tg_seq (si_iconst (v := 0) dX6_copyFrom_39 (by decide)) (tg_seq (si_bipush (v := 40) dX6_copyFrom_40 (by decide)) (tg_seq (si_acopy dX6_copyFrom_42 mlX6_31 natCpy staCpy iniSys (Nat.le_of_ble_eq_true rfl) (Nat.le_of_ble_eq_true rfl)) (tg_seq (si_aload_n (i := 1) dX6_copyFrom_45 rfl) (tg_seq (si_getf (ci := 5) (f := 4) clX6 (Nat.le_of_ble_eq_true rfl) rfl flX6_18 dX6_copyFrom_46) (tg_seq (si_iconst (v := 0) dX6_copyFrom_49 (by decide)) (tg_seq (si_aload_n (i := 0) dX6_copyFrom_50 rfl) (tg_seq (si_getf (ci := 5) (f := 4) clX6 (Nat.le_of_ble_eq_true rfl) rfl flX6_18 dX6_copyFrom_51) (tg_seq (si_iconst (v := 0) dX6_copyFrom_54 (by decide)) (tg_seq (si_bipush (v := 40) dX6_copyFrom_55 (by decide)) (tg_seq (si_acopy dX6_copyFrom_57 mlX6_31 natCpy staCpy iniSys (Nat.le_of_ble_eq_true rfl) (Nat.le_of_ble_eq_true rfl)) (tg_seq (si_aload_n (i := 0) dX6_copyFrom_60 rfl) (tg_seq (si_aload_n (i := 1) dX6_copyFrom_61 rfl) (tg_seq (si_getf (ci := 5) (f := 5) clX6 (Nat.le_of_ble_eq_true rfl) rfl flX6_28 dX6_copyFrom_62) (si_putfI (ci := 5) (f := 5) (ty := .int) clX6 tyX6_ok nmX6 (Nat.le_of_ble_eq_true rfl) rfl (by decide +kernel) (fun _ _ => ⟨rfl, rfl⟩) flX6_28 dX6_copyFrom_65)))))))))))))))))))))))))))))))))))
theorem dX6_hasEntry_0 : decode cX6_hasEntry 0 = .ok (.iload_n 1, 1) := by decide +kernel
theorem dX6_hasEntry_1 : decode cX6_hasEntry 1 = .ok (.ifCond .lt 15, 3) := by decide +kernel
theorem dX6_hasEntry_4 : decode cX6_hasEntry 4 = .ok (.iload_n 1, 1) := by decide +kernel
theorem dX6_hasEntry_5 : decode cX6_hasEntry 5 = .ok (.aload_n 0, 1) := by decide +kernel
theorem dX6_hasEntry_6 : decode cX6_hasEntry 6 = .ok (.getfield 25, 3) := by decide +kernel
theorem dX6_hasEntry_9 : decode cX6_hasEntry 9 = .ok (.if_icmp .ge 7, 3) := by decide +kernel
theorem dX6_hasEntry_12 : decode cX6_hasEntry 12 = .ok (.iconst 1, 1) := by decide +kernel
theorem dX6_hasEntry_13 : decode cX6_hasEntry 13 = .ok (.goto 4, 3) := by decide +kernel
theorem dX6_hasEntry_16 : decode cX6_hasEntry 16 = .ok (.iconst 0, 1) := by decide +kernel
theorem dX6_hasEntry_17 : decode cX6_hasEntry 17 = .ok (.ireturn, 1) := by decide +kernel
theorem bX6_hasEntry_0 : tg_Snd mX6_hasEntry 0 (fun k => ti_iload 1 k) 1 := si_iload_n (i := 1) dX6_hasEntry_0 rfl
theorem bX6_hasEntry_4 : tg_Snd mX6_hasEntry 4 (fun k => ti_iload 1 (ti_aload 0 (ti_getf 5 2 k))) 9 := tg_seq (si_iload_n (i := 1) dX6_hasEntry_4 rfl) (tg_seq (si_aload_n (i := 0) dX6_hasEntry_5 rfl) (si_getf (ci := 5) (f := 2) clX6 (Nat.le_of_ble_eq_true rfl) rfl flX6_25 dX6_hasEntry_6))
theorem bX6_hasEntry_12 : tg_Snd mX6_hasEntry 12 (fun k => ti_push (.int 1) k) 13 := si_iconst (v := 1) dX6_hasEntry_12 (by decide)
theorem bX6_hasEntry_16 : tg_Snd mX6_hasEntry 16 (fun k => ti_push (.int 0) k) 17 := si_iconst (v := 0) dX6_hasEntry_16 (by decide)
theorem dX6_insert_0 : decode cX6_insert 0 = .ok (.iload_n 1, 1) := by decide +kernel
theorem dX6_insert_1 : decode cX6_insert 1 = .ok (.ifCond .lt 20, 3) := by decide +kernel
theorem dX6_insert_4 : decode cX6_insert 4 = .ok (.iload_n 1, 1) := by decide +kernel
theorem dX6_insert_5 : decode cX6_insert 5 = .ok (.aload_n 0, 1) := by decide +kernel
theorem dX6_insert_6 : decode cX6_insert 6 = .ok (.getfield 25, 3) := by decide +kernel
theorem dX6_insert_9 : decode cX6_insert 9 = .ok (.if_icmp .gt 12, 3) := by decide +kernel
theorem dX6_insert_12 : decode cX6_insert 12 = .ok (.aload_n 0, 1) := by decide +kernel
theorem dX6_insert_13 : decode cX6_insert 13 = .ok (.getfield 25, 3) := by decide +kernel
theorem dX6_insert_16 : decode cX6_insert 16 = .ok (.bipush 40, 2) := by decide +kernel
theorem dX6_insert_18 : decode cX6_insert 18 = .ok (.if_icmp .lt 4, 3) := by decide +kernel
theorem dX6_insert_21 : decode cX6_insert 21 = .ok (.return_, 1) := by decide +kernel
theorem dX6_insert_22 : decode cX6_insert 22 = .ok (.aload_n 0, 1) := by decide +kernel
theorem dX6_insert_23 : decode cX6_insert 23 = .ok (.getfield 15, 3) := by decide +kernel
theorem dX6_insert_26 : decode cX6_insert 26 = .ok (.iload_n 1, 1) := by decide +kernel
theorem dX6_insert_27 : decode cX6_insert 27 = .ok (.aload_n 0, 1) := by decide +kernel
theorem dX6_insert_28 : decode cX6_insert 28 = .ok (.getfield 15, 3) := by decide +kernel
theorem dX6_insert_31 : decode cX6_insert 31 = .ok (.iload_n 1, 1) := by decide +kernel
theorem dX6_insert_32 : decode cX6_insert 32 = .ok (.iconst 1, 1) := by decide +kernel
theorem dX6_insert_33 : decode cX6_insert 33 = .ok (.iadd, 1) := by decide +kernel
theorem dX6_insert_34 : decode cX6_insert 34 = .ok (.aload_n 0, 1) := by decide +kernel
theorem dX6_insert_35 : decode cX6_insert 35 = .ok (.getfield 25, 3) := by decide +kernel
theorem dX6_insert_38 : decode cX6_insert 38 = .ok (.iload_n 1, 1) := by decide +kernel
theorem dX6_insert_39 : decode cX6_insert 39 = .ok (.isub, 1) := by decide +kernel
theorem dX6_insert_40 : decode cX6_insert 40 = .ok (.invokestatic 31, 3) := by decide +kernel
theorem dX6_insert_43 : decode cX6_insert 43 = .ok (.aload_n 0, 1) := by decide +kernel
theorem dX6_insert_44 : decode cX6_insert 44 = .ok (.getfield 18, 3) := by decide +kernel
theorem dX6_insert_47 : decode cX6_insert 47 = .ok (.iload_n 1, 1) := by decide +kernel
theorem dX6_insert_48 : decode cX6_insert 48 = .ok (.aload_n 0, 1) := by decide +kernel
theorem dX6_insert_49 : decode cX6_insert 49 = .ok (.getfield 18, 3) := by decide +kernel
theorem dX6_insert_52 : decode cX6_insert 52 = .ok (.iload_n 1, 1) := by decide +kernel
theorem dX6_insert_53 : decode cX6_insert 53 = .ok (.iconst 1, 1) := by decide +kernel
theorem dX6_insert_54 : decode cX6_insert 54 = .ok (.iadd, 1) := by decide +kernel
theorem dX6_insert_55 : decode cX6_insert 55 = .ok (.aload_n 0, 1) := by decide +kernel
theorem dX6_insert_56 : decode cX6_insert 56 = .ok (.getfield 25, 3) := by decide +kernel
theorem dX6_insert_59 : decode cX6_insert 59 = .ok (.iload_n 1, 1) := by decide +kernel
theorem dX6_insert_60 : decode cX6_insert 60 = .ok (.isub, 1) := by decide +kernel
theorem dX6_insert_61 : decode cX6_insert 61 = .ok (.invokestatic 31, 3) := by decide +kernel
theorem dX6_insert_64 : decode cX6_insert 64 = .ok (.aload_n 0, 1) := by decide +kernel
theorem dX6_insert_65 : decode cX6_insert 65 = .ok (.getfield 15, 3) := by decide +kernel
theorem dX6_insert_68 : decode cX6_insert 68 = .ok (.iload_n 1, 1) := by decide +kernel
theorem dX6_insert_69 : decode cX6_insert 69 = .ok (.iload_n 2, 1) := by decide +kernel
theorem dX6_insert_70 : decode cX6_insert 70 = .ok (.iastore, 1) := by decide +kernel
theorem dX6_insert_71 : decode cX6_insert 71 = .ok (.aload_n 0, 1) := by decide +kernel
theorem dX6_insert_72 : decode cX6_insert 72 = .ok (.getfield 18, 3) := by decide +kernel
theorem dX6_insert_75 : decode cX6_insert 75 = .ok (.iload_n 1, 1) := by decide +kernel
theorem dX6_insert_76 : decode cX6_insert 76 = .ok (.iload_n 3, 1) := by decide +kernel
theorem dX6_insert_77 : decode cX6_insert 77 = .ok (.iastore, 1) := by decide +kernel
theorem dX6_insert_78 : decode cX6_insert 78 = .ok (.aload_n 0, 1) := by decide +kernel
theorem dX6_insert_79 : decode cX6_insert 79 = .ok (.dup, 1) := by decide +kernel
theorem dX6_insert_80 : decode cX6_insert 80 = .ok (.getfield 25, 3) := by decide +kernel
theorem dX6_insert_83 : decode cX6_insert 83 = .ok (.iconst 1, 1) := by decide +kernel
theorem dX6_insert_84 : decode cX6_insert 84 = .ok (.iadd, 1) := by decide +kernel
theorem dX6_insert_85 : decode cX6_insert 85 = .ok (.putfield 25, 3) := by decide +kernel
theorem dX6_insert_88 : decode cX6_insert 88 = .ok (.return_, 1) := by decide +kernel
theorem bX6_insert_0 : tg_Snd mX6_insert 0 (fun k => ti_iload 1 k) 1 := si_iload_n (i := 1) dX6_insert_0 rfl
theorem bX6_insert_4 : tg_Snd mX6_insert 4 (fun k => ti_iload 1 (ti_aload 0 (ti_getf 5 2 k))) 9 := tg_seq (si_iload_n (i := 1) dX6_insert_4 rfl) (tg_seq (si_aload_n (i := 0) dX6_insert_5 rfl) (si_getf (ci := 5) (f := 2) clX6 (Nat.le_of_ble_eq_true rfl) rfl flX6_25 dX6_insert_6))
theorem bX6_insert_12 : tg_Snd mX6_insert 12 (fun k => ti_aload 0 (ti_getf 5 2 (ti_push (.int 40) k))) 18 := tg_seq (si_aload_n (i := 0) dX6_insert_12 rfl) (tg_seq (si_getf (ci := 5) (f := 2) clX6 (Nat.le_of_ble_eq_true rfl) rfl flX6_25 dX6_insert_13) (si_bipush (v := 40) dX6_insert_16 (by decide)))
theorem bX6_insert_22 : tg_Snd mX6_insert 22 (fun k => ti_aload 0 (ti_getf 5 3 (ti_iload 1 (ti_aload 0 (ti_getf 5 3 (ti_iload 1 (ti_push (.int 1) (ti_iadd (ti_aload 0 (ti_getf 5 2 (ti_iload 1 (ti_isub (ti_acopy (ti_aload 0 (ti_getf 5 4 (ti_iload 1 (ti_aload 0 (ti_getf 5 4 (ti_iload 1 (ti_push (.int 1) (ti_iadd (ti_aload 0 (ti_getf 5 2 (ti_iload 1 (ti_isub (ti_acopy (ti_aload 0 (ti_getf 5 3 (ti_iload 1 (ti_iload 2 (ti_iast (ti_aload 0 (ti_getf 5 4 (ti_iload 1 (ti_iload 3 (ti_iast (ti_aload 0 (ti_dup (ti_getf 5 2 (ti_push (.int 1) (ti_iadd (ti_putfI 5 2 k)))))))))))))))))))))))))))))))))))))))))) 88 := tg_seq (si_aload_n (i := 0) dX6_insert_22 rfl) (tg_seq (si_getf (ci := 5) (f := 3) clX6 (Nat.le_of_ble_eq_true rfl) rfl flX6_15 dX6_insert_23) (tg_seq (si_iload_n (i := 1) dX6_insert_26 rfl) (tg_seq (si_aload_n (i := 0) dX6_insert_27 rfl) (tg_seq (si_getf (ci := 5) (f := 3) clX6 (Nat.le_of_ble_eq_true rfl) rfl flX6_15 dX6_insert_28) (tg_seq (si_iload_n (i := 1) dX6_insert_31 rfl) (tg_seq (si_iconst (v := 1) dX6_insert_32 (by decide)) (tg_seq (si_iadd dX6_insert_33) (tg_seq (si_aload_n (i := 0) dX6_insert_34 rfl) (tg_seq (si_getf (ci := 5) (f := 2) clX6 (Nat.le_of_ble_eq_true rfl) rfl flX6_25 dX6_insert_35) (tg_seq (si_iload_n (i := 1) dX6_insert_38 rfl) (tg_seq (si_isub dX6_insert_39) (tg_seq (si_acopy dX6_insert_40 mlX6_31 natCpy staCpy iniSys (Nat.le_of_ble_eq_true rfl) (Nat.le_of_ble_eq_true rfl)) (tg_seq (si_aload_n (i := 0) dX6_insert_43 rfl) (tg_seq (si_getf (ci := 5) (f := 4) clX6 (Nat.le_of_ble_eq_true rfl) rfl flX6_18 dX6_insert_44) (tg_seq (si_iload_n (i := 1) dX6_insert_47 rfl) (tg_seq (si_aload_n (i := 0) dX6_insert_48 rfl) (tg_seq (si_getf (ci := 5) (f := 4) clX6 (Nat.le_of_ble_eq_true rfl) rfl flX6_18 dX6_insert_49) (tg_seq (si_iload_n (i := 1) dX6_insert_52 rfl) (tg_seq (si_iconst (v := 1) dX6_insert_53 (by decide)) (tg_seq (si_iadd dX6_insert_54) (tg_seq (si_aload_n (i := 0) dX6_insert_55 rfl) (tg_seq (si_getf (ci := 5) (f := 2) clX6 (Nat.le_of_ble_eq_true rfl) rfl flX6_25 dX6_insert_56) (tg_seq (si_iload_n (i := 1) dX6_insert_59 rfl) (tg_seq (si_isub dX6_insert_60) (tg_seq (si_acopy dX6_insert_61 mlX6_31 natCpy staCpy iniSys (Nat.le_of_ble_eq_true rfl) (Nat.le_of_ble_eq_true rfl)) (tg_seq (si_aload_n (i := 0) dX6_insert_64 rfl) (tg_seq (si_getf (ci := 5) (f := 3) clX6 (Nat.le_of_ble_eq_true rfl) rfl flX6_15 dX6_insert_65) (tg_seq (si_iload_n (i := 1) dX6_insert_68 rfl) (tg_seq (si_iload_n (i := 2) dX6_insert_69 rfl) (tg_seq (si_iast dX6_insert_70) (tg_seq (si_aload_n (i := 0) dX6_insert_71 rfl) (tg_seq (si_getf (ci := 5) (f := 4) clX6 (Nat.le_of_ble_eq_true rfl) rfl flX6_18 dX6_insert_72) (tg_seq (si_iload_n (i := 1) dX6_insert_75 rfl) (tg_seq (si_iload_n (i := 3) dX6_insert_76 rfl) (tg_seq (si_iast dX6_insert_77) (tg_seq (si_aload_n (i := 0) dX6_insert_78 rfl) (tg_seq (si_dup dX6_insert_79) (tg_seq (si_getf (ci := 5) (f := 2) clX6 (Nat.le_of_ble_eq_true rfl) rfl flX6_25 dX6_insert_80) (tg_seq (si_iconst (v := 1) dX6_insert_83 (by decide)) (tg_seq (si_iadd dX6_insert_84) (si_putfI (ci := 5) (f := 2) (ty := .int) clX6 tyX6_ok nmX6 (Nat.le_of_ble_eq_true rfl) rfl (by decide +kernel) (fun _ _ => ⟨rfl, rfl⟩) flX6_25 dX6_insert_85)))))))))))))))))))))))))))))))))))))))))
theorem dX6_takeOut_0 : decode cX6_takeOut 0 = .ok (.aload_n 0, 1) := by decide +kernel
theorem dX6_takeOut_1 : decode cX6_takeOut 1 = .ok (.iload_n 1, 1) := by decide +kernel
theorem dX6_takeOut_2 : decode cX6_takeOut 2 = .ok (.invokevirtual 37, 3) := by decide +kernel
theorem dX6_takeOut_5 : decode cX6_takeOut 5 = .ok (.ifCond .ne 4, 3) := by decide +kernel
theorem dX6_takeOut_8 : decode cX6_takeOut 8 = .ok (.return_, 1) := by decide +kernel
theorem dX6_takeOut_9 : decode cX6_takeOut 9 = .ok (.aload_n 0, 1) := by decide +kernel
theorem dX6_takeOut_10 : decode cX6_takeOut 10 = .ok (.getfield 15, 3) := by decide +kernel
theorem dX6_takeOut_13 : decode cX6_takeOut 13 = .ok (.iload_n 1, 1) := by decide +kernel
theorem dX6_takeOut_14 : decode cX6_takeOut 14 = .ok (.iconst 1, 1) := by decide +kernel
theorem dX6_takeOut_15 : decode cX6_takeOut 15 = .ok (.iadd, 1) := by decide +kernel
theorem dX6_takeOut_16 : decode cX6_takeOut 16 = .ok (.aload_n 0, 1) := by decide +kernel
theorem dX6_takeOut_17 : decode cX6_takeOut 17 = .ok (.getfield 15, 3) := by decide +kernel
theorem dX6_takeOut_20 : decode cX6_takeOut 20 = .ok (.iload_n 1, 1) := by decide +kernel
theorem dX6_takeOut_21 : decode cX6_takeOut 21 = .ok (.aload_n 0, 1) := by decide +kernel
theorem dX6_takeOut_22 : decode cX6_takeOut 22 = .ok (.getfield 25, 3) := by decide +kernel
theorem dX6_takeOut_25 : decode cX6_takeOut 25 = .ok (.iload_n 1, 1) := by decide +kernel
theorem dX6_takeOut_26 : decode cX6_takeOut 26 = .ok (.isub, 1) := by decide +kernel
theorem dX6_takeOut_27 : decode cX6_takeOut 27 = .ok (.iconst 1, 1) := by decide +kernel
theorem dX6_takeOut_28 : decode cX6_takeOut 28 = .ok (.isub, 1) := by decide +kernel
theorem dX6_takeOut_29 : decode cX6_takeOut 29 = .ok (.invokestatic 31, 3) := by decide +kernel
theorem dX6_takeOut_32 : decode cX6_takeOut 32 = .ok (.aload_n 0, 1) := by decide +kernel
theorem dX6_takeOut_33 : decode cX6_takeOut 33 = .ok (.getfield 18, 3) := by decide +kernel
theorem dX6_takeOut_36 : decode cX6_takeOut 36 = .ok (.iload_n 1, 1) := by decide +kernel
theorem dX6_takeOut_37 : decode cX6_takeOut 37 = .ok (.iconst 1, 1) := by decide +kernel
theorem dX6_takeOut_38 : decode cX6_takeOut 38 = .ok (.iadd, 1) := by decide +kernel
theorem dX6_takeOut_39 : decode cX6_takeOut 39 = .ok (.aload_n 0, 1) := by decide +kernel
theorem dX6_takeOut_40 : decode cX6_takeOut 40 = .ok (.getfield 18, 3) := by decide +kernel
theorem dX6_takeOut_43 : decode cX6_takeOut 43 = .ok (.iload_n 1, 1) := by decide +kernel
theorem dX6_takeOut_44 : decode cX6_takeOut 44 = .ok (.aload_n 0, 1) := by decide +kernel
theorem dX6_takeOut_45 : decode cX6_takeOut 45 = .ok (.getfield 25, 3) := by decide +kernel
theorem dX6_takeOut_48 : decode cX6_takeOut 48 = .ok (.iload_n 1, 1) := by decide +kernel
theorem dX6_takeOut_49 : decode cX6_takeOut 49 = .ok (.isub, 1) := by decide +kernel
theorem dX6_takeOut_50 : decode cX6_takeOut 50 = .ok (.iconst 1, 1) := by decide +kernel
theorem dX6_takeOut_51 : decode cX6_takeOut 51 = .ok (.isub, 1) := by decide +kernel
theorem dX6_takeOut_52 : decode cX6_takeOut 52 = .ok (.invokestatic 31, 3) := by decide +kernel
theorem dX6_takeOut_55 : decode cX6_takeOut 55 = .ok (.aload_n 0, 1) := by decide +kernel
theorem dX6_takeOut_56 : decode cX6_takeOut 56 = .ok (.dup, 1) := by decide +kernel
theorem dX6_takeOut_57 : decode cX6_takeOut 57 = .ok (.getfield 25, 3) := by decide +kernel
theorem dX6_takeOut_60 : decode cX6_takeOut 60 = .ok (.iconst 1, 1) := by decide +kernel
theorem dX6_takeOut_61 : decode cX6_takeOut 61 = .ok (.isub, 1) := by decide +kernel
theorem dX6_takeOut_62 : decode cX6_takeOut 62 = .ok (.putfield 25, 3) := by decide +kernel
theorem dX6_takeOut_65 : decode cX6_takeOut 65 = .ok (.return_, 1) := by decide +kernel
theorem bX6_takeOut_0 : tg_Snd mX6_takeOut 0 (fun k => ti_aload 0 (ti_iload 1 k)) 2 := tg_seq (si_aload_n (i := 0) dX6_takeOut_0 rfl) (si_iload_n (i := 1) dX6_takeOut_1 rfl)
theorem bX6_takeOut_9 : tg_Snd mX6_takeOut 9 (fun k => ti_aload 0 (ti_getf 5 3 (ti_iload 1 (ti_push (.int 1) (ti_iadd (ti_aload 0 (ti_getf 5 3 (ti_iload 1 (ti_aload 0 (ti_getf 5 2 (ti_iload 1 (ti_isub (ti_push (.int 1) (ti_isub (ti_acopy (ti_aload 0 (ti_getf 5 4 (ti_iload 1 (ti_push (.int 1) (ti_iadd (ti_aload 0 (ti_getf 5 4 (ti_iload 1 (ti_aload 0 (ti_getf 5 2 (ti_iload 1 (ti_isub (ti_push (.int 1) (ti_isub (ti_acopy (ti_aload 0 (ti_dup (ti_getf 5 2 (ti_push (.int 1) (ti_isub (ti_putfI 5 2 k)))))))))))))))))))))))))))))))))))) 65 := tg_seq (si_aload_n (i := 0) dX6_takeOut_9 rfl) (tg_seq (si_getf (ci := 5) (f := 3) clX6 (Nat.le_of_ble_eq_true rfl) rfl flX6_15 dX6_takeOut_10) (tg_seq (si_iload_n (i := 1) dX6_takeOut_13 rfl) (tg_seq (si_iconst (v := 1) dX6_takeOut_14 (by decide)) (tg_seq (si_iadd dX6_takeOut_15) (tg_seq (si_aload_n (i := 0) dX6_takeOut_16 rfl) (tg_seq (si_getf (ci := 5) (f := 3) clX6 (Nat.le_of_ble_eq_true rfl) rfl flX6_15 dX6_takeOut_17) (tg_seq (si_iload_n (i := 1) dX6_takeOut_20 rfl) (tg_seq (si_aload_n (i := 0) dX6_takeOut_21 rfl) (tg_seq (si_getf (ci := 5) (f := 2) clX6 (Nat.le_of_ble_eq_true rfl) rfl flX6_25 dX6_takeOut_22) (tg_seq (si_iload_n (i := 1) dX6_takeOut_25 rfl) (tg_seq (si_isub dX6_takeOut_26) (tg_seq (si_iconst (v := 1) dX6_takeOut_27 (by decide)) (tg_seq (si_isub dX6_takeOut_28) (tg_seq (si_acopy dX6_takeOut_29 mlX6_31 natCpy staCpy iniSys (Nat.le_of_ble_eq_true rfl) (Nat.le_of_ble_eq_true rfl)) (tg_seq (si_aload_n (i := 0) dX6_takeOut_32 rfl) (tg_seq (si_getf (ci := 5) (f := 4) clX6 (Nat.le_of_ble_eq_true rfl) rfl flX6_18 dX6_takeOut_33) (tg_seq (si_iload_n (i := 1) dX6_takeOut_36 rfl) (tg_seq (si_iconst (v := 1) dX6_takeOut_37 (by decide)) (tg_seq (si_iadd dX6_takeOut_38) (tg_seq (si_aload_n (i := 0) dX6_takeOut_39 rfl) (tg_seq (si_getf (ci := 5) (f := 4) clX6 (Nat.le_of_ble_eq_true rfl) rfl flX6_18 dX6_takeOut_40) (tg_seq (si_iload_n (i := 1) dX6_takeOut_43 rfl) (tg_seq (si_aload_n (i := 0) dX6_takeOut_44 rfl) (tg_seq (si_getf (ci := 5) (f := 2) clX6 (Nat.le_of_ble_eq_true rfl) rfl flX6_25 dX6_takeOut_45) (tg_seq (si_iload_n (i := 1) dX6_takeOut_48 rfl) (tg_seq (si_isub dX6_takeOut_49) (tg_seq (si_iconst (v := 1) dX6_takeOut_50 (by decide)) (tg_seq (si_isub dX6_takeOut_51) (tg_seq (si_acopy dX6_takeOut_52 mlX6_31 natCpy staCpy iniSys (Nat.le_of_ble_eq_true rfl) (Nat.le_of_ble_eq_true rfl)) (tg_seq (si_aload_n (i := 0) dX6_takeOut_55 rfl) (tg_seq (si_dup dX6_takeOut_56) (tg_seq (si_getf (ci := 5) (f := 2) clX6 (Nat.le_of_ble_eq_true rfl) rfl flX6_25 dX6_takeOut_57) (tg_seq (si_iconst (v := 1) dX6_takeOut_60 (by decide)) (tg_seq (si_isub dX6_takeOut_61) (si_putfI (ci := 5) (f := 2) (ty := .int) clX6 tyX6_ok nmX6 (Nat.le_of_ble_eq_true rfl) rfl (by decide +kernel) (fun _ _ => ⟨rfl, rfl⟩) flX6_25 dX6_takeOut_62)))))))))))))))))))))))))))))))))))
theorem vX6_takeOut_2 : tg_VS mX6_takeOut 2 mX6_hasEntry 1 := ⟨okX6_hasEntry, ⟨37, dX6_takeOut_2, mlX6_37⟩, insX6_hasEntry, selX6_hasEntry, parX6_hasEntry, rfl, rfl, Nat.le_of_ble_eq_true rfl, Nat.le_of_ble_eq_true rfl⟩
theorem dX6_isCellCode_0 : decode cX6_isCellCode 0 = .ok (.aload_n 0, 1) := by decide +kernel
theorem dX6_isCellCode_1 : decode cX6_isCellCode 1 = .ok (.iload_n 1, 1) := by decide +kernel
theorem dX6_isCellCode_2 : decode cX6_isCellCode 2 = .ok (.iconst 0, 1) := by decide +kernel
theorem dX6_isCellCode_3 : decode cX6_isCellCode 3 = .ok (.invokevirtual 41, 3) := by decide +kernel
theorem dX6_isCellCode_6 : decode cX6_isCellCode 6 = .ok (.ireturn, 1) := by decide +kernel
theorem bX6_isCellCode_0 : tg_Snd mX6_isCellCode 0 (fun k => ti_aload 0 (ti_iload 1 (ti_push (.int 0) k))) 3 := tg_seq (si_aload_n (i := 0) dX6_isCellCode_0 rfl) (tg_seq (si_iload_n (i := 1) dX6_isCellCode_1 rfl) (si_iconst (v := 0) dX6_isCellCode_2 (by decide)))
theorem vX6_isCellCode_3 : tg_VS mX6_isCellCode 3 mX6_hasFigures 2 := ⟨okX6_hasFigures, ⟨41, dX6_isCellCode_3, mlX6_41⟩, insX6_hasFigures, selX6_hasFigures, parX6_hasFigures, rfl, rfl, Nat.le_of_ble_eq_true rfl, Nat.le_of_ble_eq_true rfl⟩
theorem dX6_isEntryCode_0 : decode cX6_isEntryCode 0 = .ok (.aload_n 0, 1) := by decide +kernel
theorem dX6_isEntryCode_1 : decode cX6_isEntryCode 1 = .ok (.iload_n 1, 1) := by decide +kernel
theorem dX6_isEntryCode_2 : decode cX6_isEntryCode 2 = .ok (.iconst 1, 1) := by decide +kernel
theorem dX6_isEntryCode_3 : decode cX6_isEntryCode 3 = .ok (.invokevirtual 41, 3) := by decide +kernel
theorem dX6_isEntryCode_6 : decode cX6_isEntryCode 6 = .ok (.ireturn, 1) := by decide +kernel
theorem bX6_isEntryCode_0 : tg_Snd mX6_isEntryCode 0 (fun k => ti_aload 0 (ti_iload 1 (ti_push (.int 1) k))) 3 := tg_seq (si_aload_n (i := 0) dX6_isEntryCode_0 rfl) (tg_seq (si_iload_n (i := 1) dX6_isEntryCode_1 rfl) (si_iconst (v := 1) dX6_isEntryCode_2 (by decide)))
theorem vX6_isEntryCode_3 : tg_VS mX6_isEntryCode 3 mX6_hasFigures 2 := ⟨okX6_hasFigures, ⟨41, dX6_isEntryCode_3, mlX6_41⟩, insX6_hasFigures, selX6_hasFigures, parX6_hasFigures, rfl, rfl, Nat.le_of_ble_eq_true rfl, Nat.le_of_ble_eq_true rfl⟩
theorem dX6_hasFigures_0 : decode cX6_hasFigures 0 = .ok (.iload_n 1, 1) := by decide +kernel
theorem dX6_hasFigures_1 : decode cX6_hasFigures 1 = .ok (.istore_n 3, 1) := by decide +kernel
theorem dX6_hasFigures_2 : decode cX6_hasFigures 2 = .ok (.aload_n 0, 1) := by decide +kernel
theorem dX6_hasFigures_3 : decode cX6_hasFigures 3 = .ok (.getfield 21, 3) := by decide +kernel
theorem dX6_hasFigures_6 : decode cX6_hasFigures 6 = .ok (.iconst 1, 1) := by decide +kernel
theorem dX6_hasFigures_7 : decode cX6_hasFigures 7 = .ok (.isub, 1) := by decide +kernel
theorem dX6_hasFigures_8 : decode cX6_hasFigures 8 = .ok (.istore 4, 2) := by decide +kernel
theorem dX6_hasFigures_10 : decode cX6_hasFigures 10 = .ok (.iload 4, 2) := by decide +kernel
theorem dX6_hasFigures_12 : decode cX6_hasFigures 12 = .ok (.ifCond .lt 40, 3) := by decide +kernel
theorem dX6_hasFigures_15 : decode cX6_hasFigures 15 = .ok (.iload_n 3, 1) := by decide +kernel
theorem dX6_hasFigures_16 : decode cX6_hasFigures 16 = .ok (.bipush 7, 2) := by decide +kernel
theorem dX6_hasFigures_18 : decode cX6_hasFigures 18 = .ok (.irem, 1) := by decide +kernel
theorem dX6_hasFigures_19 : decode cX6_hasFigures 19 = .ok (.istore 5, 2) := by decide +kernel
theorem dX6_hasFigures_21 : decode cX6_hasFigures 21 = .ok (.iload 5, 2) := by decide +kernel
theorem dX6_hasFigures_23 : decode cX6_hasFigures 23 = .ok (.iload_n 2, 1) := by decide +kernel
theorem dX6_hasFigures_24 : decode cX6_hasFigures 24 = .ok (.if_icmp .lt 15, 3) := by decide +kernel
theorem dX6_hasFigures_27 : decode cX6_hasFigures 27 = .ok (.iload 5, 2) := by decide +kernel
theorem dX6_hasFigures_29 : decode cX6_hasFigures 29 = .ok (.aload_n 0, 1) := by decide +kernel
theorem dX6_hasFigures_30 : decode cX6_hasFigures 30 = .ok (.getfield 9, 3) := by decide +kernel
theorem dX6_hasFigures_33 : decode cX6_hasFigures 33 = .ok (.iload 4, 2) := by decide +kernel
theorem dX6_hasFigures_35 : decode cX6_hasFigures 35 = .ok (.iaload, 1) := by decide +kernel
theorem dX6_hasFigures_36 : decode cX6_hasFigures 36 = .ok (.if_icmp .le 5, 3) := by decide +kernel
theorem dX6_hasFigures_39 : decode cX6_hasFigures 39 = .ok (.iconst 0, 1) := by decide +kernel
theorem dX6_hasFigures_40 : decode cX6_hasFigures 40 = .ok (.ireturn, 1) := by decide +kernel
theorem dX6_hasFigures_41 : decode cX6_hasFigures 41 = .ok (.iload_n 3, 1) := by decide +kernel
theorem dX6_hasFigures_42 : decode cX6_hasFigures 42 = .ok (.bipush 7, 2) := by decide +kernel
theorem dX6_hasFigures_44 : decode cX6_hasFigures 44 = .ok (.idiv, 1) := by decide +kernel
theorem dX6_hasFigures_45 : decode cX6_hasFigures 45 = .ok (.istore_n 3, 1) := by decide +kernel
theorem dX6_hasFigures_46 : decode cX6_hasFigures 46 = .ok (.iinc 4 (-1), 3) := by decide +kernel
theorem dX6_hasFigures_49 : decode cX6_hasFigures 49 = .ok (.goto (-39), 3) := by decide +kernel
theorem dX6_hasFigures_52 : decode cX6_hasFigures 52 = .ok (.iload_n 3, 1) := by decide +kernel
theorem dX6_hasFigures_53 : decode cX6_hasFigures 53 = .ok (.ifCond .ne 7, 3) := by decide +kernel
theorem dX6_hasFigures_56 : decode cX6_hasFigures 56 = .ok (.iconst 1, 1) := by decide +kernel
theorem dX6_hasFigures_57 : decode cX6_hasFigures 57 = .ok (.goto 4, 3) := by decide +kernel
theorem dX6_hasFigures_60 : decode cX6_hasFigures 60 = .ok (.iconst 0, 1) := by decide +kernel
theorem dX6_hasFigures_61 : decode cX6_hasFigures 61 = .ok (.ireturn, 1) := by decide +kernel
theorem bX6_hasFigures_0 : tg_Snd mX6_hasFigures 0 (fun k => ti_iload 1 (ti_istore 3 (ti_aload 0 (ti_getf 5 0 (ti_push (.int 1) (ti_isub (ti_istore 4 k))))))) 10 := tg_seq (si_iload_n (i := 1) dX6_hasFigures_0 rfl) (tg_seq (si_istore_n (i := 3) dX6_hasFigures_1 rfl (Nat.le_of_ble_eq_true rfl)) (tg_seq (si_aload_n (i := 0) dX6_hasFigures_2 rfl) (tg_seq (si_getf (ci := 5) (f := 0) clX6 (Nat.le_of_ble_eq_true rfl) rfl flX6_21 dX6_hasFigures_3) (tg_seq (si_iconst (v := 1) dX6_hasFigures_6 (by decide)) (tg_seq (si_isub dX6_hasFigures_7) (si_istore (i := 4) dX6_hasFigures_8 (Nat.le_of_ble_eq_true rfl)))))))
theorem bX6_hasFigures_10 : tg_Snd mX6_hasFigures 10 (fun k => ti_iload 4 k) 12 := si_iload (i := 4) dX6_hasFigures_10
theorem bX6_hasFigures_15 : tg_Snd mX6_hasFigures 15 (fun k => ti_iload 3 (ti_push (.int 7) (ti_irem (ti_istore 5 (ti_iload 5 (ti_iload 2 k)))))) 24 := tg_seq (si_iload_n (i := 3) dX6_hasFigures_15 rfl) (tg_seq (si_bipush (v := 7) dX6_hasFigures_16 (by decide)) (tg_seq (si_irem dX6_hasFigures_18) (tg_seq (si_istore (i := 5) dX6_hasFigures_19 (Nat.le_of_ble_eq_true rfl)) (tg_seq (si_iload (i := 5) dX6_hasFigures_21) (si_iload_n (i := 2) dX6_hasFigures_23 rfl)))))
theorem bX6_hasFigures_27 : tg_Snd mX6_hasFigures 27 (fun k => ti_iload 5 (ti_aload 0 (ti_getf 5 1 (ti_iload 4 (ti_iald k))))) 36 := tg_seq (si_iload (i := 5) dX6_hasFigures_27) (tg_seq (si_aload_n (i := 0) dX6_hasFigures_29 rfl) (tg_seq (si_getf (ci := 5) (f := 1) clX6 (Nat.le_of_ble_eq_true rfl) rfl flX6_9 dX6_hasFigures_30) (tg_seq (si_iload (i := 4) dX6_hasFigures_33) (si_iald dX6_hasFigures_35))))
theorem bX6_hasFigures_39 : tg_Snd mX6_hasFigures 39 (fun k => ti_push (.int 0) k) 40 := si_iconst (v := 0) dX6_hasFigures_39 (by decide)
theorem bX6_hasFigures_41 : tg_Snd mX6_hasFigures 41 (fun k => ti_iload 3 (ti_push (.int 7) (ti_idiv (ti_istore 3 (ti_iinc 4 (-1) k))))) 49 := tg_seq (si_iload_n (i := 3) dX6_hasFigures_41 rfl) (tg_seq (si_bipush (v := 7) dX6_hasFigures_42 (by decide)) (tg_seq (si_idiv dX6_hasFigures_44) (tg_seq (si_istore_n (i := 3) dX6_hasFigures_45 rfl (Nat.le_of_ble_eq_true rfl)) (si_iinc (v := -1) dX6_hasFigures_46 (by decide) (Nat.le_of_ble_eq_true rfl)))))
theorem bX6_hasFigures_52 : tg_Snd mX6_hasFigures 52 (fun k => ti_iload 3 k) 53 := si_iload_n (i := 3) dX6_hasFigures_52 rfl
theorem bX6_hasFigures_56 : tg_Snd mX6_hasFigures 56 (fun k => ti_push (.int 1) k) 57 := si_iconst (v := 1) dX6_hasFigures_56 (by decide)
theorem bX6_hasFigures_60 : tg_Snd mX6_hasFigures 60 (fun k => ti_push (.int 0) k) 61 := si_iconst (v := 0) dX6_hasFigures_60 (by decide)
theorem dX6_valueFigures_0 : decode cX6_valueFigures 0 = .ok (.iconst 0, 1) := by decide +kernel
theorem dX6_valueFigures_1 : decode cX6_valueFigures 1 = .ok (.istore_n 1, 1) := by decide +kernel
theorem dX6_valueFigures_2 : decode cX6_valueFigures 2 = .ok (.iconst 0, 1) := by decide +kernel
theorem dX6_valueFigures_3 : decode cX6_valueFigures 3 = .ok (.istore_n 2, 1) := by decide +kernel
theorem dX6_valueFigures_4 : decode cX6_valueFigures 4 = .ok (.iload_n 2, 1) := by decide +kernel
theorem dX6_valueFigures_5 : decode cX6_valueFigures 5 = .ok (.aload_n 0, 1) := by decide +kernel
theorem dX6_valueFigures_6 : decode cX6_valueFigures 6 = .ok (.getfield 21, 3) := by decide +kernel
theorem dX6_valueFigures_9 : decode cX6_valueFigures 9 = .ok (.if_icmp .ge 21, 3) := by decide +kernel
theorem dX6_valueFigures_12 : decode cX6_valueFigures 12 = .ok (.iload_n 1, 1) := by decide +kernel
theorem dX6_valueFigures_13 : decode cX6_valueFigures 13 = .ok (.bipush 10, 2) := by decide +kernel
theorem dX6_valueFigures_15 : decode cX6_valueFigures 15 = .ok (.imul, 1) := by decide +kernel
theorem dX6_valueFigures_16 : decode cX6_valueFigures 16 = .ok (.aload_n 0, 1) := by decide +kernel
theorem dX6_valueFigures_17 : decode cX6_valueFigures 17 = .ok (.getfield 9, 3) := by decide +kernel
theorem dX6_valueFigures_20 : decode cX6_valueFigures 20 = .ok (.iload_n 2, 1) := by decide +kernel
theorem dX6_valueFigures_21 : decode cX6_valueFigures 21 = .ok (.iaload, 1) := by decide +kernel
theorem dX6_valueFigures_22 : decode cX6_valueFigures 22 = .ok (.iadd, 1) := by decide +kernel
theorem dX6_valueFigures_23 : decode cX6_valueFigures 23 = .ok (.istore_n 1, 1) := by decide +kernel
theorem dX6_valueFigures_24 : decode cX6_valueFigures 24 = .ok (.iinc 2 1, 3) := by decide +kernel
theorem dX6_valueFigures_27 : decode cX6_valueFigures 27 = .ok (.goto (-23), 3) := by decide +kernel
theorem dX6_valueFigures_30 : decode cX6_valueFigures 30 = .ok (.iload_n 1, 1) := by decide +kernel
theorem dX6_valueFigures_31 : decode cX6_valueFigures 31 = .ok (.ireturn, 1) := by decide +kernel
theorem bX6_valueFigures_0 : tg_Snd mX6_valueFigures 0 (fun k => ti_push (.int 0) (ti_istore 1 (ti_push (.int 0) (ti_istore 2 k)))) 4 := tg_seq (si_iconst (v := 0) dX6_valueFigures_0 (by decide)) (tg_seq (si_istore_n (i := 1) dX6_valueFigures_1 rfl (Nat.le_of_ble_eq_true rfl)) (tg_seq (si_iconst (v := 0) dX6_valueFigures_2 (by decide)) (si_istore_n (i := 2) dX6_valueFigures_3 rfl (Nat.le_of_ble_eq_true rfl))))
theorem bX6_valueFigures_4 : tg_Snd mX6_valueFigures 4 (fun k => ti_iload 2 (ti_aload 0 (ti_getf 5 0 k))) 9 := tg_seq (si_iload_n (i := 2) dX6_valueFigures_4 rfl) (tg_seq (si_aload_n (i := 0) dX6_valueFigures_5 rfl) (si_getf (ci := 5) (f := 0) clX6 (Nat.le_of_ble_eq_true rfl) rfl flX6_21 dX6_valueFigures_6))
theorem bX6_valueFigures_12 : tg_Snd mX6_valueFigures 12 (fun k => ti_iload 1 (ti_push (.int 10) (ti_imul (ti_aload 0 (ti_getf 5 1 (ti_iload 2 (ti_iald (ti_iadd (ti_istore 1 (ti_iinc 2 1 k)))))))))) 27 := tg_seq (si_iload_n (i := 1) dX6_valueFigures_12 rfl) (tg_seq (si_bipush (v := 10) dX6_valueFigures_13 (by decide)) (tg_seq (si_imul dX6_valueFigures_15) (tg_seq (si_aload_n (i := 0) dX6_valueFigures_16 rfl) (tg_seq (si_getf (ci := 5) (f := 1) clX6 (Nat.le_of_ble_eq_true rfl) rfl flX6_9 dX6_valueFigures_17) (tg_seq (si_iload_n (i := 2) dX6_valueFigures_20 rfl) (tg_seq (si_iald dX6_valueFigures_21) (tg_seq (si_iadd dX6_valueFigures_22) (tg_seq (si_istore_n (i := 1) dX6_valueFigures_23 rfl (Nat.le_of_ble_eq_true rfl)) (si_iinc (v := 1) dX6_valueFigures_24 (by decide) (Nat.le_of_ble_eq_true rfl))))))))))
theorem bX6_valueFigures_30 : tg_Snd mX6_valueFigures 30 (fun k => ti_iload 1 k) 31 := si_iload_n (i := 1) dX6_valueFigures_30 rfl
theorem dX6_sumOf_0 : decode cX6_sumOf 0 = .ok (.iconst 0, 1) := by decide +kernel
theorem dX6_sumOf_1 : decode cX6_sumOf 1 = .ok (.istore_n 3, 1) := by decide +kernel
theorem dX6_sumOf_2 : decode cX6_sumOf 2 = .ok (.iconst 0, 1) := by decide +kernel
theorem dX6_sumOf_3 : decode cX6_sumOf 3 = .ok (.istore 4, 2) := by decide +kernel
theorem dX6_sumOf_5 : decode cX6_sumOf 5 = .ok (.iload 4, 2) := by decide +kernel
theorem dX6_sumOf_7 : decode cX6_sumOf 7 = .ok (.aload_n 0, 1) := by decide +kernel
theorem dX6_sumOf_8 : decode cX6_sumOf 8 = .ok (.getfield 25, 3) := by decide +kernel
theorem dX6_sumOf_11 : decode cX6_sumOf 11 = .ok (.if_icmp .ge 28, 3) := by decide +kernel
theorem dX6_sumOf_14 : decode cX6_sumOf 14 = .ok (.iload 4, 2) := by decide +kernel
theorem dX6_sumOf_16 : decode cX6_sumOf 16 = .ok (.lload_n 1, 1) := by decide +kernel
theorem dX6_sumOf_17 : decode cX6_sumOf 17 = .ok (.invokestatic 45, 3) := by decide +kernel
theorem dX6_sumOf_20 : decode cX6_sumOf 20 = .ok (.ifCond .eq 13, 3) := by decide +kernel
theorem dX6_sumOf_23 : decode cX6_sumOf 23 = .ok (.iload_n 3, 1) := by decide +kernel
theorem dX6_sumOf_24 : decode cX6_sumOf 24 = .ok (.aload_n 0, 1) := by decide +kernel
theorem dX6_sumOf_25 : decode cX6_sumOf 25 = .ok (.getfield 18, 3) := by decide +kernel
theorem dX6_sumOf_28 : decode cX6_sumOf 28 = .ok (.iload 4, 2) := by decide +kernel
theorem dX6_sumOf_30 : decode cX6_sumOf 30 = .ok (.iaload, 1) := by decide +kernel
theorem dX6_sumOf_31 : decode cX6_sumOf 31 = .ok (.iadd, 1) := by decide +kernel
theorem dX6_sumOf_32 : decode cX6_sumOf 32 = .ok (.istore_n 3, 1) := by decide +kernel
theorem dX6_sumOf_33 : decode cX6_sumOf 33 = .ok (.iinc 4 1, 3) := by decide +kernel
theorem dX6_sumOf_36 : decode cX6_sumOf 36 = .ok (.goto (-31), 3) := by decide +kernel
theorem dX6_sumOf_39 : decode cX6_sumOf 39 = .ok (.iload_n 3, 1) := by decide +kernel
theorem dX6_sumOf_40 : decode cX6_sumOf 40 = .ok (.ireturn, 1) := by decide +kernel
theorem bX6_sumOf_0 : tg_Snd mX6_sumOf 0 (fun k => ti_push (.int 0) (ti_istore 3 (ti_push (.int 0) (ti_istore 4 k)))) 5 := tg_seq (si_iconst (v := 0) dX6_sumOf_0 (by decide)) (tg_seq (si_istore_n (i := 3) dX6_sumOf_1 rfl (Nat.le_of_ble_eq_true rfl)) (tg_seq (si_iconst (v := 0) dX6_sumOf_2 (by decide)) (si_istore (i := 4) dX6_sumOf_3 (Nat.le_of_ble_eq_true rfl))))
theorem bX6_sumOf_5 : tg_Snd mX6_sumOf 5 (fun k => ti_iload 4 (ti_aload 0 (ti_getf 5 2 k))) 11 := tg_seq (si_iload (i := 4) dX6_sumOf_5) (tg_seq (si_aload_n (i := 0) dX6_sumOf_7 rfl) (si_getf (ci := 5) (f := 2) clX6 (Nat.le_of_ble_eq_true rfl) rfl flX6_25 dX6_sumOf_8))
theorem bX6_sumOf_14 : tg_Snd mX6_sumOf 14 (fun k => ti_iload 4 (ti_lload 1 k)) 17 := tg_seq (si_iload (i := 4) dX6_sumOf_14) (si_lload_n (i := 1) dX6_sumOf_16 rfl)
theorem bX6_sumOf_23 : tg_Snd mX6_sumOf 23 (fun k => ti_iload 3 (ti_aload 0 (ti_getf 5 4 (ti_iload 4 (ti_iald (ti_iadd (ti_istore 3 k))))))) 33 := tg_seq (si_iload_n (i := 3) dX6_sumOf_23 rfl) (tg_seq (si_aload_n (i := 0) dX6_sumOf_24 rfl) (tg_seq (si_getf (ci := 5) (f := 4) clX6 (Nat.le_of_ble_eq_true rfl) rfl flX6_18 dX6_sumOf_25) (tg_seq (si_iload (i := 4) dX6_sumOf_28) (tg_seq (si_iald dX6_sumOf_30) (tg_seq (si_iadd dX6_sumOf_31) (si_istore_n (i := 3) dX6_sumOf_32 rfl (Nat.le_of_ble_eq_true rfl)))))))
theorem bX6_sumOf_33 : tg_Snd mX6_sumOf 33 (fun k => ti_iinc 4 1 k) 36 := si_iinc (v := 1) dX6_sumOf_33 (by decide) (Nat.le_of_ble_eq_true rfl)
theorem bX6_sumOf_39 : tg_Snd mX6_sumOf 39 (fun k => ti_iload 3 k) 40 := si_iload_n (i := 3) dX6_sumOf_39 rfl
theorem vX6_sumOf_17 : tg_SS0 mX6_sumOf 17 mX6_isIn 2 := ⟨okX6_isIn, ⟨45, dX6_sumOf_17, mlX6_45⟩, staX6_isIn, parX6_isIn, rfl, rfl, Nat.le_of_ble_eq_true rfl, Nat.le_of_ble_eq_true rfl⟩
theorem dX6_leastOf_0 : decode cX6_leastOf 0 = .ok (.bipush 99, 2) := by decide +kernel
theorem dX6_leastOf_2 : decode cX6_leastOf 2 = .ok (.istore_n 3, 1) := by decide +kernel
theorem dX6_leastOf_3 : decode cX6_leastOf 3 = .ok (.iconst 0, 1) := by decide +kernel
theorem dX6_leastOf_4 : decode cX6_leastOf 4 = .ok (.istore 4, 2) := by decide +kernel
theorem dX6_leastOf_6 : decode cX6_leastOf 6 = .ok (.iload 4, 2) := by decide +kernel
theorem dX6_leastOf_8 : decode cX6_leastOf 8 = .ok (.aload_n 0, 1) := by decide +kernel
theorem dX6_leastOf_9 : decode cX6_leastOf 9 = .ok (.getfield 25, 3) := by decide +kernel
theorem dX6_leastOf_12 : decode cX6_leastOf 12 = .ok (.if_icmp .ge 30, 3) := by decide +kernel
theorem dX6_leastOf_15 : decode cX6_leastOf 15 = .ok (.iload 4, 2) := by decide +kernel
theorem dX6_leastOf_17 : decode cX6_leastOf 17 = .ok (.lload_n 1, 1) := by decide +kernel
theorem dX6_leastOf_18 : decode cX6_leastOf 18 = .ok (.invokestatic 45, 3) := by decide +kernel
theorem dX6_leastOf_21 : decode cX6_leastOf 21 = .ok (.ifCond .eq 15, 3) := by decide +kernel
theorem dX6_leastOf_24 : decode cX6_leastOf 24 = .ok (.iload_n 3, 1) := by decide +kernel
theorem dX6_leastOf_25 : decode cX6_leastOf 25 = .ok (.aload_n 0, 1) := by decide +kernel
theorem dX6_leastOf_26 : decode cX6_leastOf 26 = .ok (.getfield 18, 3) := by decide +kernel
theorem dX6_leastOf_29 : decode cX6_leastOf 29 = .ok (.iload 4, 2) := by decide +kernel
theorem dX6_leastOf_31 : decode cX6_leastOf 31 = .ok (.iaload, 1) := by decide +kernel
theorem dX6_leastOf_32 : decode cX6_leastOf 32 = .ok (.invokestatic 49, 3) := by decide +kernel
theorem dX6_leastOf_35 : decode cX6_leastOf 35 = .ok (.istore_n 3, 1) := by decide +kernel
theorem dX6_leastOf_36 : decode cX6_leastOf 36 = .ok (.iinc 4 1, 3) := by decide +kernel
theorem dX6_leastOf_39 : decode cX6_leastOf 39 = .ok (.goto (-33), 3) := by decide +kernel
theorem dX6_leastOf_42 : decode cX6_leastOf 42 = .ok (.iload_n 3, 1) := by decide +kernel
theorem dX6_leastOf_43 : decode cX6_leastOf 43 = .ok (.ireturn, 1) := by decide +kernel
theorem bX6_leastOf_0 : tg_Snd mX6_leastOf 0 (fun k => ti_push (.int 99) (ti_istore 3 (ti_push (.int 0) (ti_istore 4 k)))) 6 := tg_seq (si_bipush (v := 99) dX6_leastOf_0 (by decide)) (tg_seq (si_istore_n (i := 3) dX6_leastOf_2 rfl (Nat.le_of_ble_eq_true rfl)) (tg_seq (si_iconst (v := 0) dX6_leastOf_3 (by decide)) (si_istore (i := 4) dX6_leastOf_4 (Nat.le_of_ble_eq_true rfl))))
theorem bX6_leastOf_6 : tg_Snd mX6_leastOf 6 (fun k => ti_iload 4 (ti_aload 0 (ti_getf 5 2 k))) 12 := tg_seq (si_iload (i := 4) dX6_leastOf_6) (tg_seq (si_aload_n (i := 0) dX6_leastOf_8 rfl) (si_getf (ci := 5) (f := 2) clX6 (Nat.le_of_ble_eq_true rfl) rfl flX6_25 dX6_leastOf_9))
theorem bX6_leastOf_15 : tg_Snd mX6_leastOf 15 (fun k => ti_iload 4 (ti_lload 1 k)) 18 := tg_seq (si_iload (i := 4) dX6_leastOf_15) (si_lload_n (i := 1) dX6_leastOf_17 rfl)
theorem bX6_leastOf_24 : tg_Snd mX6_leastOf 24 (fun k => ti_iload 3 (ti_aload 0 (ti_getf 5 4 (ti_iload 4 (ti_iald (ti_mmin (ti_istore 3 k))))))) 36 := tg_seq (si_iload_n (i := 3) dX6_leastOf_24 rfl) (tg_seq (si_aload_n (i := 0) dX6_leastOf_25 rfl) (tg_seq (si_getf (ci := 5) (f := 4) clX6 (Nat.le_of_ble_eq_true rfl) rfl flX6_18 dX6_leastOf_26) (tg_seq (si_iload (i := 4) dX6_leastOf_29) (tg_seq (si_iald dX6_leastOf_31) (tg_seq (si_mmin dX6_leastOf_32 mlX6_49 staMin iniMath codMin (Nat.le_of_ble_eq_true rfl) (Nat.le_of_ble_eq_true rfl)) (si_istore_n (i := 3) dX6_leastOf_35 rfl (Nat.le_of_ble_eq_true rfl)))))))
theorem bX6_leastOf_36 : tg_Snd mX6_leastOf 36 (fun k => ti_iinc 4 1 k) 39 := si_iinc (v := 1) dX6_leastOf_36 (by decide) (Nat.le_of_ble_eq_true rfl)
theorem bX6_leastOf_42 : tg_Snd mX6_leastOf 42 (fun k => ti_iload 3 k) 43 := si_iload_n (i := 3) dX6_leastOf_42 rfl
theorem vX6_leastOf_18 : tg_SS0 mX6_leastOf 18 mX6_isIn 2 := ⟨okX6_isIn, ⟨45, dX6_leastOf_18, mlX6_45⟩, staX6_isIn, parX6_isIn, rfl, rfl, Nat.le_of_ble_eq_true rfl, Nat.le_of_ble_eq_true rfl⟩
theorem dX6_greatestOf_0 : decode cX6_greatestOf 0 = .ok (.bipush (-99), 2) := by decide +kernel
theorem dX6_greatestOf_2 : decode cX6_greatestOf 2 = .ok (.istore_n 3, 1) := by decide +kernel
theorem dX6_greatestOf_3 : decode cX6_greatestOf 3 = .ok (.iconst 0, 1) := by decide +kernel
theorem dX6_greatestOf_4 : decode cX6_greatestOf 4 = .ok (.istore 4, 2) := by decide +kernel
theorem dX6_greatestOf_6 : decode cX6_greatestOf 6 = .ok (.iload 4, 2) := by decide +kernel
theorem dX6_greatestOf_8 : decode cX6_greatestOf 8 = .ok (.aload_n 0, 1) := by decide +kernel
theorem dX6_greatestOf_9 : decode cX6_greatestOf 9 = .ok (.getfield 25, 3) := by decide +kernel
theorem dX6_greatestOf_12 : decode cX6_greatestOf 12 = .ok (.if_icmp .ge 30, 3) := by decide +kernel
theorem dX6_greatestOf_15 : decode cX6_greatestOf 15 = .ok (.iload 4, 2) := by decide +kernel
theorem dX6_greatestOf_17 : decode cX6_greatestOf 17 = .ok (.lload_n 1, 1) := by decide +kernel
theorem dX6_greatestOf_18 : decode cX6_greatestOf 18 = .ok (.invokestatic 45, 3) := by decide +kernel
theorem dX6_greatestOf_21 : decode cX6_greatestOf 21 = .ok (.ifCond .eq 15, 3) := by decide +kernel
theorem dX6_greatestOf_24 : decode cX6_greatestOf 24 = .ok (.iload_n 3, 1) := by decide +kernel
theorem dX6_greatestOf_25 : decode cX6_greatestOf 25 = .ok (.aload_n 0, 1) := by decide +kernel
theorem dX6_greatestOf_26 : decode cX6_greatestOf 26 = .ok (.getfield 18, 3) := by decide +kernel
theorem dX6_greatestOf_29 : decode cX6_greatestOf 29 = .ok (.iload 4, 2) := by decide +kernel
theorem dX6_greatestOf_31 : decode cX6_greatestOf 31 = .ok (.iaload, 1) := by decide +kernel
theorem dX6_greatestOf_32 : decode cX6_greatestOf 32 = .ok (.invokestatic 55, 3) := by decide +kernel
theorem dX6_greatestOf_35 : decode cX6_greatestOf 35 = .ok (.istore_n 3, 1) := by decide +kernel
theorem dX6_greatestOf_36 : decode cX6_greatestOf 36 = .ok (.iinc 4 1, 3) := by decide +kernel
theorem dX6_greatestOf_39 : decode cX6_greatestOf 39 = .ok (.goto (-33), 3) := by decide +kernel
theorem dX6_greatestOf_42 : decode cX6_greatestOf 42 = .ok (.iload_n 3, 1) := by decide +kernel
theorem dX6_greatestOf_43 : decode cX6_greatestOf 43 = .ok (.ireturn, 1) := by decide +kernel
theorem bX6_greatestOf_0 : tg_Snd mX6_greatestOf 0 (fun k => ti_push (.int (-99)) (ti_istore 3 (ti_push (.int 0) (ti_istore 4 k)))) 6 := tg_seq (si_bipush (v := -99) dX6_greatestOf_0 (by decide)) (tg_seq (si_istore_n (i := 3) dX6_greatestOf_2 rfl (Nat.le_of_ble_eq_true rfl)) (tg_seq (si_iconst (v := 0) dX6_greatestOf_3 (by decide)) (si_istore (i := 4) dX6_greatestOf_4 (Nat.le_of_ble_eq_true rfl))))
theorem bX6_greatestOf_6 : tg_Snd mX6_greatestOf 6 (fun k => ti_iload 4 (ti_aload 0 (ti_getf 5 2 k))) 12 := tg_seq (si_iload (i := 4) dX6_greatestOf_6) (tg_seq (si_aload_n (i := 0) dX6_greatestOf_8 rfl) (si_getf (ci := 5) (f := 2) clX6 (Nat.le_of_ble_eq_true rfl) rfl flX6_25 dX6_greatestOf_9))
theorem bX6_greatestOf_15 : tg_Snd mX6_greatestOf 15 (fun k => ti_iload 4 (ti_lload 1 k)) 18 := tg_seq (si_iload (i := 4) dX6_greatestOf_15) (si_lload_n (i := 1) dX6_greatestOf_17 rfl)
theorem bX6_greatestOf_24 : tg_Snd mX6_greatestOf 24 (fun k => ti_iload 3 (ti_aload 0 (ti_getf 5 4 (ti_iload 4 (ti_iald (ti_mmax (ti_istore 3 k))))))) 36 := tg_seq (si_iload_n (i := 3) dX6_greatestOf_24 rfl) (tg_seq (si_aload_n (i := 0) dX6_greatestOf_25 rfl) (tg_seq (si_getf (ci := 5) (f := 4) clX6 (Nat.le_of_ble_eq_true rfl) rfl flX6_18 dX6_greatestOf_26) (tg_seq (si_iload (i := 4) dX6_greatestOf_29) (tg_seq (si_iald dX6_greatestOf_31) (tg_seq (si_mmax dX6_greatestOf_32 mlX6_55 staMax iniMath codMax (Nat.le_of_ble_eq_true rfl) (Nat.le_of_ble_eq_true rfl)) (si_istore_n (i := 3) dX6_greatestOf_35 rfl (Nat.le_of_ble_eq_true rfl)))))))
theorem bX6_greatestOf_36 : tg_Snd mX6_greatestOf 36 (fun k => ti_iinc 4 1 k) 39 := si_iinc (v := 1) dX6_greatestOf_36 (by decide) (Nat.le_of_ble_eq_true rfl)
theorem bX6_greatestOf_42 : tg_Snd mX6_greatestOf 42 (fun k => ti_iload 3 k) 43 := si_iload_n (i := 3) dX6_greatestOf_42 rfl
theorem vX6_greatestOf_18 : tg_SS0 mX6_greatestOf 18 mX6_isIn 2 := ⟨okX6_isIn, ⟨45, dX6_greatestOf_18, mlX6_45⟩, staX6_isIn, parX6_isIn, rfl, rfl, Nat.le_of_ble_eq_true rfl, Nat.le_of_ble_eq_true rfl⟩
theorem dX6_isIn_0 : decode cX6_isIn 0 = .ok (.lload_n 1, 1) := by decide +kernel
theorem dX6_isIn_1 : decode cX6_isIn 1 = .ok (.iload_n 0, 1) := by decide +kernel
theorem dX6_isIn_2 : decode cX6_isIn 2 = .ok (.lushr, 1) := by decide +kernel
theorem dX6_isIn_3 : decode cX6_isIn 3 = .ok (.lconst 1, 1) := by decide +kernel
theorem dX6_isIn_4 : decode cX6_isIn 4 = .ok (.land, 1) := by decide +kernel
theorem dX6_isIn_5 : decode cX6_isIn 5 = .ok (.lconst 0, 1) := by decide +kernel
theorem dX6_isIn_6 : decode cX6_isIn 6 = .ok (.lcmp, 1) := by decide +kernel
theorem dX6_isIn_7 : decode cX6_isIn 7 = .ok (.ifCond .eq 7, 3) := by decide +kernel
theorem dX6_isIn_10 : decode cX6_isIn 10 = .ok (.iconst 1, 1) := by decide +kernel
theorem dX6_isIn_11 : decode cX6_isIn 11 = .ok (.goto 4, 3) := by decide +kernel
theorem dX6_isIn_14 : decode cX6_isIn 14 = .ok (.iconst 0, 1) := by decide +kernel
theorem dX6_isIn_15 : decode cX6_isIn 15 = .ok (.ireturn, 1) := by decide +kernel
theorem bX6_isIn_0 : tg_Snd mX6_isIn 0 (fun k => ti_lload 1 (ti_iload 0 (ti_lushr (ti_push (.long 1) (ti_land (ti_push (.long 0) (ti_lcmp k))))))) 7 := tg_seq (si_lload_n (i := 1) dX6_isIn_0 rfl) (tg_seq (si_iload_n (i := 0) dX6_isIn_1 rfl) (tg_seq (si_lushr dX6_isIn_2) (tg_seq (si_lconst (v := 1) dX6_isIn_3 (by decide)) (tg_seq (si_land dX6_isIn_4) (tg_seq (si_lconst (v := 0) dX6_isIn_5 (by decide)) (si_lcmp dX6_isIn_6))))))
theorem bX6_isIn_10 : tg_Snd mX6_isIn 10 (fun k => ti_push (.int 1) k) 11 := si_iconst (v := 1) dX6_isIn_10 (by decide)
theorem bX6_isIn_14 : tg_Snd mX6_isIn 14 (fun k => ti_push (.int 0) k) 15 := si_iconst (v := 0) dX6_isIn_14 (by decide)
