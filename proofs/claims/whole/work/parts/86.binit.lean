/-! blocks of the constructors -/
theorem dX6_init_0 : decode cX6_init 0 = .ok (.aload_n 0, 1) := by decide +kernel
theorem dX6_init_1 : decode cX6_init 1 = .ok (.invokespecial 3, 3) := by decide +kernel
theorem dX6_init_4 : decode cX6_init 4 = .ok (.aload_n 0, 1) := by decide +kernel
theorem dX6_init_5 : decode cX6_init 5 = .ok (.iconst 4, 1) := by decide +kernel
theorem dX6_init_6 : decode cX6_init 6 = .ok (.newarray .int, 2) := by decide +kernel
theorem dX6_init_8 : decode cX6_init 8 = .ok (.putfield 9, 3) := by decide +kernel
theorem dX6_init_11 : decode cX6_init 11 = .ok (.aload_n 0, 1) := by decide +kernel
theorem dX6_init_12 : decode cX6_init 12 = .ok (.bipush 40, 2) := by decide +kernel
theorem dX6_init_14 : decode cX6_init 14 = .ok (.newarray .int, 2) := by decide +kernel
theorem dX6_init_16 : decode cX6_init 16 = .ok (.putfield 15, 3) := by decide +kernel
theorem dX6_init_19 : decode cX6_init 19 = .ok (.aload_n 0, 1) := by decide +kernel
theorem dX6_init_20 : decode cX6_init 20 = .ok (.bipush 40, 2) := by decide +kernel
theorem dX6_init_22 : decode cX6_init 22 = .ok (.newarray .int, 2) := by decide +kernel
theorem dX6_init_24 : decode cX6_init 24 = .ok (.putfield 18, 3) := by decide +kernel
theorem dX6_init_27 : decode cX6_init 27 = .ok (.aload_n 0, 1) := by decide +kernel
theorem dX6_init_28 : decode cX6_init 28 = .ok (.iconst 2, 1) := by decide +kernel
theorem dX6_init_29 : decode cX6_init 29 = .ok (.putfield 21, 3) := by decide +kernel
theorem dX6_init_32 : decode cX6_init 32 = .ok (.iconst 0, 1) := by decide +kernel
theorem dX6_init_33 : decode cX6_init 33 = .ok (.istore_n 1, 1) := by decide +kernel
theorem dX6_init_34 : decode cX6_init 34 = .ok (.iload_n 1, 1) := by decide +kernel
theorem dX6_init_35 : decode cX6_init 35 = .ok (.iconst 4, 1) := by decide +kernel
theorem dX6_init_36 : decode cX6_init 36 = .ok (.if_icmp .ge 16, 3) := by decide +kernel
theorem dX6_init_39 : decode cX6_init 39 = .ok (.aload_n 0, 1) := by decide +kernel
theorem dX6_init_40 : decode cX6_init 40 = .ok (.getfield 9, 3) := by decide +kernel
theorem dX6_init_43 : decode cX6_init 43 = .ok (.iload_n 1, 1) := by decide +kernel
theorem dX6_init_44 : decode cX6_init 44 = .ok (.iconst 4, 1) := by decide +kernel
theorem dX6_init_45 : decode cX6_init 45 = .ok (.iastore, 1) := by decide +kernel
theorem dX6_init_46 : decode cX6_init 46 = .ok (.iinc 1 1, 3) := by decide +kernel
theorem dX6_init_49 : decode cX6_init 49 = .ok (.goto (-15), 3) := by decide +kernel
theorem dX6_init_52 : decode cX6_init 52 = .ok (.aload_n 0, 1) := by decide +kernel
theorem dX6_init_53 : decode cX6_init 53 = .ok (.iconst 0, 1) := by decide +kernel
theorem dX6_init_54 : decode cX6_init 54 = .ok (.putfield 25, 3) := by decide +kernel
theorem dX6_init_57 : decode cX6_init 57 = .ok (.aload_n 0, 1) := by decide +kernel
theorem dX6_init_58 : decode cX6_init 58 = .ok (.iconst 1, 1) := by decide +kernel
theorem dX6_init_59 : decode cX6_init 59 = .ok (.putfield 28, 3) := by decide +kernel
theorem dX6_init_62 : decode cX6_init 62 = .ok (.return_, 1) := by decide +kernel
theorem bX6_init_0 : tg_Snd mX6_init 0 (fun k => ti_aload 0 k) 1 := si_aload_n (i := 0) dX6_init_0 rfl
theorem bX6_init_4 : tg_Snd mX6_init 4 (fun k => ti_aload 0 (ti_push (.int 4) k)) 6 := tg_seq (si_aload_n (i := 0) dX6_init_4 rfl) (si_iconst (v := 4) dX6_init_5 (by decide))
theorem bX6_init_8 : tg_Snd mX6_init 8 (fun k => ti_putfR 5 1 (ti_aload 0 (ti_push (.int 40) k))) 14 := tg_seq (si_putfRF (ci := 5) (f := 1) (ty := tyX6 1) clX6 tyX6_ok nmX6 (Nat.le_of_ble_eq_true rfl) rfl rfl rfl (by decide +kernel) (fun _ _ => ⟨rfl, rfl⟩) flX6_9 dX6_init_8) (tg_seq (si_aload_n (i := 0) dX6_init_11 rfl) (si_bipush (v := 40) dX6_init_12 (by decide)))
theorem bX6_init_16 : tg_Snd mX6_init 16 (fun k => ti_putfR 5 3 (ti_aload 0 (ti_push (.int 40) k))) 22 := tg_seq (si_putfRF (ci := 5) (f := 3) (ty := tyX6 3) clX6 tyX6_ok nmX6 (Nat.le_of_ble_eq_true rfl) rfl rfl rfl (by decide +kernel) (fun _ _ => ⟨rfl, rfl⟩) flX6_15 dX6_init_16) (tg_seq (si_aload_n (i := 0) dX6_init_19 rfl) (si_bipush (v := 40) dX6_init_20 (by decide)))
theorem bX6_init_24 : tg_Snd mX6_init 24 (fun k => ti_putfR 5 4 (ti_aload 0 (ti_push (.int 2) (ti_putfI 5 0 (ti_push (.int 0) (ti_istore 1 k)))))) 34 := tg_seq (si_putfRF (ci := 5) (f := 4) (ty := tyX6 4) clX6 tyX6_ok nmX6 (Nat.le_of_ble_eq_true rfl) rfl rfl rfl (by decide +kernel) (fun _ _ => ⟨rfl, rfl⟩) flX6_18 dX6_init_24) (tg_seq (si_aload_n (i := 0) dX6_init_27 rfl) (tg_seq (si_iconst (v := 2) dX6_init_28 (by decide)) (tg_seq (si_putfI (ci := 5) (f := 0) (ty := .int) clX6 tyX6_ok nmX6 (Nat.le_of_ble_eq_true rfl) rfl (by decide +kernel) (fun _ _ => ⟨rfl, rfl⟩) flX6_21 dX6_init_29) (tg_seq (si_iconst (v := 0) dX6_init_32 (by decide)) (si_istore_n (i := 1) dX6_init_33 rfl (Nat.le_of_ble_eq_true rfl))))))
theorem bX6_init_34 : tg_Snd mX6_init 34 (fun k => ti_iload 1 (ti_push (.int 4) k)) 36 := tg_seq (si_iload_n (i := 1) dX6_init_34 rfl) (si_iconst (v := 4) dX6_init_35 (by decide))
theorem bX6_init_39 : tg_Snd mX6_init 39 (fun k => ti_aload 0 (ti_getf 5 1 (ti_iload 1 (ti_push (.int 4) (ti_iast (ti_iinc 1 1 k)))))) 49 := tg_seq (si_aload_n (i := 0) dX6_init_39 rfl) (tg_seq (si_getf (ci := 5) (f := 1) clX6 (Nat.le_of_ble_eq_true rfl) rfl flX6_9 dX6_init_40) (tg_seq (si_iload_n (i := 1) dX6_init_43 rfl) (tg_seq (si_iconst (v := 4) dX6_init_44 (by decide)) (tg_seq (si_iast dX6_init_45) (si_iinc (v := 1) dX6_init_46 (by decide) (Nat.le_of_ble_eq_true rfl))))))
theorem bX6_init_52 : tg_Snd mX6_init 52 (fun k => ti_aload 0 (ti_push (.int 0) (ti_putfI 5 2 (ti_aload 0 (ti_push (.int 1) (ti_putfI 5 5 k)))))) 62 := tg_seq (si_aload_n (i := 0) dX6_init_52 rfl) (tg_seq (si_iconst (v := 0) dX6_init_53 (by decide)) (tg_seq (si_putfI (ci := 5) (f := 2) (ty := .int) clX6 tyX6_ok nmX6 (Nat.le_of_ble_eq_true rfl) rfl (by decide +kernel) (fun _ _ => ⟨rfl, rfl⟩) flX6_25 dX6_init_54) (tg_seq (si_aload_n (i := 0) dX6_init_57 rfl) (tg_seq (si_iconst (v := 1) dX6_init_58 (by decide)) (si_putfI (ci := 5) (f := 5) (ty := .int) clX6 tyX6_ok nmX6 (Nat.le_of_ble_eq_true rfl) rfl (by decide +kernel) (fun _ _ => ⟨rfl, rfl⟩) flX6_28 dX6_init_59)))))
theorem dX4_init_0 : decode cX4_init 0 = .ok (.aload_n 0, 1) := by decide +kernel
theorem dX4_init_1 : decode cX4_init 1 = .ok (.invokespecial 3, 3) := by decide +kernel
theorem dX4_init_4 : decode cX4_init 4 = .ok (.aload_n 0, 1) := by decide +kernel
theorem dX4_init_5 : decode cX4_init 5 = .ok (.bipush 16, 2) := by decide +kernel
theorem dX4_init_7 : decode cX4_init 7 = .ok (.newarray .int, 2) := by decide +kernel
theorem dX4_init_9 : decode cX4_init 9 = .ok (.putfield 9, 3) := by decide +kernel
theorem dX4_init_12 : decode cX4_init 12 = .ok (.return_, 1) := by decide +kernel
theorem bX4_init_0 : tg_Snd mX4_init 0 (fun k => ti_aload 0 k) 1 := si_aload_n (i := 0) dX4_init_0 rfl
theorem bX4_init_4 : tg_Snd mX4_init 4 (fun k => ti_aload 0 (ti_push (.int 16) k)) 7 := tg_seq (si_aload_n (i := 0) dX4_init_4 rfl) (si_bipush (v := 16) dX4_init_5 (by decide))
theorem bX4_init_9 : tg_Snd mX4_init 9 (fun k => ti_putfR 3 2 k) 12 := si_putfRF (ci := 3) (f := 2) (ty := tyX4 2) clX4 tyX4_ok nmX4 (Nat.le_of_ble_eq_true rfl) rfl rfl rfl (by decide +kernel) (fun _ _ => ⟨rfl, rfl⟩) flX4_9 dX4_init_9
theorem dX7_init_0 : decode cX7_init 0 = .ok (.aload_n 0, 1) := by decide +kernel
theorem dX7_init_1 : decode cX7_init 1 = .ok (.invokespecial 3, 3) := by decide +kernel
theorem dX7_init_4 : decode cX7_init 4 = .ok (.aload_n 0, 1) := by decide +kernel
theorem dX7_init_5 : decode cX7_init 5 = .ok (.sipush 200, 3) := by decide +kernel
theorem dX7_init_8 : decode cX7_init 8 = .ok (.newarray .char, 2) := by decide +kernel
theorem dX7_init_10 : decode cX7_init 10 = .ok (.putfield 9, 3) := by decide +kernel
theorem dX7_init_13 : decode cX7_init 13 = .ok (.aload_n 0, 1) := by decide +kernel
theorem dX7_init_14 : decode cX7_init 14 = .ok (.iconst 0, 1) := by decide +kernel
theorem dX7_init_15 : decode cX7_init 15 = .ok (.putfield 15, 3) := by decide +kernel
theorem dX7_init_18 : decode cX7_init 18 = .ok (.aload_n 0, 1) := by decide +kernel
theorem dX7_init_19 : decode cX7_init 19 = .ok (.iconst 0, 1) := by decide +kernel
theorem dX7_init_20 : decode cX7_init 20 = .ok (.putfield 19, 3) := by decide +kernel
theorem dX7_init_23 : decode cX7_init 23 = .ok (.aload_n 0, 1) := by decide +kernel
theorem dX7_init_24 : decode cX7_init 24 = .ok (.iconst 0, 1) := by decide +kernel
theorem dX7_init_25 : decode cX7_init 25 = .ok (.putfield 22, 3) := by decide +kernel
theorem dX7_init_28 : decode cX7_init 28 = .ok (.return_, 1) := by decide +kernel
theorem bX7_init_0 : tg_Snd mX7_init 0 (fun k => ti_aload 0 k) 1 := si_aload_n (i := 0) dX7_init_0 rfl
theorem bX7_init_4 : tg_Snd mX7_init 4 (fun k => ti_aload 0 (ti_push (.int 200) k)) 8 := tg_seq (si_aload_n (i := 0) dX7_init_4 rfl) (si_sipush (v := 200) dX7_init_5 (by decide))
theorem bX7_init_10 : tg_Snd mX7_init 10 (fun k => ti_putfR 6 0 (ti_aload 0 (ti_push (.int 0) (ti_putfI 6 1 (ti_aload 0 (ti_push (.int 0) (ti_putfI 6 2 (ti_aload 0 (ti_push (.int 0) (ti_putfI 6 3 k)))))))))) 28 := tg_seq (si_putfRF (ci := 6) (f := 0) (ty := tyX7 0) clX7 tyX7_ok nmX7 (Nat.le_of_ble_eq_true rfl) rfl rfl rfl (by decide +kernel) (fun _ _ => ⟨rfl, rfl⟩) flX7_9 dX7_init_10) (tg_seq (si_aload_n (i := 0) dX7_init_13 rfl) (tg_seq (si_iconst (v := 0) dX7_init_14 (by decide)) (tg_seq (si_putfI (ci := 6) (f := 1) (ty := .int) clX7 tyX7_ok nmX7 (Nat.le_of_ble_eq_true rfl) rfl (by decide +kernel) (fun _ _ => ⟨rfl, rfl⟩) flX7_15 dX7_init_15) (tg_seq (si_aload_n (i := 0) dX7_init_18 rfl) (tg_seq (si_iconst (v := 0) dX7_init_19 (by decide)) (tg_seq (si_putfI (ci := 6) (f := 2) (ty := .int) clX7 tyX7_ok nmX7 (Nat.le_of_ble_eq_true rfl) rfl (by decide +kernel) (fun _ _ => ⟨rfl, rfl⟩) flX7_19 dX7_init_20) (tg_seq (si_aload_n (i := 0) dX7_init_23 rfl) (tg_seq (si_iconst (v := 0) dX7_init_24 (by decide)) (si_putfI (ci := 6) (f := 3) (ty := .int) clX7 tyX7_ok nmX7 (Nat.le_of_ble_eq_true rfl) rfl (by decide +kernel) (fun _ _ => ⟨rfl, rfl⟩) flX7_22 dX7_init_25)))))))))
theorem dX5_init_0 : decode cX5_init 0 = .ok (.aload_n 0, 1) := by decide +kernel
theorem dX5_init_1 : decode cX5_init 1 = .ok (.invokespecial 3, 3) := by decide +kernel
theorem dX5_init_4 : decode cX5_init 4 = .ok (.aload_n 0, 1) := by decide +kernel
theorem dX5_init_5 : decode cX5_init 5 = .ok (.iconst 0, 1) := by decide +kernel
theorem dX5_init_6 : decode cX5_init 6 = .ok (.putfield 9, 3) := by decide +kernel
theorem dX5_init_9 : decode cX5_init 9 = .ok (.aload_n 0, 1) := by decide +kernel
theorem dX5_init_10 : decode cX5_init 10 = .ok (.iconst 0, 1) := by decide +kernel
theorem dX5_init_11 : decode cX5_init 11 = .ok (.putfield 15, 3) := by decide +kernel
theorem dX5_init_14 : decode cX5_init 14 = .ok (.aload_n 0, 1) := by decide +kernel
theorem dX5_init_15 : decode cX5_init 15 = .ok (.bipush 8, 2) := by decide +kernel
theorem dX5_init_17 : decode cX5_init 17 = .ok (.newarray .int, 2) := by decide +kernel
theorem dX5_init_19 : decode cX5_init 19 = .ok (.putfield 18, 3) := by decide +kernel
theorem dX5_init_22 : decode cX5_init 22 = .ok (.aload_n 0, 1) := by decide +kernel
theorem dX5_init_23 : decode cX5_init 23 = .ok (.bipush 8, 2) := by decide +kernel
theorem dX5_init_25 : decode cX5_init 25 = .ok (.newarray .int, 2) := by decide +kernel
theorem dX5_init_27 : decode cX5_init 27 = .ok (.putfield 22, 3) := by decide +kernel
theorem dX5_init_30 : decode cX5_init 30 = .ok (.aload_n 0, 1) := by decide +kernel
theorem dX5_init_31 : decode cX5_init 31 = .ok (.bipush 8, 2) := by decide +kernel
theorem dX5_init_33 : decode cX5_init 33 = .ok (.newarray .int, 2) := by decide +kernel
theorem dX5_init_35 : decode cX5_init 35 = .ok (.putfield 25, 3) := by decide +kernel
theorem dX5_init_38 : decode cX5_init 38 = .ok (.aload_n 0, 1) := by decide +kernel
theorem dX5_init_39 : decode cX5_init 39 = .ok (.bipush 8, 2) := by decide +kernel
theorem dX5_init_41 : decode cX5_init 41 = .ok (.newarray .int, 2) := by decide +kernel
theorem dX5_init_43 : decode cX5_init 43 = .ok (.putfield 28, 3) := by decide +kernel
theorem dX5_init_46 : decode cX5_init 46 = .ok (.return_, 1) := by decide +kernel
theorem bX5_init_0 : tg_Snd mX5_init 0 (fun k => ti_aload 0 k) 1 := si_aload_n (i := 0) dX5_init_0 rfl
theorem bX5_init_4 : tg_Snd mX5_init 4 (fun k => ti_aload 0 (ti_push (.int 0) (ti_putfI 4 0 (ti_aload 0 (ti_push (.int 0) (ti_putfI 4 1 (ti_aload 0 (ti_push (.int 8) k)))))))) 17 := tg_seq (si_aload_n (i := 0) dX5_init_4 rfl) (tg_seq (si_iconst (v := 0) dX5_init_5 (by decide)) (tg_seq (si_putfI (ci := 4) (f := 0) (ty := .int) clX5 tyX5_ok nmX5 (Nat.le_of_ble_eq_true rfl) rfl (by decide +kernel) (fun _ _ => ⟨rfl, rfl⟩) flX5_9 dX5_init_6) (tg_seq (si_aload_n (i := 0) dX5_init_9 rfl) (tg_seq (si_iconst (v := 0) dX5_init_10 (by decide)) (tg_seq (si_putfI (ci := 4) (f := 1) (ty := .int) clX5 tyX5_ok nmX5 (Nat.le_of_ble_eq_true rfl) rfl (by decide +kernel) (fun _ _ => ⟨rfl, rfl⟩) flX5_15 dX5_init_11) (tg_seq (si_aload_n (i := 0) dX5_init_14 rfl) (si_bipush (v := 8) dX5_init_15 (by decide))))))))
theorem bX5_init_19 : tg_Snd mX5_init 19 (fun k => ti_putfR 4 2 (ti_aload 0 (ti_push (.int 8) k))) 25 := tg_seq (si_putfRF (ci := 4) (f := 2) (ty := tyX5 2) clX5 tyX5_ok nmX5 (Nat.le_of_ble_eq_true rfl) rfl rfl rfl (by decide +kernel) (fun _ _ => ⟨rfl, rfl⟩) flX5_18 dX5_init_19) (tg_seq (si_aload_n (i := 0) dX5_init_22 rfl) (si_bipush (v := 8) dX5_init_23 (by decide)))
theorem bX5_init_27 : tg_Snd mX5_init 27 (fun k => ti_putfR 4 3 (ti_aload 0 (ti_push (.int 8) k))) 33 := tg_seq (si_putfRF (ci := 4) (f := 3) (ty := tyX5 3) clX5 tyX5_ok nmX5 (Nat.le_of_ble_eq_true rfl) rfl rfl rfl (by decide +kernel) (fun _ _ => ⟨rfl, rfl⟩) flX5_22 dX5_init_27) (tg_seq (si_aload_n (i := 0) dX5_init_30 rfl) (si_bipush (v := 8) dX5_init_31 (by decide)))
theorem bX5_init_35 : tg_Snd mX5_init 35 (fun k => ti_putfR 4 4 (ti_aload 0 (ti_push (.int 8) k))) 41 := tg_seq (si_putfRF (ci := 4) (f := 4) (ty := tyX5 4) clX5 tyX5_ok nmX5 (Nat.le_of_ble_eq_true rfl) rfl rfl rfl (by decide +kernel) (fun _ _ => ⟨rfl, rfl⟩) flX5_25 dX5_init_35) (tg_seq (si_aload_n (i := 0) dX5_init_38 rfl) (si_bipush (v := 8) dX5_init_39 (by decide)))
theorem bX5_init_43 : tg_Snd mX5_init 43 (fun k => ti_putfR 4 5 k) 46 := si_putfRF (ci := 4) (f := 5) (ty := tyX5 5) clX5 tyX5_ok nmX5 (Nat.le_of_ble_eq_true rfl) rfl rfl rfl (by decide +kernel) (fun _ _ => ⟨rfl, rfl⟩) flX5_28 dX5_init_43
theorem dX3_init_0 : decode cX3_init 0 = .ok (.aload_n 0, 1) := by decide +kernel
theorem dX3_init_1 : decode cX3_init 1 = .ok (.invokespecial 3, 3) := by decide +kernel
theorem dX3_init_4 : decode cX3_init 4 = .ok (.aload_n 0, 1) := by decide +kernel
theorem dX3_init_5 : decode cX3_init 5 = .ok (.iconst 3, 1) := by decide +kernel
theorem dX3_init_6 : decode cX3_init 6 = .ok (.newarray .int, 2) := by decide +kernel
theorem dX3_init_8 : decode cX3_init 8 = .ok (.putfield 9, 3) := by decide +kernel
theorem dX3_init_11 : decode cX3_init 11 = .ok (.aload_n 0, 1) := by decide +kernel
theorem dX3_init_12 : decode cX3_init 12 = .ok (.iconst 3, 1) := by decide +kernel
theorem dX3_init_13 : decode cX3_init 13 = .ok (.bipush 12, 2) := by decide +kernel
theorem dX3_init_15 : decode cX3_init 15 = .ok (.multianewarray 15 2, 4) := by decide +kernel
theorem dX3_init_19 : decode cX3_init 19 = .ok (.putfield 17, 3) := by decide +kernel
theorem dX3_init_22 : decode cX3_init 22 = .ok (.iconst 0, 1) := by decide +kernel
theorem dX3_init_23 : decode cX3_init 23 = .ok (.istore_n 1, 1) := by decide +kernel
theorem dX3_init_24 : decode cX3_init 24 = .ok (.iload_n 1, 1) := by decide +kernel
theorem dX3_init_25 : decode cX3_init 25 = .ok (.iconst 3, 1) := by decide +kernel
theorem dX3_init_26 : decode cX3_init 26 = .ok (.if_icmp .ge 16, 3) := by decide +kernel
theorem dX3_init_29 : decode cX3_init 29 = .ok (.aload_n 0, 1) := by decide +kernel
theorem dX3_init_30 : decode cX3_init 30 = .ok (.getfield 9, 3) := by decide +kernel
theorem dX3_init_33 : decode cX3_init 33 = .ok (.iload_n 1, 1) := by decide +kernel
theorem dX3_init_34 : decode cX3_init 34 = .ok (.iconst (-1), 1) := by decide +kernel
theorem dX3_init_35 : decode cX3_init 35 = .ok (.iastore, 1) := by decide +kernel
theorem dX3_init_36 : decode cX3_init 36 = .ok (.iinc 1 1, 3) := by decide +kernel
theorem dX3_init_39 : decode cX3_init 39 = .ok (.goto (-15), 3) := by decide +kernel
theorem dX3_init_42 : decode cX3_init 42 = .ok (.return_, 1) := by decide +kernel
theorem bX3_init_0 : tg_Snd mX3_init 0 (fun k => ti_aload 0 k) 1 := si_aload_n (i := 0) dX3_init_0 rfl
theorem bX3_init_4 : tg_Snd mX3_init 4 (fun k => ti_aload 0 (ti_push (.int 3) k)) 6 := tg_seq (si_aload_n (i := 0) dX3_init_4 rfl) (si_iconst (v := 3) dX3_init_5 (by decide))
theorem bX3_init_8 : tg_Snd mX3_init 8 (fun k => ti_putfR 2 0 (ti_aload 0 (ti_push (.int 3) (ti_push (.int 12) k)))) 15 := tg_seq (si_putfRF (ci := 2) (f := 0) (ty := tyX3 0) clX3 tyX3_ok nmX3 (Nat.le_of_ble_eq_true rfl) rfl rfl rfl (by decide +kernel) (fun _ _ => ⟨rfl, rfl⟩) flX3_9 dX3_init_8) (tg_seq (si_aload_n (i := 0) dX3_init_11 rfl) (tg_seq (si_iconst (v := 3) dX3_init_12 (by decide)) (si_bipush (v := 12) dX3_init_13 (by decide))))
theorem bX3_init_19 : tg_Snd mX3_init 19 (fun k => ti_putfR 2 1 (ti_push (.int 0) (ti_istore 1 k))) 24 := tg_seq (si_putfRF (ci := 2) (f := 1) (ty := tyX3 1) clX3 tyX3_ok nmX3 (Nat.le_of_ble_eq_true rfl) rfl rfl rfl (by decide +kernel) (fun _ _ => ⟨rfl, rfl⟩) flX3_17 dX3_init_19) (tg_seq (si_iconst (v := 0) dX3_init_22 (by decide)) (si_istore_n (i := 1) dX3_init_23 rfl (Nat.le_of_ble_eq_true rfl)))
theorem bX3_init_24 : tg_Snd mX3_init 24 (fun k => ti_iload 1 (ti_push (.int 3) k)) 26 := tg_seq (si_iload_n (i := 1) dX3_init_24 rfl) (si_iconst (v := 3) dX3_init_25 (by decide))
theorem bX3_init_29 : tg_Snd mX3_init 29 (fun k => ti_aload 0 (ti_getf 2 0 (ti_iload 1 (ti_push (.int (-1)) (ti_iast (ti_iinc 1 1 k)))))) 39 := tg_seq (si_aload_n (i := 0) dX3_init_29 rfl) (tg_seq (si_getf (ci := 2) (f := 0) clX3 (Nat.le_of_ble_eq_true rfl) rfl flX3_9 dX3_init_30) (tg_seq (si_iload_n (i := 1) dX3_init_33 rfl) (tg_seq (si_iconst (v := -1) dX3_init_34 (by decide)) (tg_seq (si_iast dX3_init_35) (si_iinc (v := 1) dX3_init_36 (by decide) (Nat.le_of_ble_eq_true rfl))))))
theorem dX1_init_0 : decode cX1_init 0 = .ok (.aload_n 0, 1) := by decide +kernel
theorem dX1_init_1 : decode cX1_init 1 = .ok (.invokespecial 3, 3) := by decide +kernel
theorem dX1_init_4 : decode cX1_init 4 = .ok (.aload_n 0, 1) := by decide +kernel
theorem dX1_init_5 : decode cX1_init 5 = .ok (.new 9, 3) := by decide +kernel
theorem dX1_init_8 : decode cX1_init 8 = .ok (.dup, 1) := by decide +kernel
theorem dX1_init_9 : decode cX1_init 9 = .ok (.invokespecial 11, 3) := by decide +kernel
theorem dX1_init_12 : decode cX1_init 12 = .ok (.putfield 12, 3) := by decide +kernel
theorem dX1_init_15 : decode cX1_init 15 = .ok (.aload_n 0, 1) := by decide +kernel
theorem dX1_init_16 : decode cX1_init 16 = .ok (.new 18, 3) := by decide +kernel
theorem dX1_init_19 : decode cX1_init 19 = .ok (.dup, 1) := by decide +kernel
theorem dX1_init_20 : decode cX1_init 20 = .ok (.invokespecial 20, 3) := by decide +kernel
theorem dX1_init_23 : decode cX1_init 23 = .ok (.putfield 21, 3) := by decide +kernel
theorem dX1_init_26 : decode cX1_init 26 = .ok (.aload_n 0, 1) := by decide +kernel
theorem dX1_init_27 : decode cX1_init 27 = .ok (.iconst 0, 1) := by decide +kernel
theorem dX1_init_28 : decode cX1_init 28 = .ok (.putfield 25, 3) := by decide +kernel
theorem dX1_init_31 : decode cX1_init 31 = .ok (.aload_n 0, 1) := by decide +kernel
theorem dX1_init_32 : decode cX1_init 32 = .ok (.iconst 4, 1) := by decide +kernel
theorem dX1_init_33 : decode cX1_init 33 = .ok (.newarray .int, 2) := by decide +kernel
theorem dX1_init_35 : decode cX1_init 35 = .ok (.putfield 29, 3) := by decide +kernel
theorem dX1_init_38 : decode cX1_init 38 = .ok (.return_, 1) := by decide +kernel
theorem bX1_init_0 : tg_Snd mX1_init 0 (fun k => ti_aload 0 k) 1 := si_aload_n (i := 0) dX1_init_0 rfl
theorem bX1_init_4 : tg_Snd mX1_init 4 (fun k => ti_aload 0 k) 5 := si_aload_n (i := 0) dX1_init_4 rfl
theorem bX1_init_8 : tg_Snd mX1_init 8 (fun k => ti_dup k) 9 := si_dup dX1_init_8
theorem bX1_init_12 : tg_Snd mX1_init 12 (fun k => ti_putfR 1 0 (ti_aload 0 k)) 16 := tg_seq (si_putfRF (ci := 1) (f := 0) (ty := tyX1 0) clX1 tyX1_ok nmX1 (Nat.le_of_ble_eq_true rfl) rfl rfl rfl (by decide +kernel) (fun _ _ => ⟨rfl, rfl⟩) flX1_12 dX1_init_12) (si_aload_n (i := 0) dX1_init_15 rfl)
theorem bX1_init_19 : tg_Snd mX1_init 19 (fun k => ti_dup k) 20 := si_dup dX1_init_19
theorem bX1_init_23 : tg_Snd mX1_init 23 (fun k => ti_putfR 1 1 (ti_aload 0 (ti_push (.int 0) (ti_putfI 1 2 (ti_aload 0 (ti_push (.int 4) k)))))) 33 := tg_seq (si_putfRF (ci := 1) (f := 1) (ty := tyX1 1) clX1 tyX1_ok nmX1 (Nat.le_of_ble_eq_true rfl) rfl rfl rfl (by decide +kernel) (fun _ _ => ⟨rfl, rfl⟩) flX1_21 dX1_init_23) (tg_seq (si_aload_n (i := 0) dX1_init_26 rfl) (tg_seq (si_iconst (v := 0) dX1_init_27 (by decide)) (tg_seq (si_putfI (ci := 1) (f := 2) (ty := .int) clX1 tyX1_ok nmX1 (Nat.le_of_ble_eq_true rfl) rfl (by decide +kernel) (fun _ _ => ⟨rfl, rfl⟩) flX1_25 dX1_init_28) (tg_seq (si_aload_n (i := 0) dX1_init_31 rfl) (si_iconst (v := 4) dX1_init_32 (by decide))))))
theorem bX1_init_35 : tg_Snd mX1_init 35 (fun k => ti_putfR 1 3 k) 38 := si_putfRF (ci := 1) (f := 3) (ty := tyX1 3) clX1 tyX1_ok nmX1 (Nat.le_of_ble_eq_true rfl) rfl rfl rfl (by decide +kernel) (fun _ _ => ⟨rfl, rfl⟩) flX1_29 dX1_init_35
theorem dX0_init_0 : decode cX0_init 0 = .ok (.aload_n 0, 1) := by decide +kernel
theorem dX0_init_1 : decode cX0_init 1 = .ok (.invokespecial 3, 3) := by decide +kernel
theorem dX0_init_4 : decode cX0_init 4 = .ok (.aload_n 0, 1) := by decide +kernel
theorem dX0_init_5 : decode cX0_init 5 = .ok (.new 9, 3) := by decide +kernel
theorem dX0_init_8 : decode cX0_init 8 = .ok (.dup, 1) := by decide +kernel
theorem dX0_init_9 : decode cX0_init 9 = .ok (.invokespecial 11, 3) := by decide +kernel
theorem dX0_init_12 : decode cX0_init 12 = .ok (.putfield 12, 3) := by decide +kernel
theorem dX0_init_15 : decode cX0_init 15 = .ok (.aload_n 0, 1) := by decide +kernel
theorem dX0_init_16 : decode cX0_init 16 = .ok (.new 18, 3) := by decide +kernel
theorem dX0_init_19 : decode cX0_init 19 = .ok (.dup, 1) := by decide +kernel
theorem dX0_init_20 : decode cX0_init 20 = .ok (.invokespecial 20, 3) := by decide +kernel
theorem dX0_init_23 : decode cX0_init 23 = .ok (.putfield 21, 3) := by decide +kernel
theorem dX0_init_26 : decode cX0_init 26 = .ok (.aload_n 0, 1) := by decide +kernel
theorem dX0_init_27 : decode cX0_init 27 = .ok (.bipush 24, 2) := by decide +kernel
theorem dX0_init_29 : decode cX0_init 29 = .ok (.newarray .long, 2) := by decide +kernel
theorem dX0_init_31 : decode cX0_init 31 = .ok (.putfield 25, 3) := by decide +kernel
theorem dX0_init_34 : decode cX0_init 34 = .ok (.aload_n 0, 1) := by decide +kernel
theorem dX0_init_35 : decode cX0_init 35 = .ok (.sipush 640, 3) := by decide +kernel
theorem dX0_init_38 : decode cX0_init 38 = .ok (.newarray .int, 2) := by decide +kernel
theorem dX0_init_40 : decode cX0_init 40 = .ok (.putfield 29, 3) := by decide +kernel
theorem dX0_init_43 : decode cX0_init 43 = .ok (.aload_n 0, 1) := by decide +kernel
theorem dX0_init_44 : decode cX0_init 44 = .ok (.sipush 640, 3) := by decide +kernel
theorem dX0_init_47 : decode cX0_init 47 = .ok (.newarray .long, 2) := by decide +kernel
theorem dX0_init_49 : decode cX0_init 49 = .ok (.putfield 33, 3) := by decide +kernel
theorem dX0_init_52 : decode cX0_init 52 = .ok (.aload_n 0, 1) := by decide +kernel
theorem dX0_init_53 : decode cX0_init 53 = .ok (.sipush 640, 3) := by decide +kernel
theorem dX0_init_56 : decode cX0_init 56 = .ok (.newarray .int, 2) := by decide +kernel
theorem dX0_init_58 : decode cX0_init 58 = .ok (.putfield 36, 3) := by decide +kernel
theorem dX0_init_61 : decode cX0_init 61 = .ok (.aload_n 0, 1) := by decide +kernel
theorem dX0_init_62 : decode cX0_init 62 = .ok (.sipush 640, 3) := by decide +kernel
theorem dX0_init_65 : decode cX0_init 65 = .ok (.newarray .long, 2) := by decide +kernel
theorem dX0_init_67 : decode cX0_init 67 = .ok (.putfield 39, 3) := by decide +kernel
theorem dX0_init_70 : decode cX0_init 70 = .ok (.aload_n 0, 1) := by decide +kernel
theorem dX0_init_71 : decode cX0_init 71 = .ok (.sipush 640, 3) := by decide +kernel
theorem dX0_init_74 : decode cX0_init 74 = .ok (.newarray .boolean, 2) := by decide +kernel
theorem dX0_init_76 : decode cX0_init 76 = .ok (.putfield 42, 3) := by decide +kernel
theorem dX0_init_79 : decode cX0_init 79 = .ok (.aload_n 0, 1) := by decide +kernel
theorem dX0_init_80 : decode cX0_init 80 = .ok (.bipush 41, 2) := by decide +kernel
theorem dX0_init_82 : decode cX0_init 82 = .ok (.newarray .int, 2) := by decide +kernel
theorem dX0_init_84 : decode cX0_init 84 = .ok (.putfield 46, 3) := by decide +kernel
theorem dX0_init_87 : decode cX0_init 87 = .ok (.aload_n 0, 1) := by decide +kernel
theorem dX0_init_88 : decode cX0_init 88 = .ok (.bipush 41, 2) := by decide +kernel
theorem dX0_init_90 : decode cX0_init 90 = .ok (.newarray .int, 2) := by decide +kernel
theorem dX0_init_92 : decode cX0_init 92 = .ok (.putfield 49, 3) := by decide +kernel
theorem dX0_init_95 : decode cX0_init 95 = .ok (.aload_n 0, 1) := by decide +kernel
theorem dX0_init_96 : decode cX0_init 96 = .ok (.bipush 16, 2) := by decide +kernel
theorem dX0_init_98 : decode cX0_init 98 = .ok (.newarray .int, 2) := by decide +kernel
theorem dX0_init_100 : decode cX0_init 100 = .ok (.putfield 52, 3) := by decide +kernel
theorem dX0_init_103 : decode cX0_init 103 = .ok (.return_, 1) := by decide +kernel
theorem bX0_init_0 : tg_Snd mX0_init 0 (fun k => ti_aload 0 k) 1 := si_aload_n (i := 0) dX0_init_0 rfl
theorem bX0_init_4 : tg_Snd mX0_init 4 (fun k => ti_aload 0 k) 5 := si_aload_n (i := 0) dX0_init_4 rfl
theorem bX0_init_8 : tg_Snd mX0_init 8 (fun k => ti_dup k) 9 := si_dup dX0_init_8
theorem bX0_init_12 : tg_Snd mX0_init 12 (fun k => ti_putfR 0 0 (ti_aload 0 k)) 16 := tg_seq (si_putfRF (ci := 0) (f := 0) (ty := tyX0 0) clX0 tyX0_ok nmX0 (Nat.le_of_ble_eq_true rfl) rfl rfl rfl (by decide +kernel) (fun _ _ => ⟨rfl, rfl⟩) flX0_12 dX0_init_12) (si_aload_n (i := 0) dX0_init_15 rfl)
theorem bX0_init_19 : tg_Snd mX0_init 19 (fun k => ti_dup k) 20 := si_dup dX0_init_19
theorem bX0_init_23 : tg_Snd mX0_init 23 (fun k => ti_putfR 0 1 (ti_aload 0 (ti_push (.int 24) k))) 29 := tg_seq (si_putfRF (ci := 0) (f := 1) (ty := tyX0 1) clX0 tyX0_ok nmX0 (Nat.le_of_ble_eq_true rfl) rfl rfl rfl (by decide +kernel) (fun _ _ => ⟨rfl, rfl⟩) flX0_21 dX0_init_23) (tg_seq (si_aload_n (i := 0) dX0_init_26 rfl) (si_bipush (v := 24) dX0_init_27 (by decide)))
theorem bX0_init_31 : tg_Snd mX0_init 31 (fun k => ti_putfR 0 2 (ti_aload 0 (ti_push (.int 640) k))) 38 := tg_seq (si_putfRF (ci := 0) (f := 2) (ty := tyX0 2) clX0 tyX0_ok nmX0 (Nat.le_of_ble_eq_true rfl) rfl rfl rfl (by decide +kernel) (fun _ _ => ⟨rfl, rfl⟩) flX0_25 dX0_init_31) (tg_seq (si_aload_n (i := 0) dX0_init_34 rfl) (si_sipush (v := 640) dX0_init_35 (by decide)))
theorem bX0_init_40 : tg_Snd mX0_init 40 (fun k => ti_putfR 0 4 (ti_aload 0 (ti_push (.int 640) k))) 47 := tg_seq (si_putfR (ci := 0) (f := 4) (ty := tyX0 4) clX0 tyX0_ok nmX0 (Nat.le_of_ble_eq_true rfl) rfl (by decide +kernel) (fun _ _ => ⟨rfl, rfl⟩) flX0_29 dX0_init_40) (tg_seq (si_aload_n (i := 0) dX0_init_43 rfl) (si_sipush (v := 640) dX0_init_44 (by decide)))
theorem bX0_init_49 : tg_Snd mX0_init 49 (fun k => ti_putfR 0 5 (ti_aload 0 (ti_push (.int 640) k))) 56 := tg_seq (si_putfR (ci := 0) (f := 5) (ty := tyX0 5) clX0 tyX0_ok nmX0 (Nat.le_of_ble_eq_true rfl) rfl (by decide +kernel) (fun _ _ => ⟨rfl, rfl⟩) flX0_33 dX0_init_49) (tg_seq (si_aload_n (i := 0) dX0_init_52 rfl) (si_sipush (v := 640) dX0_init_53 (by decide)))
theorem bX0_init_58 : tg_Snd mX0_init 58 (fun k => ti_putfR 0 6 (ti_aload 0 (ti_push (.int 640) k))) 65 := tg_seq (si_putfR (ci := 0) (f := 6) (ty := tyX0 6) clX0 tyX0_ok nmX0 (Nat.le_of_ble_eq_true rfl) rfl (by decide +kernel) (fun _ _ => ⟨rfl, rfl⟩) flX0_36 dX0_init_58) (tg_seq (si_aload_n (i := 0) dX0_init_61 rfl) (si_sipush (v := 640) dX0_init_62 (by decide)))
theorem bX0_init_67 : tg_Snd mX0_init 67 (fun k => ti_putfR 0 7 (ti_aload 0 (ti_push (.int 640) k))) 74 := tg_seq (si_putfR (ci := 0) (f := 7) (ty := tyX0 7) clX0 tyX0_ok nmX0 (Nat.le_of_ble_eq_true rfl) rfl (by decide +kernel) (fun _ _ => ⟨rfl, rfl⟩) flX0_39 dX0_init_67) (tg_seq (si_aload_n (i := 0) dX0_init_70 rfl) (si_sipush (v := 640) dX0_init_71 (by decide)))
theorem bX0_init_76 : tg_Snd mX0_init 76 (fun k => ti_putfR 0 8 (ti_aload 0 (ti_push (.int 41) k))) 82 := tg_seq (si_putfRF (ci := 0) (f := 8) (ty := tyX0 8) clX0 tyX0_ok nmX0 (Nat.le_of_ble_eq_true rfl) rfl rfl rfl (by decide +kernel) (fun _ _ => ⟨rfl, rfl⟩) flX0_42 dX0_init_76) (tg_seq (si_aload_n (i := 0) dX0_init_79 rfl) (si_bipush (v := 41) dX0_init_80 (by decide)))
theorem bX0_init_84 : tg_Snd mX0_init 84 (fun k => ti_putfR 0 9 (ti_aload 0 (ti_push (.int 41) k))) 90 := tg_seq (si_putfRF (ci := 0) (f := 9) (ty := tyX0 9) clX0 tyX0_ok nmX0 (Nat.le_of_ble_eq_true rfl) rfl rfl rfl (by decide +kernel) (fun _ _ => ⟨rfl, rfl⟩) flX0_46 dX0_init_84) (tg_seq (si_aload_n (i := 0) dX0_init_87 rfl) (si_bipush (v := 41) dX0_init_88 (by decide)))
theorem bX0_init_92 : tg_Snd mX0_init 92 (fun k => ti_putfR 0 10 (ti_aload 0 (ti_push (.int 16) k))) 98 := tg_seq (si_putfRF (ci := 0) (f := 10) (ty := tyX0 10) clX0 tyX0_ok nmX0 (Nat.le_of_ble_eq_true rfl) rfl rfl rfl (by decide +kernel) (fun _ _ => ⟨rfl, rfl⟩) flX0_49 dX0_init_92) (tg_seq (si_aload_n (i := 0) dX0_init_95 rfl) (si_bipush (v := 16) dX0_init_96 (by decide)))
theorem bX0_init_100 : tg_Snd mX0_init 100 (fun k => ti_putfR 0 11 k) 103 := si_putfRF (ci := 0) (f := 11) (ty := tyX0 11) clX0 tyX0_ok nmX0 (Nat.le_of_ble_eq_true rfl) rfl rfl rfl (by decide +kernel) (fun _ _ => ⟨rfl, rfl⟩) flX0_52 dX0_init_100
theorem dX8_init_0 : decode cX8_init 0 = .ok (.aload_n 0, 1) := by decide +kernel
theorem dX8_init_1 : decode cX8_init 1 = .ok (.invokespecial 3, 3) := by decide +kernel
theorem dX8_init_4 : decode cX8_init 4 = .ok (.aload_n 0, 1) := by decide +kernel
theorem dX8_init_5 : decode cX8_init 5 = .ok (.new 9, 3) := by decide +kernel
theorem dX8_init_8 : decode cX8_init 8 = .ok (.dup, 1) := by decide +kernel
theorem dX8_init_9 : decode cX8_init 9 = .ok (.invokespecial 11, 3) := by decide +kernel
theorem dX8_init_12 : decode cX8_init 12 = .ok (.putfield 12, 3) := by decide +kernel
theorem dX8_init_15 : decode cX8_init 15 = .ok (.aload_n 0, 1) := by decide +kernel
theorem dX8_init_16 : decode cX8_init 16 = .ok (.aload_n 0, 1) := by decide +kernel
theorem dX8_init_17 : decode cX8_init 17 = .ok (.getfield 12, 3) := by decide +kernel
theorem dX8_init_20 : decode cX8_init 20 = .ok (.getfield 16, 3) := by decide +kernel
theorem dX8_init_23 : decode cX8_init 23 = .ok (.putfield 20, 3) := by decide +kernel
theorem dX8_init_26 : decode cX8_init 26 = .ok (.aload_n 0, 1) := by decide +kernel
theorem dX8_init_27 : decode cX8_init 27 = .ok (.new 21, 3) := by decide +kernel
theorem dX8_init_30 : decode cX8_init 30 = .ok (.dup, 1) := by decide +kernel
theorem dX8_init_31 : decode cX8_init 31 = .ok (.invokespecial 23, 3) := by decide +kernel
theorem dX8_init_34 : decode cX8_init 34 = .ok (.putfield 24, 3) := by decide +kernel
theorem dX8_init_37 : decode cX8_init 37 = .ok (.aload_n 0, 1) := by decide +kernel
theorem dX8_init_38 : decode cX8_init 38 = .ok (.aload_n 0, 1) := by decide +kernel
theorem dX8_init_39 : decode cX8_init 39 = .ok (.getfield 24, 3) := by decide +kernel
theorem dX8_init_42 : decode cX8_init 42 = .ok (.getfield 28, 3) := by decide +kernel
theorem dX8_init_45 : decode cX8_init 45 = .ok (.putfield 32, 3) := by decide +kernel
theorem dX8_init_48 : decode cX8_init 48 = .ok (.aload_n 0, 1) := by decide +kernel
theorem dX8_init_49 : decode cX8_init 49 = .ok (.new 33, 3) := by decide +kernel
theorem dX8_init_52 : decode cX8_init 52 = .ok (.dup, 1) := by decide +kernel
theorem dX8_init_53 : decode cX8_init 53 = .ok (.invokespecial 35, 3) := by decide +kernel
theorem dX8_init_56 : decode cX8_init 56 = .ok (.putfield 36, 3) := by decide +kernel
theorem dX8_init_59 : decode cX8_init 59 = .ok (.aload_n 0, 1) := by decide +kernel
theorem dX8_init_60 : decode cX8_init 60 = .ok (.iconst 2, 1) := by decide +kernel
theorem dX8_init_61 : decode cX8_init 61 = .ok (.anewarray 40, 3) := by decide +kernel
theorem dX8_init_64 : decode cX8_init 64 = .ok (.putfield 42, 3) := by decide +kernel
theorem dX8_init_67 : decode cX8_init 67 = .ok (.iconst 0, 1) := by decide +kernel
theorem dX8_init_68 : decode cX8_init 68 = .ok (.istore_n 1, 1) := by decide +kernel
theorem dX8_init_69 : decode cX8_init 69 = .ok (.iload_n 1, 1) := by decide +kernel
theorem dX8_init_70 : decode cX8_init 70 = .ok (.iconst 2, 1) := by decide +kernel
theorem dX8_init_71 : decode cX8_init 71 = .ok (.if_icmp .ge 22, 3) := by decide +kernel
theorem dX8_init_74 : decode cX8_init 74 = .ok (.aload_n 0, 1) := by decide +kernel
theorem dX8_init_75 : decode cX8_init 75 = .ok (.getfield 42, 3) := by decide +kernel
theorem dX8_init_78 : decode cX8_init 78 = .ok (.iload_n 1, 1) := by decide +kernel
theorem dX8_init_79 : decode cX8_init 79 = .ok (.new 40, 3) := by decide +kernel
theorem dX8_init_82 : decode cX8_init 82 = .ok (.dup, 1) := by decide +kernel
theorem dX8_init_83 : decode cX8_init 83 = .ok (.invokespecial 46, 3) := by decide +kernel
theorem dX8_init_86 : decode cX8_init 86 = .ok (.aastore, 1) := by decide +kernel
theorem dX8_init_87 : decode cX8_init 87 = .ok (.iinc 1 1, 3) := by decide +kernel
theorem dX8_init_90 : decode cX8_init 90 = .ok (.goto (-21), 3) := by decide +kernel
theorem dX8_init_93 : decode cX8_init 93 = .ok (.aload_n 0, 1) := by decide +kernel
theorem dX8_init_94 : decode cX8_init 94 = .ok (.iconst 2, 1) := by decide +kernel
theorem dX8_init_95 : decode cX8_init 95 = .ok (.newarray .boolean, 2) := by decide +kernel
theorem dX8_init_97 : decode cX8_init 97 = .ok (.putfield 47, 3) := by decide +kernel
theorem dX8_init_100 : decode cX8_init 100 = .ok (.aload_n 0, 1) := by decide +kernel
theorem dX8_init_101 : decode cX8_init 101 = .ok (.new 51, 3) := by decide +kernel
theorem dX8_init_104 : decode cX8_init 104 = .ok (.dup, 1) := by decide +kernel
theorem dX8_init_105 : decode cX8_init 105 = .ok (.invokespecial 53, 3) := by decide +kernel
theorem dX8_init_108 : decode cX8_init 108 = .ok (.putfield 54, 3) := by decide +kernel
theorem dX8_init_111 : decode cX8_init 111 = .ok (.aload_n 0, 1) := by decide +kernel
theorem dX8_init_112 : decode cX8_init 112 = .ok (.iconst 0, 1) := by decide +kernel
theorem dX8_init_113 : decode cX8_init 113 = .ok (.putfield 58, 3) := by decide +kernel
theorem dX8_init_116 : decode cX8_init 116 = .ok (.aload_n 0, 1) := by decide +kernel
theorem dX8_init_117 : decode cX8_init 117 = .ok (.lconst 0, 1) := by decide +kernel
theorem dX8_init_118 : decode cX8_init 118 = .ok (.putfield 62, 3) := by decide +kernel
theorem dX8_init_121 : decode cX8_init 121 = .ok (.return_, 1) := by decide +kernel
theorem bX8_init_0 : tg_Snd mX8_init 0 (fun k => ti_aload 0 k) 1 := si_aload_n (i := 0) dX8_init_0 rfl
theorem bX8_init_4 : tg_Snd mX8_init 4 (fun k => ti_aload 0 k) 5 := si_aload_n (i := 0) dX8_init_4 rfl
theorem bX8_init_8 : tg_Snd mX8_init 8 (fun k => ti_dup k) 9 := si_dup dX8_init_8
theorem bX8_init_12 : tg_Snd mX8_init 12 (fun k => ti_putfR 7 0 (ti_aload 0 (ti_aload 0 (ti_getf 7 0 (ti_getf 1 0 (ti_putfR 7 1 (ti_aload 0 k))))))) 27 := tg_seq (si_putfRF (ci := 7) (f := 0) (ty := tyX8 0) clX8 tyX8_ok nmX8 (Nat.le_of_ble_eq_true rfl) rfl rfl rfl (by decide +kernel) (fun _ _ => ⟨rfl, rfl⟩) flX8_12 dX8_init_12) (tg_seq (si_aload_n (i := 0) dX8_init_15 rfl) (tg_seq (si_aload_n (i := 0) dX8_init_16 rfl) (tg_seq (si_getf (ci := 7) (f := 0) clX8 (Nat.le_of_ble_eq_true rfl) rfl flX8_12 dX8_init_17) (tg_seq (si_getf (ci := 1) (f := 0) clX1 (Nat.le_of_ble_eq_true rfl) rfl flX8_16 dX8_init_20) (tg_seq (si_putfRF (ci := 7) (f := 1) (ty := tyX8 1) clX8 tyX8_ok nmX8 (Nat.le_of_ble_eq_true rfl) rfl rfl rfl (by decide +kernel) (fun _ _ => ⟨rfl, rfl⟩) flX8_20 dX8_init_23) (si_aload_n (i := 0) dX8_init_26 rfl))))))
theorem bX8_init_30 : tg_Snd mX8_init 30 (fun k => ti_dup k) 31 := si_dup dX8_init_30
theorem bX8_init_34 : tg_Snd mX8_init 34 (fun k => ti_putfR 7 2 (ti_aload 0 (ti_aload 0 (ti_getf 7 2 (ti_getf 0 0 (ti_putfR 7 3 (ti_aload 0 k))))))) 49 := tg_seq (si_putfRF (ci := 7) (f := 2) (ty := tyX8 2) clX8 tyX8_ok nmX8 (Nat.le_of_ble_eq_true rfl) rfl rfl rfl (by decide +kernel) (fun _ _ => ⟨rfl, rfl⟩) flX8_24 dX8_init_34) (tg_seq (si_aload_n (i := 0) dX8_init_37 rfl) (tg_seq (si_aload_n (i := 0) dX8_init_38 rfl) (tg_seq (si_getf (ci := 7) (f := 2) clX8 (Nat.le_of_ble_eq_true rfl) rfl flX8_24 dX8_init_39) (tg_seq (si_getf (ci := 0) (f := 0) clX0 (Nat.le_of_ble_eq_true rfl) rfl flX8_28 dX8_init_42) (tg_seq (si_putfRF (ci := 7) (f := 3) (ty := tyX8 3) clX8 tyX8_ok nmX8 (Nat.le_of_ble_eq_true rfl) rfl rfl rfl (by decide +kernel) (fun _ _ => ⟨rfl, rfl⟩) flX8_32 dX8_init_45) (si_aload_n (i := 0) dX8_init_48 rfl))))))
theorem bX8_init_52 : tg_Snd mX8_init 52 (fun k => ti_dup k) 53 := si_dup dX8_init_52
theorem bX8_init_56 : tg_Snd mX8_init 56 (fun k => ti_putfR 7 4 (ti_aload 0 (ti_push (.int 2) k))) 61 := tg_seq (si_putfRF (ci := 7) (f := 4) (ty := tyX8 4) clX8 tyX8_ok nmX8 (Nat.le_of_ble_eq_true rfl) rfl rfl rfl (by decide +kernel) (fun _ _ => ⟨rfl, rfl⟩) flX8_36 dX8_init_56) (tg_seq (si_aload_n (i := 0) dX8_init_59 rfl) (si_iconst (v := 2) dX8_init_60 (by decide)))
theorem bX8_init_64 : tg_Snd mX8_init 64 (fun k => ti_putfR 7 5 (ti_push (.int 0) (ti_istore 1 k))) 69 := tg_seq (si_putfRF (ci := 7) (f := 5) (ty := tyX8 5) clX8 tyX8_ok nmX8 (Nat.le_of_ble_eq_true rfl) rfl rfl rfl (by decide +kernel) (fun _ _ => ⟨rfl, rfl⟩) flX8_42 dX8_init_64) (tg_seq (si_iconst (v := 0) dX8_init_67 (by decide)) (si_istore_n (i := 1) dX8_init_68 rfl (Nat.le_of_ble_eq_true rfl)))
theorem bX8_init_69 : tg_Snd mX8_init 69 (fun k => ti_iload 1 (ti_push (.int 2) k)) 71 := tg_seq (si_iload_n (i := 1) dX8_init_69 rfl) (si_iconst (v := 2) dX8_init_70 (by decide))
theorem bX8_init_74 : tg_Snd mX8_init 74 (fun k => ti_aload 0 (ti_getf 7 5 (ti_iload 1 k))) 79 := tg_seq (si_aload_n (i := 0) dX8_init_74 rfl) (tg_seq (si_getf (ci := 7) (f := 5) clX8 (Nat.le_of_ble_eq_true rfl) rfl flX8_42 dX8_init_75) (si_iload_n (i := 1) dX8_init_78 rfl))
theorem bX8_init_82 : tg_Snd mX8_init 82 (fun k => ti_dup k) 83 := si_dup dX8_init_82
theorem bX8_init_87 : tg_Snd mX8_init 87 (fun k => ti_iinc 1 1 k) 90 := si_iinc (v := 1) dX8_init_87 (by decide) (Nat.le_of_ble_eq_true rfl)
theorem bX8_init_93 : tg_Snd mX8_init 93 (fun k => ti_aload 0 (ti_push (.int 2) k)) 95 := tg_seq (si_aload_n (i := 0) dX8_init_93 rfl) (si_iconst (v := 2) dX8_init_94 (by decide))
theorem bX8_init_97 : tg_Snd mX8_init 97 (fun k => ti_putfR 7 6 (ti_aload 0 k)) 101 := tg_seq (si_putfRF (ci := 7) (f := 6) (ty := tyX8 6) clX8 tyX8_ok nmX8 (Nat.le_of_ble_eq_true rfl) rfl rfl rfl (by decide +kernel) (fun _ _ => ⟨rfl, rfl⟩) flX8_47 dX8_init_97) (si_aload_n (i := 0) dX8_init_100 rfl)
theorem bX8_init_104 : tg_Snd mX8_init 104 (fun k => ti_dup k) 105 := si_dup dX8_init_104
theorem bX8_init_108 : tg_Snd mX8_init 108 (fun k => ti_putfR 7 7 (ti_aload 0 (ti_push (.int 0) (ti_putfZ 7 8 (ti_aload 0 (ti_push (.long 0) (ti_putfJ 7 9 k))))))) 121 := tg_seq (si_putfRF (ci := 7) (f := 7) (ty := tyX8 7) clX8 tyX8_ok nmX8 (Nat.le_of_ble_eq_true rfl) rfl rfl rfl (by decide +kernel) (fun _ _ => ⟨rfl, rfl⟩) flX8_54 dX8_init_108) (tg_seq (si_aload_n (i := 0) dX8_init_111 rfl) (tg_seq (si_iconst (v := 0) dX8_init_112 (by decide)) (tg_seq (si_putfZ (ci := 7) (f := 8) (ty := .boolean) clX8 tyX8_ok nmX8 (Nat.le_of_ble_eq_true rfl) rfl (by decide +kernel) (fun x ad h => by rcases h with rfl | rfl <;> exact ⟨rfl, rfl⟩) flX8_58 dX8_init_113) (tg_seq (si_aload_n (i := 0) dX8_init_116 rfl) (tg_seq (si_lconst (v := 0) dX8_init_117 (by decide)) (si_putfJ (ci := 7) (f := 9) (ty := .long) clX8 tyX8_ok nmX8 (Nat.le_of_ble_eq_true rfl) rfl (by decide +kernel) (fun _ _ => ⟨rfl, rfl⟩) flX8_62 dX8_init_118))))))
theorem dX9_init_0 : decode cX9_init 0 = .ok (.aload_n 0, 1) := by decide +kernel
theorem dX9_init_1 : decode cX9_init 1 = .ok (.invokespecial 1, 3) := by decide +kernel
theorem dX9_init_4 : decode cX9_init 4 = .ok (.aload_n 0, 1) := by decide +kernel
theorem dX9_init_5 : decode cX9_init 5 = .ok (.sipush 984, 3) := by decide +kernel
theorem dX9_init_8 : decode cX9_init 8 = .ok (.newarray .int, 2) := by decide +kernel
theorem dX9_init_10 : decode cX9_init 10 = .ok (.putfield 7, 3) := by decide +kernel
theorem dX9_init_13 : decode cX9_init 13 = .ok (.aload_n 0, 1) := by decide +kernel
theorem dX9_init_14 : decode cX9_init 14 = .ok (.iconst 2, 1) := by decide +kernel
theorem dX9_init_15 : decode cX9_init 15 = .ok (.putfield 13, 3) := by decide +kernel
theorem dX9_init_18 : decode cX9_init 18 = .ok (.aload_n 0, 1) := by decide +kernel
theorem dX9_init_19 : decode cX9_init 19 = .ok (.iconst 4, 1) := by decide +kernel
theorem dX9_init_20 : decode cX9_init 20 = .ok (.newarray .int, 2) := by decide +kernel
theorem dX9_init_22 : decode cX9_init 22 = .ok (.dup, 1) := by decide +kernel
theorem dX9_init_23 : decode cX9_init 23 = .ok (.iconst 0, 1) := by decide +kernel
theorem dX9_init_24 : decode cX9_init 24 = .ok (.iconst 4, 1) := by decide +kernel
theorem dX9_init_25 : decode cX9_init 25 = .ok (.iastore, 1) := by decide +kernel
theorem dX9_init_26 : decode cX9_init 26 = .ok (.dup, 1) := by decide +kernel
theorem dX9_init_27 : decode cX9_init 27 = .ok (.iconst 1, 1) := by decide +kernel
theorem dX9_init_28 : decode cX9_init 28 = .ok (.iconst 4, 1) := by decide +kernel
theorem dX9_init_29 : decode cX9_init 29 = .ok (.iastore, 1) := by decide +kernel
theorem dX9_init_30 : decode cX9_init 30 = .ok (.dup, 1) := by decide +kernel
theorem dX9_init_31 : decode cX9_init 31 = .ok (.iconst 2, 1) := by decide +kernel
theorem dX9_init_32 : decode cX9_init 32 = .ok (.iconst 0, 1) := by decide +kernel
theorem dX9_init_33 : decode cX9_init 33 = .ok (.iastore, 1) := by decide +kernel
theorem dX9_init_34 : decode cX9_init 34 = .ok (.dup, 1) := by decide +kernel
theorem dX9_init_35 : decode cX9_init 35 = .ok (.iconst 3, 1) := by decide +kernel
theorem dX9_init_36 : decode cX9_init 36 = .ok (.iconst 0, 1) := by decide +kernel
theorem dX9_init_37 : decode cX9_init 37 = .ok (.iastore, 1) := by decide +kernel
theorem dX9_init_38 : decode cX9_init 38 = .ok (.putfield 17, 3) := by decide +kernel
theorem dX9_init_41 : decode cX9_init 41 = .ok (.aload_n 0, 1) := by decide +kernel
theorem dX9_init_42 : decode cX9_init 42 = .ok (.iconst 2, 1) := by decide +kernel
theorem dX9_init_43 : decode cX9_init 43 = .ok (.newarray .boolean, 2) := by decide +kernel
theorem dX9_init_45 : decode cX9_init 45 = .ok (.putfield 20, 3) := by decide +kernel
theorem dX9_init_48 : decode cX9_init 48 = .ok (.aload_n 0, 1) := by decide +kernel
theorem dX9_init_49 : decode cX9_init 49 = .ok (.sipush 200, 3) := by decide +kernel
theorem dX9_init_52 : decode cX9_init 52 = .ok (.newarray .int, 2) := by decide +kernel
theorem dX9_init_54 : decode cX9_init 54 = .ok (.putfield 24, 3) := by decide +kernel
theorem dX9_init_57 : decode cX9_init 57 = .ok (.aload_n 0, 1) := by decide +kernel
theorem dX9_init_58 : decode cX9_init 58 = .ok (.iconst 3, 1) := by decide +kernel
theorem dX9_init_59 : decode cX9_init 59 = .ok (.newarray .int, 2) := by decide +kernel
theorem dX9_init_61 : decode cX9_init 61 = .ok (.dup, 1) := by decide +kernel
theorem dX9_init_62 : decode cX9_init 62 = .ok (.iconst 0, 1) := by decide +kernel
theorem dX9_init_63 : decode cX9_init 63 = .ok (.iconst (-1), 1) := by decide +kernel
theorem dX9_init_64 : decode cX9_init 64 = .ok (.iastore, 1) := by decide +kernel
theorem dX9_init_65 : decode cX9_init 65 = .ok (.dup, 1) := by decide +kernel
theorem dX9_init_66 : decode cX9_init 66 = .ok (.iconst 1, 1) := by decide +kernel
theorem dX9_init_67 : decode cX9_init 67 = .ok (.iconst (-1), 1) := by decide +kernel
theorem dX9_init_68 : decode cX9_init 68 = .ok (.iastore, 1) := by decide +kernel
theorem dX9_init_69 : decode cX9_init 69 = .ok (.dup, 1) := by decide +kernel
theorem dX9_init_70 : decode cX9_init 70 = .ok (.iconst 2, 1) := by decide +kernel
theorem dX9_init_71 : decode cX9_init 71 = .ok (.iconst (-1), 1) := by decide +kernel
theorem dX9_init_72 : decode cX9_init 72 = .ok (.iastore, 1) := by decide +kernel
theorem dX9_init_73 : decode cX9_init 73 = .ok (.putfield 27, 3) := by decide +kernel
theorem dX9_init_76 : decode cX9_init 76 = .ok (.aload_n 0, 1) := by decide +kernel
theorem dX9_init_77 : decode cX9_init 77 = .ok (.bipush 36, 2) := by decide +kernel
theorem dX9_init_79 : decode cX9_init 79 = .ok (.newarray .long, 2) := by decide +kernel
theorem dX9_init_81 : decode cX9_init 81 = .ok (.putfield 30, 3) := by decide +kernel
theorem dX9_init_84 : decode cX9_init 84 = .ok (.aload_n 0, 1) := by decide +kernel
theorem dX9_init_85 : decode cX9_init 85 = .ok (.iconst 4, 1) := by decide +kernel
theorem dX9_init_86 : decode cX9_init 86 = .ok (.newarray .int, 2) := by decide +kernel
theorem dX9_init_88 : decode cX9_init 88 = .ok (.putfield 34, 3) := by decide +kernel
theorem dX9_init_91 : decode cX9_init 91 = .ok (.aload_n 0, 1) := by decide +kernel
theorem dX9_init_92 : decode cX9_init 92 = .ok (.iconst 5, 1) := by decide +kernel
theorem dX9_init_93 : decode cX9_init 93 = .ok (.newarray .int, 2) := by decide +kernel
theorem dX9_init_95 : decode cX9_init 95 = .ok (.dup, 1) := by decide +kernel
theorem dX9_init_96 : decode cX9_init 96 = .ok (.iconst 0, 1) := by decide +kernel
theorem dX9_init_97 : decode cX9_init 97 = .ok (.bipush 116, 2) := by decide +kernel
theorem dX9_init_99 : decode cX9_init 99 = .ok (.iastore, 1) := by decide +kernel
theorem dX9_init_100 : decode cX9_init 100 = .ok (.dup, 1) := by decide +kernel
theorem dX9_init_101 : decode cX9_init 101 = .ok (.iconst 1, 1) := by decide +kernel
theorem dX9_init_102 : decode cX9_init 102 = .ok (.bipush 97, 2) := by decide +kernel
theorem dX9_init_104 : decode cX9_init 104 = .ok (.iastore, 1) := by decide +kernel
theorem dX9_init_105 : decode cX9_init 105 = .ok (.dup, 1) := by decide +kernel
theorem dX9_init_106 : decode cX9_init 106 = .ok (.iconst 2, 1) := by decide +kernel
theorem dX9_init_107 : decode cX9_init 107 = .ok (.bipush 98, 2) := by decide +kernel
theorem dX9_init_109 : decode cX9_init 109 = .ok (.iastore, 1) := by decide +kernel
theorem dX9_init_110 : decode cX9_init 110 = .ok (.dup, 1) := by decide +kernel
theorem dX9_init_111 : decode cX9_init 111 = .ok (.iconst 3, 1) := by decide +kernel
theorem dX9_init_112 : decode cX9_init 112 = .ok (.bipush 108, 2) := by decide +kernel
theorem dX9_init_114 : decode cX9_init 114 = .ok (.iastore, 1) := by decide +kernel
theorem dX9_init_115 : decode cX9_init 115 = .ok (.dup, 1) := by decide +kernel
theorem dX9_init_116 : decode cX9_init 116 = .ok (.iconst 4, 1) := by decide +kernel
theorem dX9_init_117 : decode cX9_init 117 = .ok (.bipush 101, 2) := by decide +kernel
theorem dX9_init_119 : decode cX9_init 119 = .ok (.iastore, 1) := by decide +kernel
theorem dX9_init_120 : decode cX9_init 120 = .ok (.putfield 37, 3) := by decide +kernel
theorem dX9_init_123 : decode cX9_init 123 = .ok (.aload_n 0, 1) := by decide +kernel
theorem dX9_init_124 : decode cX9_init 124 = .ok (.bipush 7, 2) := by decide +kernel
theorem dX9_init_126 : decode cX9_init 126 = .ok (.newarray .int, 2) := by decide +kernel
theorem dX9_init_128 : decode cX9_init 128 = .ok (.dup, 1) := by decide +kernel
theorem dX9_init_129 : decode cX9_init 129 = .ok (.iconst 0, 1) := by decide +kernel
theorem dX9_init_130 : decode cX9_init 130 = .ok (.bipush 115, 2) := by decide +kernel
theorem dX9_init_132 : decode cX9_init 132 = .ok (.iastore, 1) := by decide +kernel
theorem dX9_init_133 : decode cX9_init 133 = .ok (.dup, 1) := by decide +kernel
theorem dX9_init_134 : decode cX9_init 134 = .ok (.iconst 1, 1) := by decide +kernel
theorem dX9_init_135 : decode cX9_init 135 = .ok (.bipush 117, 2) := by decide +kernel
theorem dX9_init_137 : decode cX9_init 137 = .ok (.iastore, 1) := by decide +kernel
theorem dX9_init_138 : decode cX9_init 138 = .ok (.dup, 1) := by decide +kernel
theorem dX9_init_139 : decode cX9_init 139 = .ok (.iconst 2, 1) := by decide +kernel
theorem dX9_init_140 : decode cX9_init 140 = .ok (.bipush 112, 2) := by decide +kernel
theorem dX9_init_142 : decode cX9_init 142 = .ok (.iastore, 1) := by decide +kernel
theorem dX9_init_143 : decode cX9_init 143 = .ok (.dup, 1) := by decide +kernel
theorem dX9_init_144 : decode cX9_init 144 = .ok (.iconst 3, 1) := by decide +kernel
theorem dX9_init_145 : decode cX9_init 145 = .ok (.bipush 112, 2) := by decide +kernel
theorem dX9_init_147 : decode cX9_init 147 = .ok (.iastore, 1) := by decide +kernel
theorem dX9_init_148 : decode cX9_init 148 = .ok (.dup, 1) := by decide +kernel
theorem dX9_init_149 : decode cX9_init 149 = .ok (.iconst 4, 1) := by decide +kernel
theorem dX9_init_150 : decode cX9_init 150 = .ok (.bipush 111, 2) := by decide +kernel
theorem dX9_init_152 : decode cX9_init 152 = .ok (.iastore, 1) := by decide +kernel
theorem dX9_init_153 : decode cX9_init 153 = .ok (.dup, 1) := by decide +kernel
theorem dX9_init_154 : decode cX9_init 154 = .ok (.iconst 5, 1) := by decide +kernel
theorem dX9_init_155 : decode cX9_init 155 = .ok (.bipush 114, 2) := by decide +kernel
theorem dX9_init_157 : decode cX9_init 157 = .ok (.iastore, 1) := by decide +kernel
theorem dX9_init_158 : decode cX9_init 158 = .ok (.dup, 1) := by decide +kernel
theorem dX9_init_159 : decode cX9_init 159 = .ok (.bipush 6, 2) := by decide +kernel
theorem dX9_init_161 : decode cX9_init 161 = .ok (.bipush 116, 2) := by decide +kernel
theorem dX9_init_163 : decode cX9_init 163 = .ok (.iastore, 1) := by decide +kernel
theorem dX9_init_164 : decode cX9_init 164 = .ok (.putfield 40, 3) := by decide +kernel
theorem dX9_init_167 : decode cX9_init 167 = .ok (.aload_n 0, 1) := by decide +kernel
theorem dX9_init_168 : decode cX9_init 168 = .ok (.iconst 3, 1) := by decide +kernel
theorem dX9_init_169 : decode cX9_init 169 = .ok (.newarray .int, 2) := by decide +kernel
theorem dX9_init_171 : decode cX9_init 171 = .ok (.dup, 1) := by decide +kernel
theorem dX9_init_172 : decode cX9_init 172 = .ok (.iconst 0, 1) := by decide +kernel
theorem dX9_init_173 : decode cX9_init 173 = .ok (.bipush 114, 2) := by decide +kernel
theorem dX9_init_175 : decode cX9_init 175 = .ok (.iastore, 1) := by decide +kernel
theorem dX9_init_176 : decode cX9_init 176 = .ok (.dup, 1) := by decide +kernel
theorem dX9_init_177 : decode cX9_init 177 = .ok (.iconst 1, 1) := by decide +kernel
theorem dX9_init_178 : decode cX9_init 178 = .ok (.bipush 111, 2) := by decide +kernel
theorem dX9_init_180 : decode cX9_init 180 = .ok (.iastore, 1) := by decide +kernel
theorem dX9_init_181 : decode cX9_init 181 = .ok (.dup, 1) := by decide +kernel
theorem dX9_init_182 : decode cX9_init 182 = .ok (.iconst 2, 1) := by decide +kernel
theorem dX9_init_183 : decode cX9_init 183 = .ok (.bipush 119, 2) := by decide +kernel
theorem dX9_init_185 : decode cX9_init 185 = .ok (.iastore, 1) := by decide +kernel
theorem dX9_init_186 : decode cX9_init 186 = .ok (.putfield 43, 3) := by decide +kernel
theorem dX9_init_189 : decode cX9_init 189 = .ok (.aload_n 0, 1) := by decide +kernel
theorem dX9_init_190 : decode cX9_init 190 = .ok (.sipush 2401, 3) := by decide +kernel
theorem dX9_init_193 : decode cX9_init 193 = .ok (.newarray .int, 2) := by decide +kernel
theorem dX9_init_195 : decode cX9_init 195 = .ok (.putfield 46, 3) := by decide +kernel
theorem dX9_init_198 : decode cX9_init 198 = .ok (.aload_n 0, 1) := by decide +kernel
theorem dX9_init_199 : decode cX9_init 199 = .ok (.bipush 42, 2) := by decide +kernel
theorem dX9_init_201 : decode cX9_init 201 = .ok (.newarray .int, 2) := by decide +kernel
theorem dX9_init_203 : decode cX9_init 203 = .ok (.putfield 49, 3) := by decide +kernel
theorem dX9_init_206 : decode cX9_init 206 = .ok (.aload_n 0, 1) := by decide +kernel
theorem dX9_init_207 : decode cX9_init 207 = .ok (.getfield 7, 3) := by decide +kernel
theorem dX9_init_210 : decode cX9_init 210 = .ok (.iconst 1, 1) := by decide +kernel
theorem dX9_init_211 : decode cX9_init 211 = .ok (.iconst 1, 1) := by decide +kernel
theorem dX9_init_212 : decode cX9_init 212 = .ok (.iastore, 1) := by decide +kernel
theorem dX9_init_213 : decode cX9_init 213 = .ok (.return_, 1) := by decide +kernel
theorem bX9_init_0 : tg_Snd mX9_init 0 (fun k => ti_aload 0 k) 1 := si_aload_n (i := 0) dX9_init_0 rfl
theorem bX9_init_4 : tg_Snd mX9_init 4 (fun k => ti_aload 0 (ti_push (.int 984) k)) 8 := tg_seq (si_aload_n (i := 0) dX9_init_4 rfl) (si_sipush (v := 984) dX9_init_5 (by decide))
theorem bX9_init_10 : tg_Snd mX9_init 10 (fun k => ti_putfR 8 0 (ti_aload 0 (ti_push (.int 2) (ti_putfI 8 1 (ti_aload 0 (ti_push (.int 4) k)))))) 20 := tg_seq (si_putfRF (ci := 8) (f := 0) (ty := tyX9 0) clX9 tyX9_ok nmX9 (Nat.le_of_ble_eq_true rfl) rfl rfl rfl (by decide +kernel) (fun _ _ => ⟨rfl, rfl⟩) flX9_7 dX9_init_10) (tg_seq (si_aload_n (i := 0) dX9_init_13 rfl) (tg_seq (si_iconst (v := 2) dX9_init_14 (by decide)) (tg_seq (si_putfI (ci := 8) (f := 1) (ty := .int) clX9 tyX9_ok nmX9 (Nat.le_of_ble_eq_true rfl) rfl (by decide +kernel) (fun _ _ => ⟨rfl, rfl⟩) flX9_13 dX9_init_15) (tg_seq (si_aload_n (i := 0) dX9_init_18 rfl) (si_iconst (v := 4) dX9_init_19 (by decide))))))
theorem bX9_init_22 : tg_Snd mX9_init 22 (fun k => ti_dup (ti_push (.int 0) (ti_push (.int 4) (ti_iast (ti_dup (ti_push (.int 1) (ti_push (.int 4) (ti_iast (ti_dup (ti_push (.int 2) (ti_push (.int 0) (ti_iast (ti_dup (ti_push (.int 3) (ti_push (.int 0) (ti_iast (ti_putfR 8 2 (ti_aload 0 (ti_push (.int 2) k))))))))))))))))))) 43 := tg_seq (si_dup dX9_init_22) (tg_seq (si_iconst (v := 0) dX9_init_23 (by decide)) (tg_seq (si_iconst (v := 4) dX9_init_24 (by decide)) (tg_seq (si_iast dX9_init_25) (tg_seq (si_dup dX9_init_26) (tg_seq (si_iconst (v := 1) dX9_init_27 (by decide)) (tg_seq (si_iconst (v := 4) dX9_init_28 (by decide)) (tg_seq (si_iast dX9_init_29) (tg_seq (si_dup dX9_init_30) (tg_seq (si_iconst (v := 2) dX9_init_31 (by decide)) (tg_seq (si_iconst (v := 0) dX9_init_32 (by decide)) (tg_seq (si_iast dX9_init_33) (tg_seq (si_dup dX9_init_34) (tg_seq (si_iconst (v := 3) dX9_init_35 (by decide)) (tg_seq (si_iconst (v := 0) dX9_init_36 (by decide)) (tg_seq (si_iast dX9_init_37) (tg_seq (si_putfRF (ci := 8) (f := 2) (ty := tyX9 2) clX9 tyX9_ok nmX9 (Nat.le_of_ble_eq_true rfl) rfl rfl rfl (by decide +kernel) (fun _ _ => ⟨rfl, rfl⟩) flX9_17 dX9_init_38) (tg_seq (si_aload_n (i := 0) dX9_init_41 rfl) (si_iconst (v := 2) dX9_init_42 (by decide)))))))))))))))))))
theorem bX9_init_45 : tg_Snd mX9_init 45 (fun k => ti_putfR 8 4 (ti_aload 0 (ti_push (.int 200) k))) 52 := tg_seq (si_putfRF (ci := 8) (f := 4) (ty := tyX9 4) clX9 tyX9_ok nmX9 (Nat.le_of_ble_eq_true rfl) rfl rfl rfl (by decide +kernel) (fun _ _ => ⟨rfl, rfl⟩) flX9_20 dX9_init_45) (tg_seq (si_aload_n (i := 0) dX9_init_48 rfl) (si_sipush (v := 200) dX9_init_49 (by decide)))
theorem bX9_init_54 : tg_Snd mX9_init 54 (fun k => ti_putfR 8 5 (ti_aload 0 (ti_push (.int 3) k))) 59 := tg_seq (si_putfRF (ci := 8) (f := 5) (ty := tyX9 5) clX9 tyX9_ok nmX9 (Nat.le_of_ble_eq_true rfl) rfl rfl rfl (by decide +kernel) (fun _ _ => ⟨rfl, rfl⟩) flX9_24 dX9_init_54) (tg_seq (si_aload_n (i := 0) dX9_init_57 rfl) (si_iconst (v := 3) dX9_init_58 (by decide)))
theorem bX9_init_61 : tg_Snd mX9_init 61 (fun k => ti_dup (ti_push (.int 0) (ti_push (.int (-1)) (ti_iast (ti_dup (ti_push (.int 1) (ti_push (.int (-1)) (ti_iast (ti_dup (ti_push (.int 2) (ti_push (.int (-1)) (ti_iast (ti_putfR 8 7 (ti_aload 0 (ti_push (.int 36) k))))))))))))))) 79 := tg_seq (si_dup dX9_init_61) (tg_seq (si_iconst (v := 0) dX9_init_62 (by decide)) (tg_seq (si_iconst (v := -1) dX9_init_63 (by decide)) (tg_seq (si_iast dX9_init_64) (tg_seq (si_dup dX9_init_65) (tg_seq (si_iconst (v := 1) dX9_init_66 (by decide)) (tg_seq (si_iconst (v := -1) dX9_init_67 (by decide)) (tg_seq (si_iast dX9_init_68) (tg_seq (si_dup dX9_init_69) (tg_seq (si_iconst (v := 2) dX9_init_70 (by decide)) (tg_seq (si_iconst (v := -1) dX9_init_71 (by decide)) (tg_seq (si_iast dX9_init_72) (tg_seq (si_putfRF (ci := 8) (f := 7) (ty := tyX9 7) clX9 tyX9_ok nmX9 (Nat.le_of_ble_eq_true rfl) rfl rfl rfl (by decide +kernel) (fun _ _ => ⟨rfl, rfl⟩) flX9_27 dX9_init_73) (tg_seq (si_aload_n (i := 0) dX9_init_76 rfl) (si_bipush (v := 36) dX9_init_77 (by decide)))))))))))))))
theorem bX9_init_81 : tg_Snd mX9_init 81 (fun k => ti_putfR 8 8 (ti_aload 0 (ti_push (.int 4) k))) 86 := tg_seq (si_putfRF (ci := 8) (f := 8) (ty := tyX9 8) clX9 tyX9_ok nmX9 (Nat.le_of_ble_eq_true rfl) rfl rfl rfl (by decide +kernel) (fun _ _ => ⟨rfl, rfl⟩) flX9_30 dX9_init_81) (tg_seq (si_aload_n (i := 0) dX9_init_84 rfl) (si_iconst (v := 4) dX9_init_85 (by decide)))
theorem bX9_init_88 : tg_Snd mX9_init 88 (fun k => ti_putfR 8 13 (ti_aload 0 (ti_push (.int 5) k))) 93 := tg_seq (si_putfRF (ci := 8) (f := 13) (ty := tyX9 13) clX9 tyX9_ok nmX9 (Nat.le_of_ble_eq_true rfl) rfl rfl rfl (by decide +kernel) (fun _ _ => ⟨rfl, rfl⟩) flX9_34 dX9_init_88) (tg_seq (si_aload_n (i := 0) dX9_init_91 rfl) (si_iconst (v := 5) dX9_init_92 (by decide)))
theorem bX9_init_95 : tg_Snd mX9_init 95 (fun k => ti_dup (ti_push (.int 0) (ti_push (.int 116) (ti_iast (ti_dup (ti_push (.int 1) (ti_push (.int 97) (ti_iast (ti_dup (ti_push (.int 2) (ti_push (.int 98) (ti_iast (ti_dup (ti_push (.int 3) (ti_push (.int 108) (ti_iast (ti_dup (ti_push (.int 4) (ti_push (.int 101) (ti_iast (ti_putfR 8 18 (ti_aload 0 (ti_push (.int 7) k))))))))))))))))))))))) 126 := tg_seq (si_dup dX9_init_95) (tg_seq (si_iconst (v := 0) dX9_init_96 (by decide)) (tg_seq (si_bipush (v := 116) dX9_init_97 (by decide)) (tg_seq (si_iast dX9_init_99) (tg_seq (si_dup dX9_init_100) (tg_seq (si_iconst (v := 1) dX9_init_101 (by decide)) (tg_seq (si_bipush (v := 97) dX9_init_102 (by decide)) (tg_seq (si_iast dX9_init_104) (tg_seq (si_dup dX9_init_105) (tg_seq (si_iconst (v := 2) dX9_init_106 (by decide)) (tg_seq (si_bipush (v := 98) dX9_init_107 (by decide)) (tg_seq (si_iast dX9_init_109) (tg_seq (si_dup dX9_init_110) (tg_seq (si_iconst (v := 3) dX9_init_111 (by decide)) (tg_seq (si_bipush (v := 108) dX9_init_112 (by decide)) (tg_seq (si_iast dX9_init_114) (tg_seq (si_dup dX9_init_115) (tg_seq (si_iconst (v := 4) dX9_init_116 (by decide)) (tg_seq (si_bipush (v := 101) dX9_init_117 (by decide)) (tg_seq (si_iast dX9_init_119) (tg_seq (si_putfRF (ci := 8) (f := 18) (ty := tyX9 18) clX9 tyX9_ok nmX9 (Nat.le_of_ble_eq_true rfl) rfl rfl rfl (by decide +kernel) (fun _ _ => ⟨rfl, rfl⟩) flX9_37 dX9_init_120) (tg_seq (si_aload_n (i := 0) dX9_init_123 rfl) (si_bipush (v := 7) dX9_init_124 (by decide)))))))))))))))))))))))
theorem bX9_init_128 : tg_Snd mX9_init 128 (fun k => ti_dup (ti_push (.int 0) (ti_push (.int 115) (ti_iast (ti_dup (ti_push (.int 1) (ti_push (.int 117) (ti_iast (ti_dup (ti_push (.int 2) (ti_push (.int 112) (ti_iast (ti_dup (ti_push (.int 3) (ti_push (.int 112) (ti_iast (ti_dup (ti_push (.int 4) (ti_push (.int 111) (ti_iast (ti_dup (ti_push (.int 5) (ti_push (.int 114) (ti_iast (ti_dup (ti_push (.int 6) (ti_push (.int 116) (ti_iast (ti_putfR 8 19 (ti_aload 0 (ti_push (.int 3) k))))))))))))))))))))))))))))))) 169 := tg_seq (si_dup dX9_init_128) (tg_seq (si_iconst (v := 0) dX9_init_129 (by decide)) (tg_seq (si_bipush (v := 115) dX9_init_130 (by decide)) (tg_seq (si_iast dX9_init_132) (tg_seq (si_dup dX9_init_133) (tg_seq (si_iconst (v := 1) dX9_init_134 (by decide)) (tg_seq (si_bipush (v := 117) dX9_init_135 (by decide)) (tg_seq (si_iast dX9_init_137) (tg_seq (si_dup dX9_init_138) (tg_seq (si_iconst (v := 2) dX9_init_139 (by decide)) (tg_seq (si_bipush (v := 112) dX9_init_140 (by decide)) (tg_seq (si_iast dX9_init_142) (tg_seq (si_dup dX9_init_143) (tg_seq (si_iconst (v := 3) dX9_init_144 (by decide)) (tg_seq (si_bipush (v := 112) dX9_init_145 (by decide)) (tg_seq (si_iast dX9_init_147) (tg_seq (si_dup dX9_init_148) (tg_seq (si_iconst (v := 4) dX9_init_149 (by decide)) (tg_seq (si_bipush (v := 111) dX9_init_150 (by decide)) (tg_seq (si_iast dX9_init_152) (tg_seq (si_dup dX9_init_153) (tg_seq (si_iconst (v := 5) dX9_init_154 (by decide)) (tg_seq (si_bipush (v := 114) dX9_init_155 (by decide)) (tg_seq (si_iast dX9_init_157) (tg_seq (si_dup dX9_init_158) (tg_seq (si_bipush (v := 6) dX9_init_159 (by decide)) (tg_seq (si_bipush (v := 116) dX9_init_161 (by decide)) (tg_seq (si_iast dX9_init_163) (tg_seq (si_putfRF (ci := 8) (f := 19) (ty := tyX9 19) clX9 tyX9_ok nmX9 (Nat.le_of_ble_eq_true rfl) rfl rfl rfl (by decide +kernel) (fun _ _ => ⟨rfl, rfl⟩) flX9_40 dX9_init_164) (tg_seq (si_aload_n (i := 0) dX9_init_167 rfl) (si_iconst (v := 3) dX9_init_168 (by decide)))))))))))))))))))))))))))))))
theorem bX9_init_171 : tg_Snd mX9_init 171 (fun k => ti_dup (ti_push (.int 0) (ti_push (.int 114) (ti_iast (ti_dup (ti_push (.int 1) (ti_push (.int 111) (ti_iast (ti_dup (ti_push (.int 2) (ti_push (.int 119) (ti_iast (ti_putfR 8 20 (ti_aload 0 (ti_push (.int 2401) k))))))))))))))) 193 := tg_seq (si_dup dX9_init_171) (tg_seq (si_iconst (v := 0) dX9_init_172 (by decide)) (tg_seq (si_bipush (v := 114) dX9_init_173 (by decide)) (tg_seq (si_iast dX9_init_175) (tg_seq (si_dup dX9_init_176) (tg_seq (si_iconst (v := 1) dX9_init_177 (by decide)) (tg_seq (si_bipush (v := 111) dX9_init_178 (by decide)) (tg_seq (si_iast dX9_init_180) (tg_seq (si_dup dX9_init_181) (tg_seq (si_iconst (v := 2) dX9_init_182 (by decide)) (tg_seq (si_bipush (v := 119) dX9_init_183 (by decide)) (tg_seq (si_iast dX9_init_185) (tg_seq (si_putfRF (ci := 8) (f := 20) (ty := tyX9 20) clX9 tyX9_ok nmX9 (Nat.le_of_ble_eq_true rfl) rfl rfl rfl (by decide +kernel) (fun _ _ => ⟨rfl, rfl⟩) flX9_43 dX9_init_186) (tg_seq (si_aload_n (i := 0) dX9_init_189 rfl) (si_sipush (v := 2401) dX9_init_190 (by decide)))))))))))))))
theorem bX9_init_195 : tg_Snd mX9_init 195 (fun k => ti_putfR 8 27 (ti_aload 0 (ti_push (.int 42) k))) 201 := tg_seq (si_putfRF (ci := 8) (f := 27) (ty := tyX9 27) clX9 tyX9_ok nmX9 (Nat.le_of_ble_eq_true rfl) rfl rfl rfl (by decide +kernel) (fun _ _ => ⟨rfl, rfl⟩) flX9_46 dX9_init_195) (tg_seq (si_aload_n (i := 0) dX9_init_198 rfl) (si_bipush (v := 42) dX9_init_199 (by decide)))
theorem bX9_init_203 : tg_Snd mX9_init 203 (fun k => ti_putfR 8 28 (ti_aload 0 (ti_getf 8 0 (ti_push (.int 1) (ti_push (.int 1) (ti_iast k)))))) 213 := tg_seq (si_putfRF (ci := 8) (f := 28) (ty := tyX9 28) clX9 tyX9_ok nmX9 (Nat.le_of_ble_eq_true rfl) rfl rfl rfl (by decide +kernel) (fun _ _ => ⟨rfl, rfl⟩) flX9_49 dX9_init_203) (tg_seq (si_aload_n (i := 0) dX9_init_206 rfl) (tg_seq (si_getf (ci := 8) (f := 0) clX9 (Nat.le_of_ble_eq_true rfl) rfl flX9_7 dX9_init_207) (tg_seq (si_iconst (v := 1) dX9_init_210 (by decide)) (tg_seq (si_iconst (v := 1) dX9_init_211 (by decide)) (si_iast dX9_init_212)))))
theorem iX1_init_9 : tg_IS mX1_init 9 mX7_init := ⟨okX7_init, ⟨11, dX1_init_9, Or.inr (List.mem_of_getElem? (i := 1) rfl)⟩, insX7_init, rfl, rfl, parX7_init, Nat.le_of_ble_eq_true rfl, Nat.le_of_ble_eq_true rfl⟩
theorem iX1_init_20 : tg_IS mX1_init 20 mX6_init := ⟨okX6_init, ⟨20, dX1_init_20, Or.inl mlX1_20⟩, insX6_init, rfl, rfl, parX6_init, Nat.le_of_ble_eq_true rfl, Nat.le_of_ble_eq_true rfl⟩
theorem iX0_init_9 : tg_IS mX0_init 9 mX6_init := ⟨okX6_init, ⟨11, dX0_init_9, Or.inl mlX0_11⟩, insX6_init, rfl, rfl, parX6_init, Nat.le_of_ble_eq_true rfl, Nat.le_of_ble_eq_true rfl⟩
theorem iX0_init_20 : tg_IS mX0_init 20 mX4_init := ⟨okX4_init, ⟨20, dX0_init_20, Or.inr (List.mem_of_getElem? (i := 3) rfl)⟩, insX4_init, rfl, rfl, parX4_init, Nat.le_of_ble_eq_true rfl, Nat.le_of_ble_eq_true rfl⟩
theorem iX8_init_9 : tg_IS mX8_init 9 mX1_init := ⟨okX1_init, ⟨11, dX8_init_9, Or.inr (List.mem_of_getElem? (i := 0) rfl)⟩, insX1_init, rfl, rfl, parX1_init, Nat.le_of_ble_eq_true rfl, Nat.le_of_ble_eq_true rfl⟩
theorem iX8_init_31 : tg_IS mX8_init 31 mX0_init := ⟨okX0_init, ⟨23, dX8_init_31, Or.inr (List.mem_of_getElem? (i := 2) rfl)⟩, insX0_init, rfl, rfl, parX0_init, Nat.le_of_ble_eq_true rfl, Nat.le_of_ble_eq_true rfl⟩
theorem iX8_init_53 : tg_IS mX8_init 53 mX5_init := ⟨okX5_init, ⟨35, dX8_init_53, Or.inr (List.mem_of_getElem? (i := 4) rfl)⟩, insX5_init, rfl, rfl, parX5_init, Nat.le_of_ble_eq_true rfl, Nat.le_of_ble_eq_true rfl⟩
theorem iX8_init_83 : tg_IS mX8_init 83 mX6_init := ⟨okX6_init, ⟨46, dX8_init_83, Or.inl mlX8_46⟩, insX6_init, rfl, rfl, parX6_init, Nat.le_of_ble_eq_true rfl, Nat.le_of_ble_eq_true rfl⟩
theorem iX8_init_105 : tg_IS mX8_init 105 mX3_init := ⟨okX3_init, ⟨53, dX8_init_105, Or.inl mlX8_53⟩, insX3_init, rfl, rfl, parX3_init, Nat.le_of_ble_eq_true rfl, Nat.le_of_ble_eq_true rfl⟩
