/-! the library: String.length, String.charAt: names, bytes, words -/
theorem iniJ0 : Cond.initialized RJ0 ∈ tg_T := tg_mem 62 (by decide +kernel) rfl
theorem iniJ1 : Cond.initialized RJ1 ∈ tg_T := tg_mem 63 (by decide +kernel) rfl
theorem iniJ3 : Cond.initialized RJ3 ∈ tg_T := tg_mem 64 (by decide +kernel) rfl
def mJ0_length_8abf5 : tg_M := (yJ0_length_8abf5, cJ0_length_8abf5, 1, (some .int), { frames := 1, cells := 0, slots := 0, locals := 20 })
theorem okJ0_length_8abf5 : tg_ok mJ0_length_8abf5 := ⟨tg_mem 358 (by decide +kernel) rfl, iniJ0, by decide, by decide, by decide⟩
theorem insJ0_length_8abf5 : Cond.instanceMethod yJ0_length_8abf5 ∈ tg_T := tg_mem 356 (by decide +kernel) rfl
theorem selJ0_length_8abf5 : Cond.selects RJ0 yJ0_length_8abf5 yJ0_length_8abf5 ∈ tg_T := tg_mem 357 (by decide +kernel) rfl
theorem parJ0_length_8abf5 : (parseMethodDescriptor mJ0_length_8abf5.1.desc).map (fun d => d.parameters.length) = some 0 := by decide +kernel
def mJ0_charAt_5068e : tg_M := (yJ0_charAt_5068e, cJ0_charAt_5068e, 2, (some .char), { frames := 4, cells := 0, slots := 0, locals := 85 })
theorem okJ0_charAt_5068e : tg_ok mJ0_charAt_5068e := ⟨tg_mem 368 (by decide +kernel) rfl, iniJ0, by decide, by decide, by decide⟩
theorem insJ0_charAt_5068e : Cond.instanceMethod yJ0_charAt_5068e ∈ tg_T := tg_mem 366 (by decide +kernel) rfl
theorem selJ0_charAt_5068e : Cond.selects RJ0 yJ0_charAt_5068e yJ0_charAt_5068e ∈ tg_T := tg_mem 367 (by decide +kernel) rfl
theorem parJ0_charAt_5068e : (parseMethodDescriptor mJ0_charAt_5068e.1.desc).map (fun d => d.parameters.length) = some 1 := by decide +kernel
def mJ0_coder_7d493 : tg_M := (yJ0_coder_7d493, cJ0_coder_7d493, 1, (some .byte), { frames := 0, cells := 0, slots := 0, locals := 0 })
theorem okJ0_coder_7d493 : tg_ok mJ0_coder_7d493 := ⟨tg_mem 362 (by decide +kernel) rfl, iniJ0, by decide, by decide, by decide⟩
theorem insJ0_coder_7d493 : Cond.instanceMethod yJ0_coder_7d493 ∈ tg_T := tg_mem 360 (by decide +kernel) rfl
theorem selJ0_coder_7d493 : Cond.selects RJ0 yJ0_coder_7d493 yJ0_coder_7d493 ∈ tg_T := tg_mem 361 (by decide +kernel) rfl
theorem parJ0_coder_7d493 : (parseMethodDescriptor mJ0_coder_7d493.1.desc).map (fun d => d.parameters.length) = some 0 := by decide +kernel
def mJ0_isLatin1_aae02 : tg_M := (yJ0_isLatin1_aae02, cJ0_isLatin1_aae02, 1, (some .boolean), { frames := 0, cells := 0, slots := 0, locals := 0 })
theorem okJ0_isLatin1_aae02 : tg_ok mJ0_isLatin1_aae02 := ⟨tg_mem 372 (by decide +kernel) rfl, iniJ0, by decide, by decide, by decide⟩
theorem insJ0_isLatin1_aae02 : Cond.instanceMethod yJ0_isLatin1_aae02 ∈ tg_T := tg_mem 370 (by decide +kernel) rfl
theorem selJ0_isLatin1_aae02 : Cond.selects RJ0 yJ0_isLatin1_aae02 yJ0_isLatin1_aae02 ∈ tg_T := tg_mem 371 (by decide +kernel) rfl
theorem parJ0_isLatin1_aae02 : (parseMethodDescriptor mJ0_isLatin1_aae02.1.desc).map (fun d => d.parameters.length) = some 0 := by decide +kernel
def mJ0_checkIndex_df160 : tg_M := (yJ0_checkIndex_df160, cJ0_checkIndex_df160, 2, none, { frames := 1, cells := 0, slots := 0, locals := 22 })
theorem okJ0_checkIndex_df160 : tg_ok mJ0_checkIndex_df160 := ⟨tg_mem 378 (by decide +kernel) rfl, iniJ0, by decide, by decide, by decide⟩
theorem staJ0_checkIndex_df160 : Cond.static yJ0_checkIndex_df160 ∈ tg_T := tg_mem 377 (by decide +kernel) rfl
theorem parJ0_checkIndex_df160 : (parseMethodDescriptor mJ0_checkIndex_df160.1.desc).map (fun d => d.parameters.length) = some 2 := by decide +kernel
def mJ1_charAt_3b067 : tg_M := (yJ1_charAt_3b067, cJ1_charAt_3b067, 2, (some .char), { frames := 2, cells := 0, slots := 0, locals := 43 })
theorem okJ1_charAt_3b067 : tg_ok mJ1_charAt_3b067 := ⟨tg_mem 375 (by decide +kernel) rfl, iniJ1, by decide, by decide, by decide⟩
theorem staJ1_charAt_3b067 : Cond.static yJ1_charAt_3b067 ∈ tg_T := tg_mem 374 (by decide +kernel) rfl
theorem parJ1_charAt_3b067 : (parseMethodDescriptor mJ1_charAt_3b067.1.desc).map (fun d => d.parameters.length) = some 2 := by decide +kernel
def mJ3_checkIndex_8e157 : tg_M := (yJ3_checkIndex_8e157, cJ3_checkIndex_8e157, 3, (some .int), { frames := 0, cells := 0, slots := 0, locals := 0 })
theorem okJ3_checkIndex_8e157 : tg_ok mJ3_checkIndex_8e157 := ⟨tg_mem 383 (by decide +kernel) rfl, iniJ3, by decide, by decide, by decide⟩
theorem staJ3_checkIndex_8e157 : Cond.static yJ3_checkIndex_8e157 ∈ tg_T := tg_mem 382 (by decide +kernel) rfl
theorem parJ3_checkIndex_8e157 : (parseMethodDescriptor mJ3_checkIndex_8e157.1.desc).map (fun d => d.parameters.length) = some 3 := by decide +kernel
theorem mlJ0_335 : Cond.methodLink RJ0 335 yJ0_coder_7d493 ∈ tg_T := tg_mem 359 (by decide +kernel) rfl
theorem mlJ0_492 : Cond.methodLink RJ0 492 yJ0_isLatin1_aae02 ∈ tg_T := tg_mem 369 (by decide +kernel) rfl
theorem mlJ0_495 : Cond.methodLink RJ0 495 yJ1_charAt_3b067 ∈ tg_T := tg_mem 373 (by decide +kernel) rfl
theorem mlJ1_9 : Cond.methodLink RJ1 9 yJ0_checkIndex_df160 ∈ tg_T := tg_mem 376 (by decide +kernel) rfl
theorem mlJ0_1059 : Cond.methodLink RJ0 1059 yJ3_checkIndex_8e157 ∈ tg_T := tg_mem 381 (by decide +kernel) rfl
theorem flJ0_38 : Cond.fieldLink RJ0 38 "java/lang/String" "COMPACT_STRINGS" "Z" ∈ tg_T := tg_mem 363 (by decide +kernel) rfl
theorem flJ0_1053 : Cond.fieldLink RJ0 1053 "jdk/internal/util/Preconditions" "SIOOBE_FORMATTER" "Ljava/util/function/BiFunction;" ∈ tg_T := tg_mem 379 (by decide +kernel) rfl
theorem flJ0_9 : Cond.fieldLink RJ0 9 "java/lang/String" "value" "[B" ∈ tg_T := tg_mem 1181 (by decide +kernel) rfl
theorem flJ0_15 : Cond.fieldLink RJ0 15 "java/lang/String" "coder" "B" ∈ tg_T := tg_mem 1182 (by decide +kernel) rfl
theorem dJ0_length_8abf5_0 : decode cJ0_length_8abf5 0 = .ok (.aload_n 0, 1) := by decide +kernel
theorem dJ0_length_8abf5_1 : decode cJ0_length_8abf5 1 = .ok (.getfield 9, 3) := by decide +kernel
theorem dJ0_length_8abf5_4 : decode cJ0_length_8abf5 4 = .ok (.arraylength, 1) := by decide +kernel
theorem dJ0_length_8abf5_5 : decode cJ0_length_8abf5 5 = .ok (.aload_n 0, 1) := by decide +kernel
theorem dJ0_length_8abf5_6 : decode cJ0_length_8abf5 6 = .ok (.invokevirtual 335, 3) := by decide +kernel
theorem dJ0_length_8abf5_9 : decode cJ0_length_8abf5 9 = .ok (.ishr, 1) := by decide +kernel
theorem dJ0_length_8abf5_10 : decode cJ0_length_8abf5 10 = .ok (.ireturn, 1) := by decide +kernel
theorem dJ0_charAt_5068e_0 : decode cJ0_charAt_5068e 0 = .ok (.aload_n 0, 1) := by decide +kernel
theorem dJ0_charAt_5068e_1 : decode cJ0_charAt_5068e 1 = .ok (.invokevirtual 492, 3) := by decide +kernel
theorem dJ0_charAt_5068e_4 : decode cJ0_charAt_5068e 4 = .ok (.ifCond .eq 12, 3) := by decide +kernel
theorem dJ0_charAt_5068e_7 : decode cJ0_charAt_5068e 7 = .ok (.aload_n 0, 1) := by decide +kernel
theorem dJ0_charAt_5068e_8 : decode cJ0_charAt_5068e 8 = .ok (.getfield 9, 3) := by decide +kernel
theorem dJ0_charAt_5068e_11 : decode cJ0_charAt_5068e 11 = .ok (.iload_n 1, 1) := by decide +kernel
theorem dJ0_charAt_5068e_12 : decode cJ0_charAt_5068e 12 = .ok (.invokestatic 495, 3) := by decide +kernel
theorem dJ0_charAt_5068e_15 : decode cJ0_charAt_5068e 15 = .ok (.ireturn, 1) := by decide +kernel
theorem dJ0_charAt_5068e_16 : decode cJ0_charAt_5068e 16 = .ok (.aload_n 0, 1) := by decide +kernel
theorem dJ0_charAt_5068e_17 : decode cJ0_charAt_5068e 17 = .ok (.getfield 9, 3) := by decide +kernel
theorem dJ0_charAt_5068e_20 : decode cJ0_charAt_5068e 20 = .ok (.iload_n 1, 1) := by decide +kernel
theorem dJ0_charAt_5068e_21 : decode cJ0_charAt_5068e 21 = .ok (.invokestatic 498, 3) := by decide +kernel
theorem dJ0_charAt_5068e_24 : decode cJ0_charAt_5068e 24 = .ok (.ireturn, 1) := by decide +kernel
theorem dJ0_coder_7d493_0 : decode cJ0_coder_7d493 0 = .ok (.getstatic 38, 3) := by decide +kernel
theorem dJ0_coder_7d493_3 : decode cJ0_coder_7d493 3 = .ok (.ifCond .eq 10, 3) := by decide +kernel
theorem dJ0_coder_7d493_6 : decode cJ0_coder_7d493 6 = .ok (.aload_n 0, 1) := by decide +kernel
theorem dJ0_coder_7d493_7 : decode cJ0_coder_7d493 7 = .ok (.getfield 15, 3) := by decide +kernel
theorem dJ0_coder_7d493_10 : decode cJ0_coder_7d493 10 = .ok (.goto 4, 3) := by decide +kernel
theorem dJ0_coder_7d493_13 : decode cJ0_coder_7d493 13 = .ok (.iconst 1, 1) := by decide +kernel
theorem dJ0_coder_7d493_14 : decode cJ0_coder_7d493 14 = .ok (.ireturn, 1) := by decide +kernel
theorem dJ0_isLatin1_aae02_0 : decode cJ0_isLatin1_aae02 0 = .ok (.getstatic 38, 3) := by decide +kernel
theorem dJ0_isLatin1_aae02_3 : decode cJ0_isLatin1_aae02 3 = .ok (.ifCond .eq 14, 3) := by decide +kernel
theorem dJ0_isLatin1_aae02_6 : decode cJ0_isLatin1_aae02 6 = .ok (.aload_n 0, 1) := by decide +kernel
theorem dJ0_isLatin1_aae02_7 : decode cJ0_isLatin1_aae02 7 = .ok (.getfield 15, 3) := by decide +kernel
theorem dJ0_isLatin1_aae02_10 : decode cJ0_isLatin1_aae02 10 = .ok (.ifCond .ne 7, 3) := by decide +kernel
theorem dJ0_isLatin1_aae02_13 : decode cJ0_isLatin1_aae02 13 = .ok (.iconst 1, 1) := by decide +kernel
theorem dJ0_isLatin1_aae02_14 : decode cJ0_isLatin1_aae02 14 = .ok (.goto 4, 3) := by decide +kernel
theorem dJ0_isLatin1_aae02_17 : decode cJ0_isLatin1_aae02 17 = .ok (.iconst 0, 1) := by decide +kernel
theorem dJ0_isLatin1_aae02_18 : decode cJ0_isLatin1_aae02 18 = .ok (.ireturn, 1) := by decide +kernel
theorem dJ0_checkIndex_df160_0 : decode cJ0_checkIndex_df160 0 = .ok (.iload_n 0, 1) := by decide +kernel
theorem dJ0_checkIndex_df160_1 : decode cJ0_checkIndex_df160 1 = .ok (.iload_n 1, 1) := by decide +kernel
theorem dJ0_checkIndex_df160_2 : decode cJ0_checkIndex_df160 2 = .ok (.getstatic 1053, 3) := by decide +kernel
theorem dJ0_checkIndex_df160_5 : decode cJ0_checkIndex_df160 5 = .ok (.invokestatic 1059, 3) := by decide +kernel
theorem dJ0_checkIndex_df160_8 : decode cJ0_checkIndex_df160 8 = .ok (.pop, 1) := by decide +kernel
theorem dJ0_checkIndex_df160_9 : decode cJ0_checkIndex_df160 9 = .ok (.return_, 1) := by decide +kernel
theorem dJ1_charAt_3b067_0 : decode cJ1_charAt_3b067 0 = .ok (.iload_n 1, 1) := by decide +kernel
theorem dJ1_charAt_3b067_1 : decode cJ1_charAt_3b067 1 = .ok (.aload_n 0, 1) := by decide +kernel
theorem dJ1_charAt_3b067_2 : decode cJ1_charAt_3b067 2 = .ok (.arraylength, 1) := by decide +kernel
theorem dJ1_charAt_3b067_3 : decode cJ1_charAt_3b067 3 = .ok (.invokestatic 9, 3) := by decide +kernel
theorem dJ1_charAt_3b067_6 : decode cJ1_charAt_3b067 6 = .ok (.aload_n 0, 1) := by decide +kernel
theorem dJ1_charAt_3b067_7 : decode cJ1_charAt_3b067 7 = .ok (.iload_n 1, 1) := by decide +kernel
theorem dJ1_charAt_3b067_8 : decode cJ1_charAt_3b067 8 = .ok (.baload, 1) := by decide +kernel
theorem dJ1_charAt_3b067_9 : decode cJ1_charAt_3b067 9 = .ok (.sipush 255, 3) := by decide +kernel
theorem dJ1_charAt_3b067_12 : decode cJ1_charAt_3b067 12 = .ok (.iand, 1) := by decide +kernel
theorem dJ1_charAt_3b067_13 : decode cJ1_charAt_3b067 13 = .ok (.i2c, 1) := by decide +kernel
theorem dJ1_charAt_3b067_14 : decode cJ1_charAt_3b067 14 = .ok (.ireturn, 1) := by decide +kernel
theorem dJ3_checkIndex_8e157_0 : decode cJ3_checkIndex_8e157 0 = .ok (.iload_n 0, 1) := by decide +kernel
theorem dJ3_checkIndex_8e157_1 : decode cJ3_checkIndex_8e157 1 = .ok (.ifCond .lt 8, 3) := by decide +kernel
theorem dJ3_checkIndex_8e157_4 : decode cJ3_checkIndex_8e157 4 = .ok (.iload_n 0, 1) := by decide +kernel
theorem dJ3_checkIndex_8e157_5 : decode cJ3_checkIndex_8e157 5 = .ok (.iload_n 1, 1) := by decide +kernel
theorem dJ3_checkIndex_8e157_6 : decode cJ3_checkIndex_8e157 6 = .ok (.if_icmp .lt 10, 3) := by decide +kernel
theorem dJ3_checkIndex_8e157_9 : decode cJ3_checkIndex_8e157 9 = .ok (.aload_n 2, 1) := by decide +kernel
theorem dJ3_checkIndex_8e157_10 : decode cJ3_checkIndex_8e157 10 = .ok (.iload_n 0, 1) := by decide +kernel
theorem dJ3_checkIndex_8e157_11 : decode cJ3_checkIndex_8e157 11 = .ok (.iload_n 1, 1) := by decide +kernel
theorem dJ3_checkIndex_8e157_12 : decode cJ3_checkIndex_8e157 12 = .ok (.invokestatic 95, 3) := by decide +kernel
theorem dJ3_checkIndex_8e157_15 : decode cJ3_checkIndex_8e157 15 = .ok (.athrow, 1) := by decide +kernel
theorem dJ3_checkIndex_8e157_16 : decode cJ3_checkIndex_8e157 16 = .ok (.iload_n 0, 1) := by decide +kernel
theorem dJ3_checkIndex_8e157_17 : decode cJ3_checkIndex_8e157 17 = .ok (.ireturn, 1) := by decide +kernel
theorem vJ0_length_8abf5_6 : tg_VS mJ0_length_8abf5 6 mJ0_coder_7d493 0 := ⟨okJ0_coder_7d493, ⟨335, dJ0_length_8abf5_6, mlJ0_335⟩, insJ0_coder_7d493, selJ0_coder_7d493, parJ0_coder_7d493, rfl, rfl, Nat.le_of_ble_eq_true rfl, Nat.le_of_ble_eq_true rfl⟩
theorem vJ0_charAt_5068e_1 : tg_VS mJ0_charAt_5068e 1 mJ0_isLatin1_aae02 0 := ⟨okJ0_isLatin1_aae02, ⟨492, dJ0_charAt_5068e_1, mlJ0_492⟩, insJ0_isLatin1_aae02, selJ0_isLatin1_aae02, parJ0_isLatin1_aae02, rfl, rfl, Nat.le_of_ble_eq_true rfl, Nat.le_of_ble_eq_true rfl⟩
theorem vJ0_charAt_5068e_12 : tg_SS0 mJ0_charAt_5068e 12 mJ1_charAt_3b067 2 := ⟨okJ1_charAt_3b067, ⟨495, dJ0_charAt_5068e_12, mlJ0_495⟩, staJ1_charAt_3b067, parJ1_charAt_3b067, rfl, rfl, Nat.le_of_ble_eq_true rfl, Nat.le_of_ble_eq_true rfl⟩
theorem vJ0_checkIndex_df160_5 : tg_SS0 mJ0_checkIndex_df160 5 mJ3_checkIndex_8e157 3 := ⟨okJ3_checkIndex_8e157, ⟨1059, dJ0_checkIndex_df160_5, mlJ0_1059⟩, staJ3_checkIndex_8e157, parJ3_checkIndex_8e157, rfl, rfl, Nat.le_of_ble_eq_true rfl, Nat.le_of_ble_eq_true rfl⟩
theorem vJ1_charAt_3b067_3 : tg_SS0 mJ1_charAt_3b067 3 mJ0_checkIndex_df160 2 := ⟨okJ0_checkIndex_df160, ⟨9, dJ1_charAt_3b067_3, mlJ1_9⟩, staJ0_checkIndex_df160, parJ0_checkIndex_df160, rfl, rfl, Nat.le_of_ble_eq_true rfl, Nat.le_of_ble_eq_true rfl⟩
theorem vX7_isToken_10 : tg_VS mX7_isToken 10 mJ0_length_8abf5 0 := ⟨okJ0_length_8abf5, ⟨32, dX7_isToken_10, mlX7_32⟩, insJ0_length_8abf5, selJ0_length_8abf5, parJ0_length_8abf5, rfl, rfl, Nat.le_of_ble_eq_true rfl, Nat.le_of_ble_eq_true rfl⟩
theorem vX7_isToken_22 : tg_VS mX7_isToken 22 mJ0_length_8abf5 0 := ⟨okJ0_length_8abf5, ⟨32, dX7_isToken_22, mlX7_32⟩, insJ0_length_8abf5, selJ0_length_8abf5, parJ0_length_8abf5, rfl, rfl, Nat.le_of_ble_eq_true rfl, Nat.le_of_ble_eq_true rfl⟩
theorem vX7_isToken_54 : tg_VS mX7_isToken 54 mJ0_charAt_5068e 1 := ⟨okJ0_charAt_5068e, ⟨37, dX7_isToken_54, mlX7_37⟩, insJ0_charAt_5068e, selJ0_charAt_5068e, parJ0_charAt_5068e, rfl, rfl, Nat.le_of_ble_eq_true rfl, Nat.le_of_ble_eq_true rfl⟩
