/-! THE LAW: its cases, a -/
section LAWC
variable {l : tg_Ln} {K : Option Value → List va_E → Prop} {kc ks i : Nat} {wc wr : List va_E}
theorem dL_law_172 : decode cL_law 172 = .ok (.aload_n 1, 1) := by decide +kernel
theorem dL_law_173 : decode cL_law 173 = .ok (.aload_n 0, 1) := by decide +kernel
theorem dL_law_174 : decode cL_law 174 = .ok (.iload_n 3, 1) := by decide +kernel
theorem dL_law_175 : decode cL_law 175 = .ok (.iconst 1, 1) := by decide +kernel
theorem dL_law_176 : decode cL_law 176 = .ok (.iadd, 1) := by decide +kernel
theorem dL_law_177 : decode cL_law 177 = .ok (.iaload, 1) := by decide +kernel
theorem dL_law_178 : decode cL_law 178 = .ok (.invokevirtual 13, 3) := by decide +kernel
theorem vL_law_178 : tg_VS mL_law 178 mX8_write 1 := ⟨okX8_write, ⟨13, dL_law_178, mlL_13⟩, insX8_write, selX8_write, parX8_write, rfl, rfl, Nat.le_of_ble_eq_true rfl, Nat.le_of_ble_eq_true rfl⟩
theorem dL_law_181 : decode cL_law 181 = .ok (.aload_n 2, 1) := by decide +kernel
theorem dL_law_182 : decode cL_law 182 = .ok (.aload_n 0, 1) := by decide +kernel
theorem dL_law_183 : decode cL_law 183 = .ok (.iload_n 3, 1) := by decide +kernel
theorem dL_law_184 : decode cL_law 184 = .ok (.iconst 1, 1) := by decide +kernel
theorem dL_law_185 : decode cL_law 185 = .ok (.iadd, 1) := by decide +kernel
theorem dL_law_186 : decode cL_law 186 = .ok (.iaload, 1) := by decide +kernel
theorem dL_law_187 : decode cL_law 187 = .ok (.invokevirtual 17, 3) := by decide +kernel
theorem vL_law_187 : tg_VS mL_law 187 mX9_write 1 := ⟨okX9_write, ⟨17, dL_law_187, mlL_17⟩, insX9_write, selX9_write, parX9_write, rfl, rfl, Nat.le_of_ble_eq_true rfl, Nat.le_of_ble_eq_true rfl⟩
theorem dL_law_190 : decode cL_law 190 = .ok (.if_icmp .eq 806, 3) := by decide +kernel
theorem lw_172 (hK : ∀ wc wr, J wc wr → tg_G l mL_law 0 K kc ks 996 (lvL i) [] (jn wc wr)) (h : J wc wr) (hi : i + 4 < l.2.1) (hL : l.2.1 ≤ 2560) : tg_G l mL_law 0 K kc ks 172 (lvL i) [] (jn wc wr) := (lw_a1 dL_law_172 (lw_arg 1 (by decide) dL_law_173 dL_law_174 dL_law_175 dL_law_176 dL_law_177 hi hL (lw_c8 [l.2.2 (i + 1)] vL_law_178 (J_write h) h rfl rfl (Nat.le_of_ble_eq_true rfl) (fun wc1 x h1 h2 => (lw_a2 dL_law_181 (lw_arg 1 (by decide) dL_law_182 dL_law_183 dL_law_184 dL_law_185 dL_law_186 hi hL (lw_c9 [l.2.2 (i + 1)] vL_law_187 h h1 h2 rfl rfl (Nat.le_of_ble_eq_true rfl) (fun wr1 h3 => g_icmp_eq (tgt := 996) dL_law_190 rfl (fun _ => hK _ _ h3) (fun q => absurd rfl q)))))))))
theorem dL_law_195 : decode cL_law 195 = .ok (.aload_n 1, 1) := by decide +kernel
theorem dL_law_196 : decode cL_law 196 = .ok (.invokevirtual 18, 3) := by decide +kernel
theorem vL_law_196 : tg_VS mL_law 196 mX8_erase 0 := ⟨okX8_erase, ⟨18, dL_law_196, mlL_18⟩, insX8_erase, selX8_erase, parX8_erase, rfl, rfl, Nat.le_of_ble_eq_true rfl, Nat.le_of_ble_eq_true rfl⟩
theorem dL_law_199 : decode cL_law 199 = .ok (.aload_n 2, 1) := by decide +kernel
theorem dL_law_200 : decode cL_law 200 = .ok (.invokevirtual 22, 3) := by decide +kernel
theorem vL_law_200 : tg_VS mL_law 200 mX9_erase 0 := ⟨okX9_erase, ⟨22, dL_law_200, mlL_22⟩, insX9_erase, selX9_erase, parX9_erase, rfl, rfl, Nat.le_of_ble_eq_true rfl, Nat.le_of_ble_eq_true rfl⟩
theorem dL_law_203 : decode cL_law 203 = .ok (.if_icmp .eq 793, 3) := by decide +kernel
theorem lw_195 (hK : ∀ wc wr, J wc wr → tg_G l mL_law 0 K kc ks 996 (lvL i) [] (jn wc wr)) (h : J wc wr) (hi : i + 4 < l.2.1) (hL : l.2.1 ≤ 2560) : tg_G l mL_law 0 K kc ks 195 (lvL i) [] (jn wc wr) := (lw_a1 dL_law_195 (lw_c8 [] vL_law_196 (J_erase h) h rfl rfl (Nat.le_of_ble_eq_true rfl) (fun wc1 x h1 h2 => (lw_a2 dL_law_199 (lw_c9 [] vL_law_200 h h1 h2 rfl rfl (Nat.le_of_ble_eq_true rfl) (fun wr1 h3 => g_icmp_eq (tgt := 996) dL_law_203 rfl (fun _ => hK _ _ h3) (fun q => absurd rfl q)))))))
theorem dL_law_208 : decode cL_law 208 = .ok (.aload_n 1, 1) := by decide +kernel
theorem dL_law_209 : decode cL_law 209 = .ok (.invokevirtual 23, 3) := by decide +kernel
theorem vL_law_209 : tg_VS mL_law 209 mX8_fault 0 := ⟨okX8_fault, ⟨23, dL_law_209, mlL_23⟩, insX8_fault, selX8_fault, parX8_fault, rfl, rfl, Nat.le_of_ble_eq_true rfl, Nat.le_of_ble_eq_true rfl⟩
theorem dL_law_212 : decode cL_law 212 = .ok (.aload_n 2, 1) := by decide +kernel
theorem dL_law_213 : decode cL_law 213 = .ok (.invokevirtual 26, 3) := by decide +kernel
theorem vL_law_213 : tg_VS mL_law 213 mX9_fault 0 := ⟨okX9_fault, ⟨26, dL_law_213, mlL_26⟩, insX9_fault, selX9_fault, parX9_fault, rfl, rfl, Nat.le_of_ble_eq_true rfl, Nat.le_of_ble_eq_true rfl⟩
theorem dL_law_216 : decode cL_law 216 = .ok (.if_icmp .eq 780, 3) := by decide +kernel
theorem lw_208 (hK : ∀ wc wr, J wc wr → tg_G l mL_law 0 K kc ks 996 (lvL i) [] (jn wc wr)) (h : J wc wr) (hi : i + 4 < l.2.1) (hL : l.2.1 ≤ 2560) : tg_G l mL_law 0 K kc ks 208 (lvL i) [] (jn wc wr) := (lw_a1 dL_law_208 (lw_c8 [] vL_law_209 (J_fault h) h rfl rfl (Nat.le_of_ble_eq_true rfl) (fun wc1 x h1 h2 => (lw_a2 dL_law_212 (lw_c9 [] vL_law_213 h h1 h2 rfl rfl (Nat.le_of_ble_eq_true rfl) (fun wr1 h3 => g_icmp_eq (tgt := 996) dL_law_216 rfl (fun _ => hK _ _ h3) (fun q => absurd rfl q)))))))
theorem dL_law_221 : decode cL_law 221 = .ok (.aload_n 1, 1) := by decide +kernel
theorem dL_law_222 : decode cL_law 222 = .ok (.invokevirtual 27, 3) := by decide +kernel
theorem vL_law_222 : tg_VS mL_law 222 mX8_read 0 := ⟨okX8_read, ⟨27, dL_law_222, mlL_27⟩, insX8_read, selX8_read, parX8_read, rfl, rfl, Nat.le_of_ble_eq_true rfl, Nat.le_of_ble_eq_true rfl⟩
theorem dL_law_225 : decode cL_law 225 = .ok (.aload_n 2, 1) := by decide +kernel
theorem dL_law_226 : decode cL_law 226 = .ok (.invokevirtual 30, 3) := by decide +kernel
theorem vL_law_226 : tg_VS mL_law 226 mX9_read 0 := ⟨okX9_read, ⟨30, dL_law_226, mlL_30⟩, insX9_read, selX9_read, parX9_read, rfl, rfl, Nat.le_of_ble_eq_true rfl, Nat.le_of_ble_eq_true rfl⟩
theorem dL_law_229 : decode cL_law 229 = .ok (.if_icmp .eq 767, 3) := by decide +kernel
theorem lw_221 (hK : ∀ wc wr, J wc wr → tg_G l mL_law 0 K kc ks 996 (lvL i) [] (jn wc wr)) (h : J wc wr) (hi : i + 4 < l.2.1) (hL : l.2.1 ≤ 2560) : tg_G l mL_law 0 K kc ks 221 (lvL i) [] (jn wc wr) := (lw_a1 dL_law_221 (lw_c8 [] vL_law_222 (J_read h) h rfl rfl (Nat.le_of_ble_eq_true rfl) (fun wc1 x h1 h2 => (lw_a2 dL_law_225 (lw_c9 [] vL_law_226 h h1 h2 rfl rfl (Nat.le_of_ble_eq_true rfl) (fun wr1 h3 => g_icmp_eq (tgt := 996) dL_law_229 rfl (fun _ => hK _ _ h3) (fun q => absurd rfl q)))))))
theorem dL_law_234 : decode cL_law 234 = .ok (.aload_n 1, 1) := by decide +kernel
theorem dL_law_235 : decode cL_law 235 = .ok (.aload_n 0, 1) := by decide +kernel
theorem dL_law_236 : decode cL_law 236 = .ok (.iload_n 3, 1) := by decide +kernel
theorem dL_law_237 : decode cL_law 237 = .ok (.iconst 1, 1) := by decide +kernel
theorem dL_law_238 : decode cL_law 238 = .ok (.iadd, 1) := by decide +kernel
theorem dL_law_239 : decode cL_law 239 = .ok (.iaload, 1) := by decide +kernel
theorem dL_law_240 : decode cL_law 240 = .ok (.aload_n 0, 1) := by decide +kernel
theorem dL_law_241 : decode cL_law 241 = .ok (.iload_n 3, 1) := by decide +kernel
theorem dL_law_242 : decode cL_law 242 = .ok (.iconst 2, 1) := by decide +kernel
theorem dL_law_243 : decode cL_law 243 = .ok (.iadd, 1) := by decide +kernel
theorem dL_law_244 : decode cL_law 244 = .ok (.iaload, 1) := by decide +kernel
theorem dL_law_245 : decode cL_law 245 = .ok (.invokevirtual 31, 3) := by decide +kernel
theorem vL_law_245 : tg_VS mL_law 245 mX8_add 2 := ⟨okX8_add, ⟨31, dL_law_245, mlL_31⟩, insX8_add, selX8_add, parX8_add, rfl, rfl, Nat.le_of_ble_eq_true rfl, Nat.le_of_ble_eq_true rfl⟩
theorem dL_law_248 : decode cL_law 248 = .ok (.aload_n 2, 1) := by decide +kernel
theorem dL_law_249 : decode cL_law 249 = .ok (.aload_n 0, 1) := by decide +kernel
theorem dL_law_250 : decode cL_law 250 = .ok (.iload_n 3, 1) := by decide +kernel
theorem dL_law_251 : decode cL_law 251 = .ok (.iconst 1, 1) := by decide +kernel
theorem dL_law_252 : decode cL_law 252 = .ok (.iadd, 1) := by decide +kernel
theorem dL_law_253 : decode cL_law 253 = .ok (.iaload, 1) := by decide +kernel
theorem dL_law_254 : decode cL_law 254 = .ok (.aload_n 0, 1) := by decide +kernel
theorem dL_law_255 : decode cL_law 255 = .ok (.iload_n 3, 1) := by decide +kernel
theorem dL_law_256 : decode cL_law 256 = .ok (.iconst 2, 1) := by decide +kernel
theorem dL_law_257 : decode cL_law 257 = .ok (.iadd, 1) := by decide +kernel
theorem dL_law_258 : decode cL_law 258 = .ok (.iaload, 1) := by decide +kernel
theorem dL_law_259 : decode cL_law 259 = .ok (.invokevirtual 35, 3) := by decide +kernel
theorem vL_law_259 : tg_VS mL_law 259 mX9_add 2 := ⟨okX9_add, ⟨35, dL_law_259, mlL_35⟩, insX9_add, selX9_add, parX9_add, rfl, rfl, Nat.le_of_ble_eq_true rfl, Nat.le_of_ble_eq_true rfl⟩
theorem dL_law_262 : decode cL_law 262 = .ok (.if_icmp .eq 734, 3) := by decide +kernel
theorem lw_234 (hK : ∀ wc wr, J wc wr → tg_G l mL_law 0 K kc ks 996 (lvL i) [] (jn wc wr)) (h : J wc wr) (hi : i + 4 < l.2.1) (hL : l.2.1 ≤ 2560) : tg_G l mL_law 0 K kc ks 234 (lvL i) [] (jn wc wr) := (lw_a1 dL_law_234 (lw_arg 1 (by decide) dL_law_235 dL_law_236 dL_law_237 dL_law_238 dL_law_239 hi hL (lw_arg 2 (by decide) dL_law_240 dL_law_241 dL_law_242 dL_law_243 dL_law_244 hi hL (lw_c8 [l.2.2 (i + 1), l.2.2 (i + 2)] vL_law_245 (J_add h) h rfl rfl (Nat.le_of_ble_eq_true rfl) (fun wc1 x h1 h2 => (lw_a2 dL_law_248 (lw_arg 1 (by decide) dL_law_249 dL_law_250 dL_law_251 dL_law_252 dL_law_253 hi hL (lw_arg 2 (by decide) dL_law_254 dL_law_255 dL_law_256 dL_law_257 dL_law_258 hi hL (lw_c9 [l.2.2 (i + 1), l.2.2 (i + 2)] vL_law_259 h h1 h2 rfl rfl (Nat.le_of_ble_eq_true rfl) (fun wr1 h3 => g_icmp_eq (tgt := 996) dL_law_262 rfl (fun _ => hK _ _ h3) (fun q => absurd rfl q)))))))))))
theorem dL_law_267 : decode cL_law 267 = .ok (.aload_n 1, 1) := by decide +kernel
theorem dL_law_268 : decode cL_law 268 = .ok (.aload_n 0, 1) := by decide +kernel
theorem dL_law_269 : decode cL_law 269 = .ok (.iload_n 3, 1) := by decide +kernel
theorem dL_law_270 : decode cL_law 270 = .ok (.iconst 1, 1) := by decide +kernel
theorem dL_law_271 : decode cL_law 271 = .ok (.iadd, 1) := by decide +kernel
theorem dL_law_272 : decode cL_law 272 = .ok (.iaload, 1) := by decide +kernel
theorem dL_law_273 : decode cL_law 273 = .ok (.invokevirtual 36, 3) := by decide +kernel
theorem vL_law_273 : tg_VS mL_law 273 mX8_remove 1 := ⟨okX8_remove, ⟨36, dL_law_273, mlL_36⟩, insX8_remove, selX8_remove, parX8_remove, rfl, rfl, Nat.le_of_ble_eq_true rfl, Nat.le_of_ble_eq_true rfl⟩
theorem dL_law_276 : decode cL_law 276 = .ok (.aload_n 2, 1) := by decide +kernel
theorem dL_law_277 : decode cL_law 277 = .ok (.aload_n 0, 1) := by decide +kernel
theorem dL_law_278 : decode cL_law 278 = .ok (.iload_n 3, 1) := by decide +kernel
theorem dL_law_279 : decode cL_law 279 = .ok (.iconst 1, 1) := by decide +kernel
theorem dL_law_280 : decode cL_law 280 = .ok (.iadd, 1) := by decide +kernel
theorem dL_law_281 : decode cL_law 281 = .ok (.iaload, 1) := by decide +kernel
theorem dL_law_282 : decode cL_law 282 = .ok (.invokevirtual 39, 3) := by decide +kernel
theorem vL_law_282 : tg_VS mL_law 282 mX9_remove 1 := ⟨okX9_remove, ⟨39, dL_law_282, mlL_39⟩, insX9_remove, selX9_remove, parX9_remove, rfl, rfl, Nat.le_of_ble_eq_true rfl, Nat.le_of_ble_eq_true rfl⟩
theorem dL_law_285 : decode cL_law 285 = .ok (.if_icmp .eq 711, 3) := by decide +kernel
theorem lw_267 (hK : ∀ wc wr, J wc wr → tg_G l mL_law 0 K kc ks 996 (lvL i) [] (jn wc wr)) (h : J wc wr) (hi : i + 4 < l.2.1) (hL : l.2.1 ≤ 2560) : tg_G l mL_law 0 K kc ks 267 (lvL i) [] (jn wc wr) := (lw_a1 dL_law_267 (lw_arg 1 (by decide) dL_law_268 dL_law_269 dL_law_270 dL_law_271 dL_law_272 hi hL (lw_c8 [l.2.2 (i + 1)] vL_law_273 (J_remove h) h rfl rfl (Nat.le_of_ble_eq_true rfl) (fun wc1 x h1 h2 => (lw_a2 dL_law_276 (lw_arg 1 (by decide) dL_law_277 dL_law_278 dL_law_279 dL_law_280 dL_law_281 hi hL (lw_c9 [l.2.2 (i + 1)] vL_law_282 h h1 h2 rfl rfl (Nat.le_of_ble_eq_true rfl) (fun wr1 h3 => g_icmp_eq (tgt := 996) dL_law_285 rfl (fun _ => hK _ _ h3) (fun q => absurd rfl q)))))))))
theorem dL_law_290 : decode cL_law 290 = .ok (.aload_n 1, 1) := by decide +kernel
theorem dL_law_291 : decode cL_law 291 = .ok (.aload_n 0, 1) := by decide +kernel
theorem dL_law_292 : decode cL_law 292 = .ok (.iload_n 3, 1) := by decide +kernel
theorem dL_law_293 : decode cL_law 293 = .ok (.iconst 1, 1) := by decide +kernel
theorem dL_law_294 : decode cL_law 294 = .ok (.iadd, 1) := by decide +kernel
theorem dL_law_295 : decode cL_law 295 = .ok (.iaload, 1) := by decide +kernel
theorem dL_law_296 : decode cL_law 296 = .ok (.invokevirtual 40, 3) := by decide +kernel
theorem vL_law_296 : tg_VS mL_law 296 mX8_support 1 := ⟨okX8_support, ⟨40, dL_law_296, mlL_40⟩, insX8_support, selX8_support, parX8_support, rfl, rfl, Nat.le_of_ble_eq_true rfl, Nat.le_of_ble_eq_true rfl⟩
theorem dL_law_299 : decode cL_law 299 = .ok (.aload_n 2, 1) := by decide +kernel
theorem dL_law_300 : decode cL_law 300 = .ok (.aload_n 0, 1) := by decide +kernel
theorem dL_law_301 : decode cL_law 301 = .ok (.iload_n 3, 1) := by decide +kernel
theorem dL_law_302 : decode cL_law 302 = .ok (.iconst 1, 1) := by decide +kernel
theorem dL_law_303 : decode cL_law 303 = .ok (.iadd, 1) := by decide +kernel
theorem dL_law_304 : decode cL_law 304 = .ok (.iaload, 1) := by decide +kernel
theorem dL_law_305 : decode cL_law 305 = .ok (.invokevirtual 43, 3) := by decide +kernel
theorem vL_law_305 : tg_VS mL_law 305 mX9_support 1 := ⟨okX9_support, ⟨43, dL_law_305, mlL_43⟩, insX9_support, selX9_support, parX9_support, rfl, rfl, Nat.le_of_ble_eq_true rfl, Nat.le_of_ble_eq_true rfl⟩
theorem dL_law_308 : decode cL_law 308 = .ok (.if_icmp .eq 688, 3) := by decide +kernel
theorem lw_290 (hK : ∀ wc wr, J wc wr → tg_G l mL_law 0 K kc ks 996 (lvL i) [] (jn wc wr)) (h : J wc wr) (hi : i + 4 < l.2.1) (hL : l.2.1 ≤ 2560) : tg_G l mL_law 0 K kc ks 290 (lvL i) [] (jn wc wr) := (lw_a1 dL_law_290 (lw_arg 1 (by decide) dL_law_291 dL_law_292 dL_law_293 dL_law_294 dL_law_295 hi hL (lw_c8 [l.2.2 (i + 1)] vL_law_296 (J_support h) h rfl rfl (Nat.le_of_ble_eq_true rfl) (fun wc1 x h1 h2 => (lw_a2 dL_law_299 (lw_arg 1 (by decide) dL_law_300 dL_law_301 dL_law_302 dL_law_303 dL_law_304 hi hL (lw_c9 [l.2.2 (i + 1)] vL_law_305 h h1 h2 rfl rfl (Nat.le_of_ble_eq_true rfl) (fun wr1 h3 => g_icmp_eq (tgt := 996) dL_law_308 rfl (fun _ => hK _ _ h3) (fun q => absurd rfl q)))))))))
theorem dL_law_313 : decode cL_law 313 = .ok (.aload_n 1, 1) := by decide +kernel
theorem dL_law_314 : decode cL_law 314 = .ok (.invokevirtual 44, 3) := by decide +kernel
theorem vL_law_314 : tg_VS mL_law 314 mX8_undo 0 := ⟨okX8_undo, ⟨44, dL_law_314, mlL_44⟩, insX8_undo, selX8_undo, parX8_undo, rfl, rfl, Nat.le_of_ble_eq_true rfl, Nat.le_of_ble_eq_true rfl⟩
theorem dL_law_317 : decode cL_law 317 = .ok (.aload_n 2, 1) := by decide +kernel
theorem dL_law_318 : decode cL_law 318 = .ok (.invokevirtual 47, 3) := by decide +kernel
theorem vL_law_318 : tg_VS mL_law 318 mX9_undo 0 := ⟨okX9_undo, ⟨47, dL_law_318, mlL_47⟩, insX9_undo, selX9_undo, parX9_undo, rfl, rfl, Nat.le_of_ble_eq_true rfl, Nat.le_of_ble_eq_true rfl⟩
theorem dL_law_321 : decode cL_law 321 = .ok (.if_icmp .eq 675, 3) := by decide +kernel
theorem lw_313 (hK : ∀ wc wr, J wc wr → tg_G l mL_law 0 K kc ks 996 (lvL i) [] (jn wc wr)) (h : J wc wr) (hi : i + 4 < l.2.1) (hL : l.2.1 ≤ 2560) : tg_G l mL_law 0 K kc ks 313 (lvL i) [] (jn wc wr) := (lw_a1 dL_law_313 (lw_c8 [] vL_law_314 (J_undo h) h rfl rfl (Nat.le_of_ble_eq_true rfl) (fun wc1 x h1 h2 => (lw_a2 dL_law_317 (lw_c9 [] vL_law_318 h h1 h2 rfl rfl (Nat.le_of_ble_eq_true rfl) (fun wr1 h3 => g_icmp_eq (tgt := 996) dL_law_321 rfl (fun _ => hK _ _ h3) (fun q => absurd rfl q)))))))
end LAWC
