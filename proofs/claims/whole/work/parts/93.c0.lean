/-! the law's cases 0 to 7 -/
theorem dL_law_176 : decode code 176 = .ok (.aload_n 1, 1) := by decide +kernel
theorem dL_law_177 : decode code 177 = .ok (.aload_n 0, 1) := by decide +kernel
theorem dL_law_178 : decode code 178 = .ok (.iload_n 3, 1) := by decide +kernel
theorem dL_law_179 : decode code 179 = .ok (.iconst 1, 1) := by decide +kernel
theorem dL_law_180 : decode code 180 = .ok (.iadd, 1) := by decide +kernel
theorem dL_law_181 : decode code 181 = .ok (.iaload, 1) := by decide +kernel
theorem dL_law_182 : decode code 182 = .ok (.aload_n 0, 1) := by decide +kernel
theorem dL_law_183 : decode code 183 = .ok (.iload_n 3, 1) := by decide +kernel
theorem dL_law_184 : decode code 184 = .ok (.iconst 2, 1) := by decide +kernel
theorem dL_law_185 : decode code 185 = .ok (.iadd, 1) := by decide +kernel
theorem dL_law_186 : decode code 186 = .ok (.iaload, 1) := by decide +kernel
theorem dL_law_187 : decode code 187 = .ok (.aload_n 0, 1) := by decide +kernel
theorem dL_law_188 : decode code 188 = .ok (.iload_n 3, 1) := by decide +kernel
theorem dL_law_189 : decode code 189 = .ok (.iconst 3, 1) := by decide +kernel
theorem dL_law_190 : decode code 190 = .ok (.iadd, 1) := by decide +kernel
theorem dL_law_191 : decode code 191 = .ok (.iaload, 1) := by decide +kernel
theorem dL_law_192 : decode code 192 = .ok (.aload_n 0, 1) := by decide +kernel
theorem dL_law_193 : decode code 193 = .ok (.iload_n 3, 1) := by decide +kernel
theorem dL_law_194 : decode code 194 = .ok (.iconst 4, 1) := by decide +kernel
theorem dL_law_195 : decode code 195 = .ok (.iadd, 1) := by decide +kernel
theorem dL_law_196 : decode code 196 = .ok (.iaload, 1) := by decide +kernel
theorem dL_law_197 : decode code 197 = .ok (.aload_n 0, 1) := by decide +kernel
theorem dL_law_198 : decode code 198 = .ok (.iload_n 3, 1) := by decide +kernel
theorem dL_law_199 : decode code 199 = .ok (.iconst 5, 1) := by decide +kernel
theorem dL_law_200 : decode code 200 = .ok (.iadd, 1) := by decide +kernel
theorem dL_law_201 : decode code 201 = .ok (.iaload, 1) := by decide +kernel
theorem dL_law_202 : decode code 202 = .ok (.invokevirtual 13, 3) := by decide +kernel
theorem dL_law_205 : decode code 205 = .ok (.aload_n 2, 1) := by decide +kernel
theorem dL_law_206 : decode code 206 = .ok (.aload_n 0, 1) := by decide +kernel
theorem dL_law_207 : decode code 207 = .ok (.iload_n 3, 1) := by decide +kernel
theorem dL_law_208 : decode code 208 = .ok (.iconst 1, 1) := by decide +kernel
theorem dL_law_209 : decode code 209 = .ok (.iadd, 1) := by decide +kernel
theorem dL_law_210 : decode code 210 = .ok (.iaload, 1) := by decide +kernel
theorem dL_law_211 : decode code 211 = .ok (.aload_n 0, 1) := by decide +kernel
theorem dL_law_212 : decode code 212 = .ok (.iload_n 3, 1) := by decide +kernel
theorem dL_law_213 : decode code 213 = .ok (.iconst 2, 1) := by decide +kernel
theorem dL_law_214 : decode code 214 = .ok (.iadd, 1) := by decide +kernel
theorem dL_law_215 : decode code 215 = .ok (.iaload, 1) := by decide +kernel
theorem dL_law_216 : decode code 216 = .ok (.aload_n 0, 1) := by decide +kernel
theorem dL_law_217 : decode code 217 = .ok (.iload_n 3, 1) := by decide +kernel
theorem dL_law_218 : decode code 218 = .ok (.iconst 3, 1) := by decide +kernel
theorem dL_law_219 : decode code 219 = .ok (.iadd, 1) := by decide +kernel
theorem dL_law_220 : decode code 220 = .ok (.iaload, 1) := by decide +kernel
theorem dL_law_221 : decode code 221 = .ok (.aload_n 0, 1) := by decide +kernel
theorem dL_law_222 : decode code 222 = .ok (.iload_n 3, 1) := by decide +kernel
theorem dL_law_223 : decode code 223 = .ok (.iconst 4, 1) := by decide +kernel
theorem dL_law_224 : decode code 224 = .ok (.iadd, 1) := by decide +kernel
theorem dL_law_225 : decode code 225 = .ok (.iaload, 1) := by decide +kernel
theorem dL_law_226 : decode code 226 = .ok (.aload_n 0, 1) := by decide +kernel
theorem dL_law_227 : decode code 227 = .ok (.iload_n 3, 1) := by decide +kernel
theorem dL_law_228 : decode code 228 = .ok (.iconst 5, 1) := by decide +kernel
theorem dL_law_229 : decode code 229 = .ok (.iadd, 1) := by decide +kernel
theorem dL_law_230 : decode code 230 = .ok (.iaload, 1) := by decide +kernel
theorem dL_law_231 : decode code 231 = .ok (.invokevirtual 17, 3) := by decide +kernel
theorem dL_law_234 : decode code 234 = .ok (.if_icmp .eq 928, 3) := by decide +kernel
theorem dL_law_239 : decode code 239 = .ok (.aload_n 1, 1) := by decide +kernel
theorem dL_law_240 : decode code 240 = .ok (.aload_n 0, 1) := by decide +kernel
theorem dL_law_241 : decode code 241 = .ok (.iload_n 3, 1) := by decide +kernel
theorem dL_law_242 : decode code 242 = .ok (.iconst 1, 1) := by decide +kernel
theorem dL_law_243 : decode code 243 = .ok (.iadd, 1) := by decide +kernel
theorem dL_law_244 : decode code 244 = .ok (.iaload, 1) := by decide +kernel
theorem dL_law_245 : decode code 245 = .ok (.invokevirtual 18, 3) := by decide +kernel
theorem dL_law_248 : decode code 248 = .ok (.aload_n 2, 1) := by decide +kernel
theorem dL_law_249 : decode code 249 = .ok (.aload_n 0, 1) := by decide +kernel
theorem dL_law_250 : decode code 250 = .ok (.iload_n 3, 1) := by decide +kernel
theorem dL_law_251 : decode code 251 = .ok (.iconst 1, 1) := by decide +kernel
theorem dL_law_252 : decode code 252 = .ok (.iadd, 1) := by decide +kernel
theorem dL_law_253 : decode code 253 = .ok (.iaload, 1) := by decide +kernel
theorem dL_law_254 : decode code 254 = .ok (.invokevirtual 22, 3) := by decide +kernel
theorem dL_law_257 : decode code 257 = .ok (.if_icmp .eq 905, 3) := by decide +kernel
theorem dL_law_262 : decode code 262 = .ok (.aload_n 1, 1) := by decide +kernel
theorem dL_law_263 : decode code 263 = .ok (.invokevirtual 23, 3) := by decide +kernel
theorem dL_law_266 : decode code 266 = .ok (.aload_n 2, 1) := by decide +kernel
theorem dL_law_267 : decode code 267 = .ok (.invokevirtual 27, 3) := by decide +kernel
theorem dL_law_270 : decode code 270 = .ok (.if_icmp .eq 892, 3) := by decide +kernel
theorem dL_law_275 : decode code 275 = .ok (.aload_n 1, 1) := by decide +kernel
theorem dL_law_276 : decode code 276 = .ok (.invokevirtual 28, 3) := by decide +kernel
theorem dL_law_279 : decode code 279 = .ok (.aload_n 2, 1) := by decide +kernel
theorem dL_law_280 : decode code 280 = .ok (.invokevirtual 31, 3) := by decide +kernel
theorem dL_law_283 : decode code 283 = .ok (.if_icmp .eq 879, 3) := by decide +kernel
theorem dL_law_288 : decode code 288 = .ok (.aload_n 1, 1) := by decide +kernel
theorem dL_law_289 : decode code 289 = .ok (.aload_n 0, 1) := by decide +kernel
theorem dL_law_290 : decode code 290 = .ok (.iload_n 3, 1) := by decide +kernel
theorem dL_law_291 : decode code 291 = .ok (.iconst 1, 1) := by decide +kernel
theorem dL_law_292 : decode code 292 = .ok (.iadd, 1) := by decide +kernel
theorem dL_law_293 : decode code 293 = .ok (.iaload, 1) := by decide +kernel
theorem dL_law_294 : decode code 294 = .ok (.invokevirtual 32, 3) := by decide +kernel
theorem dL_law_297 : decode code 297 = .ok (.aload_n 2, 1) := by decide +kernel
theorem dL_law_298 : decode code 298 = .ok (.aload_n 0, 1) := by decide +kernel
theorem dL_law_299 : decode code 299 = .ok (.iload_n 3, 1) := by decide +kernel
theorem dL_law_300 : decode code 300 = .ok (.iconst 1, 1) := by decide +kernel
theorem dL_law_301 : decode code 301 = .ok (.iadd, 1) := by decide +kernel
theorem dL_law_302 : decode code 302 = .ok (.iaload, 1) := by decide +kernel
theorem dL_law_303 : decode code 303 = .ok (.invokevirtual 36, 3) := by decide +kernel
theorem dL_law_306 : decode code 306 = .ok (.if_icmp .eq 856, 3) := by decide +kernel
theorem dL_law_311 : decode code 311 = .ok (.aload_n 1, 1) := by decide +kernel
theorem dL_law_312 : decode code 312 = .ok (.aload_n 0, 1) := by decide +kernel
theorem dL_law_313 : decode code 313 = .ok (.iload_n 3, 1) := by decide +kernel
theorem dL_law_314 : decode code 314 = .ok (.iconst 1, 1) := by decide +kernel
theorem dL_law_315 : decode code 315 = .ok (.iadd, 1) := by decide +kernel
theorem dL_law_316 : decode code 316 = .ok (.iaload, 1) := by decide +kernel
theorem dL_law_317 : decode code 317 = .ok (.invokevirtual 37, 3) := by decide +kernel
theorem dL_law_320 : decode code 320 = .ok (.aload_n 2, 1) := by decide +kernel
theorem dL_law_321 : decode code 321 = .ok (.aload_n 0, 1) := by decide +kernel
theorem dL_law_322 : decode code 322 = .ok (.iload_n 3, 1) := by decide +kernel
theorem dL_law_323 : decode code 323 = .ok (.iconst 1, 1) := by decide +kernel
theorem dL_law_324 : decode code 324 = .ok (.iadd, 1) := by decide +kernel
theorem dL_law_325 : decode code 325 = .ok (.iaload, 1) := by decide +kernel
theorem dL_law_326 : decode code 326 = .ok (.invokevirtual 40, 3) := by decide +kernel
theorem dL_law_329 : decode code 329 = .ok (.if_icmp .eq 833, 3) := by decide +kernel
theorem dL_law_334 : decode code 334 = .ok (.aload_n 1, 1) := by decide +kernel
theorem dL_law_335 : decode code 335 = .ok (.aload_n 0, 1) := by decide +kernel
theorem dL_law_336 : decode code 336 = .ok (.iload_n 3, 1) := by decide +kernel
theorem dL_law_337 : decode code 337 = .ok (.iconst 1, 1) := by decide +kernel
theorem dL_law_338 : decode code 338 = .ok (.iadd, 1) := by decide +kernel
theorem dL_law_339 : decode code 339 = .ok (.iaload, 1) := by decide +kernel
theorem dL_law_340 : decode code 340 = .ok (.aload_n 0, 1) := by decide +kernel
theorem dL_law_341 : decode code 341 = .ok (.iload_n 3, 1) := by decide +kernel
theorem dL_law_342 : decode code 342 = .ok (.iconst 2, 1) := by decide +kernel
theorem dL_law_343 : decode code 343 = .ok (.iadd, 1) := by decide +kernel
theorem dL_law_344 : decode code 344 = .ok (.iaload, 1) := by decide +kernel
theorem dL_law_345 : decode code 345 = .ok (.invokevirtual 41, 3) := by decide +kernel
theorem dL_law_348 : decode code 348 = .ok (.aload_n 2, 1) := by decide +kernel
theorem dL_law_349 : decode code 349 = .ok (.aload_n 0, 1) := by decide +kernel
theorem dL_law_350 : decode code 350 = .ok (.iload_n 3, 1) := by decide +kernel
theorem dL_law_351 : decode code 351 = .ok (.iconst 1, 1) := by decide +kernel
theorem dL_law_352 : decode code 352 = .ok (.iadd, 1) := by decide +kernel
theorem dL_law_353 : decode code 353 = .ok (.iaload, 1) := by decide +kernel
theorem dL_law_354 : decode code 354 = .ok (.aload_n 0, 1) := by decide +kernel
theorem dL_law_355 : decode code 355 = .ok (.iload_n 3, 1) := by decide +kernel
theorem dL_law_356 : decode code 356 = .ok (.iconst 2, 1) := by decide +kernel
theorem dL_law_357 : decode code 357 = .ok (.iadd, 1) := by decide +kernel
theorem dL_law_358 : decode code 358 = .ok (.iaload, 1) := by decide +kernel
theorem dL_law_359 : decode code 359 = .ok (.invokevirtual 45, 3) := by decide +kernel
theorem dL_law_362 : decode code 362 = .ok (.if_icmp .eq 800, 3) := by decide +kernel
theorem dL_law_367 : decode code 367 = .ok (.aload_n 1, 1) := by decide +kernel
theorem dL_law_368 : decode code 368 = .ok (.aload_n 0, 1) := by decide +kernel
theorem dL_law_369 : decode code 369 = .ok (.iload_n 3, 1) := by decide +kernel
theorem dL_law_370 : decode code 370 = .ok (.iconst 1, 1) := by decide +kernel
theorem dL_law_371 : decode code 371 = .ok (.iadd, 1) := by decide +kernel
theorem dL_law_372 : decode code 372 = .ok (.iaload, 1) := by decide +kernel
theorem dL_law_373 : decode code 373 = .ok (.aload_n 0, 1) := by decide +kernel
theorem dL_law_374 : decode code 374 = .ok (.iload_n 3, 1) := by decide +kernel
theorem dL_law_375 : decode code 375 = .ok (.iconst 2, 1) := by decide +kernel
theorem dL_law_376 : decode code 376 = .ok (.iadd, 1) := by decide +kernel
theorem dL_law_377 : decode code 377 = .ok (.iaload, 1) := by decide +kernel
theorem dL_law_378 : decode code 378 = .ok (.invokevirtual 46, 3) := by decide +kernel
theorem dL_law_381 : decode code 381 = .ok (.aload_n 2, 1) := by decide +kernel
theorem dL_law_382 : decode code 382 = .ok (.aload_n 0, 1) := by decide +kernel
theorem dL_law_383 : decode code 383 = .ok (.iload_n 3, 1) := by decide +kernel
theorem dL_law_384 : decode code 384 = .ok (.iconst 1, 1) := by decide +kernel
theorem dL_law_385 : decode code 385 = .ok (.iadd, 1) := by decide +kernel
theorem dL_law_386 : decode code 386 = .ok (.iaload, 1) := by decide +kernel
theorem dL_law_387 : decode code 387 = .ok (.aload_n 0, 1) := by decide +kernel
theorem dL_law_388 : decode code 388 = .ok (.iload_n 3, 1) := by decide +kernel
theorem dL_law_389 : decode code 389 = .ok (.iconst 2, 1) := by decide +kernel
theorem dL_law_390 : decode code 390 = .ok (.iadd, 1) := by decide +kernel
theorem dL_law_391 : decode code 391 = .ok (.iaload, 1) := by decide +kernel
theorem dL_law_392 : decode code 392 = .ok (.invokevirtual 49, 3) := by decide +kernel
theorem dL_law_395 : decode code 395 = .ok (.if_icmp .eq 767, 3) := by decide +kernel
section LC
variable {κ : gK} {B b L i c0 w0 : Nat} {Q : State → Prop} {T : gT} {N : gN} {P : List gN} {S : gS} {u v : gM} {xs : Nat → Int32}
theorem lc_0 (X : gXJ κ (gAb B) code 4 RL ret 16 600 600000 7302250) (hsc : gScr b L xs (gAb B) κ) (hi : i + 6 ≤ L) (hL : L ≤ 3072) (hcw : c0 ≤ 600000 ∧ w0 ≤ 7302250) (hR : RR T N P S u v) (kb : ∀ (T : gT) (N : gN) (P : List gN) (S : gS) (u v : gM), RR T N P S u v → gJ κ 4 (gAb B) Q c0 w0 (gW2 B u v) 1162 [some (.ref b), some (.ref B), some (.ref (B + 162)), some (.int (nI i))] []) : gJ κ 4 (gAb B) Q c0 w0 (gW2 B u v) 176 [some (.ref b), some (.ref B), some (.ref (B + 162)), some (.int (nI i))] [] := by
  obtain ⟨r, u1, v1, T1, N1, P1, S1, e1, e2, hR1⟩ := o_feed (xs (i + 1)) (xs (i + 2)) (xs (i + 3)) (xs (i + 4)) (xs (i + 5)) hR
  refine j_aload_n X (x := B) dL_law_176 rfl ?_
  refine j_arg (k := 1) X hsc rfl (by omega) hL (by decide) dL_law_177 dL_law_178 dL_law_179 dL_law_180 dL_law_181 ?_
  refine j_arg (k := 2) X hsc rfl (by omega) hL (by decide) dL_law_182 dL_law_183 dL_law_184 dL_law_185 dL_law_186 ?_
  refine j_arg (k := 3) X hsc rfl (by omega) hL (by decide) dL_law_187 dL_law_188 dL_law_189 dL_law_190 dL_law_191 ?_
  refine j_arg (k := 4) X hsc rfl (by omega) hL (by decide) dL_law_192 dL_law_193 dL_law_194 dL_law_195 dL_law_196 ?_
  refine j_arg (k := 5) X hsc rfl (by omega) hL (by decide) dL_law_197 dL_law_198 dL_law_199 dL_law_200 dL_law_201 ?_
  refine j_call1 (rest := []) X [.int (xs (i + 1)), .int (xs (i + 2)), .int (xs (i + 3)), .int (xs (i + 4)), .int (xs (i + 5))] (s_X11_feed e1) cvL_13 rfl rfl (Nat.le_of_ble_eq_true rfl) ⟨by decide, by decide⟩ hcw dL_law_202 ?_
  refine j_aload_n X (x := B + 162) dL_law_205 rfl ?_
  refine j_arg (k := 1) X hsc rfl (by omega) hL (by decide) dL_law_206 dL_law_207 dL_law_208 dL_law_209 dL_law_210 ?_
  refine j_arg (k := 2) X hsc rfl (by omega) hL (by decide) dL_law_211 dL_law_212 dL_law_213 dL_law_214 dL_law_215 ?_
  refine j_arg (k := 3) X hsc rfl (by omega) hL (by decide) dL_law_216 dL_law_217 dL_law_218 dL_law_219 dL_law_220 ?_
  refine j_arg (k := 4) X hsc rfl (by omega) hL (by decide) dL_law_221 dL_law_222 dL_law_223 dL_law_224 dL_law_225 ?_
  refine j_arg (k := 5) X hsc rfl (by omega) hL (by decide) dL_law_226 dL_law_227 dL_law_228 dL_law_229 dL_law_230 ?_
  refine j_call2 (rest := [.int r]) X [.int (xs (i + 1)), .int (xs (i + 2)), .int (xs (i + 3)), .int (xs (i + 4)), .int (xs (i + 5))] (s_X12_feed e2) cvL_17 rfl rfl (Nat.le_of_ble_eq_true rfl) ⟨by decide, by decide⟩ hcw dL_law_231 ?_
  exact j_icmp_eq (tgt := 1162) X dL_law_234 (by decide) (fun _ => kb _ _ _ _ _ _ hR1) (fun q => absurd rfl q)
theorem lc_1 (X : gXJ κ (gAb B) code 4 RL ret 16 600 600000 7302250) (hsc : gScr b L xs (gAb B) κ) (hi : i + 6 ≤ L) (hL : L ≤ 3072) (hcw : c0 ≤ 600000 ∧ w0 ≤ 7302250) (hR : RR T N P S u v) (kb : ∀ (T : gT) (N : gN) (P : List gN) (S : gS) (u v : gM), RR T N P S u v → gJ κ 4 (gAb B) Q c0 w0 (gW2 B u v) 1162 [some (.ref b), some (.ref B), some (.ref (B + 162)), some (.int (nI i))] []) : gJ κ 4 (gAb B) Q c0 w0 (gW2 B u v) 239 [some (.ref b), some (.ref B), some (.ref (B + 162)), some (.int (nI i))] [] := by
  obtain ⟨r, u1, v1, T1, N1, P1, S1, e1, e2, hR1⟩ := o_end (xs (i + 1)) hR
  refine j_aload_n X (x := B) dL_law_239 rfl ?_
  refine j_arg (k := 1) X hsc rfl (by omega) hL (by decide) dL_law_240 dL_law_241 dL_law_242 dL_law_243 dL_law_244 ?_
  refine j_call1 (rest := []) X [.int (xs (i + 1))] (s_X11_end e1) cvL_18 rfl rfl (Nat.le_of_ble_eq_true rfl) ⟨by decide, by decide⟩ hcw dL_law_245 ?_
  refine j_aload_n X (x := B + 162) dL_law_248 rfl ?_
  refine j_arg (k := 1) X hsc rfl (by omega) hL (by decide) dL_law_249 dL_law_250 dL_law_251 dL_law_252 dL_law_253 ?_
  refine j_call2 (rest := [.int r]) X [.int (xs (i + 1))] (s_X12_end e2) cvL_22 rfl rfl (Nat.le_of_ble_eq_true rfl) ⟨by decide, by decide⟩ hcw dL_law_254 ?_
  exact j_icmp_eq (tgt := 1162) X dL_law_257 (by decide) (fun _ => kb _ _ _ _ _ _ hR1) (fun q => absurd rfl q)
theorem lc_2 (X : gXJ κ (gAb B) code 4 RL ret 16 600 600000 7302250) (hsc : gScr b L xs (gAb B) κ) (hi : i + 6 ≤ L) (hL : L ≤ 3072) (hcw : c0 ≤ 600000 ∧ w0 ≤ 7302250) (hR : RR T N P S u v) (kb : ∀ (T : gT) (N : gN) (P : List gN) (S : gS) (u v : gM), RR T N P S u v → gJ κ 4 (gAb B) Q c0 w0 (gW2 B u v) 1162 [some (.ref b), some (.ref B), some (.ref (B + 162)), some (.int (nI i))] []) : gJ κ 4 (gAb B) Q c0 w0 (gW2 B u v) 262 [some (.ref b), some (.ref B), some (.ref (B + 162)), some (.int (nI i))] [] := by
  obtain ⟨r, u1, v1, T1, N1, P1, S1, e1, e2, hR1⟩ := o_book  hR
  refine j_aload_n X (x := B) dL_law_262 rfl ?_
  refine j_call1 (rest := []) X [] (s_X11_book e1) cvL_23 rfl rfl (Nat.le_of_ble_eq_true rfl) ⟨by decide, by decide⟩ hcw dL_law_263 ?_
  refine j_aload_n X (x := B + 162) dL_law_266 rfl ?_
  refine j_call2 (rest := [.int r]) X [] (s_X12_book e2) cvL_27 rfl rfl (Nat.le_of_ble_eq_true rfl) ⟨by decide, by decide⟩ hcw dL_law_267 ?_
  exact j_icmp_eq (tgt := 1162) X dL_law_270 (by decide) (fun _ => kb _ _ _ _ _ _ hR1) (fun q => absurd rfl q)
theorem lc_3 (X : gXJ κ (gAb B) code 4 RL ret 16 600 600000 7302250) (hsc : gScr b L xs (gAb B) κ) (hi : i + 6 ≤ L) (hL : L ≤ 3072) (hcw : c0 ≤ 600000 ∧ w0 ≤ 7302250) (hR : RR T N P S u v) (kb : ∀ (T : gT) (N : gN) (P : List gN) (S : gS) (u v : gM), RR T N P S u v → gJ κ 4 (gAb B) Q c0 w0 (gW2 B u v) 1162 [some (.ref b), some (.ref B), some (.ref (B + 162)), some (.int (nI i))] []) : gJ κ 4 (gAb B) Q c0 w0 (gW2 B u v) 275 [some (.ref b), some (.ref B), some (.ref (B + 162)), some (.int (nI i))] [] := by
  obtain ⟨r, u1, v1, T1, N1, P1, S1, e1, e2, hR1⟩ := o_day  hR
  refine j_aload_n X (x := B) dL_law_275 rfl ?_
  refine j_call1 (rest := []) X [] (s_X11_day e1) cvL_28 rfl rfl (Nat.le_of_ble_eq_true rfl) ⟨by decide, by decide⟩ hcw dL_law_276 ?_
  refine j_aload_n X (x := B + 162) dL_law_279 rfl ?_
  refine j_call2 (rest := [.int r]) X [] (s_X12_day e2) cvL_31 rfl rfl (Nat.le_of_ble_eq_true rfl) ⟨by decide, by decide⟩ hcw dL_law_280 ?_
  exact j_icmp_eq (tgt := 1162) X dL_law_283 (by decide) (fun _ => kb _ _ _ _ _ _ hR1) (fun q => absurd rfl q)
theorem lc_4 (X : gXJ κ (gAb B) code 4 RL ret 16 600 600000 7302250) (hsc : gScr b L xs (gAb B) κ) (hi : i + 6 ≤ L) (hL : L ≤ 3072) (hcw : c0 ≤ 600000 ∧ w0 ≤ 7302250) (hR : RR T N P S u v) (kb : ∀ (T : gT) (N : gN) (P : List gN) (S : gS) (u v : gM), RR T N P S u v → gJ κ 4 (gAb B) Q c0 w0 (gW2 B u v) 1162 [some (.ref b), some (.ref B), some (.ref (B + 162)), some (.int (nI i))] []) : gJ κ 4 (gAb B) Q c0 w0 (gW2 B u v) 288 [some (.ref b), some (.ref B), some (.ref (B + 162)), some (.int (nI i))] [] := by
  obtain ⟨r, e1, e2⟩ := o_fault (xs (i + 1)) hR
  refine j_aload_n X (x := B) dL_law_288 rfl ?_
  refine j_arg (k := 1) X hsc rfl (by omega) hL (by decide) dL_law_289 dL_law_290 dL_law_291 dL_law_292 dL_law_293 ?_
  refine j_call1 (rest := []) X [.int (xs (i + 1))] (s_X11_fault e1) cvL_32 rfl rfl (Nat.le_of_ble_eq_true rfl) ⟨by decide, by decide⟩ hcw dL_law_294 ?_
  refine j_aload_n X (x := B + 162) dL_law_297 rfl ?_
  refine j_arg (k := 1) X hsc rfl (by omega) hL (by decide) dL_law_298 dL_law_299 dL_law_300 dL_law_301 dL_law_302 ?_
  refine j_call2 (rest := [.int r]) X [.int (xs (i + 1))] (s_X12_fault e2) cvL_36 rfl rfl (Nat.le_of_ble_eq_true rfl) ⟨by decide, by decide⟩ hcw dL_law_303 ?_
  exact j_icmp_eq (tgt := 1162) X dL_law_306 (by decide) (fun _ => kb _ _ _ _ _ _ hR) (fun q => absurd rfl q)
theorem lc_5 (X : gXJ κ (gAb B) code 4 RL ret 16 600 600000 7302250) (hsc : gScr b L xs (gAb B) κ) (hi : i + 6 ≤ L) (hL : L ≤ 3072) (hcw : c0 ≤ 600000 ∧ w0 ≤ 7302250) (hR : RR T N P S u v) (kb : ∀ (T : gT) (N : gN) (P : List gN) (S : gS) (u v : gM), RR T N P S u v → gJ κ 4 (gAb B) Q c0 w0 (gW2 B u v) 1162 [some (.ref b), some (.ref B), some (.ref (B + 162)), some (.int (nI i))] []) : gJ κ 4 (gAb B) Q c0 w0 (gW2 B u v) 311 [some (.ref b), some (.ref B), some (.ref (B + 162)), some (.int (nI i))] [] := by
  obtain ⟨r, u1, v1, T1, N1, P1, S1, e1, e2, hR1⟩ := o_named (xs (i + 1)) hR
  refine j_aload_n X (x := B) dL_law_311 rfl ?_
  refine j_arg (k := 1) X hsc rfl (by omega) hL (by decide) dL_law_312 dL_law_313 dL_law_314 dL_law_315 dL_law_316 ?_
  refine j_call1 (rest := []) X [.int (xs (i + 1))] (s_X11_named e1) cvL_37 rfl rfl (Nat.le_of_ble_eq_true rfl) ⟨by decide, by decide⟩ hcw dL_law_317 ?_
  refine j_aload_n X (x := B + 162) dL_law_320 rfl ?_
  refine j_arg (k := 1) X hsc rfl (by omega) hL (by decide) dL_law_321 dL_law_322 dL_law_323 dL_law_324 dL_law_325 ?_
  refine j_call2 (rest := [.int r]) X [.int (xs (i + 1))] (s_X12_named e2) cvL_40 rfl rfl (Nat.le_of_ble_eq_true rfl) ⟨by decide, by decide⟩ hcw dL_law_326 ?_
  exact j_icmp_eq (tgt := 1162) X dL_law_329 (by decide) (fun _ => kb _ _ _ _ _ _ hR1) (fun q => absurd rfl q)
theorem lc_6 (X : gXJ κ (gAb B) code 4 RL ret 16 600 600000 7302250) (hsc : gScr b L xs (gAb B) κ) (hi : i + 6 ≤ L) (hL : L ≤ 3072) (hcw : c0 ≤ 600000 ∧ w0 ≤ 7302250) (hR : RR T N P S u v) (kb : ∀ (T : gT) (N : gN) (P : List gN) (S : gS) (u v : gM), RR T N P S u v → gJ κ 4 (gAb B) Q c0 w0 (gW2 B u v) 1162 [some (.ref b), some (.ref B), some (.ref (B + 162)), some (.int (nI i))] []) : gJ κ 4 (gAb B) Q c0 w0 (gW2 B u v) 334 [some (.ref b), some (.ref B), some (.ref (B + 162)), some (.int (nI i))] [] := by
  obtain ⟨r, u1, v1, T1, N1, P1, S1, e1, e2, hR1⟩ := o_put (xs (i + 1)) (xs (i + 2)) hR
  refine j_aload_n X (x := B) dL_law_334 rfl ?_
  refine j_arg (k := 1) X hsc rfl (by omega) hL (by decide) dL_law_335 dL_law_336 dL_law_337 dL_law_338 dL_law_339 ?_
  refine j_arg (k := 2) X hsc rfl (by omega) hL (by decide) dL_law_340 dL_law_341 dL_law_342 dL_law_343 dL_law_344 ?_
  refine j_call1 (rest := []) X [.int (xs (i + 1)), .int (xs (i + 2))] (s_X11_put e1) cvL_41 rfl rfl (Nat.le_of_ble_eq_true rfl) ⟨by decide, by decide⟩ hcw dL_law_345 ?_
  refine j_aload_n X (x := B + 162) dL_law_348 rfl ?_
  refine j_arg (k := 1) X hsc rfl (by omega) hL (by decide) dL_law_349 dL_law_350 dL_law_351 dL_law_352 dL_law_353 ?_
  refine j_arg (k := 2) X hsc rfl (by omega) hL (by decide) dL_law_354 dL_law_355 dL_law_356 dL_law_357 dL_law_358 ?_
  refine j_call2 (rest := [.int r]) X [.int (xs (i + 1)), .int (xs (i + 2))] (s_X12_put e2) cvL_45 rfl rfl (Nat.le_of_ble_eq_true rfl) ⟨by decide, by decide⟩ hcw dL_law_359 ?_
  exact j_icmp_eq (tgt := 1162) X dL_law_362 (by decide) (fun _ => kb _ _ _ _ _ _ hR1) (fun q => absurd rfl q)
theorem lc_7 (X : gXJ κ (gAb B) code 4 RL ret 16 600 600000 7302250) (hsc : gScr b L xs (gAb B) κ) (hi : i + 6 ≤ L) (hL : L ≤ 3072) (hcw : c0 ≤ 600000 ∧ w0 ≤ 7302250) (hR : RR T N P S u v) (kb : ∀ (T : gT) (N : gN) (P : List gN) (S : gS) (u v : gM), RR T N P S u v → gJ κ 4 (gAb B) Q c0 w0 (gW2 B u v) 1162 [some (.ref b), some (.ref B), some (.ref (B + 162)), some (.int (nI i))] []) : gJ κ 4 (gAb B) Q c0 w0 (gW2 B u v) 367 [some (.ref b), some (.ref B), some (.ref (B + 162)), some (.int (nI i))] [] := by
  obtain ⟨r, u1, v1, T1, N1, P1, S1, e1, e2, hR1⟩ := o_take (xs (i + 1)) (xs (i + 2)) hR
  refine j_aload_n X (x := B) dL_law_367 rfl ?_
  refine j_arg (k := 1) X hsc rfl (by omega) hL (by decide) dL_law_368 dL_law_369 dL_law_370 dL_law_371 dL_law_372 ?_
  refine j_arg (k := 2) X hsc rfl (by omega) hL (by decide) dL_law_373 dL_law_374 dL_law_375 dL_law_376 dL_law_377 ?_
  refine j_call1 (rest := []) X [.int (xs (i + 1)), .int (xs (i + 2))] (s_X11_take e1) cvL_46 rfl rfl (Nat.le_of_ble_eq_true rfl) ⟨by decide, by decide⟩ hcw dL_law_378 ?_
  refine j_aload_n X (x := B + 162) dL_law_381 rfl ?_
  refine j_arg (k := 1) X hsc rfl (by omega) hL (by decide) dL_law_382 dL_law_383 dL_law_384 dL_law_385 dL_law_386 ?_
  refine j_arg (k := 2) X hsc rfl (by omega) hL (by decide) dL_law_387 dL_law_388 dL_law_389 dL_law_390 dL_law_391 ?_
  refine j_call2 (rest := [.int r]) X [.int (xs (i + 1)), .int (xs (i + 2))] (s_X12_take e2) cvL_49 rfl rfl (Nat.le_of_ble_eq_true rfl) ⟨by decide, by decide⟩ hcw dL_law_392 ?_
  exact j_icmp_eq (tgt := 1162) X dL_law_395 (by decide) (fun _ => kb _ _ _ _ _ _ hR1) (fun q => absurd rfl q)
end LC
