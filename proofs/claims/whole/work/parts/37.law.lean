/-! The law. -/
def yL_law : MethodName := ⟨RL, "law", "([I)Z"⟩
/-- the script's places -/
def sS (L : Nat) (xs : Nat → Int32) (a : Nat) (i : Int32) : Option Int32 := if a = 127 ∧ ¬ (i < 0 ∨ L ≤ i.toNatClampNeg) then some (xs i.toNatClampNeg) else none
def sG (L a : Nat) : Option Int32 := if a = 127 then some (Int32.ofNat L) else none
section RS
variable {l : Launch} {G : GG} {d : Nat} {y : MethodName} {cc : ByteArray} {nL : Nat} {ret : Option FieldType} {pc : Nat} {ls : List (Nat × Value)} {st : List Value} {μ : Mm} {r : Option Value} {μ' : Mm}
theorem E_sld {α : Type} {a L : Nat} {xs : Nat → Int32} {i : Int32} {F : Int32 → Option α} {res : α} (hd : decode cc pc = .ok (.iaload, 1)) (hG : G.2.2.2.2 = (L, xs)) (hf : (sS L xs a i).bind F = some res) (k : ∀ v, F v = some res → Ev l G d y cc nL ret (pc + 1) ls (.int v :: st) μ r μ') : Ev l G d y cc nL ret pc ls (.int i :: .ref a :: st) μ r μ' := by
  obtain ⟨v, h1, h2⟩ := bindS hf
  unfold sS at h1
  by_cases h0 : a = 127 ∧ ¬ (i < 0 ∨ L ≤ i.toNatClampNeg)
  · rw [if_pos h0] at h1
    cases h1
    obtain ⟨rfl, h0⟩ := h0
    refine Ev.pure (fun p e R s m args below meth c H locs cells slots la Q hC hR hRel hh hlocs hl k => ?_) (k _ h2)
    obtain ⟨⟨scr, q1, q2, q3, q4, q5⟩, q6⟩ := And.intro hC.2.2.2.2.2.2.2.2.1.2.2.2.2.1 hC.2.2.2.2.2.2.2.2.1.2.2.2.2.2.1
    rw [hG] at q4 q5
    have hlt : i.toNatClampNeg < L := Nat.not_le.mp fun q => h0 (Or.inr q)
    rw [List.map_cons, List.map_cons, trv_ref, adr_t (show 127 < 128 by decide)]
    exact W.iald (v := .int (xs i.toNatClampNeg)) hC.1 hC.2.1 (by rw [hh _ q6]; exact q1) q2 q3 (by rw [q4]; exact h0) (q5 _ hlt) rfl rfl hd k
  · rw [if_neg h0] at h1; cases h1
theorem E_sln {α : Type} {a L : Nat} {xs : Nat → Int32} {F : Int32 → Option α} {res : α} (hd : decode cc pc = .ok (.arraylength, 1)) (hG : G.2.2.2.2 = (L, xs)) (hf : (sG L a).bind F = some res) (k : ∀ v, F v = some res → Ev l G d y cc nL ret (pc + 1) ls (.int v :: st) μ r μ') : Ev l G d y cc nL ret pc ls (.ref a :: st) μ r μ' := by
  obtain ⟨v, h1, h2⟩ := bindS hf
  unfold sG at h1
  by_cases h0 : a = 127
  · rw [if_pos h0] at h1
    cases h1
    subst h0
    refine Ev.pure (fun p e R s m args below meth c H locs cells slots la Q hC hR hRel hh hlocs hl k => ?_) (k _ h2)
    obtain ⟨⟨scr, q1, q2, q3, q4, q5⟩, q6⟩ := And.intro hC.2.2.2.2.2.2.2.2.1.2.2.2.2.1 hC.2.2.2.2.2.2.2.2.1.2.2.2.2.2.1
    rw [hG] at q4
    rw [List.map_cons, trv_ref, adr_t (show 127 < 128 by decide)]
    exact W.alen (n := Int32.ofNat L) hC.1 hC.2.1 (by rw [hh _ q6]; exact q1) q2 (by rw [q4]) rfl rfl hd k
  · rw [if_neg h0] at h1; cases h1
end RS
theorem dL_law_0 : decode code 0 = .ok (.new 7, 3) := by decide +kernel
theorem dL_law_3 : decode code 3 = .ok (.dup, 1) := by decide +kernel
theorem dL_law_4 : decode code 4 = .ok (.invokespecial 9, 3) := by decide +kernel
theorem dL_law_7 : decode code 7 = .ok (.astore_n 1, 1) := by decide +kernel
theorem dL_law_8 : decode code 8 = .ok (.new 10, 3) := by decide +kernel
theorem dL_law_11 : decode code 11 = .ok (.dup, 1) := by decide +kernel
theorem dL_law_12 : decode code 12 = .ok (.invokespecial 12, 3) := by decide +kernel
theorem dL_law_15 : decode code 15 = .ok (.astore_n 2, 1) := by decide +kernel
theorem dL_law_16 : decode code 16 = .ok (.iconst 0, 1) := by decide +kernel
theorem dL_law_17 : decode code 17 = .ok (.istore_n 3, 1) := by decide +kernel
theorem dL_law_18 : decode code 18 = .ok (.iload_n 3, 1) := by decide +kernel
theorem dL_law_19 : decode code 19 = .ok (.aload_n 0, 1) := by decide +kernel
theorem dL_law_20 : decode code 20 = .ok (.arraylength, 1) := by decide +kernel
theorem dL_law_21 : decode code 21 = .ok (.bipush 6, 2) := by decide +kernel
theorem dL_law_23 : decode code 23 = .ok (.isub, 1) := by decide +kernel
theorem dL_law_24 : decode code 24 = .ok (.if_icmp .gt 1057, 3) := by decide +kernel
theorem dL_law_27 : decode code 27 = .ok (.aload_n 0, 1) := by decide +kernel
theorem dL_law_28 : decode code 28 = .ok (.iload_n 3, 1) := by decide +kernel
theorem dL_law_29 : decode code 29 = .ok (.iaload, 1) := by decide +kernel
theorem dL_law_30 : decode code 30 = .ok (.bipush 31, 2) := by decide +kernel
theorem dL_law_32 : decode code 32 = .ok (.iand, 1) := by decide +kernel
theorem dL_law_33 : decode code 33 = .ok (.tableswitch 1042 0 29 #[135, 198, 221, 234, 247, 270, 303, 336, 369, 402, 435, 468, 491, 504, 547, 570, 603, 652, 685, 718, 751, 784, 828, 861, 884, 907, 930, 973, 996, 1019], 135) := by decide +kernel
theorem dL_law_168 : decode code 168 = .ok (.aload_n 1, 1) := by decide +kernel
theorem dL_law_169 : decode code 169 = .ok (.aload_n 0, 1) := by decide +kernel
theorem dL_law_170 : decode code 170 = .ok (.iload_n 3, 1) := by decide +kernel
theorem dL_law_171 : decode code 171 = .ok (.iconst 1, 1) := by decide +kernel
theorem dL_law_172 : decode code 172 = .ok (.iadd, 1) := by decide +kernel
theorem dL_law_173 : decode code 173 = .ok (.iaload, 1) := by decide +kernel
theorem dL_law_174 : decode code 174 = .ok (.aload_n 0, 1) := by decide +kernel
theorem dL_law_175 : decode code 175 = .ok (.iload_n 3, 1) := by decide +kernel
theorem dL_law_176 : decode code 176 = .ok (.iconst 2, 1) := by decide +kernel
theorem dL_law_177 : decode code 177 = .ok (.iadd, 1) := by decide +kernel
theorem dL_law_178 : decode code 178 = .ok (.iaload, 1) := by decide +kernel
theorem dL_law_179 : decode code 179 = .ok (.aload_n 0, 1) := by decide +kernel
theorem dL_law_180 : decode code 180 = .ok (.iload_n 3, 1) := by decide +kernel
theorem dL_law_181 : decode code 181 = .ok (.iconst 3, 1) := by decide +kernel
theorem dL_law_182 : decode code 182 = .ok (.iadd, 1) := by decide +kernel
theorem dL_law_183 : decode code 183 = .ok (.iaload, 1) := by decide +kernel
theorem dL_law_184 : decode code 184 = .ok (.aload_n 0, 1) := by decide +kernel
theorem dL_law_185 : decode code 185 = .ok (.iload_n 3, 1) := by decide +kernel
theorem dL_law_186 : decode code 186 = .ok (.iconst 4, 1) := by decide +kernel
theorem dL_law_187 : decode code 187 = .ok (.iadd, 1) := by decide +kernel
theorem dL_law_188 : decode code 188 = .ok (.iaload, 1) := by decide +kernel
theorem dL_law_189 : decode code 189 = .ok (.aload_n 0, 1) := by decide +kernel
theorem dL_law_190 : decode code 190 = .ok (.iload_n 3, 1) := by decide +kernel
theorem dL_law_191 : decode code 191 = .ok (.iconst 5, 1) := by decide +kernel
theorem dL_law_192 : decode code 192 = .ok (.iadd, 1) := by decide +kernel
theorem dL_law_193 : decode code 193 = .ok (.iaload, 1) := by decide +kernel
theorem dL_law_194 : decode code 194 = .ok (.invokevirtual 13, 3) := by decide +kernel
theorem dL_law_197 : decode code 197 = .ok (.aload_n 2, 1) := by decide +kernel
theorem dL_law_198 : decode code 198 = .ok (.aload_n 0, 1) := by decide +kernel
theorem dL_law_199 : decode code 199 = .ok (.iload_n 3, 1) := by decide +kernel
theorem dL_law_200 : decode code 200 = .ok (.iconst 1, 1) := by decide +kernel
theorem dL_law_201 : decode code 201 = .ok (.iadd, 1) := by decide +kernel
theorem dL_law_202 : decode code 202 = .ok (.iaload, 1) := by decide +kernel
theorem dL_law_203 : decode code 203 = .ok (.aload_n 0, 1) := by decide +kernel
theorem dL_law_204 : decode code 204 = .ok (.iload_n 3, 1) := by decide +kernel
theorem dL_law_205 : decode code 205 = .ok (.iconst 2, 1) := by decide +kernel
theorem dL_law_206 : decode code 206 = .ok (.iadd, 1) := by decide +kernel
theorem dL_law_207 : decode code 207 = .ok (.iaload, 1) := by decide +kernel
theorem dL_law_208 : decode code 208 = .ok (.aload_n 0, 1) := by decide +kernel
theorem dL_law_209 : decode code 209 = .ok (.iload_n 3, 1) := by decide +kernel
theorem dL_law_210 : decode code 210 = .ok (.iconst 3, 1) := by decide +kernel
theorem dL_law_211 : decode code 211 = .ok (.iadd, 1) := by decide +kernel
theorem dL_law_212 : decode code 212 = .ok (.iaload, 1) := by decide +kernel
theorem dL_law_213 : decode code 213 = .ok (.aload_n 0, 1) := by decide +kernel
theorem dL_law_214 : decode code 214 = .ok (.iload_n 3, 1) := by decide +kernel
theorem dL_law_215 : decode code 215 = .ok (.iconst 4, 1) := by decide +kernel
theorem dL_law_216 : decode code 216 = .ok (.iadd, 1) := by decide +kernel
theorem dL_law_217 : decode code 217 = .ok (.iaload, 1) := by decide +kernel
theorem dL_law_218 : decode code 218 = .ok (.aload_n 0, 1) := by decide +kernel
theorem dL_law_219 : decode code 219 = .ok (.iload_n 3, 1) := by decide +kernel
theorem dL_law_220 : decode code 220 = .ok (.iconst 5, 1) := by decide +kernel
theorem dL_law_221 : decode code 221 = .ok (.iadd, 1) := by decide +kernel
theorem dL_law_222 : decode code 222 = .ok (.iaload, 1) := by decide +kernel
theorem dL_law_223 : decode code 223 = .ok (.invokevirtual 17, 3) := by decide +kernel
theorem dL_law_226 : decode code 226 = .ok (.if_icmp .eq 849, 3) := by decide +kernel
theorem dL_law_229 : decode code 229 = .ok (.iconst 0, 1) := by decide +kernel
theorem dL_law_230 : decode code 230 = .ok (.ireturn, 1) := by decide +kernel
theorem dL_law_231 : decode code 231 = .ok (.aload_n 1, 1) := by decide +kernel
theorem dL_law_232 : decode code 232 = .ok (.aload_n 0, 1) := by decide +kernel
theorem dL_law_233 : decode code 233 = .ok (.iload_n 3, 1) := by decide +kernel
theorem dL_law_234 : decode code 234 = .ok (.iconst 1, 1) := by decide +kernel
theorem dL_law_235 : decode code 235 = .ok (.iadd, 1) := by decide +kernel
theorem dL_law_236 : decode code 236 = .ok (.iaload, 1) := by decide +kernel
theorem dL_law_237 : decode code 237 = .ok (.invokevirtual 18, 3) := by decide +kernel
theorem dL_law_240 : decode code 240 = .ok (.aload_n 2, 1) := by decide +kernel
theorem dL_law_241 : decode code 241 = .ok (.aload_n 0, 1) := by decide +kernel
theorem dL_law_242 : decode code 242 = .ok (.iload_n 3, 1) := by decide +kernel
theorem dL_law_243 : decode code 243 = .ok (.iconst 1, 1) := by decide +kernel
theorem dL_law_244 : decode code 244 = .ok (.iadd, 1) := by decide +kernel
theorem dL_law_245 : decode code 245 = .ok (.iaload, 1) := by decide +kernel
theorem dL_law_246 : decode code 246 = .ok (.invokevirtual 22, 3) := by decide +kernel
theorem dL_law_249 : decode code 249 = .ok (.if_icmp .eq 826, 3) := by decide +kernel
theorem dL_law_252 : decode code 252 = .ok (.iconst 0, 1) := by decide +kernel
theorem dL_law_253 : decode code 253 = .ok (.ireturn, 1) := by decide +kernel
theorem dL_law_254 : decode code 254 = .ok (.aload_n 1, 1) := by decide +kernel
theorem dL_law_255 : decode code 255 = .ok (.invokevirtual 23, 3) := by decide +kernel
theorem dL_law_258 : decode code 258 = .ok (.aload_n 2, 1) := by decide +kernel
theorem dL_law_259 : decode code 259 = .ok (.invokevirtual 27, 3) := by decide +kernel
theorem dL_law_262 : decode code 262 = .ok (.if_icmp .eq 813, 3) := by decide +kernel
theorem dL_law_265 : decode code 265 = .ok (.iconst 0, 1) := by decide +kernel
theorem dL_law_266 : decode code 266 = .ok (.ireturn, 1) := by decide +kernel
theorem dL_law_267 : decode code 267 = .ok (.aload_n 1, 1) := by decide +kernel
theorem dL_law_268 : decode code 268 = .ok (.invokevirtual 28, 3) := by decide +kernel
theorem dL_law_271 : decode code 271 = .ok (.aload_n 2, 1) := by decide +kernel
theorem dL_law_272 : decode code 272 = .ok (.invokevirtual 31, 3) := by decide +kernel
theorem dL_law_275 : decode code 275 = .ok (.if_icmp .eq 800, 3) := by decide +kernel
theorem dL_law_278 : decode code 278 = .ok (.iconst 0, 1) := by decide +kernel
theorem dL_law_279 : decode code 279 = .ok (.ireturn, 1) := by decide +kernel
theorem dL_law_280 : decode code 280 = .ok (.aload_n 1, 1) := by decide +kernel
theorem dL_law_281 : decode code 281 = .ok (.aload_n 0, 1) := by decide +kernel
theorem dL_law_282 : decode code 282 = .ok (.iload_n 3, 1) := by decide +kernel
theorem dL_law_283 : decode code 283 = .ok (.iconst 1, 1) := by decide +kernel
theorem dL_law_284 : decode code 284 = .ok (.iadd, 1) := by decide +kernel
theorem dL_law_285 : decode code 285 = .ok (.iaload, 1) := by decide +kernel
theorem dL_law_286 : decode code 286 = .ok (.invokevirtual 32, 3) := by decide +kernel
theorem dL_law_289 : decode code 289 = .ok (.aload_n 2, 1) := by decide +kernel
theorem dL_law_290 : decode code 290 = .ok (.aload_n 0, 1) := by decide +kernel
theorem dL_law_291 : decode code 291 = .ok (.iload_n 3, 1) := by decide +kernel
theorem dL_law_292 : decode code 292 = .ok (.iconst 1, 1) := by decide +kernel
theorem dL_law_293 : decode code 293 = .ok (.iadd, 1) := by decide +kernel
theorem dL_law_294 : decode code 294 = .ok (.iaload, 1) := by decide +kernel
theorem dL_law_295 : decode code 295 = .ok (.invokevirtual 35, 3) := by decide +kernel
theorem dL_law_298 : decode code 298 = .ok (.if_icmp .eq 777, 3) := by decide +kernel
theorem dL_law_301 : decode code 301 = .ok (.iconst 0, 1) := by decide +kernel
theorem dL_law_302 : decode code 302 = .ok (.ireturn, 1) := by decide +kernel
theorem dL_law_303 : decode code 303 = .ok (.aload_n 1, 1) := by decide +kernel
theorem dL_law_304 : decode code 304 = .ok (.aload_n 0, 1) := by decide +kernel
theorem dL_law_305 : decode code 305 = .ok (.iload_n 3, 1) := by decide +kernel
theorem dL_law_306 : decode code 306 = .ok (.iconst 1, 1) := by decide +kernel
theorem dL_law_307 : decode code 307 = .ok (.iadd, 1) := by decide +kernel
theorem dL_law_308 : decode code 308 = .ok (.iaload, 1) := by decide +kernel
theorem dL_law_309 : decode code 309 = .ok (.aload_n 0, 1) := by decide +kernel
theorem dL_law_310 : decode code 310 = .ok (.iload_n 3, 1) := by decide +kernel
theorem dL_law_311 : decode code 311 = .ok (.iconst 2, 1) := by decide +kernel
theorem dL_law_312 : decode code 312 = .ok (.iadd, 1) := by decide +kernel
theorem dL_law_313 : decode code 313 = .ok (.iaload, 1) := by decide +kernel
theorem dL_law_314 : decode code 314 = .ok (.invokevirtual 36, 3) := by decide +kernel
theorem dL_law_317 : decode code 317 = .ok (.aload_n 2, 1) := by decide +kernel
theorem dL_law_318 : decode code 318 = .ok (.aload_n 0, 1) := by decide +kernel
theorem dL_law_319 : decode code 319 = .ok (.iload_n 3, 1) := by decide +kernel
theorem dL_law_320 : decode code 320 = .ok (.iconst 1, 1) := by decide +kernel
theorem dL_law_321 : decode code 321 = .ok (.iadd, 1) := by decide +kernel
theorem dL_law_322 : decode code 322 = .ok (.iaload, 1) := by decide +kernel
theorem dL_law_323 : decode code 323 = .ok (.aload_n 0, 1) := by decide +kernel
theorem dL_law_324 : decode code 324 = .ok (.iload_n 3, 1) := by decide +kernel
theorem dL_law_325 : decode code 325 = .ok (.iconst 2, 1) := by decide +kernel
theorem dL_law_326 : decode code 326 = .ok (.iadd, 1) := by decide +kernel
theorem dL_law_327 : decode code 327 = .ok (.iaload, 1) := by decide +kernel
theorem dL_law_328 : decode code 328 = .ok (.invokevirtual 40, 3) := by decide +kernel
theorem dL_law_331 : decode code 331 = .ok (.if_icmp .eq 744, 3) := by decide +kernel
theorem dL_law_334 : decode code 334 = .ok (.iconst 0, 1) := by decide +kernel
theorem dL_law_335 : decode code 335 = .ok (.ireturn, 1) := by decide +kernel
theorem dL_law_336 : decode code 336 = .ok (.aload_n 1, 1) := by decide +kernel
theorem dL_law_337 : decode code 337 = .ok (.aload_n 0, 1) := by decide +kernel
theorem dL_law_338 : decode code 338 = .ok (.iload_n 3, 1) := by decide +kernel
theorem dL_law_339 : decode code 339 = .ok (.iconst 1, 1) := by decide +kernel
theorem dL_law_340 : decode code 340 = .ok (.iadd, 1) := by decide +kernel
theorem dL_law_341 : decode code 341 = .ok (.iaload, 1) := by decide +kernel
theorem dL_law_342 : decode code 342 = .ok (.aload_n 0, 1) := by decide +kernel
theorem dL_law_343 : decode code 343 = .ok (.iload_n 3, 1) := by decide +kernel
theorem dL_law_344 : decode code 344 = .ok (.iconst 2, 1) := by decide +kernel
theorem dL_law_345 : decode code 345 = .ok (.iadd, 1) := by decide +kernel
theorem dL_law_346 : decode code 346 = .ok (.iaload, 1) := by decide +kernel
theorem dL_law_347 : decode code 347 = .ok (.invokevirtual 41, 3) := by decide +kernel
theorem dL_law_350 : decode code 350 = .ok (.aload_n 2, 1) := by decide +kernel
theorem dL_law_351 : decode code 351 = .ok (.aload_n 0, 1) := by decide +kernel
theorem dL_law_352 : decode code 352 = .ok (.iload_n 3, 1) := by decide +kernel
theorem dL_law_353 : decode code 353 = .ok (.iconst 1, 1) := by decide +kernel
theorem dL_law_354 : decode code 354 = .ok (.iadd, 1) := by decide +kernel
theorem dL_law_355 : decode code 355 = .ok (.iaload, 1) := by decide +kernel
theorem dL_law_356 : decode code 356 = .ok (.aload_n 0, 1) := by decide +kernel
theorem dL_law_357 : decode code 357 = .ok (.iload_n 3, 1) := by decide +kernel
theorem dL_law_358 : decode code 358 = .ok (.iconst 2, 1) := by decide +kernel
theorem dL_law_359 : decode code 359 = .ok (.iadd, 1) := by decide +kernel
theorem dL_law_360 : decode code 360 = .ok (.iaload, 1) := by decide +kernel
theorem dL_law_361 : decode code 361 = .ok (.invokevirtual 44, 3) := by decide +kernel
theorem dL_law_364 : decode code 364 = .ok (.if_icmp .eq 711, 3) := by decide +kernel
theorem dL_law_367 : decode code 367 = .ok (.iconst 0, 1) := by decide +kernel
theorem dL_law_368 : decode code 368 = .ok (.ireturn, 1) := by decide +kernel
theorem dL_law_369 : decode code 369 = .ok (.aload_n 1, 1) := by decide +kernel
theorem dL_law_370 : decode code 370 = .ok (.aload_n 0, 1) := by decide +kernel
theorem dL_law_371 : decode code 371 = .ok (.iload_n 3, 1) := by decide +kernel
theorem dL_law_372 : decode code 372 = .ok (.iconst 1, 1) := by decide +kernel
theorem dL_law_373 : decode code 373 = .ok (.iadd, 1) := by decide +kernel
theorem dL_law_374 : decode code 374 = .ok (.iaload, 1) := by decide +kernel
theorem dL_law_375 : decode code 375 = .ok (.aload_n 0, 1) := by decide +kernel
theorem dL_law_376 : decode code 376 = .ok (.iload_n 3, 1) := by decide +kernel
theorem dL_law_377 : decode code 377 = .ok (.iconst 2, 1) := by decide +kernel
theorem dL_law_378 : decode code 378 = .ok (.iadd, 1) := by decide +kernel
theorem dL_law_379 : decode code 379 = .ok (.iaload, 1) := by decide +kernel
theorem dL_law_380 : decode code 380 = .ok (.invokevirtual 45, 3) := by decide +kernel
theorem dL_law_383 : decode code 383 = .ok (.aload_n 2, 1) := by decide +kernel
theorem dL_law_384 : decode code 384 = .ok (.aload_n 0, 1) := by decide +kernel
theorem dL_law_385 : decode code 385 = .ok (.iload_n 3, 1) := by decide +kernel
theorem dL_law_386 : decode code 386 = .ok (.iconst 1, 1) := by decide +kernel
theorem dL_law_387 : decode code 387 = .ok (.iadd, 1) := by decide +kernel
theorem dL_law_388 : decode code 388 = .ok (.iaload, 1) := by decide +kernel
theorem dL_law_389 : decode code 389 = .ok (.aload_n 0, 1) := by decide +kernel
theorem dL_law_390 : decode code 390 = .ok (.iload_n 3, 1) := by decide +kernel
theorem dL_law_391 : decode code 391 = .ok (.iconst 2, 1) := by decide +kernel
theorem dL_law_392 : decode code 392 = .ok (.iadd, 1) := by decide +kernel
theorem dL_law_393 : decode code 393 = .ok (.iaload, 1) := by decide +kernel
theorem dL_law_394 : decode code 394 = .ok (.invokevirtual 48, 3) := by decide +kernel
theorem dL_law_397 : decode code 397 = .ok (.if_icmp .eq 678, 3) := by decide +kernel
theorem dL_law_400 : decode code 400 = .ok (.iconst 0, 1) := by decide +kernel
theorem dL_law_401 : decode code 401 = .ok (.ireturn, 1) := by decide +kernel
theorem dL_law_402 : decode code 402 = .ok (.aload_n 1, 1) := by decide +kernel
theorem dL_law_403 : decode code 403 = .ok (.aload_n 0, 1) := by decide +kernel
theorem dL_law_404 : decode code 404 = .ok (.iload_n 3, 1) := by decide +kernel
theorem dL_law_405 : decode code 405 = .ok (.iconst 1, 1) := by decide +kernel
theorem dL_law_406 : decode code 406 = .ok (.iadd, 1) := by decide +kernel
theorem dL_law_407 : decode code 407 = .ok (.iaload, 1) := by decide +kernel
theorem dL_law_408 : decode code 408 = .ok (.aload_n 0, 1) := by decide +kernel
theorem dL_law_409 : decode code 409 = .ok (.iload_n 3, 1) := by decide +kernel
theorem dL_law_410 : decode code 410 = .ok (.iconst 2, 1) := by decide +kernel
theorem dL_law_411 : decode code 411 = .ok (.iadd, 1) := by decide +kernel
theorem dL_law_412 : decode code 412 = .ok (.iaload, 1) := by decide +kernel
theorem dL_law_413 : decode code 413 = .ok (.invokevirtual 49, 3) := by decide +kernel
theorem dL_law_416 : decode code 416 = .ok (.aload_n 2, 1) := by decide +kernel
theorem dL_law_417 : decode code 417 = .ok (.aload_n 0, 1) := by decide +kernel
theorem dL_law_418 : decode code 418 = .ok (.iload_n 3, 1) := by decide +kernel
theorem dL_law_419 : decode code 419 = .ok (.iconst 1, 1) := by decide +kernel
theorem dL_law_420 : decode code 420 = .ok (.iadd, 1) := by decide +kernel
theorem dL_law_421 : decode code 421 = .ok (.iaload, 1) := by decide +kernel
theorem dL_law_422 : decode code 422 = .ok (.aload_n 0, 1) := by decide +kernel
theorem dL_law_423 : decode code 423 = .ok (.iload_n 3, 1) := by decide +kernel
theorem dL_law_424 : decode code 424 = .ok (.iconst 2, 1) := by decide +kernel
theorem dL_law_425 : decode code 425 = .ok (.iadd, 1) := by decide +kernel
theorem dL_law_426 : decode code 426 = .ok (.iaload, 1) := by decide +kernel
theorem dL_law_427 : decode code 427 = .ok (.invokevirtual 52, 3) := by decide +kernel
theorem dL_law_430 : decode code 430 = .ok (.if_icmp .eq 645, 3) := by decide +kernel
theorem dL_law_433 : decode code 433 = .ok (.iconst 0, 1) := by decide +kernel
theorem dL_law_434 : decode code 434 = .ok (.ireturn, 1) := by decide +kernel
theorem dL_law_435 : decode code 435 = .ok (.aload_n 1, 1) := by decide +kernel
theorem dL_law_436 : decode code 436 = .ok (.aload_n 0, 1) := by decide +kernel
theorem dL_law_437 : decode code 437 = .ok (.iload_n 3, 1) := by decide +kernel
theorem dL_law_438 : decode code 438 = .ok (.iconst 1, 1) := by decide +kernel
theorem dL_law_439 : decode code 439 = .ok (.iadd, 1) := by decide +kernel
theorem dL_law_440 : decode code 440 = .ok (.iaload, 1) := by decide +kernel
theorem dL_law_441 : decode code 441 = .ok (.aload_n 0, 1) := by decide +kernel
theorem dL_law_442 : decode code 442 = .ok (.iload_n 3, 1) := by decide +kernel
theorem dL_law_443 : decode code 443 = .ok (.iconst 2, 1) := by decide +kernel
theorem dL_law_444 : decode code 444 = .ok (.iadd, 1) := by decide +kernel
theorem dL_law_445 : decode code 445 = .ok (.iaload, 1) := by decide +kernel
theorem dL_law_446 : decode code 446 = .ok (.invokevirtual 53, 3) := by decide +kernel
theorem dL_law_449 : decode code 449 = .ok (.aload_n 2, 1) := by decide +kernel
theorem dL_law_450 : decode code 450 = .ok (.aload_n 0, 1) := by decide +kernel
theorem dL_law_451 : decode code 451 = .ok (.iload_n 3, 1) := by decide +kernel
theorem dL_law_452 : decode code 452 = .ok (.iconst 1, 1) := by decide +kernel
theorem dL_law_453 : decode code 453 = .ok (.iadd, 1) := by decide +kernel
theorem dL_law_454 : decode code 454 = .ok (.iaload, 1) := by decide +kernel
theorem dL_law_455 : decode code 455 = .ok (.aload_n 0, 1) := by decide +kernel
theorem dL_law_456 : decode code 456 = .ok (.iload_n 3, 1) := by decide +kernel
theorem dL_law_457 : decode code 457 = .ok (.iconst 2, 1) := by decide +kernel
theorem dL_law_458 : decode code 458 = .ok (.iadd, 1) := by decide +kernel
theorem dL_law_459 : decode code 459 = .ok (.iaload, 1) := by decide +kernel
theorem dL_law_460 : decode code 460 = .ok (.invokevirtual 56, 3) := by decide +kernel
theorem dL_law_463 : decode code 463 = .ok (.if_icmp .eq 612, 3) := by decide +kernel
theorem dL_law_466 : decode code 466 = .ok (.iconst 0, 1) := by decide +kernel
theorem dL_law_467 : decode code 467 = .ok (.ireturn, 1) := by decide +kernel
theorem dL_law_468 : decode code 468 = .ok (.aload_n 1, 1) := by decide +kernel
theorem dL_law_469 : decode code 469 = .ok (.aload_n 0, 1) := by decide +kernel
theorem dL_law_470 : decode code 470 = .ok (.iload_n 3, 1) := by decide +kernel
theorem dL_law_471 : decode code 471 = .ok (.iconst 1, 1) := by decide +kernel
theorem dL_law_472 : decode code 472 = .ok (.iadd, 1) := by decide +kernel
theorem dL_law_473 : decode code 473 = .ok (.iaload, 1) := by decide +kernel
theorem dL_law_474 : decode code 474 = .ok (.aload_n 0, 1) := by decide +kernel
theorem dL_law_475 : decode code 475 = .ok (.iload_n 3, 1) := by decide +kernel
theorem dL_law_476 : decode code 476 = .ok (.iconst 2, 1) := by decide +kernel
theorem dL_law_477 : decode code 477 = .ok (.iadd, 1) := by decide +kernel
theorem dL_law_478 : decode code 478 = .ok (.iaload, 1) := by decide +kernel
theorem dL_law_479 : decode code 479 = .ok (.invokevirtual 57, 3) := by decide +kernel
theorem dL_law_482 : decode code 482 = .ok (.aload_n 2, 1) := by decide +kernel
theorem dL_law_483 : decode code 483 = .ok (.aload_n 0, 1) := by decide +kernel
theorem dL_law_484 : decode code 484 = .ok (.iload_n 3, 1) := by decide +kernel
theorem dL_law_485 : decode code 485 = .ok (.iconst 1, 1) := by decide +kernel
theorem dL_law_486 : decode code 486 = .ok (.iadd, 1) := by decide +kernel
theorem dL_law_487 : decode code 487 = .ok (.iaload, 1) := by decide +kernel
theorem dL_law_488 : decode code 488 = .ok (.aload_n 0, 1) := by decide +kernel
theorem dL_law_489 : decode code 489 = .ok (.iload_n 3, 1) := by decide +kernel
theorem dL_law_490 : decode code 490 = .ok (.iconst 2, 1) := by decide +kernel
theorem dL_law_491 : decode code 491 = .ok (.iadd, 1) := by decide +kernel
theorem dL_law_492 : decode code 492 = .ok (.iaload, 1) := by decide +kernel
theorem dL_law_493 : decode code 493 = .ok (.invokevirtual 60, 3) := by decide +kernel
theorem dL_law_496 : decode code 496 = .ok (.if_icmp .eq 579, 3) := by decide +kernel
theorem dL_law_499 : decode code 499 = .ok (.iconst 0, 1) := by decide +kernel
theorem dL_law_500 : decode code 500 = .ok (.ireturn, 1) := by decide +kernel
theorem dL_law_501 : decode code 501 = .ok (.aload_n 1, 1) := by decide +kernel
theorem dL_law_502 : decode code 502 = .ok (.aload_n 0, 1) := by decide +kernel
theorem dL_law_503 : decode code 503 = .ok (.iload_n 3, 1) := by decide +kernel
theorem dL_law_504 : decode code 504 = .ok (.iconst 1, 1) := by decide +kernel
theorem dL_law_505 : decode code 505 = .ok (.iadd, 1) := by decide +kernel
theorem dL_law_506 : decode code 506 = .ok (.iaload, 1) := by decide +kernel
theorem dL_law_507 : decode code 507 = .ok (.invokevirtual 61, 3) := by decide +kernel
theorem dL_law_510 : decode code 510 = .ok (.aload_n 2, 1) := by decide +kernel
theorem dL_law_511 : decode code 511 = .ok (.aload_n 0, 1) := by decide +kernel
theorem dL_law_512 : decode code 512 = .ok (.iload_n 3, 1) := by decide +kernel
theorem dL_law_513 : decode code 513 = .ok (.iconst 1, 1) := by decide +kernel
theorem dL_law_514 : decode code 514 = .ok (.iadd, 1) := by decide +kernel
theorem dL_law_515 : decode code 515 = .ok (.iaload, 1) := by decide +kernel
theorem dL_law_516 : decode code 516 = .ok (.invokevirtual 65, 3) := by decide +kernel
theorem dL_law_519 : decode code 519 = .ok (.if_icmp .eq 556, 3) := by decide +kernel
theorem dL_law_522 : decode code 522 = .ok (.iconst 0, 1) := by decide +kernel
theorem dL_law_523 : decode code 523 = .ok (.ireturn, 1) := by decide +kernel
theorem dL_law_524 : decode code 524 = .ok (.aload_n 1, 1) := by decide +kernel
theorem dL_law_525 : decode code 525 = .ok (.invokevirtual 66, 3) := by decide +kernel
theorem dL_law_528 : decode code 528 = .ok (.aload_n 2, 1) := by decide +kernel
theorem dL_law_529 : decode code 529 = .ok (.invokevirtual 69, 3) := by decide +kernel
theorem dL_law_532 : decode code 532 = .ok (.if_icmp .eq 543, 3) := by decide +kernel
theorem dL_law_535 : decode code 535 = .ok (.iconst 0, 1) := by decide +kernel
theorem dL_law_536 : decode code 536 = .ok (.ireturn, 1) := by decide +kernel
theorem dL_law_537 : decode code 537 = .ok (.aload_n 1, 1) := by decide +kernel
theorem dL_law_538 : decode code 538 = .ok (.aload_n 0, 1) := by decide +kernel
theorem dL_law_539 : decode code 539 = .ok (.iload_n 3, 1) := by decide +kernel
theorem dL_law_540 : decode code 540 = .ok (.iconst 1, 1) := by decide +kernel
theorem dL_law_541 : decode code 541 = .ok (.iadd, 1) := by decide +kernel
theorem dL_law_542 : decode code 542 = .ok (.iaload, 1) := by decide +kernel
theorem dL_law_543 : decode code 543 = .ok (.aload_n 0, 1) := by decide +kernel
theorem dL_law_544 : decode code 544 = .ok (.iload_n 3, 1) := by decide +kernel
theorem dL_law_545 : decode code 545 = .ok (.iconst 2, 1) := by decide +kernel
theorem dL_law_546 : decode code 546 = .ok (.iadd, 1) := by decide +kernel
theorem dL_law_547 : decode code 547 = .ok (.iaload, 1) := by decide +kernel
theorem dL_law_548 : decode code 548 = .ok (.aload_n 0, 1) := by decide +kernel
theorem dL_law_549 : decode code 549 = .ok (.iload_n 3, 1) := by decide +kernel
theorem dL_law_550 : decode code 550 = .ok (.iconst 3, 1) := by decide +kernel
theorem dL_law_551 : decode code 551 = .ok (.iadd, 1) := by decide +kernel
theorem dL_law_552 : decode code 552 = .ok (.iaload, 1) := by decide +kernel
theorem dL_law_553 : decode code 553 = .ok (.invokevirtual 70, 3) := by decide +kernel
theorem dL_law_556 : decode code 556 = .ok (.aload_n 2, 1) := by decide +kernel
theorem dL_law_557 : decode code 557 = .ok (.aload_n 0, 1) := by decide +kernel
theorem dL_law_558 : decode code 558 = .ok (.iload_n 3, 1) := by decide +kernel
theorem dL_law_559 : decode code 559 = .ok (.iconst 1, 1) := by decide +kernel
theorem dL_law_560 : decode code 560 = .ok (.iadd, 1) := by decide +kernel
theorem dL_law_561 : decode code 561 = .ok (.iaload, 1) := by decide +kernel
theorem dL_law_562 : decode code 562 = .ok (.aload_n 0, 1) := by decide +kernel
theorem dL_law_563 : decode code 563 = .ok (.iload_n 3, 1) := by decide +kernel
theorem dL_law_564 : decode code 564 = .ok (.iconst 2, 1) := by decide +kernel
theorem dL_law_565 : decode code 565 = .ok (.iadd, 1) := by decide +kernel
theorem dL_law_566 : decode code 566 = .ok (.iaload, 1) := by decide +kernel
theorem dL_law_567 : decode code 567 = .ok (.aload_n 0, 1) := by decide +kernel
theorem dL_law_568 : decode code 568 = .ok (.iload_n 3, 1) := by decide +kernel
theorem dL_law_569 : decode code 569 = .ok (.iconst 3, 1) := by decide +kernel
theorem dL_law_570 : decode code 570 = .ok (.iadd, 1) := by decide +kernel
theorem dL_law_571 : decode code 571 = .ok (.iaload, 1) := by decide +kernel
theorem dL_law_572 : decode code 572 = .ok (.invokevirtual 74, 3) := by decide +kernel
theorem dL_law_575 : decode code 575 = .ok (.if_icmp .eq 500, 3) := by decide +kernel
theorem dL_law_578 : decode code 578 = .ok (.iconst 0, 1) := by decide +kernel
theorem dL_law_579 : decode code 579 = .ok (.ireturn, 1) := by decide +kernel
theorem dL_law_580 : decode code 580 = .ok (.aload_n 1, 1) := by decide +kernel
theorem dL_law_581 : decode code 581 = .ok (.aload_n 0, 1) := by decide +kernel
theorem dL_law_582 : decode code 582 = .ok (.iload_n 3, 1) := by decide +kernel
theorem dL_law_583 : decode code 583 = .ok (.iconst 1, 1) := by decide +kernel
theorem dL_law_584 : decode code 584 = .ok (.iadd, 1) := by decide +kernel
theorem dL_law_585 : decode code 585 = .ok (.iaload, 1) := by decide +kernel
theorem dL_law_586 : decode code 586 = .ok (.invokevirtual 75, 3) := by decide +kernel
theorem dL_law_589 : decode code 589 = .ok (.aload_n 2, 1) := by decide +kernel
theorem dL_law_590 : decode code 590 = .ok (.aload_n 0, 1) := by decide +kernel
theorem dL_law_591 : decode code 591 = .ok (.iload_n 3, 1) := by decide +kernel
theorem dL_law_592 : decode code 592 = .ok (.iconst 1, 1) := by decide +kernel
theorem dL_law_593 : decode code 593 = .ok (.iadd, 1) := by decide +kernel
theorem dL_law_594 : decode code 594 = .ok (.iaload, 1) := by decide +kernel
theorem dL_law_595 : decode code 595 = .ok (.invokevirtual 78, 3) := by decide +kernel
theorem dL_law_598 : decode code 598 = .ok (.if_icmp .eq 477, 3) := by decide +kernel
theorem dL_law_601 : decode code 601 = .ok (.iconst 0, 1) := by decide +kernel
theorem dL_law_602 : decode code 602 = .ok (.ireturn, 1) := by decide +kernel
theorem dL_law_603 : decode code 603 = .ok (.aload_n 1, 1) := by decide +kernel
theorem dL_law_604 : decode code 604 = .ok (.aload_n 0, 1) := by decide +kernel
theorem dL_law_605 : decode code 605 = .ok (.iload_n 3, 1) := by decide +kernel
theorem dL_law_606 : decode code 606 = .ok (.iconst 1, 1) := by decide +kernel
theorem dL_law_607 : decode code 607 = .ok (.iadd, 1) := by decide +kernel
theorem dL_law_608 : decode code 608 = .ok (.iaload, 1) := by decide +kernel
theorem dL_law_609 : decode code 609 = .ok (.aload_n 0, 1) := by decide +kernel
theorem dL_law_610 : decode code 610 = .ok (.iload_n 3, 1) := by decide +kernel
theorem dL_law_611 : decode code 611 = .ok (.iconst 2, 1) := by decide +kernel
theorem dL_law_612 : decode code 612 = .ok (.iadd, 1) := by decide +kernel
theorem dL_law_613 : decode code 613 = .ok (.iaload, 1) := by decide +kernel
theorem dL_law_614 : decode code 614 = .ok (.invokevirtual 79, 3) := by decide +kernel
theorem dL_law_617 : decode code 617 = .ok (.aload_n 2, 1) := by decide +kernel
theorem dL_law_618 : decode code 618 = .ok (.aload_n 0, 1) := by decide +kernel
theorem dL_law_619 : decode code 619 = .ok (.iload_n 3, 1) := by decide +kernel
theorem dL_law_620 : decode code 620 = .ok (.iconst 1, 1) := by decide +kernel
theorem dL_law_621 : decode code 621 = .ok (.iadd, 1) := by decide +kernel
theorem dL_law_622 : decode code 622 = .ok (.iaload, 1) := by decide +kernel
theorem dL_law_623 : decode code 623 = .ok (.aload_n 0, 1) := by decide +kernel
theorem dL_law_624 : decode code 624 = .ok (.iload_n 3, 1) := by decide +kernel
theorem dL_law_625 : decode code 625 = .ok (.iconst 2, 1) := by decide +kernel
theorem dL_law_626 : decode code 626 = .ok (.iadd, 1) := by decide +kernel
theorem dL_law_627 : decode code 627 = .ok (.iaload, 1) := by decide +kernel
theorem dL_law_628 : decode code 628 = .ok (.invokevirtual 82, 3) := by decide +kernel
theorem dL_law_631 : decode code 631 = .ok (.if_icmp .eq 444, 3) := by decide +kernel
theorem dL_law_634 : decode code 634 = .ok (.iconst 0, 1) := by decide +kernel
theorem dL_law_635 : decode code 635 = .ok (.ireturn, 1) := by decide +kernel
theorem dL_law_636 : decode code 636 = .ok (.aload_n 1, 1) := by decide +kernel
theorem dL_law_637 : decode code 637 = .ok (.aload_n 0, 1) := by decide +kernel
theorem dL_law_638 : decode code 638 = .ok (.iload_n 3, 1) := by decide +kernel
theorem dL_law_639 : decode code 639 = .ok (.iconst 1, 1) := by decide +kernel
theorem dL_law_640 : decode code 640 = .ok (.iadd, 1) := by decide +kernel
theorem dL_law_641 : decode code 641 = .ok (.iaload, 1) := by decide +kernel
theorem dL_law_642 : decode code 642 = .ok (.aload_n 0, 1) := by decide +kernel
theorem dL_law_643 : decode code 643 = .ok (.iload_n 3, 1) := by decide +kernel
theorem dL_law_644 : decode code 644 = .ok (.iconst 2, 1) := by decide +kernel
theorem dL_law_645 : decode code 645 = .ok (.iadd, 1) := by decide +kernel
theorem dL_law_646 : decode code 646 = .ok (.iaload, 1) := by decide +kernel
theorem dL_law_647 : decode code 647 = .ok (.ifCond .eq 7, 3) := by decide +kernel
theorem dL_law_650 : decode code 650 = .ok (.iconst 1, 1) := by decide +kernel
theorem dL_law_651 : decode code 651 = .ok (.goto 4, 3) := by decide +kernel
theorem dL_law_654 : decode code 654 = .ok (.iconst 0, 1) := by decide +kernel
theorem dL_law_655 : decode code 655 = .ok (.invokevirtual 83, 3) := by decide +kernel
theorem dL_law_658 : decode code 658 = .ok (.aload_n 2, 1) := by decide +kernel
theorem dL_law_659 : decode code 659 = .ok (.aload_n 0, 1) := by decide +kernel
theorem dL_law_660 : decode code 660 = .ok (.iload_n 3, 1) := by decide +kernel
theorem dL_law_661 : decode code 661 = .ok (.iconst 1, 1) := by decide +kernel
theorem dL_law_662 : decode code 662 = .ok (.iadd, 1) := by decide +kernel
theorem dL_law_663 : decode code 663 = .ok (.iaload, 1) := by decide +kernel
theorem dL_law_664 : decode code 664 = .ok (.aload_n 0, 1) := by decide +kernel
theorem dL_law_665 : decode code 665 = .ok (.iload_n 3, 1) := by decide +kernel
theorem dL_law_666 : decode code 666 = .ok (.iconst 2, 1) := by decide +kernel
theorem dL_law_667 : decode code 667 = .ok (.iadd, 1) := by decide +kernel
theorem dL_law_668 : decode code 668 = .ok (.iaload, 1) := by decide +kernel
theorem dL_law_669 : decode code 669 = .ok (.ifCond .eq 7, 3) := by decide +kernel
theorem dL_law_672 : decode code 672 = .ok (.iconst 1, 1) := by decide +kernel
theorem dL_law_673 : decode code 673 = .ok (.goto 4, 3) := by decide +kernel
theorem dL_law_676 : decode code 676 = .ok (.iconst 0, 1) := by decide +kernel
theorem dL_law_677 : decode code 677 = .ok (.invokevirtual 87, 3) := by decide +kernel
theorem dL_law_680 : decode code 680 = .ok (.if_icmp .eq 395, 3) := by decide +kernel
theorem dL_law_683 : decode code 683 = .ok (.iconst 0, 1) := by decide +kernel
theorem dL_law_684 : decode code 684 = .ok (.ireturn, 1) := by decide +kernel
theorem dL_law_685 : decode code 685 = .ok (.aload_n 1, 1) := by decide +kernel
theorem dL_law_686 : decode code 686 = .ok (.aload_n 0, 1) := by decide +kernel
theorem dL_law_687 : decode code 687 = .ok (.iload_n 3, 1) := by decide +kernel
theorem dL_law_688 : decode code 688 = .ok (.iconst 1, 1) := by decide +kernel
theorem dL_law_689 : decode code 689 = .ok (.iadd, 1) := by decide +kernel
theorem dL_law_690 : decode code 690 = .ok (.iaload, 1) := by decide +kernel
theorem dL_law_691 : decode code 691 = .ok (.aload_n 0, 1) := by decide +kernel
theorem dL_law_692 : decode code 692 = .ok (.iload_n 3, 1) := by decide +kernel
theorem dL_law_693 : decode code 693 = .ok (.iconst 2, 1) := by decide +kernel
theorem dL_law_694 : decode code 694 = .ok (.iadd, 1) := by decide +kernel
theorem dL_law_695 : decode code 695 = .ok (.iaload, 1) := by decide +kernel
theorem dL_law_696 : decode code 696 = .ok (.invokevirtual 88, 3) := by decide +kernel
theorem dL_law_699 : decode code 699 = .ok (.aload_n 2, 1) := by decide +kernel
theorem dL_law_700 : decode code 700 = .ok (.aload_n 0, 1) := by decide +kernel
theorem dL_law_701 : decode code 701 = .ok (.iload_n 3, 1) := by decide +kernel
theorem dL_law_702 : decode code 702 = .ok (.iconst 1, 1) := by decide +kernel
theorem dL_law_703 : decode code 703 = .ok (.iadd, 1) := by decide +kernel
theorem dL_law_704 : decode code 704 = .ok (.iaload, 1) := by decide +kernel
theorem dL_law_705 : decode code 705 = .ok (.aload_n 0, 1) := by decide +kernel
theorem dL_law_706 : decode code 706 = .ok (.iload_n 3, 1) := by decide +kernel
theorem dL_law_707 : decode code 707 = .ok (.iconst 2, 1) := by decide +kernel
theorem dL_law_708 : decode code 708 = .ok (.iadd, 1) := by decide +kernel
theorem dL_law_709 : decode code 709 = .ok (.iaload, 1) := by decide +kernel
theorem dL_law_710 : decode code 710 = .ok (.invokevirtual 91, 3) := by decide +kernel
theorem dL_law_713 : decode code 713 = .ok (.if_icmp .eq 362, 3) := by decide +kernel
theorem dL_law_716 : decode code 716 = .ok (.iconst 0, 1) := by decide +kernel
theorem dL_law_717 : decode code 717 = .ok (.ireturn, 1) := by decide +kernel
theorem dL_law_718 : decode code 718 = .ok (.aload_n 1, 1) := by decide +kernel
theorem dL_law_719 : decode code 719 = .ok (.aload_n 0, 1) := by decide +kernel
theorem dL_law_720 : decode code 720 = .ok (.iload_n 3, 1) := by decide +kernel
theorem dL_law_721 : decode code 721 = .ok (.iconst 1, 1) := by decide +kernel
theorem dL_law_722 : decode code 722 = .ok (.iadd, 1) := by decide +kernel
theorem dL_law_723 : decode code 723 = .ok (.iaload, 1) := by decide +kernel
theorem dL_law_724 : decode code 724 = .ok (.aload_n 0, 1) := by decide +kernel
theorem dL_law_725 : decode code 725 = .ok (.iload_n 3, 1) := by decide +kernel
theorem dL_law_726 : decode code 726 = .ok (.iconst 2, 1) := by decide +kernel
theorem dL_law_727 : decode code 727 = .ok (.iadd, 1) := by decide +kernel
theorem dL_law_728 : decode code 728 = .ok (.iaload, 1) := by decide +kernel
theorem dL_law_729 : decode code 729 = .ok (.invokevirtual 92, 3) := by decide +kernel
theorem dL_law_732 : decode code 732 = .ok (.aload_n 2, 1) := by decide +kernel
theorem dL_law_733 : decode code 733 = .ok (.aload_n 0, 1) := by decide +kernel
theorem dL_law_734 : decode code 734 = .ok (.iload_n 3, 1) := by decide +kernel
theorem dL_law_735 : decode code 735 = .ok (.iconst 1, 1) := by decide +kernel
theorem dL_law_736 : decode code 736 = .ok (.iadd, 1) := by decide +kernel
theorem dL_law_737 : decode code 737 = .ok (.iaload, 1) := by decide +kernel
theorem dL_law_738 : decode code 738 = .ok (.aload_n 0, 1) := by decide +kernel
theorem dL_law_739 : decode code 739 = .ok (.iload_n 3, 1) := by decide +kernel
theorem dL_law_740 : decode code 740 = .ok (.iconst 2, 1) := by decide +kernel
theorem dL_law_741 : decode code 741 = .ok (.iadd, 1) := by decide +kernel
theorem dL_law_742 : decode code 742 = .ok (.iaload, 1) := by decide +kernel
theorem dL_law_743 : decode code 743 = .ok (.invokevirtual 95, 3) := by decide +kernel
theorem dL_law_746 : decode code 746 = .ok (.if_icmp .eq 329, 3) := by decide +kernel
theorem dL_law_749 : decode code 749 = .ok (.iconst 0, 1) := by decide +kernel
theorem dL_law_750 : decode code 750 = .ok (.ireturn, 1) := by decide +kernel
theorem dL_law_751 : decode code 751 = .ok (.aload_n 1, 1) := by decide +kernel
theorem dL_law_752 : decode code 752 = .ok (.aload_n 0, 1) := by decide +kernel
theorem dL_law_753 : decode code 753 = .ok (.iload_n 3, 1) := by decide +kernel
theorem dL_law_754 : decode code 754 = .ok (.iconst 1, 1) := by decide +kernel
theorem dL_law_755 : decode code 755 = .ok (.iadd, 1) := by decide +kernel
theorem dL_law_756 : decode code 756 = .ok (.iaload, 1) := by decide +kernel
theorem dL_law_757 : decode code 757 = .ok (.aload_n 0, 1) := by decide +kernel
theorem dL_law_758 : decode code 758 = .ok (.iload_n 3, 1) := by decide +kernel
theorem dL_law_759 : decode code 759 = .ok (.iconst 2, 1) := by decide +kernel
theorem dL_law_760 : decode code 760 = .ok (.iadd, 1) := by decide +kernel
theorem dL_law_761 : decode code 761 = .ok (.iaload, 1) := by decide +kernel
theorem dL_law_762 : decode code 762 = .ok (.invokevirtual 96, 3) := by decide +kernel
theorem dL_law_765 : decode code 765 = .ok (.aload_n 2, 1) := by decide +kernel
theorem dL_law_766 : decode code 766 = .ok (.aload_n 0, 1) := by decide +kernel
theorem dL_law_767 : decode code 767 = .ok (.iload_n 3, 1) := by decide +kernel
theorem dL_law_768 : decode code 768 = .ok (.iconst 1, 1) := by decide +kernel
theorem dL_law_769 : decode code 769 = .ok (.iadd, 1) := by decide +kernel
theorem dL_law_770 : decode code 770 = .ok (.iaload, 1) := by decide +kernel
theorem dL_law_771 : decode code 771 = .ok (.aload_n 0, 1) := by decide +kernel
theorem dL_law_772 : decode code 772 = .ok (.iload_n 3, 1) := by decide +kernel
theorem dL_law_773 : decode code 773 = .ok (.iconst 2, 1) := by decide +kernel
theorem dL_law_774 : decode code 774 = .ok (.iadd, 1) := by decide +kernel
theorem dL_law_775 : decode code 775 = .ok (.iaload, 1) := by decide +kernel
theorem dL_law_776 : decode code 776 = .ok (.invokevirtual 99, 3) := by decide +kernel
theorem dL_law_779 : decode code 779 = .ok (.if_icmp .eq 296, 3) := by decide +kernel
theorem dL_law_782 : decode code 782 = .ok (.iconst 0, 1) := by decide +kernel
theorem dL_law_783 : decode code 783 = .ok (.ireturn, 1) := by decide +kernel
theorem dL_law_784 : decode code 784 = .ok (.aload_n 1, 1) := by decide +kernel
theorem dL_law_785 : decode code 785 = .ok (.aload_n 0, 1) := by decide +kernel
theorem dL_law_786 : decode code 786 = .ok (.iload_n 3, 1) := by decide +kernel
theorem dL_law_787 : decode code 787 = .ok (.iconst 1, 1) := by decide +kernel
theorem dL_law_788 : decode code 788 = .ok (.iadd, 1) := by decide +kernel
theorem dL_law_789 : decode code 789 = .ok (.iaload, 1) := by decide +kernel
theorem dL_law_790 : decode code 790 = .ok (.aload_n 0, 1) := by decide +kernel
theorem dL_law_791 : decode code 791 = .ok (.iload_n 3, 1) := by decide +kernel
theorem dL_law_792 : decode code 792 = .ok (.iconst 2, 1) := by decide +kernel
theorem dL_law_793 : decode code 793 = .ok (.iadd, 1) := by decide +kernel
theorem dL_law_794 : decode code 794 = .ok (.iaload, 1) := by decide +kernel
theorem dL_law_795 : decode code 795 = .ok (.invokevirtual 100, 3) := by decide +kernel
theorem dL_law_798 : decode code 798 = .ok (.aload_n 2, 1) := by decide +kernel
theorem dL_law_799 : decode code 799 = .ok (.aload_n 0, 1) := by decide +kernel
theorem dL_law_800 : decode code 800 = .ok (.iload_n 3, 1) := by decide +kernel
theorem dL_law_801 : decode code 801 = .ok (.iconst 1, 1) := by decide +kernel
theorem dL_law_802 : decode code 802 = .ok (.iadd, 1) := by decide +kernel
theorem dL_law_803 : decode code 803 = .ok (.iaload, 1) := by decide +kernel
theorem dL_law_804 : decode code 804 = .ok (.aload_n 0, 1) := by decide +kernel
theorem dL_law_805 : decode code 805 = .ok (.iload_n 3, 1) := by decide +kernel
theorem dL_law_806 : decode code 806 = .ok (.iconst 2, 1) := by decide +kernel
theorem dL_law_807 : decode code 807 = .ok (.iadd, 1) := by decide +kernel
theorem dL_law_808 : decode code 808 = .ok (.iaload, 1) := by decide +kernel
theorem dL_law_809 : decode code 809 = .ok (.invokevirtual 103, 3) := by decide +kernel
theorem dL_law_812 : decode code 812 = .ok (.if_icmp .eq 263, 3) := by decide +kernel
theorem dL_law_815 : decode code 815 = .ok (.iconst 0, 1) := by decide +kernel
theorem dL_law_816 : decode code 816 = .ok (.ireturn, 1) := by decide +kernel
theorem dL_law_817 : decode code 817 = .ok (.aload_n 1, 1) := by decide +kernel
theorem dL_law_818 : decode code 818 = .ok (.aload_n 0, 1) := by decide +kernel
theorem dL_law_819 : decode code 819 = .ok (.iload_n 3, 1) := by decide +kernel
theorem dL_law_820 : decode code 820 = .ok (.iconst 1, 1) := by decide +kernel
theorem dL_law_821 : decode code 821 = .ok (.iadd, 1) := by decide +kernel
theorem dL_law_822 : decode code 822 = .ok (.iaload, 1) := by decide +kernel
theorem dL_law_823 : decode code 823 = .ok (.aload_n 0, 1) := by decide +kernel
theorem dL_law_824 : decode code 824 = .ok (.iload_n 3, 1) := by decide +kernel
theorem dL_law_825 : decode code 825 = .ok (.iconst 2, 1) := by decide +kernel
theorem dL_law_826 : decode code 826 = .ok (.iadd, 1) := by decide +kernel
theorem dL_law_827 : decode code 827 = .ok (.iaload, 1) := by decide +kernel
theorem dL_law_828 : decode code 828 = .ok (.aload_n 0, 1) := by decide +kernel
theorem dL_law_829 : decode code 829 = .ok (.iload_n 3, 1) := by decide +kernel
theorem dL_law_830 : decode code 830 = .ok (.iconst 3, 1) := by decide +kernel
theorem dL_law_831 : decode code 831 = .ok (.iadd, 1) := by decide +kernel
theorem dL_law_832 : decode code 832 = .ok (.iaload, 1) := by decide +kernel
theorem dL_law_833 : decode code 833 = .ok (.invokevirtual 104, 3) := by decide +kernel
theorem dL_law_836 : decode code 836 = .ok (.aload_n 2, 1) := by decide +kernel
theorem dL_law_837 : decode code 837 = .ok (.aload_n 0, 1) := by decide +kernel
theorem dL_law_838 : decode code 838 = .ok (.iload_n 3, 1) := by decide +kernel
theorem dL_law_839 : decode code 839 = .ok (.iconst 1, 1) := by decide +kernel
theorem dL_law_840 : decode code 840 = .ok (.iadd, 1) := by decide +kernel
theorem dL_law_841 : decode code 841 = .ok (.iaload, 1) := by decide +kernel
theorem dL_law_842 : decode code 842 = .ok (.aload_n 0, 1) := by decide +kernel
theorem dL_law_843 : decode code 843 = .ok (.iload_n 3, 1) := by decide +kernel
theorem dL_law_844 : decode code 844 = .ok (.iconst 2, 1) := by decide +kernel
theorem dL_law_845 : decode code 845 = .ok (.iadd, 1) := by decide +kernel
theorem dL_law_846 : decode code 846 = .ok (.iaload, 1) := by decide +kernel
theorem dL_law_847 : decode code 847 = .ok (.aload_n 0, 1) := by decide +kernel
theorem dL_law_848 : decode code 848 = .ok (.iload_n 3, 1) := by decide +kernel
theorem dL_law_849 : decode code 849 = .ok (.iconst 3, 1) := by decide +kernel
theorem dL_law_850 : decode code 850 = .ok (.iadd, 1) := by decide +kernel
theorem dL_law_851 : decode code 851 = .ok (.iaload, 1) := by decide +kernel
theorem dL_law_852 : decode code 852 = .ok (.invokevirtual 108, 3) := by decide +kernel
theorem dL_law_855 : decode code 855 = .ok (.lcmp, 1) := by decide +kernel
theorem dL_law_856 : decode code 856 = .ok (.ifCond .eq 219, 3) := by decide +kernel
theorem dL_law_859 : decode code 859 = .ok (.iconst 0, 1) := by decide +kernel
theorem dL_law_860 : decode code 860 = .ok (.ireturn, 1) := by decide +kernel
theorem dL_law_861 : decode code 861 = .ok (.aload_n 1, 1) := by decide +kernel
theorem dL_law_862 : decode code 862 = .ok (.aload_n 0, 1) := by decide +kernel
theorem dL_law_863 : decode code 863 = .ok (.iload_n 3, 1) := by decide +kernel
theorem dL_law_864 : decode code 864 = .ok (.iconst 1, 1) := by decide +kernel
theorem dL_law_865 : decode code 865 = .ok (.iadd, 1) := by decide +kernel
theorem dL_law_866 : decode code 866 = .ok (.iaload, 1) := by decide +kernel
theorem dL_law_867 : decode code 867 = .ok (.aload_n 0, 1) := by decide +kernel
theorem dL_law_868 : decode code 868 = .ok (.iload_n 3, 1) := by decide +kernel
theorem dL_law_869 : decode code 869 = .ok (.iconst 2, 1) := by decide +kernel
theorem dL_law_870 : decode code 870 = .ok (.iadd, 1) := by decide +kernel
theorem dL_law_871 : decode code 871 = .ok (.iaload, 1) := by decide +kernel
theorem dL_law_872 : decode code 872 = .ok (.invokevirtual 109, 3) := by decide +kernel
theorem dL_law_875 : decode code 875 = .ok (.aload_n 2, 1) := by decide +kernel
theorem dL_law_876 : decode code 876 = .ok (.aload_n 0, 1) := by decide +kernel
theorem dL_law_877 : decode code 877 = .ok (.iload_n 3, 1) := by decide +kernel
theorem dL_law_878 : decode code 878 = .ok (.iconst 1, 1) := by decide +kernel
theorem dL_law_879 : decode code 879 = .ok (.iadd, 1) := by decide +kernel
theorem dL_law_880 : decode code 880 = .ok (.iaload, 1) := by decide +kernel
theorem dL_law_881 : decode code 881 = .ok (.aload_n 0, 1) := by decide +kernel
theorem dL_law_882 : decode code 882 = .ok (.iload_n 3, 1) := by decide +kernel
theorem dL_law_883 : decode code 883 = .ok (.iconst 2, 1) := by decide +kernel
theorem dL_law_884 : decode code 884 = .ok (.iadd, 1) := by decide +kernel
theorem dL_law_885 : decode code 885 = .ok (.iaload, 1) := by decide +kernel
theorem dL_law_886 : decode code 886 = .ok (.invokevirtual 112, 3) := by decide +kernel
theorem dL_law_889 : decode code 889 = .ok (.if_icmp .eq 186, 3) := by decide +kernel
theorem dL_law_892 : decode code 892 = .ok (.iconst 0, 1) := by decide +kernel
theorem dL_law_893 : decode code 893 = .ok (.ireturn, 1) := by decide +kernel
theorem dL_law_894 : decode code 894 = .ok (.aload_n 1, 1) := by decide +kernel
theorem dL_law_895 : decode code 895 = .ok (.aload_n 0, 1) := by decide +kernel
theorem dL_law_896 : decode code 896 = .ok (.iload_n 3, 1) := by decide +kernel
theorem dL_law_897 : decode code 897 = .ok (.iconst 1, 1) := by decide +kernel
theorem dL_law_898 : decode code 898 = .ok (.iadd, 1) := by decide +kernel
theorem dL_law_899 : decode code 899 = .ok (.iaload, 1) := by decide +kernel
theorem dL_law_900 : decode code 900 = .ok (.invokevirtual 113, 3) := by decide +kernel
theorem dL_law_903 : decode code 903 = .ok (.aload_n 2, 1) := by decide +kernel
theorem dL_law_904 : decode code 904 = .ok (.aload_n 0, 1) := by decide +kernel
theorem dL_law_905 : decode code 905 = .ok (.iload_n 3, 1) := by decide +kernel
theorem dL_law_906 : decode code 906 = .ok (.iconst 1, 1) := by decide +kernel
theorem dL_law_907 : decode code 907 = .ok (.iadd, 1) := by decide +kernel
theorem dL_law_908 : decode code 908 = .ok (.iaload, 1) := by decide +kernel
theorem dL_law_909 : decode code 909 = .ok (.invokevirtual 116, 3) := by decide +kernel
theorem dL_law_912 : decode code 912 = .ok (.if_icmp .eq 163, 3) := by decide +kernel
theorem dL_law_915 : decode code 915 = .ok (.iconst 0, 1) := by decide +kernel
theorem dL_law_916 : decode code 916 = .ok (.ireturn, 1) := by decide +kernel
theorem dL_law_917 : decode code 917 = .ok (.aload_n 1, 1) := by decide +kernel
theorem dL_law_918 : decode code 918 = .ok (.aload_n 0, 1) := by decide +kernel
theorem dL_law_919 : decode code 919 = .ok (.iload_n 3, 1) := by decide +kernel
theorem dL_law_920 : decode code 920 = .ok (.iconst 1, 1) := by decide +kernel
theorem dL_law_921 : decode code 921 = .ok (.iadd, 1) := by decide +kernel
theorem dL_law_922 : decode code 922 = .ok (.iaload, 1) := by decide +kernel
theorem dL_law_923 : decode code 923 = .ok (.invokevirtual 117, 3) := by decide +kernel
theorem dL_law_926 : decode code 926 = .ok (.aload_n 2, 1) := by decide +kernel
theorem dL_law_927 : decode code 927 = .ok (.aload_n 0, 1) := by decide +kernel
theorem dL_law_928 : decode code 928 = .ok (.iload_n 3, 1) := by decide +kernel
theorem dL_law_929 : decode code 929 = .ok (.iconst 1, 1) := by decide +kernel
theorem dL_law_930 : decode code 930 = .ok (.iadd, 1) := by decide +kernel
theorem dL_law_931 : decode code 931 = .ok (.iaload, 1) := by decide +kernel
theorem dL_law_932 : decode code 932 = .ok (.invokevirtual 120, 3) := by decide +kernel
theorem dL_law_935 : decode code 935 = .ok (.if_icmp .eq 140, 3) := by decide +kernel
theorem dL_law_938 : decode code 938 = .ok (.iconst 0, 1) := by decide +kernel
theorem dL_law_939 : decode code 939 = .ok (.ireturn, 1) := by decide +kernel
theorem dL_law_940 : decode code 940 = .ok (.aload_n 1, 1) := by decide +kernel
theorem dL_law_941 : decode code 941 = .ok (.aload_n 0, 1) := by decide +kernel
theorem dL_law_942 : decode code 942 = .ok (.iload_n 3, 1) := by decide +kernel
theorem dL_law_943 : decode code 943 = .ok (.iconst 1, 1) := by decide +kernel
theorem dL_law_944 : decode code 944 = .ok (.iadd, 1) := by decide +kernel
theorem dL_law_945 : decode code 945 = .ok (.iaload, 1) := by decide +kernel
theorem dL_law_946 : decode code 946 = .ok (.invokevirtual 121, 3) := by decide +kernel
theorem dL_law_949 : decode code 949 = .ok (.aload_n 2, 1) := by decide +kernel
theorem dL_law_950 : decode code 950 = .ok (.aload_n 0, 1) := by decide +kernel
theorem dL_law_951 : decode code 951 = .ok (.iload_n 3, 1) := by decide +kernel
theorem dL_law_952 : decode code 952 = .ok (.iconst 1, 1) := by decide +kernel
theorem dL_law_953 : decode code 953 = .ok (.iadd, 1) := by decide +kernel
theorem dL_law_954 : decode code 954 = .ok (.iaload, 1) := by decide +kernel
theorem dL_law_955 : decode code 955 = .ok (.invokevirtual 124, 3) := by decide +kernel
theorem dL_law_958 : decode code 958 = .ok (.if_icmp .eq 117, 3) := by decide +kernel
theorem dL_law_961 : decode code 961 = .ok (.iconst 0, 1) := by decide +kernel
theorem dL_law_962 : decode code 962 = .ok (.ireturn, 1) := by decide +kernel
theorem dL_law_963 : decode code 963 = .ok (.aload_n 1, 1) := by decide +kernel
theorem dL_law_964 : decode code 964 = .ok (.aload_n 0, 1) := by decide +kernel
theorem dL_law_965 : decode code 965 = .ok (.iload_n 3, 1) := by decide +kernel
theorem dL_law_966 : decode code 966 = .ok (.iconst 1, 1) := by decide +kernel
theorem dL_law_967 : decode code 967 = .ok (.iadd, 1) := by decide +kernel
theorem dL_law_968 : decode code 968 = .ok (.iaload, 1) := by decide +kernel
theorem dL_law_969 : decode code 969 = .ok (.aload_n 0, 1) := by decide +kernel
theorem dL_law_970 : decode code 970 = .ok (.iload_n 3, 1) := by decide +kernel
theorem dL_law_971 : decode code 971 = .ok (.iconst 2, 1) := by decide +kernel
theorem dL_law_972 : decode code 972 = .ok (.iadd, 1) := by decide +kernel
theorem dL_law_973 : decode code 973 = .ok (.iaload, 1) := by decide +kernel
theorem dL_law_974 : decode code 974 = .ok (.aload_n 0, 1) := by decide +kernel
theorem dL_law_975 : decode code 975 = .ok (.iload_n 3, 1) := by decide +kernel
theorem dL_law_976 : decode code 976 = .ok (.iconst 3, 1) := by decide +kernel
theorem dL_law_977 : decode code 977 = .ok (.iadd, 1) := by decide +kernel
theorem dL_law_978 : decode code 978 = .ok (.iaload, 1) := by decide +kernel
theorem dL_law_979 : decode code 979 = .ok (.invokevirtual 125, 3) := by decide +kernel
theorem dL_law_982 : decode code 982 = .ok (.aload_n 2, 1) := by decide +kernel
theorem dL_law_983 : decode code 983 = .ok (.aload_n 0, 1) := by decide +kernel
theorem dL_law_984 : decode code 984 = .ok (.iload_n 3, 1) := by decide +kernel
theorem dL_law_985 : decode code 985 = .ok (.iconst 1, 1) := by decide +kernel
theorem dL_law_986 : decode code 986 = .ok (.iadd, 1) := by decide +kernel
theorem dL_law_987 : decode code 987 = .ok (.iaload, 1) := by decide +kernel
theorem dL_law_988 : decode code 988 = .ok (.aload_n 0, 1) := by decide +kernel
theorem dL_law_989 : decode code 989 = .ok (.iload_n 3, 1) := by decide +kernel
theorem dL_law_990 : decode code 990 = .ok (.iconst 2, 1) := by decide +kernel
theorem dL_law_991 : decode code 991 = .ok (.iadd, 1) := by decide +kernel
theorem dL_law_992 : decode code 992 = .ok (.iaload, 1) := by decide +kernel
theorem dL_law_993 : decode code 993 = .ok (.aload_n 0, 1) := by decide +kernel
theorem dL_law_994 : decode code 994 = .ok (.iload_n 3, 1) := by decide +kernel
theorem dL_law_995 : decode code 995 = .ok (.iconst 3, 1) := by decide +kernel
theorem dL_law_996 : decode code 996 = .ok (.iadd, 1) := by decide +kernel
theorem dL_law_997 : decode code 997 = .ok (.iaload, 1) := by decide +kernel
theorem dL_law_998 : decode code 998 = .ok (.invokevirtual 128, 3) := by decide +kernel
theorem dL_law_1001 : decode code 1001 = .ok (.if_icmp .eq 74, 3) := by decide +kernel
theorem dL_law_1004 : decode code 1004 = .ok (.iconst 0, 1) := by decide +kernel
theorem dL_law_1005 : decode code 1005 = .ok (.ireturn, 1) := by decide +kernel
theorem dL_law_1006 : decode code 1006 = .ok (.aload_n 1, 1) := by decide +kernel
theorem dL_law_1007 : decode code 1007 = .ok (.aload_n 0, 1) := by decide +kernel
theorem dL_law_1008 : decode code 1008 = .ok (.iload_n 3, 1) := by decide +kernel
theorem dL_law_1009 : decode code 1009 = .ok (.iconst 1, 1) := by decide +kernel
theorem dL_law_1010 : decode code 1010 = .ok (.iadd, 1) := by decide +kernel
theorem dL_law_1011 : decode code 1011 = .ok (.iaload, 1) := by decide +kernel
theorem dL_law_1012 : decode code 1012 = .ok (.invokevirtual 129, 3) := by decide +kernel
theorem dL_law_1015 : decode code 1015 = .ok (.aload_n 2, 1) := by decide +kernel
theorem dL_law_1016 : decode code 1016 = .ok (.aload_n 0, 1) := by decide +kernel
theorem dL_law_1017 : decode code 1017 = .ok (.iload_n 3, 1) := by decide +kernel
theorem dL_law_1018 : decode code 1018 = .ok (.iconst 1, 1) := by decide +kernel
theorem dL_law_1019 : decode code 1019 = .ok (.iadd, 1) := by decide +kernel
theorem dL_law_1020 : decode code 1020 = .ok (.iaload, 1) := by decide +kernel
theorem dL_law_1021 : decode code 1021 = .ok (.invokevirtual 132, 3) := by decide +kernel
theorem dL_law_1024 : decode code 1024 = .ok (.if_icmp .eq 51, 3) := by decide +kernel
theorem dL_law_1027 : decode code 1027 = .ok (.iconst 0, 1) := by decide +kernel
theorem dL_law_1028 : decode code 1028 = .ok (.ireturn, 1) := by decide +kernel
theorem dL_law_1029 : decode code 1029 = .ok (.aload_n 1, 1) := by decide +kernel
theorem dL_law_1030 : decode code 1030 = .ok (.aload_n 0, 1) := by decide +kernel
theorem dL_law_1031 : decode code 1031 = .ok (.iload_n 3, 1) := by decide +kernel
theorem dL_law_1032 : decode code 1032 = .ok (.iconst 1, 1) := by decide +kernel
theorem dL_law_1033 : decode code 1033 = .ok (.iadd, 1) := by decide +kernel
theorem dL_law_1034 : decode code 1034 = .ok (.iaload, 1) := by decide +kernel
theorem dL_law_1035 : decode code 1035 = .ok (.invokevirtual 133, 3) := by decide +kernel
theorem dL_law_1038 : decode code 1038 = .ok (.aload_n 2, 1) := by decide +kernel
theorem dL_law_1039 : decode code 1039 = .ok (.aload_n 0, 1) := by decide +kernel
theorem dL_law_1040 : decode code 1040 = .ok (.iload_n 3, 1) := by decide +kernel
theorem dL_law_1041 : decode code 1041 = .ok (.iconst 1, 1) := by decide +kernel
theorem dL_law_1042 : decode code 1042 = .ok (.iadd, 1) := by decide +kernel
theorem dL_law_1043 : decode code 1043 = .ok (.iaload, 1) := by decide +kernel
theorem dL_law_1044 : decode code 1044 = .ok (.invokevirtual 136, 3) := by decide +kernel
theorem dL_law_1047 : decode code 1047 = .ok (.if_icmp .eq 28, 3) := by decide +kernel
theorem dL_law_1050 : decode code 1050 = .ok (.iconst 0, 1) := by decide +kernel
theorem dL_law_1051 : decode code 1051 = .ok (.ireturn, 1) := by decide +kernel
theorem dL_law_1052 : decode code 1052 = .ok (.aload_n 1, 1) := by decide +kernel
theorem dL_law_1053 : decode code 1053 = .ok (.aload_n 0, 1) := by decide +kernel
theorem dL_law_1054 : decode code 1054 = .ok (.iload_n 3, 1) := by decide +kernel
theorem dL_law_1055 : decode code 1055 = .ok (.iconst 1, 1) := by decide +kernel
theorem dL_law_1056 : decode code 1056 = .ok (.iadd, 1) := by decide +kernel
theorem dL_law_1057 : decode code 1057 = .ok (.iaload, 1) := by decide +kernel
theorem dL_law_1058 : decode code 1058 = .ok (.invokevirtual 137, 3) := by decide +kernel
theorem dL_law_1061 : decode code 1061 = .ok (.aload_n 2, 1) := by decide +kernel
theorem dL_law_1062 : decode code 1062 = .ok (.aload_n 0, 1) := by decide +kernel
theorem dL_law_1063 : decode code 1063 = .ok (.iload_n 3, 1) := by decide +kernel
theorem dL_law_1064 : decode code 1064 = .ok (.iconst 1, 1) := by decide +kernel
theorem dL_law_1065 : decode code 1065 = .ok (.iadd, 1) := by decide +kernel
theorem dL_law_1066 : decode code 1066 = .ok (.iaload, 1) := by decide +kernel
theorem dL_law_1067 : decode code 1067 = .ok (.invokevirtual 140, 3) := by decide +kernel
theorem dL_law_1070 : decode code 1070 = .ok (.if_icmp .eq 5, 3) := by decide +kernel
theorem dL_law_1073 : decode code 1073 = .ok (.iconst 0, 1) := by decide +kernel
theorem dL_law_1074 : decode code 1074 = .ok (.ireturn, 1) := by decide +kernel
theorem dL_law_1075 : decode code 1075 = .ok (.iinc 3 6, 3) := by decide +kernel
theorem dL_law_1078 : decode code 1078 = .ok (.goto (-1060), 3) := by decide +kernel
theorem dL_law_1081 : decode code 1081 = .ok (.iconst 1, 1) := by decide +kernel
theorem dL_law_1082 : decode code 1082 = .ok (.ireturn, 1) := by decide +kernel
abbrev D_L_law : Nat := 74
def f_L_law_L18 (L : Nat) (xs : Nat → Int32) (K229 : Mm → Option (Int32 × Mm)) (K252 : Mm → Option (Int32 × Mm)) (K265 : Mm → Option (Int32 × Mm)) (K278 : Mm → Option (Int32 × Mm)) (K301 : Mm → Option (Int32 × Mm)) (K334 : Mm → Option (Int32 × Mm)) (K367 : Mm → Option (Int32 × Mm)) (K400 : Mm → Option (Int32 × Mm)) (K433 : Mm → Option (Int32 × Mm)) (K466 : Mm → Option (Int32 × Mm)) (K499 : Mm → Option (Int32 × Mm)) (K522 : Mm → Option (Int32 × Mm)) (K535 : Mm → Option (Int32 × Mm)) (K578 : Mm → Option (Int32 × Mm)) (K601 : Mm → Option (Int32 × Mm)) (K634 : Mm → Option (Int32 × Mm)) (K683 : Mm → Option (Int32 × Mm)) (K716 : Mm → Option (Int32 × Mm)) (K749 : Mm → Option (Int32 × Mm)) (K782 : Mm → Option (Int32 × Mm)) (K815 : Mm → Option (Int32 × Mm)) (K859 : Mm → Option (Int32 × Mm)) (K892 : Mm → Option (Int32 × Mm)) (K915 : Mm → Option (Int32 × Mm)) (K938 : Mm → Option (Int32 × Mm)) (K961 : Mm → Option (Int32 × Mm)) (K1004 : Mm → Option (Int32 × Mm)) (K1027 : Mm → Option (Int32 × Mm)) (K1050 : Mm → Option (Int32 × Mm)) (K1073 : Mm → Option (Int32 × Mm)) (K1081 : Mm → Option (Int32 × Mm)) : Nat → Mm → Nat → Nat → Nat → Int32 → Option (Int32 × Mm)
  | 0, _, _, _, _, _ => none
  | n + 1, μ0, a11, a12, a13, x14 =>
    ((sG L a11).bind fun v15 =>
    (if (v15 - (6 : Int32)) < x14 then
    K1081 μ0
    else
    ((sS L xs a11 x14).bind fun v16 =>
    (if (v16 &&& (31 : Int32)) = (0 : Int32) then
    ((sS L xs a11 (x14 + (1 : Int32))).bind fun v266 =>
    ((sS L xs a11 (x14 + (2 : Int32))).bind fun v267 =>
    ((sS L xs a11 (x14 + (3 : Int32))).bind fun v268 =>
    ((sS L xs a11 (x14 + (4 : Int32))).bind fun v269 =>
    ((sS L xs a11 (x14 + (5 : Int32))).bind fun v270 =>
    ((ob μ0 a12 11).bind fun _ =>
    (bd (f_X11_feed μ0 a12 v266 v267 v268 v269 v270) fun v272 μ271 =>
    ((sS L xs a11 (x14 + (1 : Int32))).bind fun v273 =>
    ((sS L xs a11 (x14 + (2 : Int32))).bind fun v274 =>
    ((sS L xs a11 (x14 + (3 : Int32))).bind fun v275 =>
    ((sS L xs a11 (x14 + (4 : Int32))).bind fun v276 =>
    ((sS L xs a11 (x14 + (5 : Int32))).bind fun v277 =>
    ((ob μ271 a13 12).bind fun _ =>
    (bd (f_X12_feed μ271 a13 v273 v274 v275 v276 v277) fun v279 μ278 =>
    (if v272 = v279 then
    (nm (x14 + Int32.ofInt (6)) fun x280 =>
    f_L_law_L18 L xs K229 K252 K265 K278 K301 K334 K367 K400 K433 K466 K499 K522 K535 K578 K601 K634 K683 K716 K749 K782 K815 K859 K892 K915 K938 K961 K1004 K1027 K1050 K1073 K1081 n μ278 a11 a12 a13 x280)
    else
    K229 μ278)))))))))))))))
    else
    (if (v16 &&& (31 : Int32)) = (1 : Int32) then
    ((sS L xs a11 (x14 + (1 : Int32))).bind fun v259 =>
    ((ob μ0 a12 11).bind fun _ =>
    (bd (f_X11_end μ0 a12 v259) fun v261 μ260 =>
    ((sS L xs a11 (x14 + (1 : Int32))).bind fun v262 =>
    ((ob μ260 a13 12).bind fun _ =>
    (bd (f_X12_end μ260 a13 v262) fun v264 μ263 =>
    (if v261 = v264 then
    (nm (x14 + Int32.ofInt (6)) fun x265 =>
    f_L_law_L18 L xs K229 K252 K265 K278 K301 K334 K367 K400 K433 K466 K499 K522 K535 K578 K601 K634 K683 K716 K749 K782 K815 K859 K892 K915 K938 K961 K1004 K1027 K1050 K1073 K1081 n μ263 a11 a12 a13 x265)
    else
    K252 μ263)))))))
    else
    (if (v16 &&& (31 : Int32)) = (2 : Int32) then
    ((ob μ0 a12 11).bind fun _ =>
    (bd (f_X11_ground μ0 a12) fun v255 μ254 =>
    ((ob μ254 a13 12).bind fun _ =>
    (bd (f_X12_ground μ254 a13) fun v257 μ256 =>
    (if v255 = v257 then
    (nm (x14 + Int32.ofInt (6)) fun x258 =>
    f_L_law_L18 L xs K229 K252 K265 K278 K301 K334 K367 K400 K433 K466 K499 K522 K535 K578 K601 K634 K683 K716 K749 K782 K815 K859 K892 K915 K938 K961 K1004 K1027 K1050 K1073 K1081 n μ256 a11 a12 a13 x258)
    else
    K265 μ256)))))
    else
    (if (v16 &&& (31 : Int32)) = (3 : Int32) then
    ((ob μ0 a12 11).bind fun _ =>
    (bd (f_X11_rule μ0 a12) fun v250 μ249 =>
    ((ob μ249 a13 12).bind fun _ =>
    (bd (f_X12_rule μ249 a13) fun v252 μ251 =>
    (if v250 = v252 then
    (nm (x14 + Int32.ofInt (6)) fun x253 =>
    f_L_law_L18 L xs K229 K252 K265 K278 K301 K334 K367 K400 K433 K466 K499 K522 K535 K578 K601 K634 K683 K716 K749 K782 K815 K859 K892 K915 K938 K961 K1004 K1027 K1050 K1073 K1081 n μ251 a11 a12 a13 x253)
    else
    K278 μ251)))))
    else
    (if (v16 &&& (31 : Int32)) = (4 : Int32) then
    ((sS L xs a11 (x14 + (1 : Int32))).bind fun v242 =>
    ((ob μ0 a12 11).bind fun _ =>
    (bd (f_X11_force μ0 a12 v242) fun v244 μ243 =>
    ((sS L xs a11 (x14 + (1 : Int32))).bind fun v245 =>
    ((ob μ243 a13 12).bind fun _ =>
    (bd (f_X12_force μ243 a13 v245) fun v247 μ246 =>
    (if v244 = v247 then
    (nm (x14 + Int32.ofInt (6)) fun x248 =>
    f_L_law_L18 L xs K229 K252 K265 K278 K301 K334 K367 K400 K433 K466 K499 K522 K535 K578 K601 K634 K683 K716 K749 K782 K815 K859 K892 K915 K938 K961 K1004 K1027 K1050 K1073 K1081 n μ246 a11 a12 a13 x248)
    else
    K301 μ246)))))))
    else
    (if (v16 &&& (31 : Int32)) = (5 : Int32) then
    ((sS L xs a11 (x14 + (1 : Int32))).bind fun v233 =>
    ((sS L xs a11 (x14 + (2 : Int32))).bind fun v234 =>
    ((ob μ0 a12 11).bind fun _ =>
    (bd (f_X11_cell μ0 a12 v233 v234) fun v236 μ235 =>
    ((sS L xs a11 (x14 + (1 : Int32))).bind fun v237 =>
    ((sS L xs a11 (x14 + (2 : Int32))).bind fun v238 =>
    ((ob μ235 a13 12).bind fun _ =>
    (bd (f_X12_cell μ235 a13 v237 v238) fun v240 μ239 =>
    (if v236 = v240 then
    (nm (x14 + Int32.ofInt (6)) fun x241 =>
    f_L_law_L18 L xs K229 K252 K265 K278 K301 K334 K367 K400 K433 K466 K499 K522 K535 K578 K601 K634 K683 K716 K749 K782 K815 K859 K892 K915 K938 K961 K1004 K1027 K1050 K1073 K1081 n μ239 a11 a12 a13 x241)
    else
    K334 μ239)))))))))
    else
    (if (v16 &&& (31 : Int32)) = (6 : Int32) then
    ((sS L xs a11 (x14 + (1 : Int32))).bind fun v224 =>
    ((sS L xs a11 (x14 + (2 : Int32))).bind fun v225 =>
    ((ob μ0 a12 11).bind fun _ =>
    (bd (f_X11_person μ0 a12 v224 v225) fun v227 μ226 =>
    ((sS L xs a11 (x14 + (1 : Int32))).bind fun v228 =>
    ((sS L xs a11 (x14 + (2 : Int32))).bind fun v229 =>
    ((ob μ226 a13 12).bind fun _ =>
    (bd (f_X12_person μ226 a13 v228 v229) fun v231 μ230 =>
    (if v227 = v231 then
    (nm (x14 + Int32.ofInt (6)) fun x232 =>
    f_L_law_L18 L xs K229 K252 K265 K278 K301 K334 K367 K400 K433 K466 K499 K522 K535 K578 K601 K634 K683 K716 K749 K782 K815 K859 K892 K915 K938 K961 K1004 K1027 K1050 K1073 K1081 n μ230 a11 a12 a13 x232)
    else
    K367 μ230)))))))))
    else
    (if (v16 &&& (31 : Int32)) = (7 : Int32) then
    ((sS L xs a11 (x14 + (1 : Int32))).bind fun v215 =>
    ((sS L xs a11 (x14 + (2 : Int32))).bind fun v216 =>
    ((ob μ0 a12 11).bind fun _ =>
    (bd (f_X11_thing μ0 a12 v215 v216) fun v218 μ217 =>
    ((sS L xs a11 (x14 + (1 : Int32))).bind fun v219 =>
    ((sS L xs a11 (x14 + (2 : Int32))).bind fun v220 =>
    ((ob μ217 a13 12).bind fun _ =>
    (bd (f_X12_thing μ217 a13 v219 v220) fun v222 μ221 =>
    (if v218 = v222 then
    (nm (x14 + Int32.ofInt (6)) fun x223 =>
    f_L_law_L18 L xs K229 K252 K265 K278 K301 K334 K367 K400 K433 K466 K499 K522 K535 K578 K601 K634 K683 K716 K749 K782 K815 K859 K892 K915 K938 K961 K1004 K1027 K1050 K1073 K1081 n μ221 a11 a12 a13 x223)
    else
    K400 μ221)))))))))
    else
    (if (v16 &&& (31 : Int32)) = (8 : Int32) then
    ((sS L xs a11 (x14 + (1 : Int32))).bind fun v206 =>
    ((sS L xs a11 (x14 + (2 : Int32))).bind fun v207 =>
    ((ob μ0 a12 11).bind fun _ =>
    (bd (f_X11_fall μ0 a12 v206 v207) fun v209 μ208 =>
    ((sS L xs a11 (x14 + (1 : Int32))).bind fun v210 =>
    ((sS L xs a11 (x14 + (2 : Int32))).bind fun v211 =>
    ((ob μ208 a13 12).bind fun _ =>
    (bd (f_X12_fall μ208 a13 v210 v211) fun v213 μ212 =>
    (if v209 = v213 then
    (nm (x14 + Int32.ofInt (6)) fun x214 =>
    f_L_law_L18 L xs K229 K252 K265 K278 K301 K334 K367 K400 K433 K466 K499 K522 K535 K578 K601 K634 K683 K716 K749 K782 K815 K859 K892 K915 K938 K961 K1004 K1027 K1050 K1073 K1081 n μ212 a11 a12 a13 x214)
    else
    K433 μ212)))))))))
    else
    (if (v16 &&& (31 : Int32)) = (9 : Int32) then
    ((sS L xs a11 (x14 + (1 : Int32))).bind fun v197 =>
    ((sS L xs a11 (x14 + (2 : Int32))).bind fun v198 =>
    ((ob μ0 a12 11).bind fun _ =>
    (bd (f_X11_walk μ0 a12 v197 v198) fun v200 μ199 =>
    ((sS L xs a11 (x14 + (1 : Int32))).bind fun v201 =>
    ((sS L xs a11 (x14 + (2 : Int32))).bind fun v202 =>
    ((ob μ199 a13 12).bind fun _ =>
    (bd (f_X12_walk μ199 a13 v201 v202) fun v204 μ203 =>
    (if v200 = v204 then
    (nm (x14 + Int32.ofInt (6)) fun x205 =>
    f_L_law_L18 L xs K229 K252 K265 K278 K301 K334 K367 K400 K433 K466 K499 K522 K535 K578 K601 K634 K683 K716 K749 K782 K815 K859 K892 K915 K938 K961 K1004 K1027 K1050 K1073 K1081 n μ203 a11 a12 a13 x205)
    else
    K466 μ203)))))))))
    else
    (if (v16 &&& (31 : Int32)) = (10 : Int32) then
    ((sS L xs a11 (x14 + (1 : Int32))).bind fun v188 =>
    ((sS L xs a11 (x14 + (2 : Int32))).bind fun v189 =>
    ((ob μ0 a12 11).bind fun _ =>
    (bd (f_X11_put μ0 a12 v188 v189) fun v191 μ190 =>
    ((sS L xs a11 (x14 + (1 : Int32))).bind fun v192 =>
    ((sS L xs a11 (x14 + (2 : Int32))).bind fun v193 =>
    ((ob μ190 a13 12).bind fun _ =>
    (bd (f_X12_put_ μ190 a13 v192 v193) fun v195 μ194 =>
    (if v191 = v195 then
    (nm (x14 + Int32.ofInt (6)) fun x196 =>
    f_L_law_L18 L xs K229 K252 K265 K278 K301 K334 K367 K400 K433 K466 K499 K522 K535 K578 K601 K634 K683 K716 K749 K782 K815 K859 K892 K915 K938 K961 K1004 K1027 K1050 K1073 K1081 n μ194 a11 a12 a13 x196)
    else
    K499 μ194)))))))))
    else
    (if (v16 &&& (31 : Int32)) = (11 : Int32) then
    ((sS L xs a11 (x14 + (1 : Int32))).bind fun v181 =>
    ((ob μ0 a12 11).bind fun _ =>
    (bd (f_X11_mend μ0 a12 v181) fun v183 μ182 =>
    ((sS L xs a11 (x14 + (1 : Int32))).bind fun v184 =>
    ((ob μ182 a13 12).bind fun _ =>
    (bd (f_X12_mend μ182 a13 v184) fun v186 μ185 =>
    (if v183 = v186 then
    (nm (x14 + Int32.ofInt (6)) fun x187 =>
    f_L_law_L18 L xs K229 K252 K265 K278 K301 K334 K367 K400 K433 K466 K499 K522 K535 K578 K601 K634 K683 K716 K749 K782 K815 K859 K892 K915 K938 K961 K1004 K1027 K1050 K1073 K1081 n μ185 a11 a12 a13 x187)
    else
    K522 μ185)))))))
    else
    (if (v16 &&& (31 : Int32)) = (12 : Int32) then
    ((ob μ0 a12 11).bind fun _ =>
    (bd (f_X11_undo μ0 a12) fun v177 μ176 =>
    ((ob μ176 a13 12).bind fun _ =>
    (bd (f_X12_undo μ176 a13) fun v179 μ178 =>
    (if v177 = v179 then
    (nm (x14 + Int32.ofInt (6)) fun x180 =>
    f_L_law_L18 L xs K229 K252 K265 K278 K301 K334 K367 K400 K433 K466 K499 K522 K535 K578 K601 K634 K683 K716 K749 K782 K815 K859 K892 K915 K938 K961 K1004 K1027 K1050 K1073 K1081 n μ178 a11 a12 a13 x180)
    else
    K535 μ178)))))
    else
    (if (v16 &&& (31 : Int32)) = (13 : Int32) then
    ((sS L xs a11 (x14 + (1 : Int32))).bind fun v165 =>
    ((sS L xs a11 (x14 + (2 : Int32))).bind fun v166 =>
    ((sS L xs a11 (x14 + (3 : Int32))).bind fun v167 =>
    ((ob μ0 a12 11).bind fun _ =>
    (bd (f_X11_would μ0 a12 v165 v166 v167) fun v169 μ168 =>
    ((sS L xs a11 (x14 + (1 : Int32))).bind fun v170 =>
    ((sS L xs a11 (x14 + (2 : Int32))).bind fun v171 =>
    ((sS L xs a11 (x14 + (3 : Int32))).bind fun v172 =>
    ((ob μ168 a13 12).bind fun _ =>
    (bd (f_X12_would μ168 a13 v170 v171 v172) fun v174 μ173 =>
    (if v169 = v174 then
    (nm (x14 + Int32.ofInt (6)) fun x175 =>
    f_L_law_L18 L xs K229 K252 K265 K278 K301 K334 K367 K400 K433 K466 K499 K522 K535 K578 K601 K634 K683 K716 K749 K782 K815 K859 K892 K915 K938 K961 K1004 K1027 K1050 K1073 K1081 n μ173 a11 a12 a13 x175)
    else
    K578 μ173)))))))))))
    else
    (if (v16 &&& (31 : Int32)) = (14 : Int32) then
    ((sS L xs a11 (x14 + (1 : Int32))).bind fun v158 =>
    ((ob μ0 a12 11).bind fun _ =>
    (bd (f_X11_lean μ0 a12 v158) fun v160 μ159 =>
    ((sS L xs a11 (x14 + (1 : Int32))).bind fun v161 =>
    ((ob μ159 a13 12).bind fun _ =>
    (bd (f_X12_lean μ159 a13 v161) fun v163 μ162 =>
    (if v160 = v163 then
    (nm (x14 + Int32.ofInt (6)) fun x164 =>
    f_L_law_L18 L xs K229 K252 K265 K278 K301 K334 K367 K400 K433 K466 K499 K522 K535 K578 K601 K634 K683 K716 K749 K782 K815 K859 K892 K915 K938 K961 K1004 K1027 K1050 K1073 K1081 n μ162 a11 a12 a13 x164)
    else
    K601 μ162)))))))
    else
    (if (v16 &&& (31 : Int32)) = (15 : Int32) then
    ((sS L xs a11 (x14 + (1 : Int32))).bind fun v149 =>
    ((sS L xs a11 (x14 + (2 : Int32))).bind fun v150 =>
    ((ob μ0 a12 11).bind fun _ =>
    (bd (f_X11_way μ0 a12 v149 v150) fun v152 μ151 =>
    ((sS L xs a11 (x14 + (1 : Int32))).bind fun v153 =>
    ((sS L xs a11 (x14 + (2 : Int32))).bind fun v154 =>
    ((ob μ151 a13 12).bind fun _ =>
    (bd (f_X12_way μ151 a13 v153 v154) fun v156 μ155 =>
    (if v152 = v156 then
    (nm (x14 + Int32.ofInt (6)) fun x157 =>
    f_L_law_L18 L xs K229 K252 K265 K278 K301 K334 K367 K400 K433 K466 K499 K522 K535 K578 K601 K634 K683 K716 K749 K782 K815 K859 K892 K915 K938 K961 K1004 K1027 K1050 K1073 K1081 n μ155 a11 a12 a13 x157)
    else
    K634 μ155)))))))))
    else
    (if (v16 &&& (31 : Int32)) = (16 : Int32) then
    ((sS L xs a11 (x14 + (1 : Int32))).bind fun v127 =>
    ((sS L xs a11 (x14 + (2 : Int32))).bind fun v128 =>
    (if v128 = 0 then
    ((ob μ0 a12 11).bind fun _ =>
    (bd (f_X11_clue μ0 a12 v127 (0 : Int32)) fun v130 μ129 =>
    ((sS L xs a11 (x14 + (1 : Int32))).bind fun v131 =>
    ((sS L xs a11 (x14 + (2 : Int32))).bind fun v132 =>
    (if v132 = 0 then
    ((ob μ129 a13 12).bind fun _ =>
    (bd (f_X12_clue μ129 a13 v131 (0 : Int32)) fun v134 μ133 =>
    (if v130 = v134 then
    (nm (x14 + Int32.ofInt (6)) fun x135 =>
    f_L_law_L18 L xs K229 K252 K265 K278 K301 K334 K367 K400 K433 K466 K499 K522 K535 K578 K601 K634 K683 K716 K749 K782 K815 K859 K892 K915 K938 K961 K1004 K1027 K1050 K1073 K1081 n μ133 a11 a12 a13 x135)
    else
    K683 μ133)))
    else
    ((ob μ129 a13 12).bind fun _ =>
    (bd (f_X12_clue μ129 a13 v131 (1 : Int32)) fun v137 μ136 =>
    (if v130 = v137 then
    (nm (x14 + Int32.ofInt (6)) fun x138 =>
    f_L_law_L18 L xs K229 K252 K265 K278 K301 K334 K367 K400 K433 K466 K499 K522 K535 K578 K601 K634 K683 K716 K749 K782 K815 K859 K892 K915 K938 K961 K1004 K1027 K1050 K1073 K1081 n μ136 a11 a12 a13 x138)
    else
    K683 μ136))))))))
    else
    ((ob μ0 a12 11).bind fun _ =>
    (bd (f_X11_clue μ0 a12 v127 (1 : Int32)) fun v140 μ139 =>
    ((sS L xs a11 (x14 + (1 : Int32))).bind fun v141 =>
    ((sS L xs a11 (x14 + (2 : Int32))).bind fun v142 =>
    (if v142 = 0 then
    ((ob μ139 a13 12).bind fun _ =>
    (bd (f_X12_clue μ139 a13 v141 (0 : Int32)) fun v144 μ143 =>
    (if v140 = v144 then
    (nm (x14 + Int32.ofInt (6)) fun x145 =>
    f_L_law_L18 L xs K229 K252 K265 K278 K301 K334 K367 K400 K433 K466 K499 K522 K535 K578 K601 K634 K683 K716 K749 K782 K815 K859 K892 K915 K938 K961 K1004 K1027 K1050 K1073 K1081 n μ143 a11 a12 a13 x145)
    else
    K683 μ143)))
    else
    ((ob μ139 a13 12).bind fun _ =>
    (bd (f_X12_clue μ139 a13 v141 (1 : Int32)) fun v147 μ146 =>
    (if v140 = v147 then
    (nm (x14 + Int32.ofInt (6)) fun x148 =>
    f_L_law_L18 L xs K229 K252 K265 K278 K301 K334 K367 K400 K433 K466 K499 K522 K535 K578 K601 K634 K683 K716 K749 K782 K815 K859 K892 K915 K938 K961 K1004 K1027 K1050 K1073 K1081 n μ146 a11 a12 a13 x148)
    else
    K683 μ146)))))))))))
    else
    (if (v16 &&& (31 : Int32)) = (17 : Int32) then
    ((sS L xs a11 (x14 + (1 : Int32))).bind fun v118 =>
    ((sS L xs a11 (x14 + (2 : Int32))).bind fun v119 =>
    ((ob μ0 a12 11).bind fun _ =>
    (bd (f_X11_from μ0 a12 v118 v119) fun v121 μ120 =>
    ((sS L xs a11 (x14 + (1 : Int32))).bind fun v122 =>
    ((sS L xs a11 (x14 + (2 : Int32))).bind fun v123 =>
    ((ob μ120 a13 12).bind fun _ =>
    (bd (f_X12_from μ120 a13 v122 v123) fun v125 μ124 =>
    (if v121 = v125 then
    (nm (x14 + Int32.ofInt (6)) fun x126 =>
    f_L_law_L18 L xs K229 K252 K265 K278 K301 K334 K367 K400 K433 K466 K499 K522 K535 K578 K601 K634 K683 K716 K749 K782 K815 K859 K892 K915 K938 K961 K1004 K1027 K1050 K1073 K1081 n μ124 a11 a12 a13 x126)
    else
    K716 μ124)))))))))
    else
    (if (v16 &&& (31 : Int32)) = (18 : Int32) then
    ((sS L xs a11 (x14 + (1 : Int32))).bind fun v109 =>
    ((sS L xs a11 (x14 + (2 : Int32))).bind fun v110 =>
    ((ob μ0 a12 11).bind fun _ =>
    (bd (f_X11_shard μ0 a12 v109 v110) fun v112 μ111 =>
    ((sS L xs a11 (x14 + (1 : Int32))).bind fun v113 =>
    ((sS L xs a11 (x14 + (2 : Int32))).bind fun v114 =>
    ((ob μ111 a13 12).bind fun _ =>
    (bd (f_X12_shard μ111 a13 v113 v114) fun v116 μ115 =>
    (if v112 = v116 then
    (nm (x14 + Int32.ofInt (6)) fun x117 =>
    f_L_law_L18 L xs K229 K252 K265 K278 K301 K334 K367 K400 K433 K466 K499 K522 K535 K578 K601 K634 K683 K716 K749 K782 K815 K859 K892 K915 K938 K961 K1004 K1027 K1050 K1073 K1081 n μ115 a11 a12 a13 x117)
    else
    K749 μ115)))))))))
    else
    (if (v16 &&& (31 : Int32)) = (19 : Int32) then
    ((sS L xs a11 (x14 + (1 : Int32))).bind fun v100 =>
    ((sS L xs a11 (x14 + (2 : Int32))).bind fun v101 =>
    ((ob μ0 a12 11).bind fun _ =>
    (bd (f_X11_trays μ0 a12 v100 v101) fun v103 μ102 =>
    ((sS L xs a11 (x14 + (1 : Int32))).bind fun v104 =>
    ((sS L xs a11 (x14 + (2 : Int32))).bind fun v105 =>
    ((ob μ102 a13 12).bind fun _ =>
    (bd (f_X12_trays μ102 a13 v104 v105) fun v107 μ106 =>
    (if v103 = v107 then
    (nm (x14 + Int32.ofInt (6)) fun x108 =>
    f_L_law_L18 L xs K229 K252 K265 K278 K301 K334 K367 K400 K433 K466 K499 K522 K535 K578 K601 K634 K683 K716 K749 K782 K815 K859 K892 K915 K938 K961 K1004 K1027 K1050 K1073 K1081 n μ106 a11 a12 a13 x108)
    else
    K782 μ106)))))))))
    else
    (if (v16 &&& (31 : Int32)) = (20 : Int32) then
    ((sS L xs a11 (x14 + (1 : Int32))).bind fun v91 =>
    ((sS L xs a11 (x14 + (2 : Int32))).bind fun v92 =>
    ((ob μ0 a12 11).bind fun _ =>
    (bd (f_X11_game μ0 a12 v91 v92) fun v94 μ93 =>
    ((sS L xs a11 (x14 + (1 : Int32))).bind fun v95 =>
    ((sS L xs a11 (x14 + (2 : Int32))).bind fun v96 =>
    ((ob μ93 a13 12).bind fun _ =>
    (bd (f_X12_game μ93 a13 v95 v96) fun v98 μ97 =>
    (if v94 = v98 then
    (nm (x14 + Int32.ofInt (6)) fun x99 =>
    f_L_law_L18 L xs K229 K252 K265 K278 K301 K334 K367 K400 K433 K466 K499 K522 K535 K578 K601 K634 K683 K716 K749 K782 K815 K859 K892 K915 K938 K961 K1004 K1027 K1050 K1073 K1081 n μ97 a11 a12 a13 x99)
    else
    K815 μ97)))))))))
    else
    (if (v16 &&& (31 : Int32)) = (21 : Int32) then
    ((sS L xs a11 (x14 + (1 : Int32))).bind fun v80 =>
    ((sS L xs a11 (x14 + (2 : Int32))).bind fun v81 =>
    ((sS L xs a11 (x14 + (3 : Int32))).bind fun v82 =>
    ((ob μ0 a12 11).bind fun _ =>
    (bd (f_X11_chance μ0 a12 v80 v81 v82) fun v84 μ83 =>
    ((sS L xs a11 (x14 + (1 : Int32))).bind fun v85 =>
    ((sS L xs a11 (x14 + (2 : Int32))).bind fun v86 =>
    ((sS L xs a11 (x14 + (3 : Int32))).bind fun v87 =>
    ((ob μ83 a13 12).bind fun _ =>
    (bd (f_X12_chance μ83 a13 v85 v86 v87) fun v89 μ88 =>
    (if (lg_cmp v84 v89) = 0 then
    (nm (x14 + Int32.ofInt (6)) fun x90 =>
    f_L_law_L18 L xs K229 K252 K265 K278 K301 K334 K367 K400 K433 K466 K499 K522 K535 K578 K601 K634 K683 K716 K749 K782 K815 K859 K892 K915 K938 K961 K1004 K1027 K1050 K1073 K1081 n μ88 a11 a12 a13 x90)
    else
    K859 μ88)))))))))))
    else
    (if (v16 &&& (31 : Int32)) = (22 : Int32) then
    ((sS L xs a11 (x14 + (1 : Int32))).bind fun v71 =>
    ((sS L xs a11 (x14 + (2 : Int32))).bind fun v72 =>
    ((ob μ0 a12 11).bind fun _ =>
    (bd (f_X11_insure μ0 a12 v71 v72) fun v74 μ73 =>
    ((sS L xs a11 (x14 + (1 : Int32))).bind fun v75 =>
    ((sS L xs a11 (x14 + (2 : Int32))).bind fun v76 =>
    ((ob μ73 a13 12).bind fun _ =>
    (bd (f_X12_insure μ73 a13 v75 v76) fun v78 μ77 =>
    (if v74 = v78 then
    (nm (x14 + Int32.ofInt (6)) fun x79 =>
    f_L_law_L18 L xs K229 K252 K265 K278 K301 K334 K367 K400 K433 K466 K499 K522 K535 K578 K601 K634 K683 K716 K749 K782 K815 K859 K892 K915 K938 K961 K1004 K1027 K1050 K1073 K1081 n μ77 a11 a12 a13 x79)
    else
    K892 μ77)))))))))
    else
    (if (v16 &&& (31 : Int32)) = (23 : Int32) then
    ((sS L xs a11 (x14 + (1 : Int32))).bind fun v64 =>
    ((ob μ0 a12 11).bind fun _ =>
    (bd (f_X11_lesson μ0 a12 v64) fun v66 μ65 =>
    ((sS L xs a11 (x14 + (1 : Int32))).bind fun v67 =>
    ((ob μ65 a13 12).bind fun _ =>
    (bd (f_X12_lesson μ65 a13 v67) fun v69 μ68 =>
    (if v66 = v69 then
    (nm (x14 + Int32.ofInt (6)) fun x70 =>
    f_L_law_L18 L xs K229 K252 K265 K278 K301 K334 K367 K400 K433 K466 K499 K522 K535 K578 K601 K634 K683 K716 K749 K782 K815 K859 K892 K915 K938 K961 K1004 K1027 K1050 K1073 K1081 n μ68 a11 a12 a13 x70)
    else
    K915 μ68)))))))
    else
    (if (v16 &&& (31 : Int32)) = (24 : Int32) then
    ((sS L xs a11 (x14 + (1 : Int32))).bind fun v57 =>
    ((ob μ0 a12 11).bind fun _ =>
    (bd (f_X11_order μ0 a12 v57) fun v59 μ58 =>
    ((sS L xs a11 (x14 + (1 : Int32))).bind fun v60 =>
    ((ob μ58 a13 12).bind fun _ =>
    (bd (f_X12_order μ58 a13 v60) fun v62 μ61 =>
    (if v59 = v62 then
    (nm (x14 + Int32.ofInt (6)) fun x63 =>
    f_L_law_L18 L xs K229 K252 K265 K278 K301 K334 K367 K400 K433 K466 K499 K522 K535 K578 K601 K634 K683 K716 K749 K782 K815 K859 K892 K915 K938 K961 K1004 K1027 K1050 K1073 K1081 n μ61 a11 a12 a13 x63)
    else
    K938 μ61)))))))
    else
    (if (v16 &&& (31 : Int32)) = (25 : Int32) then
    ((sS L xs a11 (x14 + (1 : Int32))).bind fun v50 =>
    ((ob μ0 a12 11).bind fun _ =>
    (bd (f_X11_seed μ0 a12 v50) fun v52 μ51 =>
    ((sS L xs a11 (x14 + (1 : Int32))).bind fun v53 =>
    ((ob μ51 a13 12).bind fun _ =>
    (bd (f_X12_seed μ51 a13 v53) fun v55 μ54 =>
    (if v52 = v55 then
    (nm (x14 + Int32.ofInt (6)) fun x56 =>
    f_L_law_L18 L xs K229 K252 K265 K278 K301 K334 K367 K400 K433 K466 K499 K522 K535 K578 K601 K634 K683 K716 K749 K782 K815 K859 K892 K915 K938 K961 K1004 K1027 K1050 K1073 K1081 n μ54 a11 a12 a13 x56)
    else
    K961 μ54)))))))
    else
    (if (v16 &&& (31 : Int32)) = (26 : Int32) then
    ((sS L xs a11 (x14 + (1 : Int32))).bind fun v39 =>
    ((sS L xs a11 (x14 + (2 : Int32))).bind fun v40 =>
    ((sS L xs a11 (x14 + (3 : Int32))).bind fun v41 =>
    ((ob μ0 a12 11).bind fun _ =>
    (bd (f_X11_terms μ0 a12 v39 v40 v41) fun v43 μ42 =>
    ((sS L xs a11 (x14 + (1 : Int32))).bind fun v44 =>
    ((sS L xs a11 (x14 + (2 : Int32))).bind fun v45 =>
    ((sS L xs a11 (x14 + (3 : Int32))).bind fun v46 =>
    ((ob μ42 a13 12).bind fun _ =>
    (bd (f_X12_terms μ42 a13 v44 v45 v46) fun v48 μ47 =>
    (if v43 = v48 then
    (nm (x14 + Int32.ofInt (6)) fun x49 =>
    f_L_law_L18 L xs K229 K252 K265 K278 K301 K334 K367 K400 K433 K466 K499 K522 K535 K578 K601 K634 K683 K716 K749 K782 K815 K859 K892 K915 K938 K961 K1004 K1027 K1050 K1073 K1081 n μ47 a11 a12 a13 x49)
    else
    K1004 μ47)))))))))))
    else
    (if (v16 &&& (31 : Int32)) = (27 : Int32) then
    ((sS L xs a11 (x14 + (1 : Int32))).bind fun v32 =>
    ((ob μ0 a12 11).bind fun _ =>
    (bd (f_X11_count μ0 a12 v32) fun v34 μ33 =>
    ((sS L xs a11 (x14 + (1 : Int32))).bind fun v35 =>
    ((ob μ33 a13 12).bind fun _ =>
    (bd (f_X12_count μ33 a13 v35) fun v37 μ36 =>
    (if v34 = v37 then
    (nm (x14 + Int32.ofInt (6)) fun x38 =>
    f_L_law_L18 L xs K229 K252 K265 K278 K301 K334 K367 K400 K433 K466 K499 K522 K535 K578 K601 K634 K683 K716 K749 K782 K815 K859 K892 K915 K938 K961 K1004 K1027 K1050 K1073 K1081 n μ36 a11 a12 a13 x38)
    else
    K1027 μ36)))))))
    else
    (if (v16 &&& (31 : Int32)) = (28 : Int32) then
    ((sS L xs a11 (x14 + (1 : Int32))).bind fun v25 =>
    ((ob μ0 a12 11).bind fun _ =>
    (bd (f_X11_image μ0 a12 v25) fun v27 μ26 =>
    ((sS L xs a11 (x14 + (1 : Int32))).bind fun v28 =>
    ((ob μ26 a13 12).bind fun _ =>
    (bd (f_X12_image μ26 a13 v28) fun v30 μ29 =>
    (if v27 = v30 then
    (nm (x14 + Int32.ofInt (6)) fun x31 =>
    f_L_law_L18 L xs K229 K252 K265 K278 K301 K334 K367 K400 K433 K466 K499 K522 K535 K578 K601 K634 K683 K716 K749 K782 K815 K859 K892 K915 K938 K961 K1004 K1027 K1050 K1073 K1081 n μ29 a11 a12 a13 x31)
    else
    K1050 μ29)))))))
    else
    (if (v16 &&& (31 : Int32)) = (29 : Int32) then
    ((sS L xs a11 (x14 + (1 : Int32))).bind fun v18 =>
    ((ob μ0 a12 11).bind fun _ =>
    (bd (f_X11_back μ0 a12 v18) fun v20 μ19 =>
    ((sS L xs a11 (x14 + (1 : Int32))).bind fun v21 =>
    ((ob μ19 a13 12).bind fun _ =>
    (bd (f_X12_back μ19 a13 v21) fun v23 μ22 =>
    (if v20 = v23 then
    (nm (x14 + Int32.ofInt (6)) fun x24 =>
    f_L_law_L18 L xs K229 K252 K265 K278 K301 K334 K367 K400 K433 K466 K499 K522 K535 K578 K601 K634 K683 K716 K749 K782 K815 K859 K892 K915 K938 K961 K1004 K1027 K1050 K1073 K1081 n μ22 a11 a12 a13 x24)
    else
    K1073 μ22)))))))
    else
    (nm (x14 + Int32.ofInt (6)) fun x17 =>
    f_L_law_L18 L xs K229 K252 K265 K278 K301 K334 K367 K400 K433 K466 K499 K522 K535 K578 K601 K634 K683 K716 K749 K782 K815 K859 K892 K915 K938 K961 K1004 K1027 K1050 K1073 K1081 n μ0 a11 a12 a13 x17))))))))))))))))))))))))))))))))))
set_option maxHeartbeats 4000000 in
set_option maxRecDepth 100000 in
theorem f_L_law_L18_ok {l : Launch} {G : GG} {L : Nat} {xs : Nat → Int32} (hG : G.2.2.2.2 = (L, xs)) {K229 : Mm → Option (Int32 × Mm)} {K252 : Mm → Option (Int32 × Mm)} {K265 : Mm → Option (Int32 × Mm)} {K278 : Mm → Option (Int32 × Mm)} {K301 : Mm → Option (Int32 × Mm)} {K334 : Mm → Option (Int32 × Mm)} {K367 : Mm → Option (Int32 × Mm)} {K400 : Mm → Option (Int32 × Mm)} {K433 : Mm → Option (Int32 × Mm)} {K466 : Mm → Option (Int32 × Mm)} {K499 : Mm → Option (Int32 × Mm)} {K522 : Mm → Option (Int32 × Mm)} {K535 : Mm → Option (Int32 × Mm)} {K578 : Mm → Option (Int32 × Mm)} {K601 : Mm → Option (Int32 × Mm)} {K634 : Mm → Option (Int32 × Mm)} {K683 : Mm → Option (Int32 × Mm)} {K716 : Mm → Option (Int32 × Mm)} {K749 : Mm → Option (Int32 × Mm)} {K782 : Mm → Option (Int32 × Mm)} {K815 : Mm → Option (Int32 × Mm)} {K859 : Mm → Option (Int32 × Mm)} {K892 : Mm → Option (Int32 × Mm)} {K915 : Mm → Option (Int32 × Mm)} {K938 : Mm → Option (Int32 × Mm)} {K961 : Mm → Option (Int32 × Mm)} {K1004 : Mm → Option (Int32 × Mm)} {K1027 : Mm → Option (Int32 × Mm)} {K1050 : Mm → Option (Int32 × Mm)} {K1073 : Mm → Option (Int32 × Mm)} {K1081 : Mm → Option (Int32 × Mm)} {r : Int32} {μ' : Mm} (n : Nat) (μ0 : Mm) (a11 : Nat) (a12 : Nat) (a13 : Nat) (x14 : Int32) (hf : f_L_law_L18 L xs K229 K252 K265 K278 K301 K334 K367 K400 K433 K466 K499 K522 K535 K578 K601 K634 K683 K716 K749 K782 K815 K859 K892 K915 K938 K961 K1004 K1027 K1050 K1073 K1081 n μ0 a11 a12 a13 x14 = some (r, μ')) (hK229 : ∀ (μ1 : Mm), K229 μ1  = some (r, μ') → Ev l G D_L_law yL_law code 4 (some .boolean) 229 [] [] μ1 (some (.int r)) μ') (hK252 : ∀ (μ1 : Mm), K252 μ1  = some (r, μ') → Ev l G D_L_law yL_law code 4 (some .boolean) 252 [] [] μ1 (some (.int r)) μ') (hK265 : ∀ (μ1 : Mm), K265 μ1  = some (r, μ') → Ev l G D_L_law yL_law code 4 (some .boolean) 265 [] [] μ1 (some (.int r)) μ') (hK278 : ∀ (μ1 : Mm), K278 μ1  = some (r, μ') → Ev l G D_L_law yL_law code 4 (some .boolean) 278 [] [] μ1 (some (.int r)) μ') (hK301 : ∀ (μ1 : Mm), K301 μ1  = some (r, μ') → Ev l G D_L_law yL_law code 4 (some .boolean) 301 [] [] μ1 (some (.int r)) μ') (hK334 : ∀ (μ1 : Mm), K334 μ1  = some (r, μ') → Ev l G D_L_law yL_law code 4 (some .boolean) 334 [] [] μ1 (some (.int r)) μ') (hK367 : ∀ (μ1 : Mm), K367 μ1  = some (r, μ') → Ev l G D_L_law yL_law code 4 (some .boolean) 367 [] [] μ1 (some (.int r)) μ') (hK400 : ∀ (μ1 : Mm), K400 μ1  = some (r, μ') → Ev l G D_L_law yL_law code 4 (some .boolean) 400 [] [] μ1 (some (.int r)) μ') (hK433 : ∀ (μ1 : Mm), K433 μ1  = some (r, μ') → Ev l G D_L_law yL_law code 4 (some .boolean) 433 [] [] μ1 (some (.int r)) μ') (hK466 : ∀ (μ1 : Mm), K466 μ1  = some (r, μ') → Ev l G D_L_law yL_law code 4 (some .boolean) 466 [] [] μ1 (some (.int r)) μ') (hK499 : ∀ (μ1 : Mm), K499 μ1  = some (r, μ') → Ev l G D_L_law yL_law code 4 (some .boolean) 499 [] [] μ1 (some (.int r)) μ') (hK522 : ∀ (μ1 : Mm), K522 μ1  = some (r, μ') → Ev l G D_L_law yL_law code 4 (some .boolean) 522 [] [] μ1 (some (.int r)) μ') (hK535 : ∀ (μ1 : Mm), K535 μ1  = some (r, μ') → Ev l G D_L_law yL_law code 4 (some .boolean) 535 [] [] μ1 (some (.int r)) μ') (hK578 : ∀ (μ1 : Mm), K578 μ1  = some (r, μ') → Ev l G D_L_law yL_law code 4 (some .boolean) 578 [] [] μ1 (some (.int r)) μ') (hK601 : ∀ (μ1 : Mm), K601 μ1  = some (r, μ') → Ev l G D_L_law yL_law code 4 (some .boolean) 601 [] [] μ1 (some (.int r)) μ') (hK634 : ∀ (μ1 : Mm), K634 μ1  = some (r, μ') → Ev l G D_L_law yL_law code 4 (some .boolean) 634 [] [] μ1 (some (.int r)) μ') (hK683 : ∀ (μ1 : Mm), K683 μ1  = some (r, μ') → Ev l G D_L_law yL_law code 4 (some .boolean) 683 [] [] μ1 (some (.int r)) μ') (hK716 : ∀ (μ1 : Mm), K716 μ1  = some (r, μ') → Ev l G D_L_law yL_law code 4 (some .boolean) 716 [] [] μ1 (some (.int r)) μ') (hK749 : ∀ (μ1 : Mm), K749 μ1  = some (r, μ') → Ev l G D_L_law yL_law code 4 (some .boolean) 749 [] [] μ1 (some (.int r)) μ') (hK782 : ∀ (μ1 : Mm), K782 μ1  = some (r, μ') → Ev l G D_L_law yL_law code 4 (some .boolean) 782 [] [] μ1 (some (.int r)) μ') (hK815 : ∀ (μ1 : Mm), K815 μ1  = some (r, μ') → Ev l G D_L_law yL_law code 4 (some .boolean) 815 [] [] μ1 (some (.int r)) μ') (hK859 : ∀ (μ1 : Mm), K859 μ1  = some (r, μ') → Ev l G D_L_law yL_law code 4 (some .boolean) 859 [] [] μ1 (some (.int r)) μ') (hK892 : ∀ (μ1 : Mm), K892 μ1  = some (r, μ') → Ev l G D_L_law yL_law code 4 (some .boolean) 892 [] [] μ1 (some (.int r)) μ') (hK915 : ∀ (μ1 : Mm), K915 μ1  = some (r, μ') → Ev l G D_L_law yL_law code 4 (some .boolean) 915 [] [] μ1 (some (.int r)) μ') (hK938 : ∀ (μ1 : Mm), K938 μ1  = some (r, μ') → Ev l G D_L_law yL_law code 4 (some .boolean) 938 [] [] μ1 (some (.int r)) μ') (hK961 : ∀ (μ1 : Mm), K961 μ1  = some (r, μ') → Ev l G D_L_law yL_law code 4 (some .boolean) 961 [] [] μ1 (some (.int r)) μ') (hK1004 : ∀ (μ1 : Mm), K1004 μ1  = some (r, μ') → Ev l G D_L_law yL_law code 4 (some .boolean) 1004 [] [] μ1 (some (.int r)) μ') (hK1027 : ∀ (μ1 : Mm), K1027 μ1  = some (r, μ') → Ev l G D_L_law yL_law code 4 (some .boolean) 1027 [] [] μ1 (some (.int r)) μ') (hK1050 : ∀ (μ1 : Mm), K1050 μ1  = some (r, μ') → Ev l G D_L_law yL_law code 4 (some .boolean) 1050 [] [] μ1 (some (.int r)) μ') (hK1073 : ∀ (μ1 : Mm), K1073 μ1  = some (r, μ') → Ev l G D_L_law yL_law code 4 (some .boolean) 1073 [] [] μ1 (some (.int r)) μ') (hK1081 : ∀ (μ1 : Mm), K1081 μ1  = some (r, μ') → Ev l G D_L_law yL_law code 4 (some .boolean) 1081 [] [] μ1 (some (.int r)) μ') : Ev l G D_L_law yL_law code 4 (some .boolean) 18 [(0, .ref a11), (1, .ref a12), (2, .ref a13), (3, .int x14)] [] μ0 (some (.int r)) μ' := by
  induction n generalizing μ0 a11 a12 a13 x14 with
  | zero => cases hf
  | succ n ih0 =>
    have ih : ∀ (μ0 : Mm) (a11 : Nat) (a12 : Nat) (a13 : Nat) (x14 : Int32), f_L_law_L18 L xs K229 K252 K265 K278 K301 K334 K367 K400 K433 K466 K499 K522 K535 K578 K601 K634 K683 K716 K749 K782 K815 K859 K892 K915 K938 K961 K1004 K1027 K1050 K1073 K1081 n μ0 a11 a12 a13 x14 = some (r, μ') → Ev l G D_L_law yL_law code 4 (some .boolean) 18 [(0, .ref a11), (1, .ref a12), (2, .ref a13), (3, .int x14)] [] μ0 (some (.int r)) μ' := fun μ0 a11 a12 a13 x14 hf => ih0 μ0 a11 a12 a13 x14 hf
    rw [f_L_law_L18] at hf
    refine E_iload_n (pc := 18) dL_law_18 rfl ?_
    refine E_aload_n (pc := 19) dL_law_19 rfl ?_
    refine E_sln (pc := 20) dL_law_20 hG hf (fun v15 hf => ?_)
    refine E_bipush (pc := 21) (v := (6 : Int32)) dL_law_21 (by decide) ?_
    refine E_isub (pc := 23) dL_law_23 ?_
    refine E_icmp_gt (pc := 24) (tgt := 1081) dL_law_24 (by decide) hf (fun hf => ?_) (fun hf => ?_)
    · refine Ev.sub [] rfl ?_
      exact hK1081 _ hf
    · refine E_aload_n (pc := 27) dL_law_27 rfl ?_
      refine E_iload_n (pc := 28) dL_law_28 rfl ?_
      refine E_sld (pc := 29) dL_law_29 hG hf (fun v16 hf => ?_)
      refine E_bipush (pc := 30) (v := (31 : Int32)) dL_law_30 (by decide) ?_
      refine E_iand (pc := 32) dL_law_32 ?_
      refine ifS hf (fun n33_0 hf => ?_) (fun n33_0 hf => ?_)
      · refine E_tswI (pc := 33) (tgt := 168) (0) dL_law_33 (by rw [n33_0]; decide) (by decide) (by decide) rfl (by decide) ?_
        refine E_aload_n (pc := 168) dL_law_168 rfl ?_
        refine E_aload_n (pc := 169) dL_law_169 rfl ?_
        refine E_iload_n (pc := 170) dL_law_170 rfl ?_
        refine E_iconst (pc := 171) (v := (1 : Int32)) dL_law_171 (by decide) ?_
        refine E_iadd (pc := 172) dL_law_172 ?_
        refine E_sld (pc := 173) dL_law_173 hG hf (fun v266 hf => ?_)
        refine E_aload_n (pc := 174) dL_law_174 rfl ?_
        refine E_iload_n (pc := 175) dL_law_175 rfl ?_
        refine E_iconst (pc := 176) (v := (2 : Int32)) dL_law_176 (by decide) ?_
        refine E_iadd (pc := 177) dL_law_177 ?_
        refine E_sld (pc := 178) dL_law_178 hG hf (fun v267 hf => ?_)
        refine E_aload_n (pc := 179) dL_law_179 rfl ?_
        refine E_iload_n (pc := 180) dL_law_180 rfl ?_
        refine E_iconst (pc := 181) (v := (3 : Int32)) dL_law_181 (by decide) ?_
        refine E_iadd (pc := 182) dL_law_182 ?_
        refine E_sld (pc := 183) dL_law_183 hG hf (fun v268 hf => ?_)
        refine E_aload_n (pc := 184) dL_law_184 rfl ?_
        refine E_iload_n (pc := 185) dL_law_185 rfl ?_
        refine E_iconst (pc := 186) (v := (4 : Int32)) dL_law_186 (by decide) ?_
        refine E_iadd (pc := 187) dL_law_187 ?_
        refine E_sld (pc := 188) dL_law_188 hG hf (fun v269 hf => ?_)
        refine E_aload_n (pc := 189) dL_law_189 rfl ?_
        refine E_iload_n (pc := 190) dL_law_190 rfl ?_
        refine E_iconst (pc := 191) (v := (5 : Int32)) dL_law_191 (by decide) ?_
        refine E_iadd (pc := 192) dL_law_192 ?_
        refine E_sld (pc := 193) dL_law_193 hG hf (fun v270 hf => ?_)
        refine E_Vi (pc := 194) (d2 := D_X11_feed) (ci := 11) [.int v266, .int v267, .int v268, .int v269, .int v270] dL_law_194 ml_L_13 mf_X11_feed im_X11_feed rfl rfl rfl (by decide) (Nat.le_of_ble_eq_true rfl) (Nat.le_of_ble_eq_true rfl) rfl (fun _ _ h => f_X11_feed_ok h) hf (fun v272 μ271 hf => ?_)
        refine E_aload_n (pc := 197) dL_law_197 rfl ?_
        refine E_aload_n (pc := 198) dL_law_198 rfl ?_
        refine E_iload_n (pc := 199) dL_law_199 rfl ?_
        refine E_iconst (pc := 200) (v := (1 : Int32)) dL_law_200 (by decide) ?_
        refine E_iadd (pc := 201) dL_law_201 ?_
        refine E_sld (pc := 202) dL_law_202 hG hf (fun v273 hf => ?_)
        refine E_aload_n (pc := 203) dL_law_203 rfl ?_
        refine E_iload_n (pc := 204) dL_law_204 rfl ?_
        refine E_iconst (pc := 205) (v := (2 : Int32)) dL_law_205 (by decide) ?_
        refine E_iadd (pc := 206) dL_law_206 ?_
        refine E_sld (pc := 207) dL_law_207 hG hf (fun v274 hf => ?_)
        refine E_aload_n (pc := 208) dL_law_208 rfl ?_
        refine E_iload_n (pc := 209) dL_law_209 rfl ?_
        refine E_iconst (pc := 210) (v := (3 : Int32)) dL_law_210 (by decide) ?_
        refine E_iadd (pc := 211) dL_law_211 ?_
        refine E_sld (pc := 212) dL_law_212 hG hf (fun v275 hf => ?_)
        refine E_aload_n (pc := 213) dL_law_213 rfl ?_
        refine E_iload_n (pc := 214) dL_law_214 rfl ?_
        refine E_iconst (pc := 215) (v := (4 : Int32)) dL_law_215 (by decide) ?_
        refine E_iadd (pc := 216) dL_law_216 ?_
        refine E_sld (pc := 217) dL_law_217 hG hf (fun v276 hf => ?_)
        refine E_aload_n (pc := 218) dL_law_218 rfl ?_
        refine E_iload_n (pc := 219) dL_law_219 rfl ?_
        refine E_iconst (pc := 220) (v := (5 : Int32)) dL_law_220 (by decide) ?_
        refine E_iadd (pc := 221) dL_law_221 ?_
        refine E_sld (pc := 222) dL_law_222 hG hf (fun v277 hf => ?_)
        refine E_Vi (pc := 223) (d2 := D_X12_feed) (ci := 12) [.int v273, .int v274, .int v275, .int v276, .int v277] dL_law_223 ml_L_17 mf_X12_feed im_X12_feed rfl rfl rfl (by decide) (Nat.le_of_ble_eq_true rfl) (Nat.le_of_ble_eq_true rfl) rfl (fun _ _ h => f_X12_feed_ok h) hf (fun v279 μ278 hf => ?_)
        refine E_icmp_eq (pc := 226) (tgt := 1075) dL_law_226 (by decide) hf (fun hf => ?_) (fun hf => ?_)
        · refine E_iinc (pc := 1075) (ls' := fun x280 => [(3, .int x280), (0, .ref a11), (1, .ref a12), (2, .ref a13)]) dL_law_1075 rfl (by decide) (fun _ => rfl) hf (fun x280 hf => ?_)
          refine E_goto (pc := 1078) (tgt := 18) dL_law_1078 (by decide) ?_
          refine Ev.sub [1, 2, 3, 0] rfl ?_
          exact ih _ _ _ _ _ hf
        · refine Ev.sub [] rfl ?_
          exact hK229 _ hf
      · refine ifS hf (fun n33_1 hf => ?_) (fun n33_1 hf => ?_)
        · refine E_tswI (pc := 33) (tgt := 231) (1) dL_law_33 (by rw [n33_1]; decide) (by decide) (by decide) rfl (by decide) ?_
          refine E_aload_n (pc := 231) dL_law_231 rfl ?_
          refine E_aload_n (pc := 232) dL_law_232 rfl ?_
          refine E_iload_n (pc := 233) dL_law_233 rfl ?_
          refine E_iconst (pc := 234) (v := (1 : Int32)) dL_law_234 (by decide) ?_
          refine E_iadd (pc := 235) dL_law_235 ?_
          refine E_sld (pc := 236) dL_law_236 hG hf (fun v259 hf => ?_)
          refine E_Vi (pc := 237) (d2 := D_X11_end) (ci := 11) [.int v259] dL_law_237 ml_L_18 mf_X11_end im_X11_end rfl rfl rfl (by decide) (Nat.le_of_ble_eq_true rfl) (Nat.le_of_ble_eq_true rfl) rfl (fun _ _ h => f_X11_end_ok h) hf (fun v261 μ260 hf => ?_)
          refine E_aload_n (pc := 240) dL_law_240 rfl ?_
          refine E_aload_n (pc := 241) dL_law_241 rfl ?_
          refine E_iload_n (pc := 242) dL_law_242 rfl ?_
          refine E_iconst (pc := 243) (v := (1 : Int32)) dL_law_243 (by decide) ?_
          refine E_iadd (pc := 244) dL_law_244 ?_
          refine E_sld (pc := 245) dL_law_245 hG hf (fun v262 hf => ?_)
          refine E_Vi (pc := 246) (d2 := D_X12_end) (ci := 12) [.int v262] dL_law_246 ml_L_22 mf_X12_end im_X12_end rfl rfl rfl (by decide) (Nat.le_of_ble_eq_true rfl) (Nat.le_of_ble_eq_true rfl) rfl (fun _ _ h => f_X12_end_ok h) hf (fun v264 μ263 hf => ?_)
          refine E_icmp_eq (pc := 249) (tgt := 1075) dL_law_249 (by decide) hf (fun hf => ?_) (fun hf => ?_)
          · refine E_iinc (pc := 1075) (ls' := fun x265 => [(3, .int x265), (0, .ref a11), (1, .ref a12), (2, .ref a13)]) dL_law_1075 rfl (by decide) (fun _ => rfl) hf (fun x265 hf => ?_)
            refine E_goto (pc := 1078) (tgt := 18) dL_law_1078 (by decide) ?_
            refine Ev.sub [1, 2, 3, 0] rfl ?_
            exact ih _ _ _ _ _ hf
          · refine Ev.sub [] rfl ?_
            exact hK252 _ hf
        · refine ifS hf (fun n33_2 hf => ?_) (fun n33_2 hf => ?_)
          · refine E_tswI (pc := 33) (tgt := 254) (2) dL_law_33 (by rw [n33_2]; decide) (by decide) (by decide) rfl (by decide) ?_
            refine E_aload_n (pc := 254) dL_law_254 rfl ?_
            refine E_Vi (pc := 255) (d2 := D_X11_ground) (ci := 11) [] dL_law_255 ml_L_23 mf_X11_ground im_X11_ground rfl rfl rfl (by decide) (Nat.le_of_ble_eq_true rfl) (Nat.le_of_ble_eq_true rfl) rfl (fun _ _ h => f_X11_ground_ok h) hf (fun v255 μ254 hf => ?_)
            refine E_aload_n (pc := 258) dL_law_258 rfl ?_
            refine E_Vi (pc := 259) (d2 := D_X12_ground) (ci := 12) [] dL_law_259 ml_L_27 mf_X12_ground im_X12_ground rfl rfl rfl (by decide) (Nat.le_of_ble_eq_true rfl) (Nat.le_of_ble_eq_true rfl) rfl (fun _ _ h => f_X12_ground_ok h) hf (fun v257 μ256 hf => ?_)
            refine E_icmp_eq (pc := 262) (tgt := 1075) dL_law_262 (by decide) hf (fun hf => ?_) (fun hf => ?_)
            · refine E_iinc (pc := 1075) (ls' := fun x258 => [(3, .int x258), (0, .ref a11), (1, .ref a12), (2, .ref a13)]) dL_law_1075 rfl (by decide) (fun _ => rfl) hf (fun x258 hf => ?_)
              refine E_goto (pc := 1078) (tgt := 18) dL_law_1078 (by decide) ?_
              refine Ev.sub [1, 2, 3, 0] rfl ?_
              exact ih _ _ _ _ _ hf
            · refine Ev.sub [] rfl ?_
              exact hK265 _ hf
          · refine ifS hf (fun n33_3 hf => ?_) (fun n33_3 hf => ?_)
            · refine E_tswI (pc := 33) (tgt := 267) (3) dL_law_33 (by rw [n33_3]; decide) (by decide) (by decide) rfl (by decide) ?_
              refine E_aload_n (pc := 267) dL_law_267 rfl ?_
              refine E_Vi (pc := 268) (d2 := D_X11_rule) (ci := 11) [] dL_law_268 ml_L_28 mf_X11_rule im_X11_rule rfl rfl rfl (by decide) (Nat.le_of_ble_eq_true rfl) (Nat.le_of_ble_eq_true rfl) rfl (fun _ _ h => f_X11_rule_ok h) hf (fun v250 μ249 hf => ?_)
              refine E_aload_n (pc := 271) dL_law_271 rfl ?_
              refine E_Vi (pc := 272) (d2 := D_X12_rule) (ci := 12) [] dL_law_272 ml_L_31 mf_X12_rule im_X12_rule rfl rfl rfl (by decide) (Nat.le_of_ble_eq_true rfl) (Nat.le_of_ble_eq_true rfl) rfl (fun _ _ h => f_X12_rule_ok h) hf (fun v252 μ251 hf => ?_)
              refine E_icmp_eq (pc := 275) (tgt := 1075) dL_law_275 (by decide) hf (fun hf => ?_) (fun hf => ?_)
              · refine E_iinc (pc := 1075) (ls' := fun x253 => [(3, .int x253), (0, .ref a11), (1, .ref a12), (2, .ref a13)]) dL_law_1075 rfl (by decide) (fun _ => rfl) hf (fun x253 hf => ?_)
                refine E_goto (pc := 1078) (tgt := 18) dL_law_1078 (by decide) ?_
                refine Ev.sub [1, 2, 3, 0] rfl ?_
                exact ih _ _ _ _ _ hf
              · refine Ev.sub [] rfl ?_
                exact hK278 _ hf
            · refine ifS hf (fun n33_4 hf => ?_) (fun n33_4 hf => ?_)
              · refine E_tswI (pc := 33) (tgt := 280) (4) dL_law_33 (by rw [n33_4]; decide) (by decide) (by decide) rfl (by decide) ?_
                refine E_aload_n (pc := 280) dL_law_280 rfl ?_
                refine E_aload_n (pc := 281) dL_law_281 rfl ?_
                refine E_iload_n (pc := 282) dL_law_282 rfl ?_
                refine E_iconst (pc := 283) (v := (1 : Int32)) dL_law_283 (by decide) ?_
                refine E_iadd (pc := 284) dL_law_284 ?_
                refine E_sld (pc := 285) dL_law_285 hG hf (fun v242 hf => ?_)
                refine E_Vi (pc := 286) (d2 := D_X11_force) (ci := 11) [.int v242] dL_law_286 ml_L_32 mf_X11_force im_X11_force rfl rfl rfl (by decide) (Nat.le_of_ble_eq_true rfl) (Nat.le_of_ble_eq_true rfl) rfl (fun _ _ h => f_X11_force_ok h) hf (fun v244 μ243 hf => ?_)
                refine E_aload_n (pc := 289) dL_law_289 rfl ?_
                refine E_aload_n (pc := 290) dL_law_290 rfl ?_
                refine E_iload_n (pc := 291) dL_law_291 rfl ?_
                refine E_iconst (pc := 292) (v := (1 : Int32)) dL_law_292 (by decide) ?_
                refine E_iadd (pc := 293) dL_law_293 ?_
                refine E_sld (pc := 294) dL_law_294 hG hf (fun v245 hf => ?_)
                refine E_Vi (pc := 295) (d2 := D_X12_force) (ci := 12) [.int v245] dL_law_295 ml_L_35 mf_X12_force im_X12_force rfl rfl rfl (by decide) (Nat.le_of_ble_eq_true rfl) (Nat.le_of_ble_eq_true rfl) rfl (fun _ _ h => f_X12_force_ok h) hf (fun v247 μ246 hf => ?_)
                refine E_icmp_eq (pc := 298) (tgt := 1075) dL_law_298 (by decide) hf (fun hf => ?_) (fun hf => ?_)
                · refine E_iinc (pc := 1075) (ls' := fun x248 => [(3, .int x248), (0, .ref a11), (1, .ref a12), (2, .ref a13)]) dL_law_1075 rfl (by decide) (fun _ => rfl) hf (fun x248 hf => ?_)
                  refine E_goto (pc := 1078) (tgt := 18) dL_law_1078 (by decide) ?_
                  refine Ev.sub [1, 2, 3, 0] rfl ?_
                  exact ih _ _ _ _ _ hf
                · refine Ev.sub [] rfl ?_
                  exact hK301 _ hf
              · refine ifS hf (fun n33_5 hf => ?_) (fun n33_5 hf => ?_)
                · refine E_tswI (pc := 33) (tgt := 303) (5) dL_law_33 (by rw [n33_5]; decide) (by decide) (by decide) rfl (by decide) ?_
                  refine E_aload_n (pc := 303) dL_law_303 rfl ?_
                  refine E_aload_n (pc := 304) dL_law_304 rfl ?_
                  refine E_iload_n (pc := 305) dL_law_305 rfl ?_
                  refine E_iconst (pc := 306) (v := (1 : Int32)) dL_law_306 (by decide) ?_
                  refine E_iadd (pc := 307) dL_law_307 ?_
                  refine E_sld (pc := 308) dL_law_308 hG hf (fun v233 hf => ?_)
                  refine E_aload_n (pc := 309) dL_law_309 rfl ?_
                  refine E_iload_n (pc := 310) dL_law_310 rfl ?_
                  refine E_iconst (pc := 311) (v := (2 : Int32)) dL_law_311 (by decide) ?_
                  refine E_iadd (pc := 312) dL_law_312 ?_
                  refine E_sld (pc := 313) dL_law_313 hG hf (fun v234 hf => ?_)
                  refine E_Vi (pc := 314) (d2 := D_X11_cell) (ci := 11) [.int v233, .int v234] dL_law_314 ml_L_36 mf_X11_cell im_X11_cell rfl rfl rfl (by decide) (Nat.le_of_ble_eq_true rfl) (Nat.le_of_ble_eq_true rfl) rfl (fun _ _ h => f_X11_cell_ok h) hf (fun v236 μ235 hf => ?_)
                  refine E_aload_n (pc := 317) dL_law_317 rfl ?_
                  refine E_aload_n (pc := 318) dL_law_318 rfl ?_
                  refine E_iload_n (pc := 319) dL_law_319 rfl ?_
                  refine E_iconst (pc := 320) (v := (1 : Int32)) dL_law_320 (by decide) ?_
                  refine E_iadd (pc := 321) dL_law_321 ?_
                  refine E_sld (pc := 322) dL_law_322 hG hf (fun v237 hf => ?_)
                  refine E_aload_n (pc := 323) dL_law_323 rfl ?_
                  refine E_iload_n (pc := 324) dL_law_324 rfl ?_
                  refine E_iconst (pc := 325) (v := (2 : Int32)) dL_law_325 (by decide) ?_
                  refine E_iadd (pc := 326) dL_law_326 ?_
                  refine E_sld (pc := 327) dL_law_327 hG hf (fun v238 hf => ?_)
                  refine E_Vi (pc := 328) (d2 := D_X12_cell) (ci := 12) [.int v237, .int v238] dL_law_328 ml_L_40 mf_X12_cell im_X12_cell rfl rfl rfl (by decide) (Nat.le_of_ble_eq_true rfl) (Nat.le_of_ble_eq_true rfl) rfl (fun _ _ h => f_X12_cell_ok h) hf (fun v240 μ239 hf => ?_)
                  refine E_icmp_eq (pc := 331) (tgt := 1075) dL_law_331 (by decide) hf (fun hf => ?_) (fun hf => ?_)
                  · refine E_iinc (pc := 1075) (ls' := fun x241 => [(3, .int x241), (0, .ref a11), (1, .ref a12), (2, .ref a13)]) dL_law_1075 rfl (by decide) (fun _ => rfl) hf (fun x241 hf => ?_)
                    refine E_goto (pc := 1078) (tgt := 18) dL_law_1078 (by decide) ?_
                    refine Ev.sub [1, 2, 3, 0] rfl ?_
                    exact ih _ _ _ _ _ hf
                  · refine Ev.sub [] rfl ?_
                    exact hK334 _ hf
                · refine ifS hf (fun n33_6 hf => ?_) (fun n33_6 hf => ?_)
                  · refine E_tswI (pc := 33) (tgt := 336) (6) dL_law_33 (by rw [n33_6]; decide) (by decide) (by decide) rfl (by decide) ?_
                    refine E_aload_n (pc := 336) dL_law_336 rfl ?_
                    refine E_aload_n (pc := 337) dL_law_337 rfl ?_
                    refine E_iload_n (pc := 338) dL_law_338 rfl ?_
                    refine E_iconst (pc := 339) (v := (1 : Int32)) dL_law_339 (by decide) ?_
                    refine E_iadd (pc := 340) dL_law_340 ?_
                    refine E_sld (pc := 341) dL_law_341 hG hf (fun v224 hf => ?_)
                    refine E_aload_n (pc := 342) dL_law_342 rfl ?_
                    refine E_iload_n (pc := 343) dL_law_343 rfl ?_
                    refine E_iconst (pc := 344) (v := (2 : Int32)) dL_law_344 (by decide) ?_
                    refine E_iadd (pc := 345) dL_law_345 ?_
                    refine E_sld (pc := 346) dL_law_346 hG hf (fun v225 hf => ?_)
                    refine E_Vi (pc := 347) (d2 := D_X11_person) (ci := 11) [.int v224, .int v225] dL_law_347 ml_L_41 mf_X11_person im_X11_person rfl rfl rfl (by decide) (Nat.le_of_ble_eq_true rfl) (Nat.le_of_ble_eq_true rfl) rfl (fun _ _ h => f_X11_person_ok h) hf (fun v227 μ226 hf => ?_)
                    refine E_aload_n (pc := 350) dL_law_350 rfl ?_
                    refine E_aload_n (pc := 351) dL_law_351 rfl ?_
                    refine E_iload_n (pc := 352) dL_law_352 rfl ?_
                    refine E_iconst (pc := 353) (v := (1 : Int32)) dL_law_353 (by decide) ?_
                    refine E_iadd (pc := 354) dL_law_354 ?_
                    refine E_sld (pc := 355) dL_law_355 hG hf (fun v228 hf => ?_)
                    refine E_aload_n (pc := 356) dL_law_356 rfl ?_
                    refine E_iload_n (pc := 357) dL_law_357 rfl ?_
                    refine E_iconst (pc := 358) (v := (2 : Int32)) dL_law_358 (by decide) ?_
                    refine E_iadd (pc := 359) dL_law_359 ?_
                    refine E_sld (pc := 360) dL_law_360 hG hf (fun v229 hf => ?_)
                    refine E_Vi (pc := 361) (d2 := D_X12_person) (ci := 12) [.int v228, .int v229] dL_law_361 ml_L_44 mf_X12_person im_X12_person rfl rfl rfl (by decide) (Nat.le_of_ble_eq_true rfl) (Nat.le_of_ble_eq_true rfl) rfl (fun _ _ h => f_X12_person_ok h) hf (fun v231 μ230 hf => ?_)
                    refine E_icmp_eq (pc := 364) (tgt := 1075) dL_law_364 (by decide) hf (fun hf => ?_) (fun hf => ?_)
                    · refine E_iinc (pc := 1075) (ls' := fun x232 => [(3, .int x232), (0, .ref a11), (1, .ref a12), (2, .ref a13)]) dL_law_1075 rfl (by decide) (fun _ => rfl) hf (fun x232 hf => ?_)
                      refine E_goto (pc := 1078) (tgt := 18) dL_law_1078 (by decide) ?_
                      refine Ev.sub [1, 2, 3, 0] rfl ?_
                      exact ih _ _ _ _ _ hf
                    · refine Ev.sub [] rfl ?_
                      exact hK367 _ hf
                  · refine ifS hf (fun n33_7 hf => ?_) (fun n33_7 hf => ?_)
                    · refine E_tswI (pc := 33) (tgt := 369) (7) dL_law_33 (by rw [n33_7]; decide) (by decide) (by decide) rfl (by decide) ?_
                      refine E_aload_n (pc := 369) dL_law_369 rfl ?_
                      refine E_aload_n (pc := 370) dL_law_370 rfl ?_
                      refine E_iload_n (pc := 371) dL_law_371 rfl ?_
                      refine E_iconst (pc := 372) (v := (1 : Int32)) dL_law_372 (by decide) ?_
                      refine E_iadd (pc := 373) dL_law_373 ?_
                      refine E_sld (pc := 374) dL_law_374 hG hf (fun v215 hf => ?_)
                      refine E_aload_n (pc := 375) dL_law_375 rfl ?_
                      refine E_iload_n (pc := 376) dL_law_376 rfl ?_
                      refine E_iconst (pc := 377) (v := (2 : Int32)) dL_law_377 (by decide) ?_
                      refine E_iadd (pc := 378) dL_law_378 ?_
                      refine E_sld (pc := 379) dL_law_379 hG hf (fun v216 hf => ?_)
                      refine E_Vi (pc := 380) (d2 := D_X11_thing) (ci := 11) [.int v215, .int v216] dL_law_380 ml_L_45 mf_X11_thing im_X11_thing rfl rfl rfl (by decide) (Nat.le_of_ble_eq_true rfl) (Nat.le_of_ble_eq_true rfl) rfl (fun _ _ h => f_X11_thing_ok h) hf (fun v218 μ217 hf => ?_)
                      refine E_aload_n (pc := 383) dL_law_383 rfl ?_
                      refine E_aload_n (pc := 384) dL_law_384 rfl ?_
                      refine E_iload_n (pc := 385) dL_law_385 rfl ?_
                      refine E_iconst (pc := 386) (v := (1 : Int32)) dL_law_386 (by decide) ?_
                      refine E_iadd (pc := 387) dL_law_387 ?_
                      refine E_sld (pc := 388) dL_law_388 hG hf (fun v219 hf => ?_)
                      refine E_aload_n (pc := 389) dL_law_389 rfl ?_
                      refine E_iload_n (pc := 390) dL_law_390 rfl ?_
                      refine E_iconst (pc := 391) (v := (2 : Int32)) dL_law_391 (by decide) ?_
                      refine E_iadd (pc := 392) dL_law_392 ?_
                      refine E_sld (pc := 393) dL_law_393 hG hf (fun v220 hf => ?_)
                      refine E_Vi (pc := 394) (d2 := D_X12_thing) (ci := 12) [.int v219, .int v220] dL_law_394 ml_L_48 mf_X12_thing im_X12_thing rfl rfl rfl (by decide) (Nat.le_of_ble_eq_true rfl) (Nat.le_of_ble_eq_true rfl) rfl (fun _ _ h => f_X12_thing_ok h) hf (fun v222 μ221 hf => ?_)
                      refine E_icmp_eq (pc := 397) (tgt := 1075) dL_law_397 (by decide) hf (fun hf => ?_) (fun hf => ?_)
                      · refine E_iinc (pc := 1075) (ls' := fun x223 => [(3, .int x223), (0, .ref a11), (1, .ref a12), (2, .ref a13)]) dL_law_1075 rfl (by decide) (fun _ => rfl) hf (fun x223 hf => ?_)
                        refine E_goto (pc := 1078) (tgt := 18) dL_law_1078 (by decide) ?_
                        refine Ev.sub [1, 2, 3, 0] rfl ?_
                        exact ih _ _ _ _ _ hf
                      · refine Ev.sub [] rfl ?_
                        exact hK400 _ hf
                    · refine ifS hf (fun n33_8 hf => ?_) (fun n33_8 hf => ?_)
                      · refine E_tswI (pc := 33) (tgt := 402) (8) dL_law_33 (by rw [n33_8]; decide) (by decide) (by decide) rfl (by decide) ?_
                        refine E_aload_n (pc := 402) dL_law_402 rfl ?_
                        refine E_aload_n (pc := 403) dL_law_403 rfl ?_
                        refine E_iload_n (pc := 404) dL_law_404 rfl ?_
                        refine E_iconst (pc := 405) (v := (1 : Int32)) dL_law_405 (by decide) ?_
                        refine E_iadd (pc := 406) dL_law_406 ?_
                        refine E_sld (pc := 407) dL_law_407 hG hf (fun v206 hf => ?_)
                        refine E_aload_n (pc := 408) dL_law_408 rfl ?_
                        refine E_iload_n (pc := 409) dL_law_409 rfl ?_
                        refine E_iconst (pc := 410) (v := (2 : Int32)) dL_law_410 (by decide) ?_
                        refine E_iadd (pc := 411) dL_law_411 ?_
                        refine E_sld (pc := 412) dL_law_412 hG hf (fun v207 hf => ?_)
                        refine E_Vi (pc := 413) (d2 := D_X11_fall) (ci := 11) [.int v206, .int v207] dL_law_413 ml_L_49 mf_X11_fall im_X11_fall rfl rfl rfl (by decide) (Nat.le_of_ble_eq_true rfl) (Nat.le_of_ble_eq_true rfl) rfl (fun _ _ h => f_X11_fall_ok h) hf (fun v209 μ208 hf => ?_)
                        refine E_aload_n (pc := 416) dL_law_416 rfl ?_
                        refine E_aload_n (pc := 417) dL_law_417 rfl ?_
                        refine E_iload_n (pc := 418) dL_law_418 rfl ?_
                        refine E_iconst (pc := 419) (v := (1 : Int32)) dL_law_419 (by decide) ?_
                        refine E_iadd (pc := 420) dL_law_420 ?_
                        refine E_sld (pc := 421) dL_law_421 hG hf (fun v210 hf => ?_)
                        refine E_aload_n (pc := 422) dL_law_422 rfl ?_
                        refine E_iload_n (pc := 423) dL_law_423 rfl ?_
                        refine E_iconst (pc := 424) (v := (2 : Int32)) dL_law_424 (by decide) ?_
                        refine E_iadd (pc := 425) dL_law_425 ?_
                        refine E_sld (pc := 426) dL_law_426 hG hf (fun v211 hf => ?_)
                        refine E_Vi (pc := 427) (d2 := D_X12_fall) (ci := 12) [.int v210, .int v211] dL_law_427 ml_L_52 mf_X12_fall im_X12_fall rfl rfl rfl (by decide) (Nat.le_of_ble_eq_true rfl) (Nat.le_of_ble_eq_true rfl) rfl (fun _ _ h => f_X12_fall_ok h) hf (fun v213 μ212 hf => ?_)
                        refine E_icmp_eq (pc := 430) (tgt := 1075) dL_law_430 (by decide) hf (fun hf => ?_) (fun hf => ?_)
                        · refine E_iinc (pc := 1075) (ls' := fun x214 => [(3, .int x214), (0, .ref a11), (1, .ref a12), (2, .ref a13)]) dL_law_1075 rfl (by decide) (fun _ => rfl) hf (fun x214 hf => ?_)
                          refine E_goto (pc := 1078) (tgt := 18) dL_law_1078 (by decide) ?_
                          refine Ev.sub [1, 2, 3, 0] rfl ?_
                          exact ih _ _ _ _ _ hf
                        · refine Ev.sub [] rfl ?_
                          exact hK433 _ hf
                      · refine ifS hf (fun n33_9 hf => ?_) (fun n33_9 hf => ?_)
                        · refine E_tswI (pc := 33) (tgt := 435) (9) dL_law_33 (by rw [n33_9]; decide) (by decide) (by decide) rfl (by decide) ?_
                          refine E_aload_n (pc := 435) dL_law_435 rfl ?_
                          refine E_aload_n (pc := 436) dL_law_436 rfl ?_
                          refine E_iload_n (pc := 437) dL_law_437 rfl ?_
                          refine E_iconst (pc := 438) (v := (1 : Int32)) dL_law_438 (by decide) ?_
                          refine E_iadd (pc := 439) dL_law_439 ?_
                          refine E_sld (pc := 440) dL_law_440 hG hf (fun v197 hf => ?_)
                          refine E_aload_n (pc := 441) dL_law_441 rfl ?_
                          refine E_iload_n (pc := 442) dL_law_442 rfl ?_
                          refine E_iconst (pc := 443) (v := (2 : Int32)) dL_law_443 (by decide) ?_
                          refine E_iadd (pc := 444) dL_law_444 ?_
                          refine E_sld (pc := 445) dL_law_445 hG hf (fun v198 hf => ?_)
                          refine E_Vi (pc := 446) (d2 := D_X11_walk) (ci := 11) [.int v197, .int v198] dL_law_446 ml_L_53 mf_X11_walk im_X11_walk rfl rfl rfl (by decide) (Nat.le_of_ble_eq_true rfl) (Nat.le_of_ble_eq_true rfl) rfl (fun _ _ h => f_X11_walk_ok h) hf (fun v200 μ199 hf => ?_)
                          refine E_aload_n (pc := 449) dL_law_449 rfl ?_
                          refine E_aload_n (pc := 450) dL_law_450 rfl ?_
                          refine E_iload_n (pc := 451) dL_law_451 rfl ?_
                          refine E_iconst (pc := 452) (v := (1 : Int32)) dL_law_452 (by decide) ?_
                          refine E_iadd (pc := 453) dL_law_453 ?_
                          refine E_sld (pc := 454) dL_law_454 hG hf (fun v201 hf => ?_)
                          refine E_aload_n (pc := 455) dL_law_455 rfl ?_
                          refine E_iload_n (pc := 456) dL_law_456 rfl ?_
                          refine E_iconst (pc := 457) (v := (2 : Int32)) dL_law_457 (by decide) ?_
                          refine E_iadd (pc := 458) dL_law_458 ?_
                          refine E_sld (pc := 459) dL_law_459 hG hf (fun v202 hf => ?_)
                          refine E_Vi (pc := 460) (d2 := D_X12_walk) (ci := 12) [.int v201, .int v202] dL_law_460 ml_L_56 mf_X12_walk im_X12_walk rfl rfl rfl (by decide) (Nat.le_of_ble_eq_true rfl) (Nat.le_of_ble_eq_true rfl) rfl (fun _ _ h => f_X12_walk_ok h) hf (fun v204 μ203 hf => ?_)
                          refine E_icmp_eq (pc := 463) (tgt := 1075) dL_law_463 (by decide) hf (fun hf => ?_) (fun hf => ?_)
                          · refine E_iinc (pc := 1075) (ls' := fun x205 => [(3, .int x205), (0, .ref a11), (1, .ref a12), (2, .ref a13)]) dL_law_1075 rfl (by decide) (fun _ => rfl) hf (fun x205 hf => ?_)
                            refine E_goto (pc := 1078) (tgt := 18) dL_law_1078 (by decide) ?_
                            refine Ev.sub [1, 2, 3, 0] rfl ?_
                            exact ih _ _ _ _ _ hf
                          · refine Ev.sub [] rfl ?_
                            exact hK466 _ hf
                        · refine ifS hf (fun n33_10 hf => ?_) (fun n33_10 hf => ?_)
                          · refine E_tswI (pc := 33) (tgt := 468) (10) dL_law_33 (by rw [n33_10]; decide) (by decide) (by decide) rfl (by decide) ?_
                            refine E_aload_n (pc := 468) dL_law_468 rfl ?_
                            refine E_aload_n (pc := 469) dL_law_469 rfl ?_
                            refine E_iload_n (pc := 470) dL_law_470 rfl ?_
                            refine E_iconst (pc := 471) (v := (1 : Int32)) dL_law_471 (by decide) ?_
                            refine E_iadd (pc := 472) dL_law_472 ?_
                            refine E_sld (pc := 473) dL_law_473 hG hf (fun v188 hf => ?_)
                            refine E_aload_n (pc := 474) dL_law_474 rfl ?_
                            refine E_iload_n (pc := 475) dL_law_475 rfl ?_
                            refine E_iconst (pc := 476) (v := (2 : Int32)) dL_law_476 (by decide) ?_
                            refine E_iadd (pc := 477) dL_law_477 ?_
                            refine E_sld (pc := 478) dL_law_478 hG hf (fun v189 hf => ?_)
                            refine E_Vi (pc := 479) (d2 := D_X11_put) (ci := 11) [.int v188, .int v189] dL_law_479 ml_L_57 mf_X11_put im_X11_put rfl rfl rfl (by decide) (Nat.le_of_ble_eq_true rfl) (Nat.le_of_ble_eq_true rfl) rfl (fun _ _ h => f_X11_put_ok h) hf (fun v191 μ190 hf => ?_)
                            refine E_aload_n (pc := 482) dL_law_482 rfl ?_
                            refine E_aload_n (pc := 483) dL_law_483 rfl ?_
                            refine E_iload_n (pc := 484) dL_law_484 rfl ?_
                            refine E_iconst (pc := 485) (v := (1 : Int32)) dL_law_485 (by decide) ?_
                            refine E_iadd (pc := 486) dL_law_486 ?_
                            refine E_sld (pc := 487) dL_law_487 hG hf (fun v192 hf => ?_)
                            refine E_aload_n (pc := 488) dL_law_488 rfl ?_
                            refine E_iload_n (pc := 489) dL_law_489 rfl ?_
                            refine E_iconst (pc := 490) (v := (2 : Int32)) dL_law_490 (by decide) ?_
                            refine E_iadd (pc := 491) dL_law_491 ?_
                            refine E_sld (pc := 492) dL_law_492 hG hf (fun v193 hf => ?_)
                            refine E_Vi (pc := 493) (d2 := D_X12_put_) (ci := 12) [.int v192, .int v193] dL_law_493 ml_L_60 mf_X12_put_ im_X12_put_ rfl rfl rfl (by decide) (Nat.le_of_ble_eq_true rfl) (Nat.le_of_ble_eq_true rfl) rfl (fun _ _ h => f_X12_put__ok h) hf (fun v195 μ194 hf => ?_)
                            refine E_icmp_eq (pc := 496) (tgt := 1075) dL_law_496 (by decide) hf (fun hf => ?_) (fun hf => ?_)
                            · refine E_iinc (pc := 1075) (ls' := fun x196 => [(3, .int x196), (0, .ref a11), (1, .ref a12), (2, .ref a13)]) dL_law_1075 rfl (by decide) (fun _ => rfl) hf (fun x196 hf => ?_)
                              refine E_goto (pc := 1078) (tgt := 18) dL_law_1078 (by decide) ?_
                              refine Ev.sub [1, 2, 3, 0] rfl ?_
                              exact ih _ _ _ _ _ hf
                            · refine Ev.sub [] rfl ?_
                              exact hK499 _ hf
                          · refine ifS hf (fun n33_11 hf => ?_) (fun n33_11 hf => ?_)
                            · refine E_tswI (pc := 33) (tgt := 501) (11) dL_law_33 (by rw [n33_11]; decide) (by decide) (by decide) rfl (by decide) ?_
                              refine E_aload_n (pc := 501) dL_law_501 rfl ?_
                              refine E_aload_n (pc := 502) dL_law_502 rfl ?_
                              refine E_iload_n (pc := 503) dL_law_503 rfl ?_
                              refine E_iconst (pc := 504) (v := (1 : Int32)) dL_law_504 (by decide) ?_
                              refine E_iadd (pc := 505) dL_law_505 ?_
                              refine E_sld (pc := 506) dL_law_506 hG hf (fun v181 hf => ?_)
                              refine E_Vi (pc := 507) (d2 := D_X11_mend) (ci := 11) [.int v181] dL_law_507 ml_L_61 mf_X11_mend im_X11_mend rfl rfl rfl (by decide) (Nat.le_of_ble_eq_true rfl) (Nat.le_of_ble_eq_true rfl) rfl (fun _ _ h => f_X11_mend_ok h) hf (fun v183 μ182 hf => ?_)
                              refine E_aload_n (pc := 510) dL_law_510 rfl ?_
                              refine E_aload_n (pc := 511) dL_law_511 rfl ?_
                              refine E_iload_n (pc := 512) dL_law_512 rfl ?_
                              refine E_iconst (pc := 513) (v := (1 : Int32)) dL_law_513 (by decide) ?_
                              refine E_iadd (pc := 514) dL_law_514 ?_
                              refine E_sld (pc := 515) dL_law_515 hG hf (fun v184 hf => ?_)
                              refine E_Vi (pc := 516) (d2 := D_X12_mend) (ci := 12) [.int v184] dL_law_516 ml_L_65 mf_X12_mend im_X12_mend rfl rfl rfl (by decide) (Nat.le_of_ble_eq_true rfl) (Nat.le_of_ble_eq_true rfl) rfl (fun _ _ h => f_X12_mend_ok h) hf (fun v186 μ185 hf => ?_)
                              refine E_icmp_eq (pc := 519) (tgt := 1075) dL_law_519 (by decide) hf (fun hf => ?_) (fun hf => ?_)
                              · refine E_iinc (pc := 1075) (ls' := fun x187 => [(3, .int x187), (0, .ref a11), (1, .ref a12), (2, .ref a13)]) dL_law_1075 rfl (by decide) (fun _ => rfl) hf (fun x187 hf => ?_)
                                refine E_goto (pc := 1078) (tgt := 18) dL_law_1078 (by decide) ?_
                                refine Ev.sub [1, 2, 3, 0] rfl ?_
                                exact ih _ _ _ _ _ hf
                              · refine Ev.sub [] rfl ?_
                                exact hK522 _ hf
                            · refine ifS hf (fun n33_12 hf => ?_) (fun n33_12 hf => ?_)
                              · refine E_tswI (pc := 33) (tgt := 524) (12) dL_law_33 (by rw [n33_12]; decide) (by decide) (by decide) rfl (by decide) ?_
                                refine E_aload_n (pc := 524) dL_law_524 rfl ?_
                                refine E_Vi (pc := 525) (d2 := D_X11_undo) (ci := 11) [] dL_law_525 ml_L_66 mf_X11_undo im_X11_undo rfl rfl rfl (by decide) (Nat.le_of_ble_eq_true rfl) (Nat.le_of_ble_eq_true rfl) rfl (fun _ _ h => f_X11_undo_ok h) hf (fun v177 μ176 hf => ?_)
                                refine E_aload_n (pc := 528) dL_law_528 rfl ?_
                                refine E_Vi (pc := 529) (d2 := D_X12_undo) (ci := 12) [] dL_law_529 ml_L_69 mf_X12_undo im_X12_undo rfl rfl rfl (by decide) (Nat.le_of_ble_eq_true rfl) (Nat.le_of_ble_eq_true rfl) rfl (fun _ _ h => f_X12_undo_ok h) hf (fun v179 μ178 hf => ?_)
                                refine E_icmp_eq (pc := 532) (tgt := 1075) dL_law_532 (by decide) hf (fun hf => ?_) (fun hf => ?_)
                                · refine E_iinc (pc := 1075) (ls' := fun x180 => [(3, .int x180), (0, .ref a11), (1, .ref a12), (2, .ref a13)]) dL_law_1075 rfl (by decide) (fun _ => rfl) hf (fun x180 hf => ?_)
                                  refine E_goto (pc := 1078) (tgt := 18) dL_law_1078 (by decide) ?_
                                  refine Ev.sub [1, 2, 3, 0] rfl ?_
                                  exact ih _ _ _ _ _ hf
                                · refine Ev.sub [] rfl ?_
                                  exact hK535 _ hf
                              · refine ifS hf (fun n33_13 hf => ?_) (fun n33_13 hf => ?_)
                                · refine E_tswI (pc := 33) (tgt := 537) (13) dL_law_33 (by rw [n33_13]; decide) (by decide) (by decide) rfl (by decide) ?_
                                  refine E_aload_n (pc := 537) dL_law_537 rfl ?_
                                  refine E_aload_n (pc := 538) dL_law_538 rfl ?_
                                  refine E_iload_n (pc := 539) dL_law_539 rfl ?_
                                  refine E_iconst (pc := 540) (v := (1 : Int32)) dL_law_540 (by decide) ?_
                                  refine E_iadd (pc := 541) dL_law_541 ?_
                                  refine E_sld (pc := 542) dL_law_542 hG hf (fun v165 hf => ?_)
                                  refine E_aload_n (pc := 543) dL_law_543 rfl ?_
                                  refine E_iload_n (pc := 544) dL_law_544 rfl ?_
                                  refine E_iconst (pc := 545) (v := (2 : Int32)) dL_law_545 (by decide) ?_
                                  refine E_iadd (pc := 546) dL_law_546 ?_
                                  refine E_sld (pc := 547) dL_law_547 hG hf (fun v166 hf => ?_)
                                  refine E_aload_n (pc := 548) dL_law_548 rfl ?_
                                  refine E_iload_n (pc := 549) dL_law_549 rfl ?_
                                  refine E_iconst (pc := 550) (v := (3 : Int32)) dL_law_550 (by decide) ?_
                                  refine E_iadd (pc := 551) dL_law_551 ?_
                                  refine E_sld (pc := 552) dL_law_552 hG hf (fun v167 hf => ?_)
                                  refine E_Vi (pc := 553) (d2 := D_X11_would) (ci := 11) [.int v165, .int v166, .int v167] dL_law_553 ml_L_70 mf_X11_would im_X11_would rfl rfl rfl (by decide) (Nat.le_of_ble_eq_true rfl) (Nat.le_of_ble_eq_true rfl) rfl (fun _ _ h => f_X11_would_ok h) hf (fun v169 μ168 hf => ?_)
                                  refine E_aload_n (pc := 556) dL_law_556 rfl ?_
                                  refine E_aload_n (pc := 557) dL_law_557 rfl ?_
                                  refine E_iload_n (pc := 558) dL_law_558 rfl ?_
                                  refine E_iconst (pc := 559) (v := (1 : Int32)) dL_law_559 (by decide) ?_
                                  refine E_iadd (pc := 560) dL_law_560 ?_
                                  refine E_sld (pc := 561) dL_law_561 hG hf (fun v170 hf => ?_)
                                  refine E_aload_n (pc := 562) dL_law_562 rfl ?_
                                  refine E_iload_n (pc := 563) dL_law_563 rfl ?_
                                  refine E_iconst (pc := 564) (v := (2 : Int32)) dL_law_564 (by decide) ?_
                                  refine E_iadd (pc := 565) dL_law_565 ?_
                                  refine E_sld (pc := 566) dL_law_566 hG hf (fun v171 hf => ?_)
                                  refine E_aload_n (pc := 567) dL_law_567 rfl ?_
                                  refine E_iload_n (pc := 568) dL_law_568 rfl ?_
                                  refine E_iconst (pc := 569) (v := (3 : Int32)) dL_law_569 (by decide) ?_
                                  refine E_iadd (pc := 570) dL_law_570 ?_
                                  refine E_sld (pc := 571) dL_law_571 hG hf (fun v172 hf => ?_)
                                  refine E_Vi (pc := 572) (d2 := D_X12_would) (ci := 12) [.int v170, .int v171, .int v172] dL_law_572 ml_L_74 mf_X12_would im_X12_would rfl rfl rfl (by decide) (Nat.le_of_ble_eq_true rfl) (Nat.le_of_ble_eq_true rfl) rfl (fun _ _ h => f_X12_would_ok h) hf (fun v174 μ173 hf => ?_)
                                  refine E_icmp_eq (pc := 575) (tgt := 1075) dL_law_575 (by decide) hf (fun hf => ?_) (fun hf => ?_)
                                  · refine E_iinc (pc := 1075) (ls' := fun x175 => [(3, .int x175), (0, .ref a11), (1, .ref a12), (2, .ref a13)]) dL_law_1075 rfl (by decide) (fun _ => rfl) hf (fun x175 hf => ?_)
                                    refine E_goto (pc := 1078) (tgt := 18) dL_law_1078 (by decide) ?_
                                    refine Ev.sub [1, 2, 3, 0] rfl ?_
                                    exact ih _ _ _ _ _ hf
                                  · refine Ev.sub [] rfl ?_
                                    exact hK578 _ hf
                                · refine ifS hf (fun n33_14 hf => ?_) (fun n33_14 hf => ?_)
                                  · refine E_tswI (pc := 33) (tgt := 580) (14) dL_law_33 (by rw [n33_14]; decide) (by decide) (by decide) rfl (by decide) ?_
                                    refine E_aload_n (pc := 580) dL_law_580 rfl ?_
                                    refine E_aload_n (pc := 581) dL_law_581 rfl ?_
                                    refine E_iload_n (pc := 582) dL_law_582 rfl ?_
                                    refine E_iconst (pc := 583) (v := (1 : Int32)) dL_law_583 (by decide) ?_
                                    refine E_iadd (pc := 584) dL_law_584 ?_
                                    refine E_sld (pc := 585) dL_law_585 hG hf (fun v158 hf => ?_)
                                    refine E_Vi (pc := 586) (d2 := D_X11_lean) (ci := 11) [.int v158] dL_law_586 ml_L_75 mf_X11_lean im_X11_lean rfl rfl rfl (by decide) (Nat.le_of_ble_eq_true rfl) (Nat.le_of_ble_eq_true rfl) rfl (fun _ _ h => f_X11_lean_ok h) hf (fun v160 μ159 hf => ?_)
                                    refine E_aload_n (pc := 589) dL_law_589 rfl ?_
                                    refine E_aload_n (pc := 590) dL_law_590 rfl ?_
                                    refine E_iload_n (pc := 591) dL_law_591 rfl ?_
                                    refine E_iconst (pc := 592) (v := (1 : Int32)) dL_law_592 (by decide) ?_
                                    refine E_iadd (pc := 593) dL_law_593 ?_
                                    refine E_sld (pc := 594) dL_law_594 hG hf (fun v161 hf => ?_)
                                    refine E_Vi (pc := 595) (d2 := D_X12_lean) (ci := 12) [.int v161] dL_law_595 ml_L_78 mf_X12_lean im_X12_lean rfl rfl rfl (by decide) (Nat.le_of_ble_eq_true rfl) (Nat.le_of_ble_eq_true rfl) rfl (fun _ _ h => f_X12_lean_ok h) hf (fun v163 μ162 hf => ?_)
                                    refine E_icmp_eq (pc := 598) (tgt := 1075) dL_law_598 (by decide) hf (fun hf => ?_) (fun hf => ?_)
                                    · refine E_iinc (pc := 1075) (ls' := fun x164 => [(3, .int x164), (0, .ref a11), (1, .ref a12), (2, .ref a13)]) dL_law_1075 rfl (by decide) (fun _ => rfl) hf (fun x164 hf => ?_)
                                      refine E_goto (pc := 1078) (tgt := 18) dL_law_1078 (by decide) ?_
                                      refine Ev.sub [1, 2, 3, 0] rfl ?_
                                      exact ih _ _ _ _ _ hf
                                    · refine Ev.sub [] rfl ?_
                                      exact hK601 _ hf
                                  · refine ifS hf (fun n33_15 hf => ?_) (fun n33_15 hf => ?_)
                                    · refine E_tswI (pc := 33) (tgt := 603) (15) dL_law_33 (by rw [n33_15]; decide) (by decide) (by decide) rfl (by decide) ?_
                                      refine E_aload_n (pc := 603) dL_law_603 rfl ?_
                                      refine E_aload_n (pc := 604) dL_law_604 rfl ?_
                                      refine E_iload_n (pc := 605) dL_law_605 rfl ?_
                                      refine E_iconst (pc := 606) (v := (1 : Int32)) dL_law_606 (by decide) ?_
                                      refine E_iadd (pc := 607) dL_law_607 ?_
                                      refine E_sld (pc := 608) dL_law_608 hG hf (fun v149 hf => ?_)
                                      refine E_aload_n (pc := 609) dL_law_609 rfl ?_
                                      refine E_iload_n (pc := 610) dL_law_610 rfl ?_
                                      refine E_iconst (pc := 611) (v := (2 : Int32)) dL_law_611 (by decide) ?_
                                      refine E_iadd (pc := 612) dL_law_612 ?_
                                      refine E_sld (pc := 613) dL_law_613 hG hf (fun v150 hf => ?_)
                                      refine E_Vi (pc := 614) (d2 := D_X11_way) (ci := 11) [.int v149, .int v150] dL_law_614 ml_L_79 mf_X11_way im_X11_way rfl rfl rfl (by decide) (Nat.le_of_ble_eq_true rfl) (Nat.le_of_ble_eq_true rfl) rfl (fun _ _ h => f_X11_way_ok h) hf (fun v152 μ151 hf => ?_)
                                      refine E_aload_n (pc := 617) dL_law_617 rfl ?_
                                      refine E_aload_n (pc := 618) dL_law_618 rfl ?_
                                      refine E_iload_n (pc := 619) dL_law_619 rfl ?_
                                      refine E_iconst (pc := 620) (v := (1 : Int32)) dL_law_620 (by decide) ?_
                                      refine E_iadd (pc := 621) dL_law_621 ?_
                                      refine E_sld (pc := 622) dL_law_622 hG hf (fun v153 hf => ?_)
                                      refine E_aload_n (pc := 623) dL_law_623 rfl ?_
                                      refine E_iload_n (pc := 624) dL_law_624 rfl ?_
                                      refine E_iconst (pc := 625) (v := (2 : Int32)) dL_law_625 (by decide) ?_
                                      refine E_iadd (pc := 626) dL_law_626 ?_
                                      refine E_sld (pc := 627) dL_law_627 hG hf (fun v154 hf => ?_)
                                      refine E_Vi (pc := 628) (d2 := D_X12_way) (ci := 12) [.int v153, .int v154] dL_law_628 ml_L_82 mf_X12_way im_X12_way rfl rfl rfl (by decide) (Nat.le_of_ble_eq_true rfl) (Nat.le_of_ble_eq_true rfl) rfl (fun _ _ h => f_X12_way_ok h) hf (fun v156 μ155 hf => ?_)
                                      refine E_icmp_eq (pc := 631) (tgt := 1075) dL_law_631 (by decide) hf (fun hf => ?_) (fun hf => ?_)
                                      · refine E_iinc (pc := 1075) (ls' := fun x157 => [(3, .int x157), (0, .ref a11), (1, .ref a12), (2, .ref a13)]) dL_law_1075 rfl (by decide) (fun _ => rfl) hf (fun x157 hf => ?_)
                                        refine E_goto (pc := 1078) (tgt := 18) dL_law_1078 (by decide) ?_
                                        refine Ev.sub [1, 2, 3, 0] rfl ?_
                                        exact ih _ _ _ _ _ hf
                                      · refine Ev.sub [] rfl ?_
                                        exact hK634 _ hf
                                    · refine ifS hf (fun n33_16 hf => ?_) (fun n33_16 hf => ?_)
                                      · refine E_tswI (pc := 33) (tgt := 636) (16) dL_law_33 (by rw [n33_16]; decide) (by decide) (by decide) rfl (by decide) ?_
                                        refine E_aload_n (pc := 636) dL_law_636 rfl ?_
                                        refine E_aload_n (pc := 637) dL_law_637 rfl ?_
                                        refine E_iload_n (pc := 638) dL_law_638 rfl ?_
                                        refine E_iconst (pc := 639) (v := (1 : Int32)) dL_law_639 (by decide) ?_
                                        refine E_iadd (pc := 640) dL_law_640 ?_
                                        refine E_sld (pc := 641) dL_law_641 hG hf (fun v127 hf => ?_)
                                        refine E_aload_n (pc := 642) dL_law_642 rfl ?_
                                        refine E_iload_n (pc := 643) dL_law_643 rfl ?_
                                        refine E_iconst (pc := 644) (v := (2 : Int32)) dL_law_644 (by decide) ?_
                                        refine E_iadd (pc := 645) dL_law_645 ?_
                                        refine E_sld (pc := 646) dL_law_646 hG hf (fun v128 hf => ?_)
                                        refine E_if_eq (pc := 647) (tgt := 654) dL_law_647 (by decide) hf (fun hf => ?_) (fun hf => ?_)
                                        · refine E_iconst (pc := 654) (v := (0 : Int32)) dL_law_654 (by decide) ?_
                                          refine E_Vi (pc := 655) (d2 := D_X11_clue) (ci := 11) [.int v127, .int (0 : Int32)] dL_law_655 ml_L_83 mf_X11_clue im_X11_clue rfl rfl rfl (by decide) (Nat.le_of_ble_eq_true rfl) (Nat.le_of_ble_eq_true rfl) rfl (fun _ _ h => f_X11_clue_ok h) hf (fun v130 μ129 hf => ?_)
                                          refine E_aload_n (pc := 658) dL_law_658 rfl ?_
                                          refine E_aload_n (pc := 659) dL_law_659 rfl ?_
                                          refine E_iload_n (pc := 660) dL_law_660 rfl ?_
                                          refine E_iconst (pc := 661) (v := (1 : Int32)) dL_law_661 (by decide) ?_
                                          refine E_iadd (pc := 662) dL_law_662 ?_
                                          refine E_sld (pc := 663) dL_law_663 hG hf (fun v131 hf => ?_)
                                          refine E_aload_n (pc := 664) dL_law_664 rfl ?_
                                          refine E_iload_n (pc := 665) dL_law_665 rfl ?_
                                          refine E_iconst (pc := 666) (v := (2 : Int32)) dL_law_666 (by decide) ?_
                                          refine E_iadd (pc := 667) dL_law_667 ?_
                                          refine E_sld (pc := 668) dL_law_668 hG hf (fun v132 hf => ?_)
                                          refine E_if_eq (pc := 669) (tgt := 676) dL_law_669 (by decide) hf (fun hf => ?_) (fun hf => ?_)
                                          · refine E_iconst (pc := 676) (v := (0 : Int32)) dL_law_676 (by decide) ?_
                                            refine E_Vi (pc := 677) (d2 := D_X12_clue) (ci := 12) [.int v131, .int (0 : Int32)] dL_law_677 ml_L_87 mf_X12_clue im_X12_clue rfl rfl rfl (by decide) (Nat.le_of_ble_eq_true rfl) (Nat.le_of_ble_eq_true rfl) rfl (fun _ _ h => f_X12_clue_ok h) hf (fun v134 μ133 hf => ?_)
                                            refine E_icmp_eq (pc := 680) (tgt := 1075) dL_law_680 (by decide) hf (fun hf => ?_) (fun hf => ?_)
                                            · refine E_iinc (pc := 1075) (ls' := fun x135 => [(3, .int x135), (0, .ref a11), (1, .ref a12), (2, .ref a13)]) dL_law_1075 rfl (by decide) (fun _ => rfl) hf (fun x135 hf => ?_)
                                              refine E_goto (pc := 1078) (tgt := 18) dL_law_1078 (by decide) ?_
                                              refine Ev.sub [1, 2, 3, 0] rfl ?_
                                              exact ih _ _ _ _ _ hf
                                            · refine Ev.sub [] rfl ?_
                                              exact hK683 _ hf
                                          · refine E_iconst (pc := 672) (v := (1 : Int32)) dL_law_672 (by decide) ?_
                                            refine E_goto (pc := 673) (tgt := 677) dL_law_673 (by decide) ?_
                                            refine E_Vi (pc := 677) (d2 := D_X12_clue) (ci := 12) [.int v131, .int (1 : Int32)] dL_law_677 ml_L_87 mf_X12_clue im_X12_clue rfl rfl rfl (by decide) (Nat.le_of_ble_eq_true rfl) (Nat.le_of_ble_eq_true rfl) rfl (fun _ _ h => f_X12_clue_ok h) hf (fun v137 μ136 hf => ?_)
                                            refine E_icmp_eq (pc := 680) (tgt := 1075) dL_law_680 (by decide) hf (fun hf => ?_) (fun hf => ?_)
                                            · refine E_iinc (pc := 1075) (ls' := fun x138 => [(3, .int x138), (0, .ref a11), (1, .ref a12), (2, .ref a13)]) dL_law_1075 rfl (by decide) (fun _ => rfl) hf (fun x138 hf => ?_)
                                              refine E_goto (pc := 1078) (tgt := 18) dL_law_1078 (by decide) ?_
                                              refine Ev.sub [1, 2, 3, 0] rfl ?_
                                              exact ih _ _ _ _ _ hf
                                            · refine Ev.sub [] rfl ?_
                                              exact hK683 _ hf
                                        · refine E_iconst (pc := 650) (v := (1 : Int32)) dL_law_650 (by decide) ?_
                                          refine E_goto (pc := 651) (tgt := 655) dL_law_651 (by decide) ?_
                                          refine E_Vi (pc := 655) (d2 := D_X11_clue) (ci := 11) [.int v127, .int (1 : Int32)] dL_law_655 ml_L_83 mf_X11_clue im_X11_clue rfl rfl rfl (by decide) (Nat.le_of_ble_eq_true rfl) (Nat.le_of_ble_eq_true rfl) rfl (fun _ _ h => f_X11_clue_ok h) hf (fun v140 μ139 hf => ?_)
                                          refine E_aload_n (pc := 658) dL_law_658 rfl ?_
                                          refine E_aload_n (pc := 659) dL_law_659 rfl ?_
                                          refine E_iload_n (pc := 660) dL_law_660 rfl ?_
                                          refine E_iconst (pc := 661) (v := (1 : Int32)) dL_law_661 (by decide) ?_
                                          refine E_iadd (pc := 662) dL_law_662 ?_
                                          refine E_sld (pc := 663) dL_law_663 hG hf (fun v141 hf => ?_)
                                          refine E_aload_n (pc := 664) dL_law_664 rfl ?_
                                          refine E_iload_n (pc := 665) dL_law_665 rfl ?_
                                          refine E_iconst (pc := 666) (v := (2 : Int32)) dL_law_666 (by decide) ?_
                                          refine E_iadd (pc := 667) dL_law_667 ?_
                                          refine E_sld (pc := 668) dL_law_668 hG hf (fun v142 hf => ?_)
                                          refine E_if_eq (pc := 669) (tgt := 676) dL_law_669 (by decide) hf (fun hf => ?_) (fun hf => ?_)
                                          · refine E_iconst (pc := 676) (v := (0 : Int32)) dL_law_676 (by decide) ?_
                                            refine E_Vi (pc := 677) (d2 := D_X12_clue) (ci := 12) [.int v141, .int (0 : Int32)] dL_law_677 ml_L_87 mf_X12_clue im_X12_clue rfl rfl rfl (by decide) (Nat.le_of_ble_eq_true rfl) (Nat.le_of_ble_eq_true rfl) rfl (fun _ _ h => f_X12_clue_ok h) hf (fun v144 μ143 hf => ?_)
                                            refine E_icmp_eq (pc := 680) (tgt := 1075) dL_law_680 (by decide) hf (fun hf => ?_) (fun hf => ?_)
                                            · refine E_iinc (pc := 1075) (ls' := fun x145 => [(3, .int x145), (0, .ref a11), (1, .ref a12), (2, .ref a13)]) dL_law_1075 rfl (by decide) (fun _ => rfl) hf (fun x145 hf => ?_)
                                              refine E_goto (pc := 1078) (tgt := 18) dL_law_1078 (by decide) ?_
                                              refine Ev.sub [1, 2, 3, 0] rfl ?_
                                              exact ih _ _ _ _ _ hf
                                            · refine Ev.sub [] rfl ?_
                                              exact hK683 _ hf
                                          · refine E_iconst (pc := 672) (v := (1 : Int32)) dL_law_672 (by decide) ?_
                                            refine E_goto (pc := 673) (tgt := 677) dL_law_673 (by decide) ?_
                                            refine E_Vi (pc := 677) (d2 := D_X12_clue) (ci := 12) [.int v141, .int (1 : Int32)] dL_law_677 ml_L_87 mf_X12_clue im_X12_clue rfl rfl rfl (by decide) (Nat.le_of_ble_eq_true rfl) (Nat.le_of_ble_eq_true rfl) rfl (fun _ _ h => f_X12_clue_ok h) hf (fun v147 μ146 hf => ?_)
                                            refine E_icmp_eq (pc := 680) (tgt := 1075) dL_law_680 (by decide) hf (fun hf => ?_) (fun hf => ?_)
                                            · refine E_iinc (pc := 1075) (ls' := fun x148 => [(3, .int x148), (0, .ref a11), (1, .ref a12), (2, .ref a13)]) dL_law_1075 rfl (by decide) (fun _ => rfl) hf (fun x148 hf => ?_)
                                              refine E_goto (pc := 1078) (tgt := 18) dL_law_1078 (by decide) ?_
                                              refine Ev.sub [1, 2, 3, 0] rfl ?_
                                              exact ih _ _ _ _ _ hf
                                            · refine Ev.sub [] rfl ?_
                                              exact hK683 _ hf
                                      · refine ifS hf (fun n33_17 hf => ?_) (fun n33_17 hf => ?_)
                                        · refine E_tswI (pc := 33) (tgt := 685) (17) dL_law_33 (by rw [n33_17]; decide) (by decide) (by decide) rfl (by decide) ?_
                                          refine E_aload_n (pc := 685) dL_law_685 rfl ?_
                                          refine E_aload_n (pc := 686) dL_law_686 rfl ?_
                                          refine E_iload_n (pc := 687) dL_law_687 rfl ?_
                                          refine E_iconst (pc := 688) (v := (1 : Int32)) dL_law_688 (by decide) ?_
                                          refine E_iadd (pc := 689) dL_law_689 ?_
                                          refine E_sld (pc := 690) dL_law_690 hG hf (fun v118 hf => ?_)
                                          refine E_aload_n (pc := 691) dL_law_691 rfl ?_
                                          refine E_iload_n (pc := 692) dL_law_692 rfl ?_
                                          refine E_iconst (pc := 693) (v := (2 : Int32)) dL_law_693 (by decide) ?_
                                          refine E_iadd (pc := 694) dL_law_694 ?_
                                          refine E_sld (pc := 695) dL_law_695 hG hf (fun v119 hf => ?_)
                                          refine E_Vi (pc := 696) (d2 := D_X11_from) (ci := 11) [.int v118, .int v119] dL_law_696 ml_L_88 mf_X11_from im_X11_from rfl rfl rfl (by decide) (Nat.le_of_ble_eq_true rfl) (Nat.le_of_ble_eq_true rfl) rfl (fun _ _ h => f_X11_from_ok h) hf (fun v121 μ120 hf => ?_)
                                          refine E_aload_n (pc := 699) dL_law_699 rfl ?_
                                          refine E_aload_n (pc := 700) dL_law_700 rfl ?_
                                          refine E_iload_n (pc := 701) dL_law_701 rfl ?_
                                          refine E_iconst (pc := 702) (v := (1 : Int32)) dL_law_702 (by decide) ?_
                                          refine E_iadd (pc := 703) dL_law_703 ?_
                                          refine E_sld (pc := 704) dL_law_704 hG hf (fun v122 hf => ?_)
                                          refine E_aload_n (pc := 705) dL_law_705 rfl ?_
                                          refine E_iload_n (pc := 706) dL_law_706 rfl ?_
                                          refine E_iconst (pc := 707) (v := (2 : Int32)) dL_law_707 (by decide) ?_
                                          refine E_iadd (pc := 708) dL_law_708 ?_
                                          refine E_sld (pc := 709) dL_law_709 hG hf (fun v123 hf => ?_)
                                          refine E_Vi (pc := 710) (d2 := D_X12_from) (ci := 12) [.int v122, .int v123] dL_law_710 ml_L_91 mf_X12_from im_X12_from rfl rfl rfl (by decide) (Nat.le_of_ble_eq_true rfl) (Nat.le_of_ble_eq_true rfl) rfl (fun _ _ h => f_X12_from_ok h) hf (fun v125 μ124 hf => ?_)
                                          refine E_icmp_eq (pc := 713) (tgt := 1075) dL_law_713 (by decide) hf (fun hf => ?_) (fun hf => ?_)
                                          · refine E_iinc (pc := 1075) (ls' := fun x126 => [(3, .int x126), (0, .ref a11), (1, .ref a12), (2, .ref a13)]) dL_law_1075 rfl (by decide) (fun _ => rfl) hf (fun x126 hf => ?_)
                                            refine E_goto (pc := 1078) (tgt := 18) dL_law_1078 (by decide) ?_
                                            refine Ev.sub [1, 2, 3, 0] rfl ?_
                                            exact ih _ _ _ _ _ hf
                                          · refine Ev.sub [] rfl ?_
                                            exact hK716 _ hf
                                        · refine ifS hf (fun n33_18 hf => ?_) (fun n33_18 hf => ?_)
                                          · refine E_tswI (pc := 33) (tgt := 718) (18) dL_law_33 (by rw [n33_18]; decide) (by decide) (by decide) rfl (by decide) ?_
                                            refine E_aload_n (pc := 718) dL_law_718 rfl ?_
                                            refine E_aload_n (pc := 719) dL_law_719 rfl ?_
                                            refine E_iload_n (pc := 720) dL_law_720 rfl ?_
                                            refine E_iconst (pc := 721) (v := (1 : Int32)) dL_law_721 (by decide) ?_
                                            refine E_iadd (pc := 722) dL_law_722 ?_
                                            refine E_sld (pc := 723) dL_law_723 hG hf (fun v109 hf => ?_)
                                            refine E_aload_n (pc := 724) dL_law_724 rfl ?_
                                            refine E_iload_n (pc := 725) dL_law_725 rfl ?_
                                            refine E_iconst (pc := 726) (v := (2 : Int32)) dL_law_726 (by decide) ?_
                                            refine E_iadd (pc := 727) dL_law_727 ?_
                                            refine E_sld (pc := 728) dL_law_728 hG hf (fun v110 hf => ?_)
                                            refine E_Vi (pc := 729) (d2 := D_X11_shard) (ci := 11) [.int v109, .int v110] dL_law_729 ml_L_92 mf_X11_shard im_X11_shard rfl rfl rfl (by decide) (Nat.le_of_ble_eq_true rfl) (Nat.le_of_ble_eq_true rfl) rfl (fun _ _ h => f_X11_shard_ok h) hf (fun v112 μ111 hf => ?_)
                                            refine E_aload_n (pc := 732) dL_law_732 rfl ?_
                                            refine E_aload_n (pc := 733) dL_law_733 rfl ?_
                                            refine E_iload_n (pc := 734) dL_law_734 rfl ?_
                                            refine E_iconst (pc := 735) (v := (1 : Int32)) dL_law_735 (by decide) ?_
                                            refine E_iadd (pc := 736) dL_law_736 ?_
                                            refine E_sld (pc := 737) dL_law_737 hG hf (fun v113 hf => ?_)
                                            refine E_aload_n (pc := 738) dL_law_738 rfl ?_
                                            refine E_iload_n (pc := 739) dL_law_739 rfl ?_
                                            refine E_iconst (pc := 740) (v := (2 : Int32)) dL_law_740 (by decide) ?_
                                            refine E_iadd (pc := 741) dL_law_741 ?_
                                            refine E_sld (pc := 742) dL_law_742 hG hf (fun v114 hf => ?_)
                                            refine E_Vi (pc := 743) (d2 := D_X12_shard) (ci := 12) [.int v113, .int v114] dL_law_743 ml_L_95 mf_X12_shard im_X12_shard rfl rfl rfl (by decide) (Nat.le_of_ble_eq_true rfl) (Nat.le_of_ble_eq_true rfl) rfl (fun _ _ h => f_X12_shard_ok h) hf (fun v116 μ115 hf => ?_)
                                            refine E_icmp_eq (pc := 746) (tgt := 1075) dL_law_746 (by decide) hf (fun hf => ?_) (fun hf => ?_)
                                            · refine E_iinc (pc := 1075) (ls' := fun x117 => [(3, .int x117), (0, .ref a11), (1, .ref a12), (2, .ref a13)]) dL_law_1075 rfl (by decide) (fun _ => rfl) hf (fun x117 hf => ?_)
                                              refine E_goto (pc := 1078) (tgt := 18) dL_law_1078 (by decide) ?_
                                              refine Ev.sub [1, 2, 3, 0] rfl ?_
                                              exact ih _ _ _ _ _ hf
                                            · refine Ev.sub [] rfl ?_
                                              exact hK749 _ hf
                                          · refine ifS hf (fun n33_19 hf => ?_) (fun n33_19 hf => ?_)
                                            · refine E_tswI (pc := 33) (tgt := 751) (19) dL_law_33 (by rw [n33_19]; decide) (by decide) (by decide) rfl (by decide) ?_
                                              refine E_aload_n (pc := 751) dL_law_751 rfl ?_
                                              refine E_aload_n (pc := 752) dL_law_752 rfl ?_
                                              refine E_iload_n (pc := 753) dL_law_753 rfl ?_
                                              refine E_iconst (pc := 754) (v := (1 : Int32)) dL_law_754 (by decide) ?_
                                              refine E_iadd (pc := 755) dL_law_755 ?_
                                              refine E_sld (pc := 756) dL_law_756 hG hf (fun v100 hf => ?_)
                                              refine E_aload_n (pc := 757) dL_law_757 rfl ?_
                                              refine E_iload_n (pc := 758) dL_law_758 rfl ?_
                                              refine E_iconst (pc := 759) (v := (2 : Int32)) dL_law_759 (by decide) ?_
                                              refine E_iadd (pc := 760) dL_law_760 ?_
                                              refine E_sld (pc := 761) dL_law_761 hG hf (fun v101 hf => ?_)
                                              refine E_Vi (pc := 762) (d2 := D_X11_trays) (ci := 11) [.int v100, .int v101] dL_law_762 ml_L_96 mf_X11_trays im_X11_trays rfl rfl rfl (by decide) (Nat.le_of_ble_eq_true rfl) (Nat.le_of_ble_eq_true rfl) rfl (fun _ _ h => f_X11_trays_ok h) hf (fun v103 μ102 hf => ?_)
                                              refine E_aload_n (pc := 765) dL_law_765 rfl ?_
                                              refine E_aload_n (pc := 766) dL_law_766 rfl ?_
                                              refine E_iload_n (pc := 767) dL_law_767 rfl ?_
                                              refine E_iconst (pc := 768) (v := (1 : Int32)) dL_law_768 (by decide) ?_
                                              refine E_iadd (pc := 769) dL_law_769 ?_
                                              refine E_sld (pc := 770) dL_law_770 hG hf (fun v104 hf => ?_)
                                              refine E_aload_n (pc := 771) dL_law_771 rfl ?_
                                              refine E_iload_n (pc := 772) dL_law_772 rfl ?_
                                              refine E_iconst (pc := 773) (v := (2 : Int32)) dL_law_773 (by decide) ?_
                                              refine E_iadd (pc := 774) dL_law_774 ?_
                                              refine E_sld (pc := 775) dL_law_775 hG hf (fun v105 hf => ?_)
                                              refine E_Vi (pc := 776) (d2 := D_X12_trays) (ci := 12) [.int v104, .int v105] dL_law_776 ml_L_99 mf_X12_trays im_X12_trays rfl rfl rfl (by decide) (Nat.le_of_ble_eq_true rfl) (Nat.le_of_ble_eq_true rfl) rfl (fun _ _ h => f_X12_trays_ok h) hf (fun v107 μ106 hf => ?_)
                                              refine E_icmp_eq (pc := 779) (tgt := 1075) dL_law_779 (by decide) hf (fun hf => ?_) (fun hf => ?_)
                                              · refine E_iinc (pc := 1075) (ls' := fun x108 => [(3, .int x108), (0, .ref a11), (1, .ref a12), (2, .ref a13)]) dL_law_1075 rfl (by decide) (fun _ => rfl) hf (fun x108 hf => ?_)
                                                refine E_goto (pc := 1078) (tgt := 18) dL_law_1078 (by decide) ?_
                                                refine Ev.sub [1, 2, 3, 0] rfl ?_
                                                exact ih _ _ _ _ _ hf
                                              · refine Ev.sub [] rfl ?_
                                                exact hK782 _ hf
                                            · refine ifS hf (fun n33_20 hf => ?_) (fun n33_20 hf => ?_)
                                              · refine E_tswI (pc := 33) (tgt := 784) (20) dL_law_33 (by rw [n33_20]; decide) (by decide) (by decide) rfl (by decide) ?_
                                                refine E_aload_n (pc := 784) dL_law_784 rfl ?_
                                                refine E_aload_n (pc := 785) dL_law_785 rfl ?_
                                                refine E_iload_n (pc := 786) dL_law_786 rfl ?_
                                                refine E_iconst (pc := 787) (v := (1 : Int32)) dL_law_787 (by decide) ?_
                                                refine E_iadd (pc := 788) dL_law_788 ?_
                                                refine E_sld (pc := 789) dL_law_789 hG hf (fun v91 hf => ?_)
                                                refine E_aload_n (pc := 790) dL_law_790 rfl ?_
                                                refine E_iload_n (pc := 791) dL_law_791 rfl ?_
                                                refine E_iconst (pc := 792) (v := (2 : Int32)) dL_law_792 (by decide) ?_
                                                refine E_iadd (pc := 793) dL_law_793 ?_
                                                refine E_sld (pc := 794) dL_law_794 hG hf (fun v92 hf => ?_)
                                                refine E_Vi (pc := 795) (d2 := D_X11_game) (ci := 11) [.int v91, .int v92] dL_law_795 ml_L_100 mf_X11_game im_X11_game rfl rfl rfl (by decide) (Nat.le_of_ble_eq_true rfl) (Nat.le_of_ble_eq_true rfl) rfl (fun _ _ h => f_X11_game_ok h) hf (fun v94 μ93 hf => ?_)
                                                refine E_aload_n (pc := 798) dL_law_798 rfl ?_
                                                refine E_aload_n (pc := 799) dL_law_799 rfl ?_
                                                refine E_iload_n (pc := 800) dL_law_800 rfl ?_
                                                refine E_iconst (pc := 801) (v := (1 : Int32)) dL_law_801 (by decide) ?_
                                                refine E_iadd (pc := 802) dL_law_802 ?_
                                                refine E_sld (pc := 803) dL_law_803 hG hf (fun v95 hf => ?_)
                                                refine E_aload_n (pc := 804) dL_law_804 rfl ?_
                                                refine E_iload_n (pc := 805) dL_law_805 rfl ?_
                                                refine E_iconst (pc := 806) (v := (2 : Int32)) dL_law_806 (by decide) ?_
                                                refine E_iadd (pc := 807) dL_law_807 ?_
                                                refine E_sld (pc := 808) dL_law_808 hG hf (fun v96 hf => ?_)
                                                refine E_Vi (pc := 809) (d2 := D_X12_game) (ci := 12) [.int v95, .int v96] dL_law_809 ml_L_103 mf_X12_game im_X12_game rfl rfl rfl (by decide) (Nat.le_of_ble_eq_true rfl) (Nat.le_of_ble_eq_true rfl) rfl (fun _ _ h => f_X12_game_ok h) hf (fun v98 μ97 hf => ?_)
                                                refine E_icmp_eq (pc := 812) (tgt := 1075) dL_law_812 (by decide) hf (fun hf => ?_) (fun hf => ?_)
                                                · refine E_iinc (pc := 1075) (ls' := fun x99 => [(3, .int x99), (0, .ref a11), (1, .ref a12), (2, .ref a13)]) dL_law_1075 rfl (by decide) (fun _ => rfl) hf (fun x99 hf => ?_)
                                                  refine E_goto (pc := 1078) (tgt := 18) dL_law_1078 (by decide) ?_
                                                  refine Ev.sub [1, 2, 3, 0] rfl ?_
                                                  exact ih _ _ _ _ _ hf
                                                · refine Ev.sub [] rfl ?_
                                                  exact hK815 _ hf
                                              · refine ifS hf (fun n33_21 hf => ?_) (fun n33_21 hf => ?_)
                                                · refine E_tswI (pc := 33) (tgt := 817) (21) dL_law_33 (by rw [n33_21]; decide) (by decide) (by decide) rfl (by decide) ?_
                                                  refine E_aload_n (pc := 817) dL_law_817 rfl ?_
                                                  refine E_aload_n (pc := 818) dL_law_818 rfl ?_
                                                  refine E_iload_n (pc := 819) dL_law_819 rfl ?_
                                                  refine E_iconst (pc := 820) (v := (1 : Int32)) dL_law_820 (by decide) ?_
                                                  refine E_iadd (pc := 821) dL_law_821 ?_
                                                  refine E_sld (pc := 822) dL_law_822 hG hf (fun v80 hf => ?_)
                                                  refine E_aload_n (pc := 823) dL_law_823 rfl ?_
                                                  refine E_iload_n (pc := 824) dL_law_824 rfl ?_
                                                  refine E_iconst (pc := 825) (v := (2 : Int32)) dL_law_825 (by decide) ?_
                                                  refine E_iadd (pc := 826) dL_law_826 ?_
                                                  refine E_sld (pc := 827) dL_law_827 hG hf (fun v81 hf => ?_)
                                                  refine E_aload_n (pc := 828) dL_law_828 rfl ?_
                                                  refine E_iload_n (pc := 829) dL_law_829 rfl ?_
                                                  refine E_iconst (pc := 830) (v := (3 : Int32)) dL_law_830 (by decide) ?_
                                                  refine E_iadd (pc := 831) dL_law_831 ?_
                                                  refine E_sld (pc := 832) dL_law_832 hG hf (fun v82 hf => ?_)
                                                  refine E_Vl (pc := 833) (d2 := D_X11_chance) (ci := 11) [.int v80, .int v81, .int v82] dL_law_833 ml_L_104 mf_X11_chance im_X11_chance rfl rfl rfl (by decide) (Nat.le_of_ble_eq_true rfl) (Nat.le_of_ble_eq_true rfl) rfl (fun _ _ h => f_X11_chance_ok h) hf (fun v84 μ83 hf => ?_)
                                                  refine E_aload_n (pc := 836) dL_law_836 rfl ?_
                                                  refine E_aload_n (pc := 837) dL_law_837 rfl ?_
                                                  refine E_iload_n (pc := 838) dL_law_838 rfl ?_
                                                  refine E_iconst (pc := 839) (v := (1 : Int32)) dL_law_839 (by decide) ?_
                                                  refine E_iadd (pc := 840) dL_law_840 ?_
                                                  refine E_sld (pc := 841) dL_law_841 hG hf (fun v85 hf => ?_)
                                                  refine E_aload_n (pc := 842) dL_law_842 rfl ?_
                                                  refine E_iload_n (pc := 843) dL_law_843 rfl ?_
                                                  refine E_iconst (pc := 844) (v := (2 : Int32)) dL_law_844 (by decide) ?_
                                                  refine E_iadd (pc := 845) dL_law_845 ?_
                                                  refine E_sld (pc := 846) dL_law_846 hG hf (fun v86 hf => ?_)
                                                  refine E_aload_n (pc := 847) dL_law_847 rfl ?_
                                                  refine E_iload_n (pc := 848) dL_law_848 rfl ?_
                                                  refine E_iconst (pc := 849) (v := (3 : Int32)) dL_law_849 (by decide) ?_
                                                  refine E_iadd (pc := 850) dL_law_850 ?_
                                                  refine E_sld (pc := 851) dL_law_851 hG hf (fun v87 hf => ?_)
                                                  refine E_Vl (pc := 852) (d2 := D_X12_chance) (ci := 12) [.int v85, .int v86, .int v87] dL_law_852 ml_L_108 mf_X12_chance im_X12_chance rfl rfl rfl (by decide) (Nat.le_of_ble_eq_true rfl) (Nat.le_of_ble_eq_true rfl) rfl (fun _ _ h => f_X12_chance_ok h) hf (fun v89 μ88 hf => ?_)
                                                  refine E_lcmp (pc := 855) dL_law_855 ?_
                                                  refine E_if_eq (pc := 856) (tgt := 1075) dL_law_856 (by decide) hf (fun hf => ?_) (fun hf => ?_)
                                                  · refine E_iinc (pc := 1075) (ls' := fun x90 => [(3, .int x90), (0, .ref a11), (1, .ref a12), (2, .ref a13)]) dL_law_1075 rfl (by decide) (fun _ => rfl) hf (fun x90 hf => ?_)
                                                    refine E_goto (pc := 1078) (tgt := 18) dL_law_1078 (by decide) ?_
                                                    refine Ev.sub [1, 2, 3, 0] rfl ?_
                                                    exact ih _ _ _ _ _ hf
                                                  · refine Ev.sub [] rfl ?_
                                                    exact hK859 _ hf
                                                · refine ifS hf (fun n33_22 hf => ?_) (fun n33_22 hf => ?_)
                                                  · refine E_tswI (pc := 33) (tgt := 861) (22) dL_law_33 (by rw [n33_22]; decide) (by decide) (by decide) rfl (by decide) ?_
                                                    refine E_aload_n (pc := 861) dL_law_861 rfl ?_
                                                    refine E_aload_n (pc := 862) dL_law_862 rfl ?_
                                                    refine E_iload_n (pc := 863) dL_law_863 rfl ?_
                                                    refine E_iconst (pc := 864) (v := (1 : Int32)) dL_law_864 (by decide) ?_
                                                    refine E_iadd (pc := 865) dL_law_865 ?_
                                                    refine E_sld (pc := 866) dL_law_866 hG hf (fun v71 hf => ?_)
                                                    refine E_aload_n (pc := 867) dL_law_867 rfl ?_
                                                    refine E_iload_n (pc := 868) dL_law_868 rfl ?_
                                                    refine E_iconst (pc := 869) (v := (2 : Int32)) dL_law_869 (by decide) ?_
                                                    refine E_iadd (pc := 870) dL_law_870 ?_
                                                    refine E_sld (pc := 871) dL_law_871 hG hf (fun v72 hf => ?_)
                                                    refine E_Vi (pc := 872) (d2 := D_X11_insure) (ci := 11) [.int v71, .int v72] dL_law_872 ml_L_109 mf_X11_insure im_X11_insure rfl rfl rfl (by decide) (Nat.le_of_ble_eq_true rfl) (Nat.le_of_ble_eq_true rfl) rfl (fun _ _ h => f_X11_insure_ok h) hf (fun v74 μ73 hf => ?_)
                                                    refine E_aload_n (pc := 875) dL_law_875 rfl ?_
                                                    refine E_aload_n (pc := 876) dL_law_876 rfl ?_
                                                    refine E_iload_n (pc := 877) dL_law_877 rfl ?_
                                                    refine E_iconst (pc := 878) (v := (1 : Int32)) dL_law_878 (by decide) ?_
                                                    refine E_iadd (pc := 879) dL_law_879 ?_
                                                    refine E_sld (pc := 880) dL_law_880 hG hf (fun v75 hf => ?_)
                                                    refine E_aload_n (pc := 881) dL_law_881 rfl ?_
                                                    refine E_iload_n (pc := 882) dL_law_882 rfl ?_
                                                    refine E_iconst (pc := 883) (v := (2 : Int32)) dL_law_883 (by decide) ?_
                                                    refine E_iadd (pc := 884) dL_law_884 ?_
                                                    refine E_sld (pc := 885) dL_law_885 hG hf (fun v76 hf => ?_)
                                                    refine E_Vi (pc := 886) (d2 := D_X12_insure) (ci := 12) [.int v75, .int v76] dL_law_886 ml_L_112 mf_X12_insure im_X12_insure rfl rfl rfl (by decide) (Nat.le_of_ble_eq_true rfl) (Nat.le_of_ble_eq_true rfl) rfl (fun _ _ h => f_X12_insure_ok h) hf (fun v78 μ77 hf => ?_)
                                                    refine E_icmp_eq (pc := 889) (tgt := 1075) dL_law_889 (by decide) hf (fun hf => ?_) (fun hf => ?_)
                                                    · refine E_iinc (pc := 1075) (ls' := fun x79 => [(3, .int x79), (0, .ref a11), (1, .ref a12), (2, .ref a13)]) dL_law_1075 rfl (by decide) (fun _ => rfl) hf (fun x79 hf => ?_)
                                                      refine E_goto (pc := 1078) (tgt := 18) dL_law_1078 (by decide) ?_
                                                      refine Ev.sub [1, 2, 3, 0] rfl ?_
                                                      exact ih _ _ _ _ _ hf
                                                    · refine Ev.sub [] rfl ?_
                                                      exact hK892 _ hf
                                                  · refine ifS hf (fun n33_23 hf => ?_) (fun n33_23 hf => ?_)
                                                    · refine E_tswI (pc := 33) (tgt := 894) (23) dL_law_33 (by rw [n33_23]; decide) (by decide) (by decide) rfl (by decide) ?_
                                                      refine E_aload_n (pc := 894) dL_law_894 rfl ?_
                                                      refine E_aload_n (pc := 895) dL_law_895 rfl ?_
                                                      refine E_iload_n (pc := 896) dL_law_896 rfl ?_
                                                      refine E_iconst (pc := 897) (v := (1 : Int32)) dL_law_897 (by decide) ?_
                                                      refine E_iadd (pc := 898) dL_law_898 ?_
                                                      refine E_sld (pc := 899) dL_law_899 hG hf (fun v64 hf => ?_)
                                                      refine E_Vi (pc := 900) (d2 := D_X11_lesson) (ci := 11) [.int v64] dL_law_900 ml_L_113 mf_X11_lesson im_X11_lesson rfl rfl rfl (by decide) (Nat.le_of_ble_eq_true rfl) (Nat.le_of_ble_eq_true rfl) rfl (fun _ _ h => f_X11_lesson_ok h) hf (fun v66 μ65 hf => ?_)
                                                      refine E_aload_n (pc := 903) dL_law_903 rfl ?_
                                                      refine E_aload_n (pc := 904) dL_law_904 rfl ?_
                                                      refine E_iload_n (pc := 905) dL_law_905 rfl ?_
                                                      refine E_iconst (pc := 906) (v := (1 : Int32)) dL_law_906 (by decide) ?_
                                                      refine E_iadd (pc := 907) dL_law_907 ?_
                                                      refine E_sld (pc := 908) dL_law_908 hG hf (fun v67 hf => ?_)
                                                      refine E_Vi (pc := 909) (d2 := D_X12_lesson) (ci := 12) [.int v67] dL_law_909 ml_L_116 mf_X12_lesson im_X12_lesson rfl rfl rfl (by decide) (Nat.le_of_ble_eq_true rfl) (Nat.le_of_ble_eq_true rfl) rfl (fun _ _ h => f_X12_lesson_ok h) hf (fun v69 μ68 hf => ?_)
                                                      refine E_icmp_eq (pc := 912) (tgt := 1075) dL_law_912 (by decide) hf (fun hf => ?_) (fun hf => ?_)
                                                      · refine E_iinc (pc := 1075) (ls' := fun x70 => [(3, .int x70), (0, .ref a11), (1, .ref a12), (2, .ref a13)]) dL_law_1075 rfl (by decide) (fun _ => rfl) hf (fun x70 hf => ?_)
                                                        refine E_goto (pc := 1078) (tgt := 18) dL_law_1078 (by decide) ?_
                                                        refine Ev.sub [1, 2, 3, 0] rfl ?_
                                                        exact ih _ _ _ _ _ hf
                                                      · refine Ev.sub [] rfl ?_
                                                        exact hK915 _ hf
                                                    · refine ifS hf (fun n33_24 hf => ?_) (fun n33_24 hf => ?_)
                                                      · refine E_tswI (pc := 33) (tgt := 917) (24) dL_law_33 (by rw [n33_24]; decide) (by decide) (by decide) rfl (by decide) ?_
                                                        refine E_aload_n (pc := 917) dL_law_917 rfl ?_
                                                        refine E_aload_n (pc := 918) dL_law_918 rfl ?_
                                                        refine E_iload_n (pc := 919) dL_law_919 rfl ?_
                                                        refine E_iconst (pc := 920) (v := (1 : Int32)) dL_law_920 (by decide) ?_
                                                        refine E_iadd (pc := 921) dL_law_921 ?_
                                                        refine E_sld (pc := 922) dL_law_922 hG hf (fun v57 hf => ?_)
                                                        refine E_Vi (pc := 923) (d2 := D_X11_order) (ci := 11) [.int v57] dL_law_923 ml_L_117 mf_X11_order im_X11_order rfl rfl rfl (by decide) (Nat.le_of_ble_eq_true rfl) (Nat.le_of_ble_eq_true rfl) rfl (fun _ _ h => f_X11_order_ok h) hf (fun v59 μ58 hf => ?_)
                                                        refine E_aload_n (pc := 926) dL_law_926 rfl ?_
                                                        refine E_aload_n (pc := 927) dL_law_927 rfl ?_
                                                        refine E_iload_n (pc := 928) dL_law_928 rfl ?_
                                                        refine E_iconst (pc := 929) (v := (1 : Int32)) dL_law_929 (by decide) ?_
                                                        refine E_iadd (pc := 930) dL_law_930 ?_
                                                        refine E_sld (pc := 931) dL_law_931 hG hf (fun v60 hf => ?_)
                                                        refine E_Vi (pc := 932) (d2 := D_X12_order) (ci := 12) [.int v60] dL_law_932 ml_L_120 mf_X12_order im_X12_order rfl rfl rfl (by decide) (Nat.le_of_ble_eq_true rfl) (Nat.le_of_ble_eq_true rfl) rfl (fun _ _ h => f_X12_order_ok h) hf (fun v62 μ61 hf => ?_)
                                                        refine E_icmp_eq (pc := 935) (tgt := 1075) dL_law_935 (by decide) hf (fun hf => ?_) (fun hf => ?_)
                                                        · refine E_iinc (pc := 1075) (ls' := fun x63 => [(3, .int x63), (0, .ref a11), (1, .ref a12), (2, .ref a13)]) dL_law_1075 rfl (by decide) (fun _ => rfl) hf (fun x63 hf => ?_)
                                                          refine E_goto (pc := 1078) (tgt := 18) dL_law_1078 (by decide) ?_
                                                          refine Ev.sub [1, 2, 3, 0] rfl ?_
                                                          exact ih _ _ _ _ _ hf
                                                        · refine Ev.sub [] rfl ?_
                                                          exact hK938 _ hf
                                                      · refine ifS hf (fun n33_25 hf => ?_) (fun n33_25 hf => ?_)
                                                        · refine E_tswI (pc := 33) (tgt := 940) (25) dL_law_33 (by rw [n33_25]; decide) (by decide) (by decide) rfl (by decide) ?_
                                                          refine E_aload_n (pc := 940) dL_law_940 rfl ?_
                                                          refine E_aload_n (pc := 941) dL_law_941 rfl ?_
                                                          refine E_iload_n (pc := 942) dL_law_942 rfl ?_
                                                          refine E_iconst (pc := 943) (v := (1 : Int32)) dL_law_943 (by decide) ?_
                                                          refine E_iadd (pc := 944) dL_law_944 ?_
                                                          refine E_sld (pc := 945) dL_law_945 hG hf (fun v50 hf => ?_)
                                                          refine E_Vi (pc := 946) (d2 := D_X11_seed) (ci := 11) [.int v50] dL_law_946 ml_L_121 mf_X11_seed im_X11_seed rfl rfl rfl (by decide) (Nat.le_of_ble_eq_true rfl) (Nat.le_of_ble_eq_true rfl) rfl (fun _ _ h => f_X11_seed_ok h) hf (fun v52 μ51 hf => ?_)
                                                          refine E_aload_n (pc := 949) dL_law_949 rfl ?_
                                                          refine E_aload_n (pc := 950) dL_law_950 rfl ?_
                                                          refine E_iload_n (pc := 951) dL_law_951 rfl ?_
                                                          refine E_iconst (pc := 952) (v := (1 : Int32)) dL_law_952 (by decide) ?_
                                                          refine E_iadd (pc := 953) dL_law_953 ?_
                                                          refine E_sld (pc := 954) dL_law_954 hG hf (fun v53 hf => ?_)
                                                          refine E_Vi (pc := 955) (d2 := D_X12_seed) (ci := 12) [.int v53] dL_law_955 ml_L_124 mf_X12_seed im_X12_seed rfl rfl rfl (by decide) (Nat.le_of_ble_eq_true rfl) (Nat.le_of_ble_eq_true rfl) rfl (fun _ _ h => f_X12_seed_ok h) hf (fun v55 μ54 hf => ?_)
                                                          refine E_icmp_eq (pc := 958) (tgt := 1075) dL_law_958 (by decide) hf (fun hf => ?_) (fun hf => ?_)
                                                          · refine E_iinc (pc := 1075) (ls' := fun x56 => [(3, .int x56), (0, .ref a11), (1, .ref a12), (2, .ref a13)]) dL_law_1075 rfl (by decide) (fun _ => rfl) hf (fun x56 hf => ?_)
                                                            refine E_goto (pc := 1078) (tgt := 18) dL_law_1078 (by decide) ?_
                                                            refine Ev.sub [1, 2, 3, 0] rfl ?_
                                                            exact ih _ _ _ _ _ hf
                                                          · refine Ev.sub [] rfl ?_
                                                            exact hK961 _ hf
                                                        · refine ifS hf (fun n33_26 hf => ?_) (fun n33_26 hf => ?_)
                                                          · refine E_tswI (pc := 33) (tgt := 963) (26) dL_law_33 (by rw [n33_26]; decide) (by decide) (by decide) rfl (by decide) ?_
                                                            refine E_aload_n (pc := 963) dL_law_963 rfl ?_
                                                            refine E_aload_n (pc := 964) dL_law_964 rfl ?_
                                                            refine E_iload_n (pc := 965) dL_law_965 rfl ?_
                                                            refine E_iconst (pc := 966) (v := (1 : Int32)) dL_law_966 (by decide) ?_
                                                            refine E_iadd (pc := 967) dL_law_967 ?_
                                                            refine E_sld (pc := 968) dL_law_968 hG hf (fun v39 hf => ?_)
                                                            refine E_aload_n (pc := 969) dL_law_969 rfl ?_
                                                            refine E_iload_n (pc := 970) dL_law_970 rfl ?_
                                                            refine E_iconst (pc := 971) (v := (2 : Int32)) dL_law_971 (by decide) ?_
                                                            refine E_iadd (pc := 972) dL_law_972 ?_
                                                            refine E_sld (pc := 973) dL_law_973 hG hf (fun v40 hf => ?_)
                                                            refine E_aload_n (pc := 974) dL_law_974 rfl ?_
                                                            refine E_iload_n (pc := 975) dL_law_975 rfl ?_
                                                            refine E_iconst (pc := 976) (v := (3 : Int32)) dL_law_976 (by decide) ?_
                                                            refine E_iadd (pc := 977) dL_law_977 ?_
                                                            refine E_sld (pc := 978) dL_law_978 hG hf (fun v41 hf => ?_)
                                                            refine E_Vi (pc := 979) (d2 := D_X11_terms) (ci := 11) [.int v39, .int v40, .int v41] dL_law_979 ml_L_125 mf_X11_terms im_X11_terms rfl rfl rfl (by decide) (Nat.le_of_ble_eq_true rfl) (Nat.le_of_ble_eq_true rfl) rfl (fun _ _ h => f_X11_terms_ok h) hf (fun v43 μ42 hf => ?_)
                                                            refine E_aload_n (pc := 982) dL_law_982 rfl ?_
                                                            refine E_aload_n (pc := 983) dL_law_983 rfl ?_
                                                            refine E_iload_n (pc := 984) dL_law_984 rfl ?_
                                                            refine E_iconst (pc := 985) (v := (1 : Int32)) dL_law_985 (by decide) ?_
                                                            refine E_iadd (pc := 986) dL_law_986 ?_
                                                            refine E_sld (pc := 987) dL_law_987 hG hf (fun v44 hf => ?_)
                                                            refine E_aload_n (pc := 988) dL_law_988 rfl ?_
                                                            refine E_iload_n (pc := 989) dL_law_989 rfl ?_
                                                            refine E_iconst (pc := 990) (v := (2 : Int32)) dL_law_990 (by decide) ?_
                                                            refine E_iadd (pc := 991) dL_law_991 ?_
                                                            refine E_sld (pc := 992) dL_law_992 hG hf (fun v45 hf => ?_)
                                                            refine E_aload_n (pc := 993) dL_law_993 rfl ?_
                                                            refine E_iload_n (pc := 994) dL_law_994 rfl ?_
                                                            refine E_iconst (pc := 995) (v := (3 : Int32)) dL_law_995 (by decide) ?_
                                                            refine E_iadd (pc := 996) dL_law_996 ?_
                                                            refine E_sld (pc := 997) dL_law_997 hG hf (fun v46 hf => ?_)
                                                            refine E_Vi (pc := 998) (d2 := D_X12_terms) (ci := 12) [.int v44, .int v45, .int v46] dL_law_998 ml_L_128 mf_X12_terms im_X12_terms rfl rfl rfl (by decide) (Nat.le_of_ble_eq_true rfl) (Nat.le_of_ble_eq_true rfl) rfl (fun _ _ h => f_X12_terms_ok h) hf (fun v48 μ47 hf => ?_)
                                                            refine E_icmp_eq (pc := 1001) (tgt := 1075) dL_law_1001 (by decide) hf (fun hf => ?_) (fun hf => ?_)
                                                            · refine E_iinc (pc := 1075) (ls' := fun x49 => [(3, .int x49), (0, .ref a11), (1, .ref a12), (2, .ref a13)]) dL_law_1075 rfl (by decide) (fun _ => rfl) hf (fun x49 hf => ?_)
                                                              refine E_goto (pc := 1078) (tgt := 18) dL_law_1078 (by decide) ?_
                                                              refine Ev.sub [1, 2, 3, 0] rfl ?_
                                                              exact ih _ _ _ _ _ hf
                                                            · refine Ev.sub [] rfl ?_
                                                              exact hK1004 _ hf
                                                          · refine ifS hf (fun n33_27 hf => ?_) (fun n33_27 hf => ?_)
                                                            · refine E_tswI (pc := 33) (tgt := 1006) (27) dL_law_33 (by rw [n33_27]; decide) (by decide) (by decide) rfl (by decide) ?_
                                                              refine E_aload_n (pc := 1006) dL_law_1006 rfl ?_
                                                              refine E_aload_n (pc := 1007) dL_law_1007 rfl ?_
                                                              refine E_iload_n (pc := 1008) dL_law_1008 rfl ?_
                                                              refine E_iconst (pc := 1009) (v := (1 : Int32)) dL_law_1009 (by decide) ?_
                                                              refine E_iadd (pc := 1010) dL_law_1010 ?_
                                                              refine E_sld (pc := 1011) dL_law_1011 hG hf (fun v32 hf => ?_)
                                                              refine E_Vi (pc := 1012) (d2 := D_X11_count) (ci := 11) [.int v32] dL_law_1012 ml_L_129 mf_X11_count im_X11_count rfl rfl rfl (by decide) (Nat.le_of_ble_eq_true rfl) (Nat.le_of_ble_eq_true rfl) rfl (fun _ _ h => f_X11_count_ok h) hf (fun v34 μ33 hf => ?_)
                                                              refine E_aload_n (pc := 1015) dL_law_1015 rfl ?_
                                                              refine E_aload_n (pc := 1016) dL_law_1016 rfl ?_
                                                              refine E_iload_n (pc := 1017) dL_law_1017 rfl ?_
                                                              refine E_iconst (pc := 1018) (v := (1 : Int32)) dL_law_1018 (by decide) ?_
                                                              refine E_iadd (pc := 1019) dL_law_1019 ?_
                                                              refine E_sld (pc := 1020) dL_law_1020 hG hf (fun v35 hf => ?_)
                                                              refine E_Vi (pc := 1021) (d2 := D_X12_count) (ci := 12) [.int v35] dL_law_1021 ml_L_132 mf_X12_count im_X12_count rfl rfl rfl (by decide) (Nat.le_of_ble_eq_true rfl) (Nat.le_of_ble_eq_true rfl) rfl (fun _ _ h => f_X12_count_ok h) hf (fun v37 μ36 hf => ?_)
                                                              refine E_icmp_eq (pc := 1024) (tgt := 1075) dL_law_1024 (by decide) hf (fun hf => ?_) (fun hf => ?_)
                                                              · refine E_iinc (pc := 1075) (ls' := fun x38 => [(3, .int x38), (0, .ref a11), (1, .ref a12), (2, .ref a13)]) dL_law_1075 rfl (by decide) (fun _ => rfl) hf (fun x38 hf => ?_)
                                                                refine E_goto (pc := 1078) (tgt := 18) dL_law_1078 (by decide) ?_
                                                                refine Ev.sub [1, 2, 3, 0] rfl ?_
                                                                exact ih _ _ _ _ _ hf
                                                              · refine Ev.sub [] rfl ?_
                                                                exact hK1027 _ hf
                                                            · refine ifS hf (fun n33_28 hf => ?_) (fun n33_28 hf => ?_)
                                                              · refine E_tswI (pc := 33) (tgt := 1029) (28) dL_law_33 (by rw [n33_28]; decide) (by decide) (by decide) rfl (by decide) ?_
                                                                refine E_aload_n (pc := 1029) dL_law_1029 rfl ?_
                                                                refine E_aload_n (pc := 1030) dL_law_1030 rfl ?_
                                                                refine E_iload_n (pc := 1031) dL_law_1031 rfl ?_
                                                                refine E_iconst (pc := 1032) (v := (1 : Int32)) dL_law_1032 (by decide) ?_
                                                                refine E_iadd (pc := 1033) dL_law_1033 ?_
                                                                refine E_sld (pc := 1034) dL_law_1034 hG hf (fun v25 hf => ?_)
                                                                refine E_Vi (pc := 1035) (d2 := D_X11_image) (ci := 11) [.int v25] dL_law_1035 ml_L_133 mf_X11_image im_X11_image rfl rfl rfl (by decide) (Nat.le_of_ble_eq_true rfl) (Nat.le_of_ble_eq_true rfl) rfl (fun _ _ h => f_X11_image_ok h) hf (fun v27 μ26 hf => ?_)
                                                                refine E_aload_n (pc := 1038) dL_law_1038 rfl ?_
                                                                refine E_aload_n (pc := 1039) dL_law_1039 rfl ?_
                                                                refine E_iload_n (pc := 1040) dL_law_1040 rfl ?_
                                                                refine E_iconst (pc := 1041) (v := (1 : Int32)) dL_law_1041 (by decide) ?_
                                                                refine E_iadd (pc := 1042) dL_law_1042 ?_
                                                                refine E_sld (pc := 1043) dL_law_1043 hG hf (fun v28 hf => ?_)
                                                                refine E_Vi (pc := 1044) (d2 := D_X12_image) (ci := 12) [.int v28] dL_law_1044 ml_L_136 mf_X12_image im_X12_image rfl rfl rfl (by decide) (Nat.le_of_ble_eq_true rfl) (Nat.le_of_ble_eq_true rfl) rfl (fun _ _ h => f_X12_image_ok h) hf (fun v30 μ29 hf => ?_)
                                                                refine E_icmp_eq (pc := 1047) (tgt := 1075) dL_law_1047 (by decide) hf (fun hf => ?_) (fun hf => ?_)
                                                                · refine E_iinc (pc := 1075) (ls' := fun x31 => [(3, .int x31), (0, .ref a11), (1, .ref a12), (2, .ref a13)]) dL_law_1075 rfl (by decide) (fun _ => rfl) hf (fun x31 hf => ?_)
                                                                  refine E_goto (pc := 1078) (tgt := 18) dL_law_1078 (by decide) ?_
                                                                  refine Ev.sub [1, 2, 3, 0] rfl ?_
                                                                  exact ih _ _ _ _ _ hf
                                                                · refine Ev.sub [] rfl ?_
                                                                  exact hK1050 _ hf
                                                              · refine ifS hf (fun n33_29 hf => ?_) (fun n33_29 hf => ?_)
                                                                · refine E_tswI (pc := 33) (tgt := 1052) (29) dL_law_33 (by rw [n33_29]; decide) (by decide) (by decide) rfl (by decide) ?_
                                                                  refine E_aload_n (pc := 1052) dL_law_1052 rfl ?_
                                                                  refine E_aload_n (pc := 1053) dL_law_1053 rfl ?_
                                                                  refine E_iload_n (pc := 1054) dL_law_1054 rfl ?_
                                                                  refine E_iconst (pc := 1055) (v := (1 : Int32)) dL_law_1055 (by decide) ?_
                                                                  refine E_iadd (pc := 1056) dL_law_1056 ?_
                                                                  refine E_sld (pc := 1057) dL_law_1057 hG hf (fun v18 hf => ?_)
                                                                  refine E_Vi (pc := 1058) (d2 := D_X11_back) (ci := 11) [.int v18] dL_law_1058 ml_L_137 mf_X11_back im_X11_back rfl rfl rfl (by decide) (Nat.le_of_ble_eq_true rfl) (Nat.le_of_ble_eq_true rfl) rfl (fun _ _ h => f_X11_back_ok h) hf (fun v20 μ19 hf => ?_)
                                                                  refine E_aload_n (pc := 1061) dL_law_1061 rfl ?_
                                                                  refine E_aload_n (pc := 1062) dL_law_1062 rfl ?_
                                                                  refine E_iload_n (pc := 1063) dL_law_1063 rfl ?_
                                                                  refine E_iconst (pc := 1064) (v := (1 : Int32)) dL_law_1064 (by decide) ?_
                                                                  refine E_iadd (pc := 1065) dL_law_1065 ?_
                                                                  refine E_sld (pc := 1066) dL_law_1066 hG hf (fun v21 hf => ?_)
                                                                  refine E_Vi (pc := 1067) (d2 := D_X12_back) (ci := 12) [.int v21] dL_law_1067 ml_L_140 mf_X12_back im_X12_back rfl rfl rfl (by decide) (Nat.le_of_ble_eq_true rfl) (Nat.le_of_ble_eq_true rfl) rfl (fun _ _ h => f_X12_back_ok h) hf (fun v23 μ22 hf => ?_)
                                                                  refine E_icmp_eq (pc := 1070) (tgt := 1075) dL_law_1070 (by decide) hf (fun hf => ?_) (fun hf => ?_)
                                                                  · refine E_iinc (pc := 1075) (ls' := fun x24 => [(3, .int x24), (0, .ref a11), (1, .ref a12), (2, .ref a13)]) dL_law_1075 rfl (by decide) (fun _ => rfl) hf (fun x24 hf => ?_)
                                                                    refine E_goto (pc := 1078) (tgt := 18) dL_law_1078 (by decide) ?_
                                                                    refine Ev.sub [1, 2, 3, 0] rfl ?_
                                                                    exact ih _ _ _ _ _ hf
                                                                  · refine Ev.sub [] rfl ?_
                                                                    exact hK1073 _ hf
                                                                · refine E_tswD (pc := 33) (tgt := 1075) dL_law_33 (by have q0 : ¬ ((v16 &&& (31 : Int32))).toInt = 0 := i32ne n33_0; have q1 : ¬ ((v16 &&& (31 : Int32))).toInt = 1 := i32ne n33_1; have q2 : ¬ ((v16 &&& (31 : Int32))).toInt = 2 := i32ne n33_2; have q3 : ¬ ((v16 &&& (31 : Int32))).toInt = 3 := i32ne n33_3; have q4 : ¬ ((v16 &&& (31 : Int32))).toInt = 4 := i32ne n33_4; have q5 : ¬ ((v16 &&& (31 : Int32))).toInt = 5 := i32ne n33_5; have q6 : ¬ ((v16 &&& (31 : Int32))).toInt = 6 := i32ne n33_6; have q7 : ¬ ((v16 &&& (31 : Int32))).toInt = 7 := i32ne n33_7; have q8 : ¬ ((v16 &&& (31 : Int32))).toInt = 8 := i32ne n33_8; have q9 : ¬ ((v16 &&& (31 : Int32))).toInt = 9 := i32ne n33_9; have q10 : ¬ ((v16 &&& (31 : Int32))).toInt = 10 := i32ne n33_10; have q11 : ¬ ((v16 &&& (31 : Int32))).toInt = 11 := i32ne n33_11; have q12 : ¬ ((v16 &&& (31 : Int32))).toInt = 12 := i32ne n33_12; have q13 : ¬ ((v16 &&& (31 : Int32))).toInt = 13 := i32ne n33_13; have q14 : ¬ ((v16 &&& (31 : Int32))).toInt = 14 := i32ne n33_14; have q15 : ¬ ((v16 &&& (31 : Int32))).toInt = 15 := i32ne n33_15; have q16 : ¬ ((v16 &&& (31 : Int32))).toInt = 16 := i32ne n33_16; have q17 : ¬ ((v16 &&& (31 : Int32))).toInt = 17 := i32ne n33_17; have q18 : ¬ ((v16 &&& (31 : Int32))).toInt = 18 := i32ne n33_18; have q19 : ¬ ((v16 &&& (31 : Int32))).toInt = 19 := i32ne n33_19; have q20 : ¬ ((v16 &&& (31 : Int32))).toInt = 20 := i32ne n33_20; have q21 : ¬ ((v16 &&& (31 : Int32))).toInt = 21 := i32ne n33_21; have q22 : ¬ ((v16 &&& (31 : Int32))).toInt = 22 := i32ne n33_22; have q23 : ¬ ((v16 &&& (31 : Int32))).toInt = 23 := i32ne n33_23; have q24 : ¬ ((v16 &&& (31 : Int32))).toInt = 24 := i32ne n33_24; have q25 : ¬ ((v16 &&& (31 : Int32))).toInt = 25 := i32ne n33_25; have q26 : ¬ ((v16 &&& (31 : Int32))).toInt = 26 := i32ne n33_26; have q27 : ¬ ((v16 &&& (31 : Int32))).toInt = 27 := i32ne n33_27; have q28 : ¬ ((v16 &&& (31 : Int32))).toInt = 28 := i32ne n33_28; have q29 : ¬ ((v16 &&& (31 : Int32))).toInt = 29 := i32ne n33_29;  omega) (by decide) ?_
                                                                  refine E_iinc (pc := 1075) (ls' := fun x17 => [(3, .int x17), (0, .ref a11), (1, .ref a12), (2, .ref a13)]) dL_law_1075 rfl (by decide) (fun _ => rfl) hf (fun x17 hf => ?_)
                                                                  refine E_goto (pc := 1078) (tgt := 18) dL_law_1078 (by decide) ?_
                                                                  refine Ev.sub [1, 2, 3, 0] rfl ?_
                                                                  exact ih _ _ _ _ _ hf
set_option maxRecDepth 100000 in
def f_L_law (L : Nat) (xs : Nat → Int32) (μ0 : Mm) (a1 : Nat) : Option (Int32 × Mm) :=
 (bd (nO μ0 11 14 [.null, .null, .null, .null, .null, .int 0, .null, .null, .null, .null, .null, .null, .null, .null]) fun a2 μ3 =>
    ((f_X11_init μ3 a2).bind fun μ4 =>
    (nm a2 fun a5 =>
    (bd (nO μ4 12 77 [.int 0, .null, .null, .null, .null, .null, .null, .null, .null, .null, .null, .null, .null, .null, .null, .null, .null, .null, .null, .null, .null, .null, .null, .null, .null, .null, .null, .int 0, .int 0, .int 0, .int 0, .int 0, .int 0, .int 0, .int 0, .int 0, .int 0, .int 0, .null, .null, .null, .null, .null, .null, .null, .null, .null, .null, .null, .int 0, .int 0, .int 0, .int 0, .null, .null, .int 0, .int 0, .int 0, .null, .null, .null, .null, .null, .int 0, .int 0, .null, .null, .null, .null, .null, .null, .null, .int 0, .null, .null, .int 0, .int 0]) fun a6 μ7 =>
    ((f_X12_init μ7 a6).bind fun μ8 =>
    (nm a6 fun a9 =>
    (nm (0 : Int32) fun x10 =>
    f_L_law_L18 L xs (fun μ281 =>
    (if (0 : Int32) = 0 ∨ (0 : Int32) = 1 then some ((0 : Int32), μ281) else none)) (fun μ282 =>
    (if (0 : Int32) = 0 ∨ (0 : Int32) = 1 then some ((0 : Int32), μ282) else none)) (fun μ283 =>
    (if (0 : Int32) = 0 ∨ (0 : Int32) = 1 then some ((0 : Int32), μ283) else none)) (fun μ284 =>
    (if (0 : Int32) = 0 ∨ (0 : Int32) = 1 then some ((0 : Int32), μ284) else none)) (fun μ285 =>
    (if (0 : Int32) = 0 ∨ (0 : Int32) = 1 then some ((0 : Int32), μ285) else none)) (fun μ286 =>
    (if (0 : Int32) = 0 ∨ (0 : Int32) = 1 then some ((0 : Int32), μ286) else none)) (fun μ287 =>
    (if (0 : Int32) = 0 ∨ (0 : Int32) = 1 then some ((0 : Int32), μ287) else none)) (fun μ288 =>
    (if (0 : Int32) = 0 ∨ (0 : Int32) = 1 then some ((0 : Int32), μ288) else none)) (fun μ289 =>
    (if (0 : Int32) = 0 ∨ (0 : Int32) = 1 then some ((0 : Int32), μ289) else none)) (fun μ290 =>
    (if (0 : Int32) = 0 ∨ (0 : Int32) = 1 then some ((0 : Int32), μ290) else none)) (fun μ291 =>
    (if (0 : Int32) = 0 ∨ (0 : Int32) = 1 then some ((0 : Int32), μ291) else none)) (fun μ292 =>
    (if (0 : Int32) = 0 ∨ (0 : Int32) = 1 then some ((0 : Int32), μ292) else none)) (fun μ293 =>
    (if (0 : Int32) = 0 ∨ (0 : Int32) = 1 then some ((0 : Int32), μ293) else none)) (fun μ294 =>
    (if (0 : Int32) = 0 ∨ (0 : Int32) = 1 then some ((0 : Int32), μ294) else none)) (fun μ295 =>
    (if (0 : Int32) = 0 ∨ (0 : Int32) = 1 then some ((0 : Int32), μ295) else none)) (fun μ296 =>
    (if (0 : Int32) = 0 ∨ (0 : Int32) = 1 then some ((0 : Int32), μ296) else none)) (fun μ297 =>
    (if (0 : Int32) = 0 ∨ (0 : Int32) = 1 then some ((0 : Int32), μ297) else none)) (fun μ298 =>
    (if (0 : Int32) = 0 ∨ (0 : Int32) = 1 then some ((0 : Int32), μ298) else none)) (fun μ299 =>
    (if (0 : Int32) = 0 ∨ (0 : Int32) = 1 then some ((0 : Int32), μ299) else none)) (fun μ300 =>
    (if (0 : Int32) = 0 ∨ (0 : Int32) = 1 then some ((0 : Int32), μ300) else none)) (fun μ301 =>
    (if (0 : Int32) = 0 ∨ (0 : Int32) = 1 then some ((0 : Int32), μ301) else none)) (fun μ302 =>
    (if (0 : Int32) = 0 ∨ (0 : Int32) = 1 then some ((0 : Int32), μ302) else none)) (fun μ303 =>
    (if (0 : Int32) = 0 ∨ (0 : Int32) = 1 then some ((0 : Int32), μ303) else none)) (fun μ304 =>
    (if (0 : Int32) = 0 ∨ (0 : Int32) = 1 then some ((0 : Int32), μ304) else none)) (fun μ305 =>
    (if (0 : Int32) = 0 ∨ (0 : Int32) = 1 then some ((0 : Int32), μ305) else none)) (fun μ306 =>
    (if (0 : Int32) = 0 ∨ (0 : Int32) = 1 then some ((0 : Int32), μ306) else none)) (fun μ307 =>
    (if (0 : Int32) = 0 ∨ (0 : Int32) = 1 then some ((0 : Int32), μ307) else none)) (fun μ308 =>
    (if (0 : Int32) = 0 ∨ (0 : Int32) = 1 then some ((0 : Int32), μ308) else none)) (fun μ309 =>
    (if (0 : Int32) = 0 ∨ (0 : Int32) = 1 then some ((0 : Int32), μ309) else none)) (fun μ310 =>
    (if (0 : Int32) = 0 ∨ (0 : Int32) = 1 then some ((0 : Int32), μ310) else none)) (fun μ311 =>
    (if (1 : Int32) = 0 ∨ (1 : Int32) = 1 then some ((1 : Int32), μ311) else none)) FU μ8 a1 a5 a9 x10)))))))
set_option maxHeartbeats 4000000 in
set_option maxRecDepth 100000 in
theorem f_L_law_ok {l : Launch} {G : GG} {L : Nat} {xs : Nat → Int32} (hG : G.2.2.2.2 = (L, xs)) {μ0 : Mm} {a1 : Nat} {r : Int32} {μ' : Mm} (hf : f_L_law L xs μ0 a1 = some (r, μ')) : EvM l G D_L_law yL_law code 4 (some .boolean) [.ref a1] μ0 (some (.int r)) μ' := by
  show Ev l G D_L_law yL_law code 4 (some .boolean) 0 [(0, .ref a1)] [] μ0 (some (.int r)) μ'
  unfold f_L_law at hf
  refine E_new2 (pc := 0) dL_law_0 nl_L_7 hf (fun a2 μ3 hf => ?_)
  refine E_dup (pc := 3) dL_law_3 rfl ?_
  refine E_Iv (pc := 4) (d2 := D_X11_init) [] dL_law_4 ml_L_9 mf_X11_init ii_X11_init rfl rfl (by decide) (Nat.le_of_ble_eq_true rfl) (Nat.le_of_ble_eq_true rfl) rfl (fun _ h => f_X11_init_ok h) hf (fun μ4 hf => ?_)
  refine E_astore_n (pc := 7) (ls' := fun a5 => [(1, .ref a5), (0, .ref a1)]) dL_law_7 (by decide) (fun _ => rfl) hf (fun a5 hf => ?_)
  refine E_new2 (pc := 8) dL_law_8 nl_L_10 hf (fun a6 μ7 hf => ?_)
  refine E_dup (pc := 11) dL_law_11 rfl ?_
  refine E_Iv (pc := 12) (d2 := D_X12_init) [] dL_law_12 ml_L_12 mf_X12_init ii_X12_init rfl rfl (by decide) (Nat.le_of_ble_eq_true rfl) (Nat.le_of_ble_eq_true rfl) rfl (fun _ h => f_X12_init_ok h) hf (fun μ8 hf => ?_)
  refine E_astore_n (pc := 15) (ls' := fun a9 => [(2, .ref a9), (1, .ref a5), (0, .ref a1)]) dL_law_15 (by decide) (fun _ => rfl) hf (fun a9 hf => ?_)
  refine E_iconst (pc := 16) (v := (0 : Int32)) dL_law_16 (by decide) ?_
  refine E_istore_n (pc := 17) (ls' := fun x10 => [(3, .int x10), (2, .ref a9), (1, .ref a5), (0, .ref a1)]) dL_law_17 (by decide) (fun _ => rfl) hf (fun x10 hf => ?_)
  refine Ev.sub [3, 2, 1, 0] rfl ?_
  refine f_L_law_L18_ok hG  _ _ _ _ _ _ hf (fun μ281 hf => ?_) (fun μ282 hf => ?_) (fun μ283 hf => ?_) (fun μ284 hf => ?_) (fun μ285 hf => ?_) (fun μ286 hf => ?_) (fun μ287 hf => ?_) (fun μ288 hf => ?_) (fun μ289 hf => ?_) (fun μ290 hf => ?_) (fun μ291 hf => ?_) (fun μ292 hf => ?_) (fun μ293 hf => ?_) (fun μ294 hf => ?_) (fun μ295 hf => ?_) (fun μ296 hf => ?_) (fun μ297 hf => ?_) (fun μ298 hf => ?_) (fun μ299 hf => ?_) (fun μ300 hf => ?_) (fun μ301 hf => ?_) (fun μ302 hf => ?_) (fun μ303 hf => ?_) (fun μ304 hf => ?_) (fun μ305 hf => ?_) (fun μ306 hf => ?_) (fun μ307 hf => ?_) (fun μ308 hf => ?_) (fun μ309 hf => ?_) (fun μ310 hf => ?_) (fun μ311 hf => ?_)
  · refine E_iconst (pc := 229) (v := (0 : Int32)) dL_law_229 (by decide) ?_
    exact E_zret (pc := 230) dL_law_230 rfl hf
  · refine E_iconst (pc := 252) (v := (0 : Int32)) dL_law_252 (by decide) ?_
    exact E_zret (pc := 253) dL_law_253 rfl hf
  · refine E_iconst (pc := 265) (v := (0 : Int32)) dL_law_265 (by decide) ?_
    exact E_zret (pc := 266) dL_law_266 rfl hf
  · refine E_iconst (pc := 278) (v := (0 : Int32)) dL_law_278 (by decide) ?_
    exact E_zret (pc := 279) dL_law_279 rfl hf
  · refine E_iconst (pc := 301) (v := (0 : Int32)) dL_law_301 (by decide) ?_
    exact E_zret (pc := 302) dL_law_302 rfl hf
  · refine E_iconst (pc := 334) (v := (0 : Int32)) dL_law_334 (by decide) ?_
    exact E_zret (pc := 335) dL_law_335 rfl hf
  · refine E_iconst (pc := 367) (v := (0 : Int32)) dL_law_367 (by decide) ?_
    exact E_zret (pc := 368) dL_law_368 rfl hf
  · refine E_iconst (pc := 400) (v := (0 : Int32)) dL_law_400 (by decide) ?_
    exact E_zret (pc := 401) dL_law_401 rfl hf
  · refine E_iconst (pc := 433) (v := (0 : Int32)) dL_law_433 (by decide) ?_
    exact E_zret (pc := 434) dL_law_434 rfl hf
  · refine E_iconst (pc := 466) (v := (0 : Int32)) dL_law_466 (by decide) ?_
    exact E_zret (pc := 467) dL_law_467 rfl hf
  · refine E_iconst (pc := 499) (v := (0 : Int32)) dL_law_499 (by decide) ?_
    exact E_zret (pc := 500) dL_law_500 rfl hf
  · refine E_iconst (pc := 522) (v := (0 : Int32)) dL_law_522 (by decide) ?_
    exact E_zret (pc := 523) dL_law_523 rfl hf
  · refine E_iconst (pc := 535) (v := (0 : Int32)) dL_law_535 (by decide) ?_
    exact E_zret (pc := 536) dL_law_536 rfl hf
  · refine E_iconst (pc := 578) (v := (0 : Int32)) dL_law_578 (by decide) ?_
    exact E_zret (pc := 579) dL_law_579 rfl hf
  · refine E_iconst (pc := 601) (v := (0 : Int32)) dL_law_601 (by decide) ?_
    exact E_zret (pc := 602) dL_law_602 rfl hf
  · refine E_iconst (pc := 634) (v := (0 : Int32)) dL_law_634 (by decide) ?_
    exact E_zret (pc := 635) dL_law_635 rfl hf
  · refine E_iconst (pc := 683) (v := (0 : Int32)) dL_law_683 (by decide) ?_
    exact E_zret (pc := 684) dL_law_684 rfl hf
  · refine E_iconst (pc := 716) (v := (0 : Int32)) dL_law_716 (by decide) ?_
    exact E_zret (pc := 717) dL_law_717 rfl hf
  · refine E_iconst (pc := 749) (v := (0 : Int32)) dL_law_749 (by decide) ?_
    exact E_zret (pc := 750) dL_law_750 rfl hf
  · refine E_iconst (pc := 782) (v := (0 : Int32)) dL_law_782 (by decide) ?_
    exact E_zret (pc := 783) dL_law_783 rfl hf
  · refine E_iconst (pc := 815) (v := (0 : Int32)) dL_law_815 (by decide) ?_
    exact E_zret (pc := 816) dL_law_816 rfl hf
  · refine E_iconst (pc := 859) (v := (0 : Int32)) dL_law_859 (by decide) ?_
    exact E_zret (pc := 860) dL_law_860 rfl hf
  · refine E_iconst (pc := 892) (v := (0 : Int32)) dL_law_892 (by decide) ?_
    exact E_zret (pc := 893) dL_law_893 rfl hf
  · refine E_iconst (pc := 915) (v := (0 : Int32)) dL_law_915 (by decide) ?_
    exact E_zret (pc := 916) dL_law_916 rfl hf
  · refine E_iconst (pc := 938) (v := (0 : Int32)) dL_law_938 (by decide) ?_
    exact E_zret (pc := 939) dL_law_939 rfl hf
  · refine E_iconst (pc := 961) (v := (0 : Int32)) dL_law_961 (by decide) ?_
    exact E_zret (pc := 962) dL_law_962 rfl hf
  · refine E_iconst (pc := 1004) (v := (0 : Int32)) dL_law_1004 (by decide) ?_
    exact E_zret (pc := 1005) dL_law_1005 rfl hf
  · refine E_iconst (pc := 1027) (v := (0 : Int32)) dL_law_1027 (by decide) ?_
    exact E_zret (pc := 1028) dL_law_1028 rfl hf
  · refine E_iconst (pc := 1050) (v := (0 : Int32)) dL_law_1050 (by decide) ?_
    exact E_zret (pc := 1051) dL_law_1051 rfl hf
  · refine E_iconst (pc := 1073) (v := (0 : Int32)) dL_law_1073 (by decide) ?_
    exact E_zret (pc := 1074) dL_law_1074 rfl hf
  · refine E_iconst (pc := 1081) (v := (1 : Int32)) dL_law_1081 (by decide) ?_
    exact E_zret (pc := 1082) dL_law_1082 rfl hf
