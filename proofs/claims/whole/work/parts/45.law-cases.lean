/-! the law's cases: a call of the class, the same call of the reference, the answers compared -/
section CS
variable {p : Program} {l : Launch} {e : Env} {s : State} {m : MethodId} {args : Array Value} {below : List Frame} {meth : Method} {c : Code} {H : Heap} {locs : List Loc} {cells slots : Nat} {Q : State → Prop}
variable {ls : Array Slot} {nm : String} {ro : Option FieldType} {g : WG} {b L i T : Nat} {xs : Nat → Int32} {ad3 : AW} {ad4 : AM} {ω : WS} {τ : MS}
set_option maxHeartbeats 4000000 in
theorem cs_come (X : LC p s m args meth c nm ro g b L xs) (hP : va_P g.1 vwCl (cW g ad3 ω ++ cM g ad4 τ) H) (hD : va_D (AL s) (cW g ad3 ω ++ cM g ad4 τ)) (hS : va_S (AL s) s.heap H locs) (hl : lv_has ls 4 [(0, .ref b), (1, .ref ad3.1), (2, .ref ad4.1), (3, .int (nI i))]) (hi : i + 5 ≤ L) (hf : cells ≤ room_1.cells ∧ slots ≤ room_1.slots) (hT : T < 2 ^ 20) (h : RelV ω τ T) (kk : LK p l e s m args below meth c cells slots Q g ad3 ad4 b i T) : W p l e room_1 s m args below meth c H locs cells slots Q (F0 m 164 ls []) := by
  obtain ⟨hC, hK, hE, hX, hbl, hL⟩ := X
  obtain ⟨hx, hb, -⟩ := id hC
  refine lv_aload_n hx hb dL_law_164 rfl (lv_at hl 1 rfl) ?_
  refine la (j := 1) hC hX hbl hS hl hL (by omega) (by decide) dL_law_165 dL_law_166 dL_law_167 dL_law_168 dL_law_169 ?_
  refine la (j := 2) hC hX hbl hS hl hL (by omega) (by decide) dL_law_170 dL_law_171 dL_law_172 dL_law_173 dL_law_174 ?_
  refine la (j := 3) hC hX hbl hS hl hL (by omega) (by decide) dL_law_175 dL_law_176 dL_law_177 dL_law_178 dL_law_179 ?_
  refine la (j := 4) hC hX hbl hS hl hL (by omega) (by decide) dL_law_180 dL_law_181 dL_law_182 dL_law_183 dL_law_184 ?_
  refine l3w hC (k_X3_come l g ad3 ω (xs (i + 1)) (xs (i + 2)) (xs (i + 3)) (xs (i + 4)) (p_hok h)) ci_X3_come rfl lk_L_13 ⟨Nat.le_of_ble_eq_true rfl, Nat.le_of_ble_eq_true rfl⟩ hP hD hK hE hS rfl hl.1 rfl (Nat.le_of_ble_eq_true rfl) dL_law_185 hf (fun H locs hP hD hS => ?_)
  refine lv_aload_n hx hb dL_law_188 rfl (lv_at hl 2 rfl) ?_
  refine la (j := 1) hC hX hbl hS hl hL (by omega) (by decide) dL_law_189 dL_law_190 dL_law_191 dL_law_192 dL_law_193 ?_
  refine la (j := 2) hC hX hbl hS hl hL (by omega) (by decide) dL_law_194 dL_law_195 dL_law_196 dL_law_197 dL_law_198 ?_
  refine la (j := 3) hC hX hbl hS hl hL (by omega) (by decide) dL_law_199 dL_law_200 dL_law_201 dL_law_202 dL_law_203 ?_
  refine la (j := 4) hC hX hbl hS hl hL (by omega) (by decide) dL_law_204 dL_law_205 dL_law_206 dL_law_207 dL_law_208 ?_
  refine l4w hC (k_X4_come l g ad4 τ (xs (i + 1)) (xs (i + 2)) (xs (i + 3)) (xs (i + 4)) (p_st h)) ci_X4_come rfl lk_L_17 ⟨Nat.le_of_ble_eq_true rfl, Nat.le_of_ble_eq_true rfl⟩ hP hD hK hE hS rfl hl.1 rfl (Nat.le_of_ble_eq_true rfl) dL_law_209 hf (fun H locs hP hD hS => ?_)
  have hc := c_come h.1 (xs (i + 1)) (xs (i + 2)) (xs (i + 3)) (xs (i + 4))
  refine lv_icmp_eq (tgt := 949) hx hb dL_law_212 (by decide) (fun c_1 => ?_) (fun c_1 => ?_)
  · exact kk _ _ _ _ ls hP hD hS ⟨hc.2.up (by omega), h.2⟩ hl
  · exact absurd hc.1 c_1
set_option maxHeartbeats 4000000 in
theorem cs_goAway (X : LC p s m args meth c nm ro g b L xs) (hP : va_P g.1 vwCl (cW g ad3 ω ++ cM g ad4 τ) H) (hD : va_D (AL s) (cW g ad3 ω ++ cM g ad4 τ)) (hS : va_S (AL s) s.heap H locs) (hl : lv_has ls 4 [(0, .ref b), (1, .ref ad3.1), (2, .ref ad4.1), (3, .int (nI i))]) (hi : i + 5 ≤ L) (hf : cells ≤ room_1.cells ∧ slots ≤ room_1.slots) (hT : T < 2 ^ 20) (h : RelV ω τ T) (kk : LK p l e s m args below meth c cells slots Q g ad3 ad4 b i T) : W p l e room_1 s m args below meth c H locs cells slots Q (F0 m 217 ls []) := by
  obtain ⟨hC, hK, hE, hX, hbl, hL⟩ := X
  obtain ⟨hx, hb, -⟩ := id hC
  refine lv_aload_n hx hb dL_law_217 rfl (lv_at hl 1 rfl) ?_
  refine la (j := 1) hC hX hbl hS hl hL (by omega) (by decide) dL_law_218 dL_law_219 dL_law_220 dL_law_221 dL_law_222 ?_
  refine l3w hC (k_X3_goAway l g ad3 ω (xs (i + 1)) (p_hok h)) ci_X3_goAway rfl lk_L_18 ⟨Nat.le_of_ble_eq_true rfl, Nat.le_of_ble_eq_true rfl⟩ hP hD hK hE hS rfl hl.1 rfl (Nat.le_of_ble_eq_true rfl) dL_law_223 hf (fun H locs hP hD hS => ?_)
  refine lv_aload_n hx hb dL_law_226 rfl (lv_at hl 2 rfl) ?_
  refine la (j := 1) hC hX hbl hS hl hL (by omega) (by decide) dL_law_227 dL_law_228 dL_law_229 dL_law_230 dL_law_231 ?_
  refine l4w hC (k_X4_goAway l g ad4 τ (xs (i + 1)) (p_st h)) ci_X4_goAway rfl lk_L_22 ⟨Nat.le_of_ble_eq_true rfl, Nat.le_of_ble_eq_true rfl⟩ hP hD hK hE hS rfl hl.1 rfl (Nat.le_of_ble_eq_true rfl) dL_law_232 hf (fun H locs hP hD hS => ?_)
  have hc := c_goAway h.1 (xs (i + 1))
  refine lv_icmp_eq (tgt := 949) hx hb dL_law_235 (by decide) (fun c_1 => ?_) (fun c_1 => ?_)
  · exact kk _ _ _ _ ls hP hD hS ⟨hc.2.up (by omega), h.2⟩ hl
  · exact absurd hc.1 c_1
set_option maxHeartbeats 4000000 in
theorem cs_setCradles (X : LC p s m args meth c nm ro g b L xs) (hP : va_P g.1 vwCl (cW g ad3 ω ++ cM g ad4 τ) H) (hD : va_D (AL s) (cW g ad3 ω ++ cM g ad4 τ)) (hS : va_S (AL s) s.heap H locs) (hl : lv_has ls 4 [(0, .ref b), (1, .ref ad3.1), (2, .ref ad4.1), (3, .int (nI i))]) (hi : i + 5 ≤ L) (hf : cells ≤ room_1.cells ∧ slots ≤ room_1.slots) (hT : T < 2 ^ 20) (h : RelV ω τ T) (kk : LK p l e s m args below meth c cells slots Q g ad3 ad4 b i T) : W p l e room_1 s m args below meth c H locs cells slots Q (F0 m 240 ls []) := by
  obtain ⟨hC, hK, hE, hX, hbl, hL⟩ := X
  obtain ⟨hx, hb, -⟩ := id hC
  refine lv_aload_n hx hb dL_law_240 rfl (lv_at hl 1 rfl) ?_
  refine la (j := 1) hC hX hbl hS hl hL (by omega) (by decide) dL_law_241 dL_law_242 dL_law_243 dL_law_244 dL_law_245 ?_
  refine la (j := 2) hC hX hbl hS hl hL (by omega) (by decide) dL_law_246 dL_law_247 dL_law_248 dL_law_249 dL_law_250 ?_
  refine l3w hC (k_X3_setCradles l g ad3 ω (xs (i + 1)) (xs (i + 2)) (p_hok h)) ci_X3_setCradles rfl lk_L_23 ⟨Nat.le_of_ble_eq_true rfl, Nat.le_of_ble_eq_true rfl⟩ hP hD hK hE hS rfl hl.1 rfl (Nat.le_of_ble_eq_true rfl) dL_law_251 hf (fun H locs hP hD hS => ?_)
  refine lv_aload_n hx hb dL_law_254 rfl (lv_at hl 2 rfl) ?_
  refine la (j := 1) hC hX hbl hS hl hL (by omega) (by decide) dL_law_255 dL_law_256 dL_law_257 dL_law_258 dL_law_259 ?_
  refine la (j := 2) hC hX hbl hS hl hL (by omega) (by decide) dL_law_260 dL_law_261 dL_law_262 dL_law_263 dL_law_264 ?_
  refine l4w hC (k_X4_setCradles l g ad4 τ (xs (i + 1)) (xs (i + 2)) (p_st h)) ci_X4_setCradles rfl lk_L_27 ⟨Nat.le_of_ble_eq_true rfl, Nat.le_of_ble_eq_true rfl⟩ hP hD hK hE hS rfl hl.1 rfl (Nat.le_of_ble_eq_true rfl) dL_law_265 hf (fun H locs hP hD hS => ?_)
  have hc := c_setCradles h.1 (xs (i + 1)) (xs (i + 2))
  refine lv_icmp_eq (tgt := 949) hx hb dL_law_268 (by decide) (fun c_1 => ?_) (fun c_1 => ?_)
  · exact kk _ _ _ _ ls hP hD hS ⟨hc.2.up (by omega), h.2⟩ hl
  · exact absurd hc.1 c_1
set_option maxHeartbeats 4000000 in
theorem cs_setRow (X : LC p s m args meth c nm ro g b L xs) (hP : va_P g.1 vwCl (cW g ad3 ω ++ cM g ad4 τ) H) (hD : va_D (AL s) (cW g ad3 ω ++ cM g ad4 τ)) (hS : va_S (AL s) s.heap H locs) (hl : lv_has ls 4 [(0, .ref b), (1, .ref ad3.1), (2, .ref ad4.1), (3, .int (nI i))]) (hi : i + 5 ≤ L) (hf : cells ≤ room_1.cells ∧ slots ≤ room_1.slots) (hT : T < 2 ^ 20) (h : RelV ω τ T) (kk : LK p l e s m args below meth c cells slots Q g ad3 ad4 b i T) : W p l e room_1 s m args below meth c H locs cells slots Q (F0 m 273 ls []) := by
  obtain ⟨hC, hK, hE, hX, hbl, hL⟩ := X
  obtain ⟨hx, hb, -⟩ := id hC
  refine lv_aload_n hx hb dL_law_273 rfl (lv_at hl 1 rfl) ?_
  refine la (j := 1) hC hX hbl hS hl hL (by omega) (by decide) dL_law_274 dL_law_275 dL_law_276 dL_law_277 dL_law_278 ?_
  refine la (j := 2) hC hX hbl hS hl hL (by omega) (by decide) dL_law_279 dL_law_280 dL_law_281 dL_law_282 dL_law_283 ?_
  refine l3w hC (k_X3_setRow l g ad3 ω (xs (i + 1)) (xs (i + 2)) (p_hok h)) ci_X3_setRow rfl lk_L_28 ⟨Nat.le_of_ble_eq_true rfl, Nat.le_of_ble_eq_true rfl⟩ hP hD hK hE hS rfl hl.1 rfl (Nat.le_of_ble_eq_true rfl) dL_law_284 hf (fun H locs hP hD hS => ?_)
  refine lv_aload_n hx hb dL_law_287 rfl (lv_at hl 2 rfl) ?_
  refine la (j := 1) hC hX hbl hS hl hL (by omega) (by decide) dL_law_288 dL_law_289 dL_law_290 dL_law_291 dL_law_292 ?_
  refine la (j := 2) hC hX hbl hS hl hL (by omega) (by decide) dL_law_293 dL_law_294 dL_law_295 dL_law_296 dL_law_297 ?_
  refine l4w hC (k_X4_setRow l g ad4 τ (xs (i + 1)) (xs (i + 2)) (p_st h)) ci_X4_setRow rfl lk_L_31 ⟨Nat.le_of_ble_eq_true rfl, Nat.le_of_ble_eq_true rfl⟩ hP hD hK hE hS rfl hl.1 rfl (Nat.le_of_ble_eq_true rfl) dL_law_298 hf (fun H locs hP hD hS => ?_)
  have hc := c_setRow h.1 (xs (i + 1)) (xs (i + 2))
  refine lv_icmp_eq (tgt := 949) hx hb dL_law_301 (by decide) (fun c_1 => ?_) (fun c_1 => ?_)
  · exact kk _ _ _ _ ls hP hD hS ⟨hc.2.up (by omega), h.2⟩ hl
  · exact absurd hc.1 c_1
set_option maxHeartbeats 4000000 in
theorem cs_set (X : LC p s m args meth c nm ro g b L xs) (hP : va_P g.1 vwCl (cW g ad3 ω ++ cM g ad4 τ) H) (hD : va_D (AL s) (cW g ad3 ω ++ cM g ad4 τ)) (hS : va_S (AL s) s.heap H locs) (hl : lv_has ls 4 [(0, .ref b), (1, .ref ad3.1), (2, .ref ad4.1), (3, .int (nI i))]) (hi : i + 5 ≤ L) (hf : cells ≤ room_1.cells ∧ slots ≤ room_1.slots) (hT : T < 2 ^ 20) (h : RelV ω τ T) (kk : LK p l e s m args below meth c cells slots Q g ad3 ad4 b i T) : W p l e room_1 s m args below meth c H locs cells slots Q (F0 m 306 ls []) := by
  obtain ⟨hC, hK, hE, hX, hbl, hL⟩ := X
  obtain ⟨hx, hb, -⟩ := id hC
  refine lv_aload_n hx hb dL_law_306 rfl (lv_at hl 1 rfl) ?_
  refine la (j := 1) hC hX hbl hS hl hL (by omega) (by decide) dL_law_307 dL_law_308 dL_law_309 dL_law_310 dL_law_311 ?_
  refine la (j := 2) hC hX hbl hS hl hL (by omega) (by decide) dL_law_312 dL_law_313 dL_law_314 dL_law_315 dL_law_316 ?_
  refine l3w hC (k_X3_set l g ad3 ω (xs (i + 1)) (xs (i + 2)) (p_hok h)) ci_X3_set rfl lk_L_32 ⟨Nat.le_of_ble_eq_true rfl, Nat.le_of_ble_eq_true rfl⟩ hP hD hK hE hS rfl hl.1 rfl (Nat.le_of_ble_eq_true rfl) dL_law_317 hf (fun H locs hP hD hS => ?_)
  refine lv_aload_n hx hb dL_law_320 rfl (lv_at hl 2 rfl) ?_
  refine la (j := 1) hC hX hbl hS hl hL (by omega) (by decide) dL_law_321 dL_law_322 dL_law_323 dL_law_324 dL_law_325 ?_
  refine la (j := 2) hC hX hbl hS hl hL (by omega) (by decide) dL_law_326 dL_law_327 dL_law_328 dL_law_329 dL_law_330 ?_
  refine l4w hC (k_X4_set l g ad4 τ (xs (i + 1)) (xs (i + 2)) (p_st h)) ci_X4_set rfl lk_L_35 ⟨Nat.le_of_ble_eq_true rfl, Nat.le_of_ble_eq_true rfl⟩ hP hD hK hE hS rfl hl.1 rfl (Nat.le_of_ble_eq_true rfl) dL_law_331 hf (fun H locs hP hD hS => ?_)
  have hc := c_set h.1 (xs (i + 1)) (xs (i + 2))
  refine lv_icmp_eq (tgt := 949) hx hb dL_law_334 (by decide) (fun c_1 => ?_) (fun c_1 => ?_)
  · exact kk _ _ _ _ ls hP hD hS ⟨hc.2.up (by omega), h.2⟩ hl
  · exact absurd hc.1 c_1
set_option maxHeartbeats 4000000 in
theorem cs_lift (X : LC p s m args meth c nm ro g b L xs) (hP : va_P g.1 vwCl (cW g ad3 ω ++ cM g ad4 τ) H) (hD : va_D (AL s) (cW g ad3 ω ++ cM g ad4 τ)) (hS : va_S (AL s) s.heap H locs) (hl : lv_has ls 4 [(0, .ref b), (1, .ref ad3.1), (2, .ref ad4.1), (3, .int (nI i))]) (hi : i + 5 ≤ L) (hf : cells ≤ room_1.cells ∧ slots ≤ room_1.slots) (hT : T < 2 ^ 20) (h : RelV ω τ T) (kk : LK p l e s m args below meth c cells slots Q g ad3 ad4 b i T) : W p l e room_1 s m args below meth c H locs cells slots Q (F0 m 339 ls []) := by
  obtain ⟨hC, hK, hE, hX, hbl, hL⟩ := X
  obtain ⟨hx, hb, -⟩ := id hC
  refine lv_aload_n hx hb dL_law_339 rfl (lv_at hl 1 rfl) ?_
  refine la (j := 1) hC hX hbl hS hl hL (by omega) (by decide) dL_law_340 dL_law_341 dL_law_342 dL_law_343 dL_law_344 ?_
  refine la (j := 2) hC hX hbl hS hl hL (by omega) (by decide) dL_law_345 dL_law_346 dL_law_347 dL_law_348 dL_law_349 ?_
  refine l3w hC (k_X3_lift l g ad3 ω (xs (i + 1)) (xs (i + 2)) (p_hok h) (p_k3 h)) ci_X3_lift rfl lk_L_36 ⟨Nat.le_of_ble_eq_true rfl, Nat.le_of_ble_eq_true rfl⟩ hP hD hK hE hS rfl hl.1 rfl (Nat.le_of_ble_eq_true rfl) dL_law_350 hf (fun H locs hP hD hS => ?_)
  refine lv_aload_n hx hb dL_law_353 rfl (lv_at hl 2 rfl) ?_
  refine la (j := 1) hC hX hbl hS hl hL (by omega) (by decide) dL_law_354 dL_law_355 dL_law_356 dL_law_357 dL_law_358 ?_
  refine la (j := 2) hC hX hbl hS hl hL (by omega) (by decide) dL_law_359 dL_law_360 dL_law_361 dL_law_362 dL_law_363 ?_
  refine l4w hC (k_X4_lift l g ad4 τ (xs (i + 1)) (xs (i + 2)) (p_k4 h) (p_st h)) ci_X4_lift rfl lk_L_39 ⟨Nat.le_of_ble_eq_true rfl, Nat.le_of_ble_eq_true rfl⟩ hP hD hK hE hS rfl hl.1 rfl (Nat.le_of_ble_eq_true rfl) dL_law_364 hf (fun H locs hP hD hS => ?_)
  have hc := c_lift (by omega) h.1 (xs (i + 1)) (xs (i + 2))
  refine lv_icmp_eq (tgt := 949) hx hb dL_law_367 (by decide) (fun c_1 => ?_) (fun c_1 => ?_)
  · exact kk _ _ _ _ ls hP hD hS ⟨hc.2.up (by omega), h.2⟩ hl
  · exact absurd hc.1 c_1
set_option maxHeartbeats 4000000 in
theorem cs_launch (X : LC p s m args meth c nm ro g b L xs) (hP : va_P g.1 vwCl (cW g ad3 ω ++ cM g ad4 τ) H) (hD : va_D (AL s) (cW g ad3 ω ++ cM g ad4 τ)) (hS : va_S (AL s) s.heap H locs) (hl : lv_has ls 4 [(0, .ref b), (1, .ref ad3.1), (2, .ref ad4.1), (3, .int (nI i))]) (hi : i + 5 ≤ L) (hf : cells ≤ room_1.cells ∧ slots ≤ room_1.slots) (hT : T < 2 ^ 20) (h : RelV ω τ T) (kk : LK p l e s m args below meth c cells slots Q g ad3 ad4 b i T) : W p l e room_1 s m args below meth c H locs cells slots Q (F0 m 372 ls []) := by
  obtain ⟨hC, hK, hE, hX, hbl, hL⟩ := X
  obtain ⟨hx, hb, -⟩ := id hC
  refine lv_aload_n hx hb dL_law_372 rfl (lv_at hl 1 rfl) ?_
  refine la (j := 1) hC hX hbl hS hl hL (by omega) (by decide) dL_law_373 dL_law_374 dL_law_375 dL_law_376 dL_law_377 ?_
  refine l3w hC (k_X3_launch l g ad3 ω (xs (i + 1)) (p_hok h)) ci_X3_launch rfl lk_L_40 ⟨Nat.le_of_ble_eq_true rfl, Nat.le_of_ble_eq_true rfl⟩ hP hD hK hE hS rfl hl.1 rfl (Nat.le_of_ble_eq_true rfl) dL_law_378 hf (fun H locs hP hD hS => ?_)
  refine lv_aload_n hx hb dL_law_381 rfl (lv_at hl 2 rfl) ?_
  refine la (j := 1) hC hX hbl hS hl hL (by omega) (by decide) dL_law_382 dL_law_383 dL_law_384 dL_law_385 dL_law_386 ?_
  refine l4w hC (k_X4_launch l g ad4 τ (xs (i + 1)) (p_st h)) ci_X4_launch rfl lk_L_43 ⟨Nat.le_of_ble_eq_true rfl, Nat.le_of_ble_eq_true rfl⟩ hP hD hK hE hS rfl hl.1 rfl (Nat.le_of_ble_eq_true rfl) dL_law_387 hf (fun H locs hP hD hS => ?_)
  have hc := c_launch h.1 (xs (i + 1))
  refine lv_icmp_eq (tgt := 949) hx hb dL_law_390 (by decide) (fun c_1 => ?_) (fun c_1 => ?_)
  · exact kk _ _ _ _ ls hP hD hS ⟨hc.2.up (by omega), h.2⟩ hl
  · exact absurd hc.1 c_1
set_option maxHeartbeats 4000000 in
theorem cs_move (X : LC p s m args meth c nm ro g b L xs) (hP : va_P g.1 vwCl (cW g ad3 ω ++ cM g ad4 τ) H) (hD : va_D (AL s) (cW g ad3 ω ++ cM g ad4 τ)) (hS : va_S (AL s) s.heap H locs) (hl : lv_has ls 4 [(0, .ref b), (1, .ref ad3.1), (2, .ref ad4.1), (3, .int (nI i))]) (hi : i + 5 ≤ L) (hf : cells ≤ room_1.cells ∧ slots ≤ room_1.slots) (hT : T < 2 ^ 20) (h : RelV ω τ T) (kk : LK p l e s m args below meth c cells slots Q g ad3 ad4 b i T) : W p l e room_1 s m args below meth c H locs cells slots Q (F0 m 395 ls []) := by
  obtain ⟨hC, hK, hE, hX, hbl, hL⟩ := X
  obtain ⟨hx, hb, -⟩ := id hC
  refine lv_aload_n hx hb dL_law_395 rfl (lv_at hl 1 rfl) ?_
  refine la (j := 1) hC hX hbl hS hl hL (by omega) (by decide) dL_law_396 dL_law_397 dL_law_398 dL_law_399 dL_law_400 ?_
  refine la (j := 2) hC hX hbl hS hl hL (by omega) (by decide) dL_law_401 dL_law_402 dL_law_403 dL_law_404 dL_law_405 ?_
  refine l3w hC (k_X3_move l g ad3 ω (xs (i + 1)) (xs (i + 2)) (p_hok h)) ci_X3_move rfl lk_L_44 ⟨Nat.le_of_ble_eq_true rfl, Nat.le_of_ble_eq_true rfl⟩ hP hD hK hE hS rfl hl.1 rfl (Nat.le_of_ble_eq_true rfl) dL_law_406 hf (fun H locs hP hD hS => ?_)
  refine lv_aload_n hx hb dL_law_409 rfl (lv_at hl 2 rfl) ?_
  refine la (j := 1) hC hX hbl hS hl hL (by omega) (by decide) dL_law_410 dL_law_411 dL_law_412 dL_law_413 dL_law_414 ?_
  refine la (j := 2) hC hX hbl hS hl hL (by omega) (by decide) dL_law_415 dL_law_416 dL_law_417 dL_law_418 dL_law_419 ?_
  refine l4w hC (k_X4_move l g ad4 τ (xs (i + 1)) (xs (i + 2)) (p_st h)) ci_X4_move rfl lk_L_47 ⟨Nat.le_of_ble_eq_true rfl, Nat.le_of_ble_eq_true rfl⟩ hP hD hK hE hS rfl hl.1 rfl (Nat.le_of_ble_eq_true rfl) dL_law_420 hf (fun H locs hP hD hS => ?_)
  have hc := c_move (by omega) h.1 (xs (i + 1)) (xs (i + 2))
  refine lv_icmp_eq (tgt := 949) hx hb dL_law_423 (by decide) (fun c_1 => ?_) (fun c_1 => ?_)
  · exact kk _ _ _ _ ls hP hD hS ⟨hc.2.up (by omega), h.2⟩ hl
  · exact absurd hc.1 c_1
set_option maxHeartbeats 4000000 in
theorem cs_mast (X : LC p s m args meth c nm ro g b L xs) (hP : va_P g.1 vwCl (cW g ad3 ω ++ cM g ad4 τ) H) (hD : va_D (AL s) (cW g ad3 ω ++ cM g ad4 τ)) (hS : va_S (AL s) s.heap H locs) (hl : lv_has ls 4 [(0, .ref b), (1, .ref ad3.1), (2, .ref ad4.1), (3, .int (nI i))]) (hi : i + 5 ≤ L) (hf : cells ≤ room_1.cells ∧ slots ≤ room_1.slots) (hT : T < 2 ^ 20) (h : RelV ω τ T) (kk : LK p l e s m args below meth c cells slots Q g ad3 ad4 b i T) : W p l e room_1 s m args below meth c H locs cells slots Q (F0 m 428 ls []) := by
  obtain ⟨hC, hK, hE, hX, hbl, hL⟩ := X
  obtain ⟨hx, hb, -⟩ := id hC
  refine lv_aload_n hx hb dL_law_428 rfl (lv_at hl 1 rfl) ?_
  refine la (j := 1) hC hX hbl hS hl hL (by omega) (by decide) dL_law_429 dL_law_430 dL_law_431 dL_law_432 dL_law_433 ?_
  refine la (j := 2) hC hX hbl hS hl hL (by omega) (by decide) dL_law_434 dL_law_435 dL_law_436 dL_law_437 dL_law_438 ?_
  refine lbool hC dL_law_439 dL_law_442 dL_law_443 dL_law_446 ?_
  refine l3w hC (k_X3_mast l g ad3 ω (xs (i + 1)) (bv (xs (i + 2))) (p_hok h)) ci_X3_mast rfl lk_L_48 ⟨Nat.le_of_ble_eq_true rfl, Nat.le_of_ble_eq_true rfl⟩ hP hD hK hE hS rfl hl.1 rfl (Nat.le_of_ble_eq_true rfl) dL_law_447 hf (fun H locs hP hD hS => ?_)
  refine lv_aload_n hx hb dL_law_450 rfl (lv_at hl 2 rfl) ?_
  refine la (j := 1) hC hX hbl hS hl hL (by omega) (by decide) dL_law_451 dL_law_452 dL_law_453 dL_law_454 dL_law_455 ?_
  refine la (j := 2) hC hX hbl hS hl hL (by omega) (by decide) dL_law_456 dL_law_457 dL_law_458 dL_law_459 dL_law_460 ?_
  refine lbool hC dL_law_461 dL_law_464 dL_law_465 dL_law_468 ?_
  refine l4w hC (k_X4_mast l g ad4 τ (xs (i + 1)) (bv (xs (i + 2))) (p_st h)) ci_X4_mast rfl lk_L_52 ⟨Nat.le_of_ble_eq_true rfl, Nat.le_of_ble_eq_true rfl⟩ hP hD hK hE hS rfl hl.1 rfl (Nat.le_of_ble_eq_true rfl) dL_law_469 hf (fun H locs hP hD hS => ?_)
  have hc := c_mast h.1 (xs (i + 1)) (bv (xs (i + 2))) (bv01 _)
  refine lv_icmp_eq (tgt := 949) hx hb dL_law_472 (by decide) (fun c_1 => ?_) (fun c_1 => ?_)
  · exact kk _ _ _ _ ls hP hD hS ⟨hc.2.up (by omega), h.2.of (congrArg P_signs (v_mast _ _))⟩ hl
  · exact absurd hc.1 c_1
set_option maxHeartbeats 4000000 in
theorem cs_work (X : LC p s m args meth c nm ro g b L xs) (hP : va_P g.1 vwCl (cW g ad3 ω ++ cM g ad4 τ) H) (hD : va_D (AL s) (cW g ad3 ω ++ cM g ad4 τ)) (hS : va_S (AL s) s.heap H locs) (hl : lv_has ls 4 [(0, .ref b), (1, .ref ad3.1), (2, .ref ad4.1), (3, .int (nI i))]) (hi : i + 5 ≤ L) (hf : cells ≤ room_1.cells ∧ slots ≤ room_1.slots) (hT : T < 2 ^ 20) (h : RelV ω τ T) (kk : LK p l e s m args below meth c cells slots Q g ad3 ad4 b i T) : W p l e room_1 s m args below meth c H locs cells slots Q (F0 m 477 ls []) := by
  obtain ⟨hC, hK, hE, hX, hbl, hL⟩ := X
  obtain ⟨hx, hb, -⟩ := id hC
  refine lv_aload_n hx hb dL_law_477 rfl (lv_at hl 1 rfl) ?_
  refine la (j := 1) hC hX hbl hS hl hL (by omega) (by decide) dL_law_478 dL_law_479 dL_law_480 dL_law_481 dL_law_482 ?_
  refine la (j := 2) hC hX hbl hS hl hL (by omega) (by decide) dL_law_483 dL_law_484 dL_law_485 dL_law_486 dL_law_487 ?_
  refine l3w hC (k_X3_work l g ad3 ω (xs (i + 1)) (xs (i + 2)) (p_hok h)) ci_X3_work rfl lk_L_53 ⟨Nat.le_of_ble_eq_true rfl, Nat.le_of_ble_eq_true rfl⟩ hP hD hK hE hS rfl hl.1 rfl (Nat.le_of_ble_eq_true rfl) dL_law_488 hf (fun H locs hP hD hS => ?_)
  refine lv_aload_n hx hb dL_law_491 rfl (lv_at hl 2 rfl) ?_
  refine la (j := 1) hC hX hbl hS hl hL (by omega) (by decide) dL_law_492 dL_law_493 dL_law_494 dL_law_495 dL_law_496 ?_
  refine la (j := 2) hC hX hbl hS hl hL (by omega) (by decide) dL_law_497 dL_law_498 dL_law_499 dL_law_500 dL_law_501 ?_
  refine l4w hC (k_X4_work l g ad4 τ (xs (i + 1)) (xs (i + 2)) (p_st h)) ci_X4_work rfl lk_L_56 ⟨Nat.le_of_ble_eq_true rfl, Nat.le_of_ble_eq_true rfl⟩ hP hD hK hE hS rfl hl.1 rfl (Nat.le_of_ble_eq_true rfl) dL_law_502 hf (fun H locs hP hD hS => ?_)
  have hc := c_work h.1 (xs (i + 1)) (xs (i + 2))
  refine lv_icmp_eq (tgt := 949) hx hb dL_law_505 (by decide) (fun c_1 => ?_) (fun c_1 => ?_)
  · exact kk _ _ _ _ ls hP hD hS ⟨hc.2.up (by omega), h.2⟩ hl
  · exact absurd hc.1 c_1
set_option maxHeartbeats 4000000 in
theorem cs_pass (X : LC p s m args meth c nm ro g b L xs) (hP : va_P g.1 vwCl (cW g ad3 ω ++ cM g ad4 τ) H) (hD : va_D (AL s) (cW g ad3 ω ++ cM g ad4 τ)) (hS : va_S (AL s) s.heap H locs) (hl : lv_has ls 4 [(0, .ref b), (1, .ref ad3.1), (2, .ref ad4.1), (3, .int (nI i))]) (hi : i + 5 ≤ L) (hf : cells ≤ room_1.cells ∧ slots ≤ room_1.slots) (hT : T < 2 ^ 20) (h : RelV ω τ T) (kk : LK p l e s m args below meth c cells slots Q g ad3 ad4 b i T) : W p l e room_1 s m args below meth c H locs cells slots Q (F0 m 510 ls []) := by
  obtain ⟨hC, hK, hE, hX, hbl, hL⟩ := X
  obtain ⟨hx, hb, -⟩ := id hC
  refine lv_aload_n hx hb dL_law_510 rfl (lv_at hl 1 rfl) ?_
  refine la (j := 1) hC hX hbl hS hl hL (by omega) (by decide) dL_law_511 dL_law_512 dL_law_513 dL_law_514 dL_law_515 ?_
  refine l3w hC (k_X3_pass l g ad3 ω (xs (i + 1)) (p_hok h)) ci_X3_pass rfl lk_L_57 ⟨Nat.le_of_ble_eq_true rfl, Nat.le_of_ble_eq_true rfl⟩ hP hD hK hE hS rfl hl.1 rfl (Nat.le_of_ble_eq_true rfl) dL_law_516 hf (fun H locs hP hD hS => ?_)
  refine lv_aload_n hx hb dL_law_519 rfl (lv_at hl 2 rfl) ?_
  refine la (j := 1) hC hX hbl hS hl hL (by omega) (by decide) dL_law_520 dL_law_521 dL_law_522 dL_law_523 dL_law_524 ?_
  refine l4w hC (k_X4_pass l g ad4 τ (xs (i + 1)) (p_st h)) ci_X4_pass rfl lk_L_60 ⟨Nat.le_of_ble_eq_true rfl, Nat.le_of_ble_eq_true rfl⟩ hP hD hK hE hS rfl hl.1 rfl (Nat.le_of_ble_eq_true rfl) dL_law_525 hf (fun H locs hP hD hS => ?_)
  have hc := c_pass h.1 (xs (i + 1))
  refine lv_icmp_eq (tgt := 949) hx hb dL_law_528 (by decide) (fun c_1 => ?_) (fun c_1 => ?_)
  · exact kk _ _ _ _ ls hP hD hS ⟨hc.2.up (by omega), h.2⟩ hl
  · exact absurd hc.1 c_1
set_option maxHeartbeats 4000000 in
theorem cs_type (X : LC p s m args meth c nm ro g b L xs) (hP : va_P g.1 vwCl (cW g ad3 ω ++ cM g ad4 τ) H) (hD : va_D (AL s) (cW g ad3 ω ++ cM g ad4 τ)) (hS : va_S (AL s) s.heap H locs) (hl : lv_has ls 4 [(0, .ref b), (1, .ref ad3.1), (2, .ref ad4.1), (3, .int (nI i))]) (hi : i + 5 ≤ L) (hf : cells ≤ room_1.cells ∧ slots ≤ room_1.slots) (hT : T < 2 ^ 20) (h : RelV ω τ T) (kk : LK p l e s m args below meth c cells slots Q g ad3 ad4 b i T) : W p l e room_1 s m args below meth c H locs cells slots Q (F0 m 533 ls []) := by
  obtain ⟨hC, hK, hE, hX, hbl, hL⟩ := X
  obtain ⟨hx, hb, -⟩ := id hC
  refine lv_aload_n hx hb dL_law_533 rfl (lv_at hl 1 rfl) ?_
  refine la (j := 1) hC hX hbl hS hl hL (by omega) (by decide) dL_law_534 dL_law_535 dL_law_536 dL_law_537 dL_law_538 ?_
  refine lv_i2c (v := (chv (xs (i + 1)))) hx hb dL_law_539 rfl ?_
  refine l3w hC (k_X3_type l g ad3 ω (chv (xs (i + 1))) (p_l3 h)) ci_X3_type rfl lk_L_61 ⟨Nat.le_of_ble_eq_true rfl, Nat.le_of_ble_eq_true rfl⟩ hP hD hK hE hS rfl hl.1 rfl (Nat.le_of_ble_eq_true rfl) dL_law_540 hf (fun H locs hP hD hS => ?_)
  refine lv_aload_n hx hb dL_law_543 rfl (lv_at hl 2 rfl) ?_
  refine la (j := 1) hC hX hbl hS hl hL (by omega) (by decide) dL_law_544 dL_law_545 dL_law_546 dL_law_547 dL_law_548 ?_
  refine lv_i2c (v := (chv (xs (i + 1)))) hx hb dL_law_549 rfl ?_
  refine l4w hC (k_X4_type l g ad4 τ (chv (xs (i + 1))) (p_l4 h)) ci_X4_type rfl lk_L_65 ⟨Nat.le_of_ble_eq_true rfl, Nat.le_of_ble_eq_true rfl⟩ hP hD hK hE hS rfl hl.1 rfl (Nat.le_of_ble_eq_true rfl) dL_law_550 hf (fun H locs hP hD hS => ?_)
  have hc := c_type h.1 (chv (xs (i + 1))) (chv_ok _)
  refine lv_icmp_eq (tgt := 949) hx hb dL_law_553 (by decide) (fun c_1 => ?_) (fun c_1 => ?_)
  · exact kk _ _ _ _ ls hP hD hS ⟨hc.2.up (by omega), h.2.of (v_type _)⟩ hl
  · exact absurd hc.1 c_1
set_option maxHeartbeats 4000000 in
theorem cs_clearText (X : LC p s m args meth c nm ro g b L xs) (hP : va_P g.1 vwCl (cW g ad3 ω ++ cM g ad4 τ) H) (hD : va_D (AL s) (cW g ad3 ω ++ cM g ad4 τ)) (hS : va_S (AL s) s.heap H locs) (hl : lv_has ls 4 [(0, .ref b), (1, .ref ad3.1), (2, .ref ad4.1), (3, .int (nI i))]) (hi : i + 5 ≤ L) (hf : cells ≤ room_1.cells ∧ slots ≤ room_1.slots) (hT : T < 2 ^ 20) (h : RelV ω τ T) (kk : LK p l e s m args below meth c cells slots Q g ad3 ad4 b i T) : W p l e room_1 s m args below meth c H locs cells slots Q (F0 m 558 ls []) := by
  obtain ⟨hC, hK, hE, hX, hbl, hL⟩ := X
  obtain ⟨hx, hb, -⟩ := id hC
  refine lv_aload_n hx hb dL_law_558 rfl (lv_at hl 1 rfl) ?_
  refine l3w hC (k_X3_clearText l g ad3 ω) ci_X3_clearText rfl lk_L_66 ⟨Nat.le_of_ble_eq_true rfl, Nat.le_of_ble_eq_true rfl⟩ hP hD hK hE hS rfl hl.1 rfl (Nat.le_of_ble_eq_true rfl) dL_law_559 hf (fun H locs hP hD hS => ?_)
  refine lv_aload_n hx hb dL_law_562 rfl (lv_at hl 2 rfl) ?_
  refine l4w hC (k_X4_clearText l g ad4 τ) ci_X4_clearText rfl lk_L_70 ⟨Nat.le_of_ble_eq_true rfl, Nat.le_of_ble_eq_true rfl⟩ hP hD hK hE hS rfl hl.1 rfl (Nat.le_of_ble_eq_true rfl) dL_law_563 hf (fun H locs hP hD hS => ?_)
  have hc := c_clearText h.1
  refine lv_icmp_eq (tgt := 949) hx hb dL_law_566 (by decide) (fun c_1 => ?_) (fun c_1 => ?_)
  · exact kk _ _ _ _ ls hP hD hS ⟨hc.2.up (by omega), h.2⟩ hl
  · exact absurd hc.1 c_1
set_option maxHeartbeats 4000000 in
theorem cs_perform (X : LC p s m args meth c nm ro g b L xs) (hP : va_P g.1 vwCl (cW g ad3 ω ++ cM g ad4 τ) H) (hD : va_D (AL s) (cW g ad3 ω ++ cM g ad4 τ)) (hS : va_S (AL s) s.heap H locs) (hl : lv_has ls 4 [(0, .ref b), (1, .ref ad3.1), (2, .ref ad4.1), (3, .int (nI i))]) (hi : i + 5 ≤ L) (hf : cells ≤ room_1.cells ∧ slots ≤ room_1.slots) (hT : T < 2 ^ 20) (h : RelV ω τ T) (kk : LK p l e s m args below meth c cells slots Q g ad3 ad4 b i T) : W p l e room_1 s m args below meth c H locs cells slots Q (F0 m 571 ls []) := by
  obtain ⟨hC, hK, hE, hX, hbl, hL⟩ := X
  obtain ⟨hx, hb, -⟩ := id hC
  refine lv_aload_n hx hb dL_law_571 rfl (lv_at hl 1 rfl) ?_
  refine l3w hC (k_X3_perform l g ad3 ω (p_hok h) (p_l3 h) (p_ch h) (p_th h) (p_pk (by omega) h)) ci_X3_perform rfl lk_L_71 ⟨Nat.le_of_ble_eq_true rfl, Nat.le_of_ble_eq_true rfl⟩ hP hD hK hE hS rfl hl.1 rfl (Nat.le_of_ble_eq_true rfl) dL_law_572 hf (fun H locs hP hD hS => ?_)
  refine lv_aload_n hx hb dL_law_575 rfl (lv_at hl 2 rfl) ?_
  refine l4w hC (k_X4_performF l g ad4 τ (p_l4 h) (p_pm (by omega) h)) ci_X4_perform rfl lk_L_74 ⟨Nat.le_of_ble_eq_true rfl, Nat.le_of_ble_eq_true rfl⟩ hP hD hK hE hS rfl hl.1 rfl (Nat.le_of_ble_eq_true rfl) dL_law_576 hf (fun H locs hP hD hS => ?_)
  have hc := c_perform (by omega) h.1
  refine lv_icmp_eq (tgt := 949) hx hb dL_law_579 (by decide) (fun c_1 => ?_) (fun c_1 => ?_)
  · exact kk _ _ _ _ ls hP hD hS ⟨hc.2.up (by omega), v_perform h.2⟩ hl
  · exact absurd hc.1 c_1
set_option maxHeartbeats 4000000 in
theorem cs_stopped (X : LC p s m args meth c nm ro g b L xs) (hP : va_P g.1 vwCl (cW g ad3 ω ++ cM g ad4 τ) H) (hD : va_D (AL s) (cW g ad3 ω ++ cM g ad4 τ)) (hS : va_S (AL s) s.heap H locs) (hl : lv_has ls 4 [(0, .ref b), (1, .ref ad3.1), (2, .ref ad4.1), (3, .int (nI i))]) (hi : i + 5 ≤ L) (hf : cells ≤ room_1.cells ∧ slots ≤ room_1.slots) (hT : T < 2 ^ 20) (h : RelV ω τ T) (kk : LK p l e s m args below meth c cells slots Q g ad3 ad4 b i T) : W p l e room_1 s m args below meth c H locs cells slots Q (F0 m 584 ls []) := by
  obtain ⟨hC, hK, hE, hX, hbl, hL⟩ := X
  obtain ⟨hx, hb, -⟩ := id hC
  refine lv_aload_n hx hb dL_law_584 rfl (lv_at hl 1 rfl) ?_
  refine la (j := 1) hC hX hbl hS hl hL (by omega) (by decide) dL_law_585 dL_law_586 dL_law_587 dL_law_588 dL_law_589 ?_
  refine l3r hC (k_X3_stopped l g ad3 ω (xs (i + 1))) ci_X3_stopped rfl lk_L_75 ⟨Nat.le_of_ble_eq_true rfl, Nat.le_of_ble_eq_true rfl⟩ hP hK hE hS rfl hl.1 rfl (Nat.le_of_ble_eq_true rfl) dL_law_590 hf ?_
  refine lv_aload_n hx hb dL_law_593 rfl (lv_at hl 2 rfl) ?_
  refine la (j := 1) hC hX hbl hS hl hL (by omega) (by decide) dL_law_594 dL_law_595 dL_law_596 dL_law_597 dL_law_598 ?_
  refine l4r hC (k_X4_stopped l g ad4 τ (xs (i + 1))) ci_X4_stopped rfl lk_L_78 ⟨Nat.le_of_ble_eq_true rfl, Nat.le_of_ble_eq_true rfl⟩ hP hK hE hS rfl hl.1 rfl (Nat.le_of_ble_eq_true rfl) dL_law_599 hf ?_
  refine lv_icmp_eq (tgt := 949) hx hb dL_law_602 (by decide) (fun c_1 => ?_) (fun c_1 => ?_)
  · exact kk _ _ _ _ ls hP hD hS ⟨h.1.up (by omega), h.2⟩ hl
  · exact absurd (c_stopped h.1 (xs (i + 1))) c_1
set_option maxHeartbeats 4000000 in
theorem cs_undo (X : LC p s m args meth c nm ro g b L xs) (hP : va_P g.1 vwCl (cW g ad3 ω ++ cM g ad4 τ) H) (hD : va_D (AL s) (cW g ad3 ω ++ cM g ad4 τ)) (hS : va_S (AL s) s.heap H locs) (hl : lv_has ls 4 [(0, .ref b), (1, .ref ad3.1), (2, .ref ad4.1), (3, .int (nI i))]) (hi : i + 5 ≤ L) (hf : cells ≤ room_1.cells ∧ slots ≤ room_1.slots) (hT : T < 2 ^ 20) (h : RelV ω τ T) (kk : LK p l e s m args below meth c cells slots Q g ad3 ad4 b i T) : W p l e room_1 s m args below meth c H locs cells slots Q (F0 m 607 ls []) := by
  obtain ⟨hC, hK, hE, hX, hbl, hL⟩ := X
  obtain ⟨hx, hb, -⟩ := id hC
  refine lv_aload_n hx hb dL_law_607 rfl (lv_at hl 1 rfl) ?_
  refine l3w hC (k_X3_undo l g ad3 ω (p_hok h)) ci_X3_undo rfl lk_L_79 ⟨Nat.le_of_ble_eq_true rfl, Nat.le_of_ble_eq_true rfl⟩ hP hD hK hE hS rfl hl.1 rfl (Nat.le_of_ble_eq_true rfl) dL_law_608 hf (fun H locs hP hD hS => ?_)
  refine lv_aload_n hx hb dL_law_611 rfl (lv_at hl 2 rfl) ?_
  refine l4w hC (k_X4_undo l g ad4 τ (p_st h)) ci_X4_undo rfl lk_L_82 ⟨Nat.le_of_ble_eq_true rfl, Nat.le_of_ble_eq_true rfl⟩ hP hD hK hE hS rfl hl.1 rfl (Nat.le_of_ble_eq_true rfl) dL_law_612 hf (fun H locs hP hD hS => ?_)
  have hc := c_undo h.1
  refine lv_icmp_eq (tgt := 949) hx hb dL_law_615 (by decide) (fun c_1 => ?_) (fun c_1 => ?_)
  · exact kk _ _ _ _ ls hP hD hS ⟨hc.2.up (by omega), h.2⟩ hl
  · exact absurd hc.1 c_1
set_option maxHeartbeats 4000000 in
theorem cs_keep (X : LC p s m args meth c nm ro g b L xs) (hP : va_P g.1 vwCl (cW g ad3 ω ++ cM g ad4 τ) H) (hD : va_D (AL s) (cW g ad3 ω ++ cM g ad4 τ)) (hS : va_S (AL s) s.heap H locs) (hl : lv_has ls 4 [(0, .ref b), (1, .ref ad3.1), (2, .ref ad4.1), (3, .int (nI i))]) (hi : i + 5 ≤ L) (hf : cells ≤ room_1.cells ∧ slots ≤ room_1.slots) (hT : T < 2 ^ 20) (h : RelV ω τ T) (kk : LK p l e s m args below meth c cells slots Q g ad3 ad4 b i T) : W p l e room_1 s m args below meth c H locs cells slots Q (F0 m 620 ls []) := by
  obtain ⟨hC, hK, hE, hX, hbl, hL⟩ := X
  obtain ⟨hx, hb, -⟩ := id hC
  refine lv_aload_n hx hb dL_law_620 rfl (lv_at hl 1 rfl) ?_
  refine l3w hC (k_X3_keep l g ad3 ω) ci_X3_keep rfl lk_L_83 ⟨Nat.le_of_ble_eq_true rfl, Nat.le_of_ble_eq_true rfl⟩ hP hD hK hE hS rfl hl.1 rfl (Nat.le_of_ble_eq_true rfl) dL_law_621 hf (fun H locs hP hD hS => ?_)
  refine lv_aload_n hx hb dL_law_624 rfl (lv_at hl 2 rfl) ?_
  refine l4w hC (k_X4_keep l g ad4 τ) ci_X4_keep rfl lk_L_86 ⟨Nat.le_of_ble_eq_true rfl, Nat.le_of_ble_eq_true rfl⟩ hP hD hK hE hS rfl hl.1 rfl (Nat.le_of_ble_eq_true rfl) dL_law_625 hf (fun H locs hP hD hS => ?_)
  have hc := c_keep h.1
  refine lv_icmp_eq (tgt := 949) hx hb dL_law_628 (by decide) (fun c_1 => ?_) (fun c_1 => ?_)
  · exact kk _ _ _ _ ls hP hD hS ⟨hc.2.up (by omega), h.2⟩ hl
  · exact absurd hc.1 c_1
set_option maxHeartbeats 4000000 in
theorem cs_restore (X : LC p s m args meth c nm ro g b L xs) (hP : va_P g.1 vwCl (cW g ad3 ω ++ cM g ad4 τ) H) (hD : va_D (AL s) (cW g ad3 ω ++ cM g ad4 τ)) (hS : va_S (AL s) s.heap H locs) (hl : lv_has ls 4 [(0, .ref b), (1, .ref ad3.1), (2, .ref ad4.1), (3, .int (nI i))]) (hi : i + 5 ≤ L) (hf : cells ≤ room_1.cells ∧ slots ≤ room_1.slots) (hT : T < 2 ^ 20) (h : RelV ω τ T) (kk : LK p l e s m args below meth c cells slots Q g ad3 ad4 b i T) : W p l e room_1 s m args below meth c H locs cells slots Q (F0 m 633 ls []) := by
  obtain ⟨hC, hK, hE, hX, hbl, hL⟩ := X
  obtain ⟨hx, hb, -⟩ := id hC
  refine lv_aload_n hx hb dL_law_633 rfl (lv_at hl 1 rfl) ?_
  refine l3w hC (k_X3_restore l g ad3 ω (p_hok h)) ci_X3_restore rfl lk_L_87 ⟨Nat.le_of_ble_eq_true rfl, Nat.le_of_ble_eq_true rfl⟩ hP hD hK hE hS rfl hl.1 rfl (Nat.le_of_ble_eq_true rfl) dL_law_634 hf (fun H locs hP hD hS => ?_)
  refine lv_aload_n hx hb dL_law_637 rfl (lv_at hl 2 rfl) ?_
  refine l4w hC (k_X4_restore l g ad4 τ (p_st h)) ci_X4_restore rfl lk_L_90 ⟨Nat.le_of_ble_eq_true rfl, Nat.le_of_ble_eq_true rfl⟩ hP hD hK hE hS rfl hl.1 rfl (Nat.le_of_ble_eq_true rfl) dL_law_638 hf (fun H locs hP hD hS => ?_)
  have hc := c_restore h.1
  refine lv_icmp_eq (tgt := 949) hx hb dL_law_641 (by decide) (fun c_1 => ?_) (fun c_1 => ?_)
  · exact kk _ _ _ _ ls hP hD hS ⟨hc.2.up (by omega), h.2.of (congrArg P_signs v_restore)⟩ hl
  · exact absurd hc.1 c_1
set_option maxHeartbeats 4000000 in
theorem cs_boat (X : LC p s m args meth c nm ro g b L xs) (hP : va_P g.1 vwCl (cW g ad3 ω ++ cM g ad4 τ) H) (hD : va_D (AL s) (cW g ad3 ω ++ cM g ad4 τ)) (hS : va_S (AL s) s.heap H locs) (hl : lv_has ls 4 [(0, .ref b), (1, .ref ad3.1), (2, .ref ad4.1), (3, .int (nI i))]) (hi : i + 5 ≤ L) (hf : cells ≤ room_1.cells ∧ slots ≤ room_1.slots) (hT : T < 2 ^ 20) (h : RelV ω τ T) (kk : LK p l e s m args below meth c cells slots Q g ad3 ad4 b i T) : W p l e room_1 s m args below meth c H locs cells slots Q (F0 m 646 ls []) := by
  obtain ⟨hC, hK, hE, hX, hbl, hL⟩ := X
  obtain ⟨hx, hb, -⟩ := id hC
  refine lv_aload_n hx hb dL_law_646 rfl (lv_at hl 1 rfl) ?_
  refine la (j := 1) hC hX hbl hS hl hL (by omega) (by decide) dL_law_647 dL_law_648 dL_law_649 dL_law_650 dL_law_651 ?_
  refine la (j := 2) hC hX hbl hS hl hL (by omega) (by decide) dL_law_652 dL_law_653 dL_law_654 dL_law_655 dL_law_656 ?_
  refine l3r hC (k_X3_boat l g ad3 ω (xs (i + 1)) (xs (i + 2))) ci_X3_boat rfl lk_L_91 ⟨Nat.le_of_ble_eq_true rfl, Nat.le_of_ble_eq_true rfl⟩ hP hK hE hS rfl hl.1 rfl (Nat.le_of_ble_eq_true rfl) dL_law_657 hf ?_
  refine lv_aload_n hx hb dL_law_660 rfl (lv_at hl 2 rfl) ?_
  refine la (j := 1) hC hX hbl hS hl hL (by omega) (by decide) dL_law_661 dL_law_662 dL_law_663 dL_law_664 dL_law_665 ?_
  refine la (j := 2) hC hX hbl hS hl hL (by omega) (by decide) dL_law_666 dL_law_667 dL_law_668 dL_law_669 dL_law_670 ?_
  refine l4r hC (k_X4_boat l g ad4 τ (xs (i + 1)) (xs (i + 2))) ci_X4_boat rfl lk_L_94 ⟨Nat.le_of_ble_eq_true rfl, Nat.le_of_ble_eq_true rfl⟩ hP hK hE hS rfl hl.1 rfl (Nat.le_of_ble_eq_true rfl) dL_law_671 hf ?_
  refine lv_icmp_eq (tgt := 949) hx hb dL_law_674 (by decide) (fun c_1 => ?_) (fun c_1 => ?_)
  · exact kk _ _ _ _ ls hP hD hS ⟨h.1.up (by omega), h.2⟩ hl
  · exact absurd (t_boat h.1 (xs (i + 1)) (xs (i + 2))) c_1
set_option maxHeartbeats 4000000 in
theorem cs_row (X : LC p s m args meth c nm ro g b L xs) (hP : va_P g.1 vwCl (cW g ad3 ω ++ cM g ad4 τ) H) (hD : va_D (AL s) (cW g ad3 ω ++ cM g ad4 τ)) (hS : va_S (AL s) s.heap H locs) (hl : lv_has ls 4 [(0, .ref b), (1, .ref ad3.1), (2, .ref ad4.1), (3, .int (nI i))]) (hi : i + 5 ≤ L) (hf : cells ≤ room_1.cells ∧ slots ≤ room_1.slots) (hT : T < 2 ^ 20) (h : RelV ω τ T) (kk : LK p l e s m args below meth c cells slots Q g ad3 ad4 b i T) : W p l e room_1 s m args below meth c H locs cells slots Q (F0 m 679 ls []) := by
  obtain ⟨hC, hK, hE, hX, hbl, hL⟩ := X
  obtain ⟨hx, hb, -⟩ := id hC
  refine lv_aload_n hx hb dL_law_679 rfl (lv_at hl 1 rfl) ?_
  refine la (j := 1) hC hX hbl hS hl hL (by omega) (by decide) dL_law_680 dL_law_681 dL_law_682 dL_law_683 dL_law_684 ?_
  refine la (j := 2) hC hX hbl hS hl hL (by omega) (by decide) dL_law_685 dL_law_686 dL_law_687 dL_law_688 dL_law_689 ?_
  refine l3r hC (k_X3_row l g ad3 ω (xs (i + 1)) (xs (i + 2))) ci_X3_row rfl lk_L_95 ⟨Nat.le_of_ble_eq_true rfl, Nat.le_of_ble_eq_true rfl⟩ hP hK hE hS rfl hl.1 rfl (Nat.le_of_ble_eq_true rfl) dL_law_690 hf ?_
  refine lv_aload_n hx hb dL_law_693 rfl (lv_at hl 2 rfl) ?_
  refine la (j := 1) hC hX hbl hS hl hL (by omega) (by decide) dL_law_694 dL_law_695 dL_law_696 dL_law_697 dL_law_698 ?_
  refine la (j := 2) hC hX hbl hS hl hL (by omega) (by decide) dL_law_699 dL_law_700 dL_law_701 dL_law_702 dL_law_703 ?_
  refine l4r hC (k_X4_row l g ad4 τ (xs (i + 1)) (xs (i + 2))) ci_X4_row rfl lk_L_98 ⟨Nat.le_of_ble_eq_true rfl, Nat.le_of_ble_eq_true rfl⟩ hP hK hE hS rfl hl.1 rfl (Nat.le_of_ble_eq_true rfl) dL_law_704 hf ?_
  refine lv_icmp_eq (tgt := 949) hx hb dL_law_707 (by decide) (fun c_1 => ?_) (fun c_1 => ?_)
  · exact kk _ _ _ _ ls hP hD hS ⟨h.1.up (by omega), h.2⟩ hl
  · exact absurd (t_row h.1 (xs (i + 1)) (xs (i + 2))) c_1
set_option maxHeartbeats 4000000 in
theorem cs_stands (X : LC p s m args meth c nm ro g b L xs) (hP : va_P g.1 vwCl (cW g ad3 ω ++ cM g ad4 τ) H) (hD : va_D (AL s) (cW g ad3 ω ++ cM g ad4 τ)) (hS : va_S (AL s) s.heap H locs) (hl : lv_has ls 4 [(0, .ref b), (1, .ref ad3.1), (2, .ref ad4.1), (3, .int (nI i))]) (hi : i + 5 ≤ L) (hf : cells ≤ room_1.cells ∧ slots ≤ room_1.slots) (hT : T < 2 ^ 20) (h : RelV ω τ T) (kk : LK p l e s m args below meth c cells slots Q g ad3 ad4 b i T) : W p l e room_1 s m args below meth c H locs cells slots Q (F0 m 712 ls []) := by
  obtain ⟨hC, hK, hE, hX, hbl, hL⟩ := X
  obtain ⟨hx, hb, -⟩ := id hC
  refine lv_aload_n hx hb dL_law_712 rfl (lv_at hl 1 rfl) ?_
  refine la (j := 1) hC hX hbl hS hl hL (by omega) (by decide) dL_law_713 dL_law_714 dL_law_715 dL_law_716 dL_law_717 ?_
  refine la (j := 2) hC hX hbl hS hl hL (by omega) (by decide) dL_law_718 dL_law_719 dL_law_720 dL_law_721 dL_law_722 ?_
  refine l3r hC (k_X3_stands l g ad3 ω (xs (i + 1)) (xs (i + 2))) ci_X3_stands rfl lk_L_99 ⟨Nat.le_of_ble_eq_true rfl, Nat.le_of_ble_eq_true rfl⟩ hP hK hE hS rfl hl.1 rfl (Nat.le_of_ble_eq_true rfl) dL_law_723 hf ?_
  refine lv_aload_n hx hb dL_law_726 rfl (lv_at hl 2 rfl) ?_
  refine la (j := 1) hC hX hbl hS hl hL (by omega) (by decide) dL_law_727 dL_law_728 dL_law_729 dL_law_730 dL_law_731 ?_
  refine la (j := 2) hC hX hbl hS hl hL (by omega) (by decide) dL_law_732 dL_law_733 dL_law_734 dL_law_735 dL_law_736 ?_
  refine l4r hC (k_X4_stands l g ad4 τ (xs (i + 1)) (xs (i + 2))) ci_X4_stands rfl lk_L_102 ⟨Nat.le_of_ble_eq_true rfl, Nat.le_of_ble_eq_true rfl⟩ hP hK hE hS rfl hl.1 rfl (Nat.le_of_ble_eq_true rfl) dL_law_737 hf ?_
  refine lv_icmp_eq (tgt := 949) hx hb dL_law_740 (by decide) (fun c_1 => ?_) (fun c_1 => ?_)
  · exact kk _ _ _ _ ls hP hD hS ⟨h.1.up (by omega), h.2⟩ hl
  · exact absurd (t_stands h.1 (xs (i + 1)) (xs (i + 2))) c_1
set_option maxHeartbeats 4000000 in
theorem cs_cradle (X : LC p s m args meth c nm ro g b L xs) (hP : va_P g.1 vwCl (cW g ad3 ω ++ cM g ad4 τ) H) (hD : va_D (AL s) (cW g ad3 ω ++ cM g ad4 τ)) (hS : va_S (AL s) s.heap H locs) (hl : lv_has ls 4 [(0, .ref b), (1, .ref ad3.1), (2, .ref ad4.1), (3, .int (nI i))]) (hi : i + 5 ≤ L) (hf : cells ≤ room_1.cells ∧ slots ≤ room_1.slots) (hT : T < 2 ^ 20) (h : RelV ω τ T) (kk : LK p l e s m args below meth c cells slots Q g ad3 ad4 b i T) : W p l e room_1 s m args below meth c H locs cells slots Q (F0 m 745 ls []) := by
  obtain ⟨hC, hK, hE, hX, hbl, hL⟩ := X
  obtain ⟨hx, hb, -⟩ := id hC
  refine lv_aload_n hx hb dL_law_745 rfl (lv_at hl 1 rfl) ?_
  refine la (j := 1) hC hX hbl hS hl hL (by omega) (by decide) dL_law_746 dL_law_747 dL_law_748 dL_law_749 dL_law_750 ?_
  refine la (j := 2) hC hX hbl hS hl hL (by omega) (by decide) dL_law_751 dL_law_752 dL_law_753 dL_law_754 dL_law_755 ?_
  refine l3r hC (k_X3_cradle l g ad3 ω (xs (i + 1)) (xs (i + 2))) ci_X3_cradle rfl lk_L_103 ⟨Nat.le_of_ble_eq_true rfl, Nat.le_of_ble_eq_true rfl⟩ hP hK hE hS rfl hl.1 rfl (Nat.le_of_ble_eq_true rfl) dL_law_756 hf ?_
  refine lv_aload_n hx hb dL_law_759 rfl (lv_at hl 2 rfl) ?_
  refine la (j := 1) hC hX hbl hS hl hL (by omega) (by decide) dL_law_760 dL_law_761 dL_law_762 dL_law_763 dL_law_764 ?_
  refine la (j := 2) hC hX hbl hS hl hL (by omega) (by decide) dL_law_765 dL_law_766 dL_law_767 dL_law_768 dL_law_769 ?_
  refine l4r hC (k_X4_cradle l g ad4 τ (xs (i + 1)) (xs (i + 2))) ci_X4_cradle rfl lk_L_106 ⟨Nat.le_of_ble_eq_true rfl, Nat.le_of_ble_eq_true rfl⟩ hP hK hE hS rfl hl.1 rfl (Nat.le_of_ble_eq_true rfl) dL_law_770 hf ?_
  refine lv_icmp_eq (tgt := 949) hx hb dL_law_773 (by decide) (fun c_1 => ?_) (fun c_1 => ?_)
  · exact kk _ _ _ _ ls hP hD hS ⟨h.1.up (by omega), h.2⟩ hl
  · exact absurd (t_cradle h.1 (xs (i + 1)) (xs (i + 2))) c_1
set_option maxHeartbeats 4000000 in
theorem cs_tide (X : LC p s m args meth c nm ro g b L xs) (hP : va_P g.1 vwCl (cW g ad3 ω ++ cM g ad4 τ) H) (hD : va_D (AL s) (cW g ad3 ω ++ cM g ad4 τ)) (hS : va_S (AL s) s.heap H locs) (hl : lv_has ls 4 [(0, .ref b), (1, .ref ad3.1), (2, .ref ad4.1), (3, .int (nI i))]) (hi : i + 5 ≤ L) (hf : cells ≤ room_1.cells ∧ slots ≤ room_1.slots) (hT : T < 2 ^ 20) (h : RelV ω τ T) (kk : LK p l e s m args below meth c cells slots Q g ad3 ad4 b i T) : W p l e room_1 s m args below meth c H locs cells slots Q (F0 m 778 ls []) := by
  obtain ⟨hC, hK, hE, hX, hbl, hL⟩ := X
  obtain ⟨hx, hb, -⟩ := id hC
  refine lv_aload_n hx hb dL_law_778 rfl (lv_at hl 1 rfl) ?_
  refine la (j := 1) hC hX hbl hS hl hL (by omega) (by decide) dL_law_779 dL_law_780 dL_law_781 dL_law_782 dL_law_783 ?_
  refine l3r hC (k_X3_tide l g ad3 ω (xs (i + 1))) ci_X3_tide rfl lk_L_107 ⟨Nat.le_of_ble_eq_true rfl, Nat.le_of_ble_eq_true rfl⟩ hP hK hE hS rfl hl.1 rfl (Nat.le_of_ble_eq_true rfl) dL_law_784 hf ?_
  refine lv_aload_n hx hb dL_law_787 rfl (lv_at hl 2 rfl) ?_
  refine la (j := 1) hC hX hbl hS hl hL (by omega) (by decide) dL_law_788 dL_law_789 dL_law_790 dL_law_791 dL_law_792 ?_
  refine l4r hC (k_X4_tide l g ad4 τ (xs (i + 1))) ci_X4_tide rfl lk_L_110 ⟨Nat.le_of_ble_eq_true rfl, Nat.le_of_ble_eq_true rfl⟩ hP hK hE hS rfl hl.1 rfl (Nat.le_of_ble_eq_true rfl) dL_law_793 hf ?_
  refine lv_icmp_eq (tgt := 949) hx hb dL_law_796 (by decide) (fun c_1 => ?_) (fun c_1 => ?_)
  · exact kk _ _ _ _ ls hP hD hS ⟨h.1.up (by omega), h.2⟩ hl
  · exact absurd (t_tide h.1 (xs (i + 1))) c_1
set_option maxHeartbeats 4000000 in
theorem cs_liftReason (X : LC p s m args meth c nm ro g b L xs) (hP : va_P g.1 vwCl (cW g ad3 ω ++ cM g ad4 τ) H) (hD : va_D (AL s) (cW g ad3 ω ++ cM g ad4 τ)) (hS : va_S (AL s) s.heap H locs) (hl : lv_has ls 4 [(0, .ref b), (1, .ref ad3.1), (2, .ref ad4.1), (3, .int (nI i))]) (hi : i + 5 ≤ L) (hf : cells ≤ room_1.cells ∧ slots ≤ room_1.slots) (hT : T < 2 ^ 20) (h : RelV ω τ T) (kk : LK p l e s m args below meth c cells slots Q g ad3 ad4 b i T) : W p l e room_1 s m args below meth c H locs cells slots Q (F0 m 801 ls []) := by
  obtain ⟨hC, hK, hE, hX, hbl, hL⟩ := X
  obtain ⟨hx, hb, -⟩ := id hC
  refine lv_aload_n hx hb dL_law_801 rfl (lv_at hl 1 rfl) ?_
  refine la (j := 1) hC hX hbl hS hl hL (by omega) (by decide) dL_law_802 dL_law_803 dL_law_804 dL_law_805 dL_law_806 ?_
  refine la (j := 2) hC hX hbl hS hl hL (by omega) (by decide) dL_law_807 dL_law_808 dL_law_809 dL_law_810 dL_law_811 ?_
  refine l3r hC (k_X3_liftReason l g ad3 ω (xs (i + 1)) (xs (i + 2)) (p_k3 h)) ci_X3_liftReason rfl lk_L_111 ⟨Nat.le_of_ble_eq_true rfl, Nat.le_of_ble_eq_true rfl⟩ hP hK hE hS rfl hl.1 rfl (Nat.le_of_ble_eq_true rfl) dL_law_812 hf ?_
  refine lv_aload_n hx hb dL_law_815 rfl (lv_at hl 2 rfl) ?_
  refine la (j := 1) hC hX hbl hS hl hL (by omega) (by decide) dL_law_816 dL_law_817 dL_law_818 dL_law_819 dL_law_820 ?_
  refine la (j := 2) hC hX hbl hS hl hL (by omega) (by decide) dL_law_821 dL_law_822 dL_law_823 dL_law_824 dL_law_825 ?_
  refine l4r hC (k_X4_liftReason l g ad4 τ (xs (i + 1)) (xs (i + 2)) (p_k4 h)) ci_X4_liftReason rfl lk_L_114 ⟨Nat.le_of_ble_eq_true rfl, Nat.le_of_ble_eq_true rfl⟩ hP hK hE hS rfl hl.1 rfl (Nat.le_of_ble_eq_true rfl) dL_law_826 hf ?_
  refine lv_icmp_eq (tgt := 949) hx hb dL_law_829 (by decide) (fun c_1 => ?_) (fun c_1 => ?_)
  · exact kk _ _ _ _ ls hP hD hS ⟨h.1.up (by omega), h.2⟩ hl
  · exact absurd (t_liftReason h.1 (xs (i + 1)) (xs (i + 2))) c_1
set_option maxHeartbeats 4000000 in
theorem cs_launchReason (X : LC p s m args meth c nm ro g b L xs) (hP : va_P g.1 vwCl (cW g ad3 ω ++ cM g ad4 τ) H) (hD : va_D (AL s) (cW g ad3 ω ++ cM g ad4 τ)) (hS : va_S (AL s) s.heap H locs) (hl : lv_has ls 4 [(0, .ref b), (1, .ref ad3.1), (2, .ref ad4.1), (3, .int (nI i))]) (hi : i + 5 ≤ L) (hf : cells ≤ room_1.cells ∧ slots ≤ room_1.slots) (hT : T < 2 ^ 20) (h : RelV ω τ T) (kk : LK p l e s m args below meth c cells slots Q g ad3 ad4 b i T) : W p l e room_1 s m args below meth c H locs cells slots Q (F0 m 834 ls []) := by
  obtain ⟨hC, hK, hE, hX, hbl, hL⟩ := X
  obtain ⟨hx, hb, -⟩ := id hC
  refine lv_aload_n hx hb dL_law_834 rfl (lv_at hl 1 rfl) ?_
  refine la (j := 1) hC hX hbl hS hl hL (by omega) (by decide) dL_law_835 dL_law_836 dL_law_837 dL_law_838 dL_law_839 ?_
  refine l3r hC (k_X3_launchReason l g ad3 ω (xs (i + 1))) ci_X3_launchReason rfl lk_L_115 ⟨Nat.le_of_ble_eq_true rfl, Nat.le_of_ble_eq_true rfl⟩ hP hK hE hS rfl hl.1 rfl (Nat.le_of_ble_eq_true rfl) dL_law_840 hf ?_
  refine lv_aload_n hx hb dL_law_843 rfl (lv_at hl 2 rfl) ?_
  refine la (j := 1) hC hX hbl hS hl hL (by omega) (by decide) dL_law_844 dL_law_845 dL_law_846 dL_law_847 dL_law_848 ?_
  refine l4r hC (k_X4_launchReason l g ad4 τ (xs (i + 1))) ci_X4_launchReason rfl lk_L_118 ⟨Nat.le_of_ble_eq_true rfl, Nat.le_of_ble_eq_true rfl⟩ hP hK hE hS rfl hl.1 rfl (Nat.le_of_ble_eq_true rfl) dL_law_849 hf ?_
  refine lv_icmp_eq (tgt := 949) hx hb dL_law_852 (by decide) (fun c_1 => ?_) (fun c_1 => ?_)
  · exact kk _ _ _ _ ls hP hD hS ⟨h.1.up (by omega), h.2⟩ hl
  · exact absurd (t_launchReason h.1 (xs (i + 1))) c_1
set_option maxHeartbeats 4000000 in
theorem cs_blockers (X : LC p s m args meth c nm ro g b L xs) (hP : va_P g.1 vwCl (cW g ad3 ω ++ cM g ad4 τ) H) (hD : va_D (AL s) (cW g ad3 ω ++ cM g ad4 τ)) (hS : va_S (AL s) s.heap H locs) (hl : lv_has ls 4 [(0, .ref b), (1, .ref ad3.1), (2, .ref ad4.1), (3, .int (nI i))]) (hi : i + 5 ≤ L) (hf : cells ≤ room_1.cells ∧ slots ≤ room_1.slots) (hT : T < 2 ^ 20) (h : RelV ω τ T) (kk : LK p l e s m args below meth c cells slots Q g ad3 ad4 b i T) : W p l e room_1 s m args below meth c H locs cells slots Q (F0 m 857 ls []) := by
  obtain ⟨hC, hK, hE, hX, hbl, hL⟩ := X
  obtain ⟨hx, hb, -⟩ := id hC
  refine lv_aload_n hx hb dL_law_857 rfl (lv_at hl 1 rfl) ?_
  refine la (j := 1) hC hX hbl hS hl hL (by omega) (by decide) dL_law_858 dL_law_859 dL_law_860 dL_law_861 dL_law_862 ?_
  refine l3r hC (k_X3_blockers l g ad3 ω (xs (i + 1))) ci_X3_blockers rfl lk_L_119 ⟨Nat.le_of_ble_eq_true rfl, Nat.le_of_ble_eq_true rfl⟩ hP hK hE hS rfl hl.1 rfl (Nat.le_of_ble_eq_true rfl) dL_law_863 hf ?_
  refine lv_aload_n hx hb dL_law_866 rfl (lv_at hl 2 rfl) ?_
  refine la (j := 1) hC hX hbl hS hl hL (by omega) (by decide) dL_law_867 dL_law_868 dL_law_869 dL_law_870 dL_law_871 ?_
  refine l4r hC (k_X4_blockers l g ad4 τ (xs (i + 1))) ci_X4_blockers rfl lk_L_122 ⟨Nat.le_of_ble_eq_true rfl, Nat.le_of_ble_eq_true rfl⟩ hP hK hE hS rfl hl.1 rfl (Nat.le_of_ble_eq_true rfl) dL_law_872 hf ?_
  refine lv_icmp_eq (tgt := 949) hx hb dL_law_875 (by decide) (fun c_1 => ?_) (fun c_1 => ?_)
  · exact kk _ _ _ _ ls hP hD hS ⟨h.1.up (by omega), h.2⟩ hl
  · exact absurd (t_blockers h.1 (xs (i + 1))) c_1
set_option maxHeartbeats 4000000 in
theorem cs_launchDay (X : LC p s m args meth c nm ro g b L xs) (hP : va_P g.1 vwCl (cW g ad3 ω ++ cM g ad4 τ) H) (hD : va_D (AL s) (cW g ad3 ω ++ cM g ad4 τ)) (hS : va_S (AL s) s.heap H locs) (hl : lv_has ls 4 [(0, .ref b), (1, .ref ad3.1), (2, .ref ad4.1), (3, .int (nI i))]) (hi : i + 5 ≤ L) (hf : cells ≤ room_1.cells ∧ slots ≤ room_1.slots) (hT : T < 2 ^ 20) (h : RelV ω τ T) (kk : LK p l e s m args below meth c cells slots Q g ad3 ad4 b i T) : W p l e room_1 s m args below meth c H locs cells slots Q (F0 m 880 ls []) := by
  obtain ⟨hC, hK, hE, hX, hbl, hL⟩ := X
  obtain ⟨hx, hb, -⟩ := id hC
  refine lv_aload_n hx hb dL_law_880 rfl (lv_at hl 1 rfl) ?_
  refine la (j := 1) hC hX hbl hS hl hL (by omega) (by decide) dL_law_881 dL_law_882 dL_law_883 dL_law_884 dL_law_885 ?_
  refine l3r hC (k_X3_launchDay l g ad3 ω (xs (i + 1)) (p_w3 h)) ci_X3_launchDay rfl lk_L_123 ⟨Nat.le_of_ble_eq_true rfl, Nat.le_of_ble_eq_true rfl⟩ hP hK hE hS rfl hl.1 rfl (Nat.le_of_ble_eq_true rfl) dL_law_886 hf ?_
  refine lv_aload_n hx hb dL_law_889 rfl (lv_at hl 2 rfl) ?_
  refine la (j := 1) hC hX hbl hS hl hL (by omega) (by decide) dL_law_890 dL_law_891 dL_law_892 dL_law_893 dL_law_894 ?_
  refine l4r hC (k_X4_launchDay l g ad4 τ (xs (i + 1))) ci_X4_launchDay rfl lk_L_126 ⟨Nat.le_of_ble_eq_true rfl, Nat.le_of_ble_eq_true rfl⟩ hP hK hE hS rfl hl.1 rfl (Nat.le_of_ble_eq_true rfl) dL_law_895 hf ?_
  refine lv_icmp_eq (tgt := 949) hx hb dL_law_898 (by decide) (fun c_1 => ?_) (fun c_1 => ?_)
  · exact kk _ _ _ _ ls hP hD hS ⟨h.1.up (by omega), h.2⟩ hl
  · exact absurd (t_launchDay h.1 (xs (i + 1))) c_1
set_option maxHeartbeats 4000000 in
theorem cs_bestRow (X : LC p s m args meth c nm ro g b L xs) (hP : va_P g.1 vwCl (cW g ad3 ω ++ cM g ad4 τ) H) (hD : va_D (AL s) (cW g ad3 ω ++ cM g ad4 τ)) (hS : va_S (AL s) s.heap H locs) (hl : lv_has ls 4 [(0, .ref b), (1, .ref ad3.1), (2, .ref ad4.1), (3, .int (nI i))]) (hi : i + 5 ≤ L) (hf : cells ≤ room_1.cells ∧ slots ≤ room_1.slots) (hT : T < 2 ^ 20) (h : RelV ω τ T) (kk : LK p l e s m args below meth c cells slots Q g ad3 ad4 b i T) : W p l e room_1 s m args below meth c H locs cells slots Q (F0 m 903 ls []) := by
  obtain ⟨hC, hK, hE, hX, hbl, hL⟩ := X
  obtain ⟨hx, hb, -⟩ := id hC
  refine lv_aload_n hx hb dL_law_903 rfl (lv_at hl 1 rfl) ?_
  refine la (j := 1) hC hX hbl hS hl hL (by omega) (by decide) dL_law_904 dL_law_905 dL_law_906 dL_law_907 dL_law_908 ?_
  refine l3r hC (k_X3_bestRow l g ad3 ω (xs (i + 1))) ci_X3_bestRow rfl lk_L_127 ⟨Nat.le_of_ble_eq_true rfl, Nat.le_of_ble_eq_true rfl⟩ hP hK hE hS rfl hl.1 rfl (Nat.le_of_ble_eq_true rfl) dL_law_909 hf ?_
  refine lv_aload_n hx hb dL_law_912 rfl (lv_at hl 2 rfl) ?_
  refine la (j := 1) hC hX hbl hS hl hL (by omega) (by decide) dL_law_913 dL_law_914 dL_law_915 dL_law_916 dL_law_917 ?_
  refine l4r hC (k_X4_bestRow l g ad4 τ (xs (i + 1))) ci_X4_bestRow rfl lk_L_130 ⟨Nat.le_of_ble_eq_true rfl, Nat.le_of_ble_eq_true rfl⟩ hP hK hE hS rfl hl.1 rfl (Nat.le_of_ble_eq_true rfl) dL_law_918 hf ?_
  refine lv_icmp_eq (tgt := 949) hx hb dL_law_921 (by decide) (fun c_1 => ?_) (fun c_1 => ?_)
  · exact kk _ _ _ _ ls hP hD hS ⟨h.1.up (by omega), h.2⟩ hl
  · exact absurd (t_bestRow h.1 (xs (i + 1))) c_1
set_option maxHeartbeats 4000000 in
theorem cs_count (X : LC p s m args meth c nm ro g b L xs) (hP : va_P g.1 vwCl (cW g ad3 ω ++ cM g ad4 τ) H) (hD : va_D (AL s) (cW g ad3 ω ++ cM g ad4 τ)) (hS : va_S (AL s) s.heap H locs) (hl : lv_has ls 4 [(0, .ref b), (1, .ref ad3.1), (2, .ref ad4.1), (3, .int (nI i))]) (hi : i + 5 ≤ L) (hf : cells ≤ room_1.cells ∧ slots ≤ room_1.slots) (hT : T < 2 ^ 20) (h : RelV ω τ T) (kk : LK p l e s m args below meth c cells slots Q g ad3 ad4 b i T) : W p l e room_1 s m args below meth c H locs cells slots Q (F0 m 926 ls []) := by
  obtain ⟨hC, hK, hE, hX, hbl, hL⟩ := X
  obtain ⟨hx, hb, -⟩ := id hC
  refine lv_aload_n hx hb dL_law_926 rfl (lv_at hl 1 rfl) ?_
  refine la (j := 1) hC hX hbl hS hl hL (by omega) (by decide) dL_law_927 dL_law_928 dL_law_929 dL_law_930 dL_law_931 ?_
  refine l3r hC (k_X3_count l g ad3 ω (xs (i + 1))) ci_X3_count rfl lk_L_131 ⟨Nat.le_of_ble_eq_true rfl, Nat.le_of_ble_eq_true rfl⟩ hP hK hE hS rfl hl.1 rfl (Nat.le_of_ble_eq_true rfl) dL_law_932 hf ?_
  refine lv_aload_n hx hb dL_law_935 rfl (lv_at hl 2 rfl) ?_
  refine la (j := 1) hC hX hbl hS hl hL (by omega) (by decide) dL_law_936 dL_law_937 dL_law_938 dL_law_939 dL_law_940 ?_
  refine l4r hC (k_X4_count l g ad4 τ (xs (i + 1))) ci_X4_count rfl lk_L_134 ⟨Nat.le_of_ble_eq_true rfl, Nat.le_of_ble_eq_true rfl⟩ hP hK hE hS rfl hl.1 rfl (Nat.le_of_ble_eq_true rfl) dL_law_941 hf ?_
  refine lv_icmp_eq (tgt := 949) hx hb dL_law_944 (by decide) (fun c_1 => ?_) (fun c_1 => ?_)
  · exact kk _ _ _ _ ls hP hD hS ⟨h.1.up (by omega), h.2⟩ hl
  · exact absurd (t_count h.1 (xs (i + 1))) c_1
end CS
