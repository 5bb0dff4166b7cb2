/-! THE LAW'S BODY: its cases -/
section Cases
variable {p : Program} {l : Launch} {e : Env} {s : State} {m : MethodId} {args : Array Value} {below : List Frame} {meth : Method} {c : Code} {cells slots : Nat} {Q : State → Prop} {hh : List (Nat × Nat × Nat × Nat)} {w : Wo} {b L : Nat} {xs : Nat → Int32} {M : Mem} {G : Lng} {j : Nat}
/-- what stands behind a case -/
def KK (p : Program) (l : Launch) (e : Env) (s : State) (m : MethodId) (args : Array Value) (below : List Frame) (meth : Method) (c : Code) (cells slots : Nat) (Q : State → Prop) (w : Wo) (b j : Nat) : Prop :=
  ∀ (M : Mem) (G : Lng) (a6 a7 : Option Value), INV M → G (2, 0) = G (3, 0) → VE p l e room_1 s m args below meth c (cells + 16) (slots + 96) Q 8 w 1935 (lvL w b (nI (8 * j)) a6 a7) [] (ev w M G)
theorem u_mm (y : UInt32) : y % 65536 % 65536 = y % 65536 := by
  apply UInt32.toNat_inj.mp
  simp [UInt32.toNat_mod]
theorem chch (x : Int32) : ch (ch x) = ch x := by
  unfold ch
  simp [u_mm]
theorem u_nI (u : UInt32) : u.toInt32 = nI u.toNat := by
  apply Int32.toBitVec_inj.mp
  unfold nI
  simp
theorem fit_ch (x : Int32) : fits .char (.int (ch x)) = true := by
  show (decide (0 ≤ ch x) && decide (ch x ≤ 65535)) = true
  have h1 : ch x = nI (x.toUInt32 % 65536).toNat := u_nI _
  have h2 : (x.toUInt32 % 65536).toNat < 65536 := by
    rw [UInt32.toNat_mod]
    exact Nat.mod_lt _ (by decide)
  rw [h1]
  have h3 : (0 : Int32) ≤ nI (x.toUInt32 % 65536).toNat := (nI_leI (show 0 < 2 ^ 31 by omega) (by omega)).mpr (Nat.zero_le _)
  have h4 : nI (x.toUInt32 % 65536).toNat ≤ (65535 : Int32) := (nI_leI (by omega) (show 65535 < 2 ^ 31 by omega)).mpr (by omega)
  rw [decide_eq_true h3, decide_eq_true h4]
  rfl
theorem nar_ch (x : Int32) : narrow .char (.int (ch x)) = .int (ch x) := by
  show Value.int (ch (ch x)) = _
  rw [chch]
theorem vp_ch (x : Int32) : vp_nar .char (ch x) = ch x := chch x
set_option maxHeartbeats 4000000 in
set_option maxRecDepth 100000 in
theorem lc_install (hX : LX p l s m args meth c hh w b L xs) (hI : INV M) (hG : G (2, 0) = G (3, 0)) (hj : 8 * j + 7 < L) (hcs : cells + 16 ≤ room_1.cells) (hss : slots + 96 ≤ room_1.slots) (K : KK p l e s m args below meth c cells slots Q w b j) : VE p l e room_1 s m args below meth c cells slots Q 8 w 176 (lvL w b (nI (8 * j)) none none) [] (ev w M G) := by
  obtain ⟨mn, en, hI⟩ := hI
  have hw : WK w := hX.2.1
  have hnt : l.stackTraces = false := hX.2.2.1
  refine r_aload_n hX.1 dL_law_176 (i := 1) rfl rfl ?_
  refine ld hX (k := 1) (q := 181) (by omega) dL_law_177 dL_law_178 (fun _ h => r_iconst hX.1 dL_law_180 (v := nI 1) (by decide) h) dL_law_181 dL_law_182 ?_
  refine ld hX (k := 2) (q := 187) (by omega) dL_law_183 dL_law_184 (fun _ h => r_iconst hX.1 dL_law_186 (v := nI 2) (by decide) h) dL_law_187 dL_law_188 ?_
  refine ld hX (k := 3) (q := 193) (by omega) dL_law_189 dL_law_190 (fun _ h => r_iconst hX.1 dL_law_192 (v := nI 3) (by decide) h) dL_law_193 dL_law_194 ?_
  refine ld hX (k := 4) (q := 199) (by omega) dL_law_195 dL_law_196 (fun _ h => r_iconst hX.1 dL_law_198 (v := nI 4) (by decide) h) dL_law_199 dL_law_200 ?_
  refine ld hX (k := 5) (q := 205) (by omega) dL_law_201 dL_law_202 (fun _ h => r_iconst hX.1 dL_law_204 (v := nI 5) (by decide) h) dL_law_205 dL_law_206 ?_
  refine ld hX (k := 6) (q := 212) (by omega) dL_law_207 dL_law_208 (fun _ h => r_bipush hX.1 dL_law_210 (v := nI 6) (by decide) h) dL_law_212 dL_law_213 ?_
  refine ld hX (k := 7) (q := 219) (by omega) dL_law_214 dL_law_215 (fun _ h => r_bipush hX.1 dL_law_217 (v := nI 7) (by decide) h) dL_law_219 dL_law_220 ?_
  refine r_aload_n hX.1 dL_law_221 (i := 3) rfl rfl ?_
  rcases ag_install (G := G) (p := (xs (8 * j + 1))) (v := (xs (8 * j + 2))) (e := (xs (8 * j + 3))) (d := (xs (8 * j + 4))) (u := (xs (8 * j + 5))) (c := (xs (8 * j + 6))) (q := (xs (8 * j + 7))) hI with ⟨X9, k, M1, hXk, ho, hn⟩ | ⟨v, M1, ho, hn⟩
  · obtain ⟨v, M2, hn1, hn2, hD1, hI2⟩ := hn G
    refine r_callSX hX.1 (c_L_install (x1 := (xs (8 * j + 1))) (x2 := (xs (8 * j + 2))) (x3 := (xs (8 * j + 3))) (x4 := (xs (8 * j + 4))) (x5 := (xs (8 * j + 5))) (x6 := (xs (8 * j + 6))) (x7 := (xs (8 * j + 7))) hnt hw hI.DI (.inl ⟨X9, k, M1, G, hXk, ho, rfl⟩)) mx_L_install ms_L_install ml_L_108 rfl rfl (Nat.le_of_ble_eq_true rfl) (Nat.le_of_ble_eq_true rfl) (Nat.le_of_ble_eq_true rfl) (by omega) (by omega) dL_law_222 (ko1 ?_)
    refine r_istore hX.1 dL_law_225 (by decide) (lv2 := lvL w b (nI (8 * j)) (some (.int (nI (k + 1)))) none) rfl ?_
    refine r_aload_n hX.1 dL_law_227 (i := 2) rfl rfl ?_
    refine ld hX (k := 1) (q := 232) (by omega) dL_law_228 dL_law_229 (fun _ h => r_iconst hX.1 dL_law_231 (v := nI 1) (by decide) h) dL_law_232 dL_law_233 ?_
    refine ld hX (k := 2) (q := 238) (by omega) dL_law_234 dL_law_235 (fun _ h => r_iconst hX.1 dL_law_237 (v := nI 2) (by decide) h) dL_law_238 dL_law_239 ?_
    refine ld hX (k := 3) (q := 244) (by omega) dL_law_240 dL_law_241 (fun _ h => r_iconst hX.1 dL_law_243 (v := nI 3) (by decide) h) dL_law_244 dL_law_245 ?_
    refine ld hX (k := 4) (q := 250) (by omega) dL_law_246 dL_law_247 (fun _ h => r_iconst hX.1 dL_law_249 (v := nI 4) (by decide) h) dL_law_250 dL_law_251 ?_
    refine ld hX (k := 5) (q := 256) (by omega) dL_law_252 dL_law_253 (fun _ h => r_iconst hX.1 dL_law_255 (v := nI 5) (by decide) h) dL_law_256 dL_law_257 ?_
    refine ld hX (k := 6) (q := 263) (by omega) dL_law_258 dL_law_259 (fun _ h => r_bipush hX.1 dL_law_261 (v := nI 6) (by decide) h) dL_law_263 dL_law_264 ?_
    refine ld hX (k := 7) (q := 270) (by omega) dL_law_265 dL_law_266 (fun _ h => r_bipush hX.1 dL_law_268 (v := nI 7) (by decide) h) dL_law_270 dL_law_271 ?_
    have h3 := c_X3_install (l := l) (w := w) (M := M1) (G := G) (p9 := (xs (8 * j + 1))) (v9 := (xs (8 * j + 2))) (e9 := (xs (8 * j + 3))) (d9 := (xs (8 * j + 4))) (c9 := (xs (8 * j + 5))) (u9 := (xs (8 * j + 6))) (q9 := (xs (8 * j + 7))) hnt hw hD1
    try dsimp only at hn1
    rw [hn1] at h3
    refine r_callV hX.1 h3 mw_X3_install kc3 mi_X3_install (hw.2 _ _ (by decide)) ev3 ml_L_113 rfl rfl (Nat.le_of_ble_eq_true rfl) (Nat.le_of_ble_eq_true rfl) (Nat.le_of_ble_eq_true rfl) (by omega) (by omega) dL_law_272 (ko1 ?_)
    exact lw_tail hX (p0 := 275) (off := 1630) (kv := nI (k + 1)) hn2 (fun z => absurd z (nI_ne0 (by omega) (by have := (List.getElem?_eq_some_iff.mp hXk).1; simp at this; omega))) (by omega) (by omega) dL_law_275 dL_law_277 dL_law_278 dL_law_281 dL_law_283 dL_law_288 dL_law_290 dL_law_293 dL_law_294 dL_law_295 dL_law_296 dL_law_298 dL_law_299 dL_law_300 dL_law_305 (by decide) (fun a7 => VE_widen (by omega) (by omega) (K M2 G _ a7 hI2 hG))
  · obtain ⟨M2, hn1, hn2, hD1, hI2⟩ := hn (gs G (40, 0) v.toInt64)
    refine r_callSX hX.1 (c_L_install (x1 := (xs (8 * j + 1))) (x2 := (xs (8 * j + 2))) (x3 := (xs (8 * j + 3))) (x4 := (xs (8 * j + 4))) (x5 := (xs (8 * j + 5))) (x6 := (xs (8 * j + 6))) (x7 := (xs (8 * j + 7))) hnt hw hI.DI (.inr ⟨v, M1, G, ho, rfl⟩)) mx_L_install ms_L_install ml_L_108 rfl rfl (Nat.le_of_ble_eq_true rfl) (Nat.le_of_ble_eq_true rfl) (Nat.le_of_ble_eq_true rfl) (by omega) (by omega) dL_law_222 (ko1 ?_)
    refine r_istore hX.1 dL_law_225 (by decide) (lv2 := lvL w b (nI (8 * j)) (some (.int (nI 0))) none) rfl ?_
    refine r_aload_n hX.1 dL_law_227 (i := 2) rfl rfl ?_
    refine ld hX (k := 1) (q := 232) (by omega) dL_law_228 dL_law_229 (fun _ h => r_iconst hX.1 dL_law_231 (v := nI 1) (by decide) h) dL_law_232 dL_law_233 ?_
    refine ld hX (k := 2) (q := 238) (by omega) dL_law_234 dL_law_235 (fun _ h => r_iconst hX.1 dL_law_237 (v := nI 2) (by decide) h) dL_law_238 dL_law_239 ?_
    refine ld hX (k := 3) (q := 244) (by omega) dL_law_240 dL_law_241 (fun _ h => r_iconst hX.1 dL_law_243 (v := nI 3) (by decide) h) dL_law_244 dL_law_245 ?_
    refine ld hX (k := 4) (q := 250) (by omega) dL_law_246 dL_law_247 (fun _ h => r_iconst hX.1 dL_law_249 (v := nI 4) (by decide) h) dL_law_250 dL_law_251 ?_
    refine ld hX (k := 5) (q := 256) (by omega) dL_law_252 dL_law_253 (fun _ h => r_iconst hX.1 dL_law_255 (v := nI 5) (by decide) h) dL_law_256 dL_law_257 ?_
    refine ld hX (k := 6) (q := 263) (by omega) dL_law_258 dL_law_259 (fun _ h => r_bipush hX.1 dL_law_261 (v := nI 6) (by decide) h) dL_law_263 dL_law_264 ?_
    refine ld hX (k := 7) (q := 270) (by omega) dL_law_265 dL_law_266 (fun _ h => r_bipush hX.1 dL_law_268 (v := nI 7) (by decide) h) dL_law_270 dL_law_271 ?_
    have h3 := c_X3_install (l := l) (w := w) (M := M1) (G := (gs G (40, 0) v.toInt64)) (p9 := (xs (8 * j + 1))) (v9 := (xs (8 * j + 2))) (e9 := (xs (8 * j + 3))) (d9 := (xs (8 * j + 4))) (c9 := (xs (8 * j + 5))) (u9 := (xs (8 * j + 6))) (q9 := (xs (8 * j + 7))) hnt hw hD1
    try dsimp only at hn1
    rw [hn1] at h3
    refine r_callV hX.1 h3 mw_X3_install kc3 mi_X3_install (hw.2 _ _ (by decide)) ev3 ml_L_113 rfl rfl (Nat.le_of_ble_eq_true rfl) (Nat.le_of_ble_eq_true rfl) (Nat.le_of_ble_eq_true rfl) (by omega) (by omega) dL_law_272 (ko1 ?_)
    exact lw_tail hX (p0 := 275) (off := 1630) (kv := nI 0) hn2 (fun _ => by simp [gs]) (by omega) (by omega) dL_law_275 dL_law_277 dL_law_278 dL_law_281 dL_law_283 dL_law_288 dL_law_290 dL_law_293 dL_law_294 dL_law_295 dL_law_296 dL_law_298 dL_law_299 dL_law_300 dL_law_305 (by decide) (fun a7 => VE_widen (by omega) (by omega) (K M2 (gs G (40, 0) v.toInt64) _ a7 hI2 (by simp [gs, hG])))
set_option maxHeartbeats 4000000 in
set_option maxRecDepth 100000 in
theorem lc_retire (hX : LX p l s m args meth c hh w b L xs) (hI : INV M) (hG : G (2, 0) = G (3, 0)) (hj : 8 * j + 7 < L) (hcs : cells + 16 ≤ room_1.cells) (hss : slots + 96 ≤ room_1.slots) (K : KK p l e s m args below meth c cells slots Q w b j) : VE p l e room_1 s m args below meth c cells slots Q 8 w 308 (lvL w b (nI (8 * j)) none none) [] (ev w M G) := by
  obtain ⟨mn, en, hI⟩ := hI
  have hw : WK w := hX.2.1
  have hnt : l.stackTraces = false := hX.2.2.1
  refine r_aload_n hX.1 dL_law_308 (i := 1) rfl rfl ?_
  refine ld hX (k := 1) (q := 313) (by omega) dL_law_309 dL_law_310 (fun _ h => r_iconst hX.1 dL_law_312 (v := nI 1) (by decide) h) dL_law_313 dL_law_314 ?_
  refine r_aload_n hX.1 dL_law_315 (i := 3) rfl rfl ?_
  rcases ag_retire (G := G) (x := (xs (8 * j + 1))) hI with ⟨X9, k, M1, hXk, ho, hn⟩ | ⟨v, M1, ho, hn⟩
  · obtain ⟨v, M2, hn1, hn2, hD1, hI2⟩ := hn G
    refine r_callSX hX.1 (c_L_retire (x1 := (xs (8 * j + 1))) hnt hw hI.DI (.inl ⟨X9, k, M1, G, hXk, ho, rfl⟩)) mx_L_retire ms_L_retire ml_L_117 rfl rfl (Nat.le_of_ble_eq_true rfl) (Nat.le_of_ble_eq_true rfl) (Nat.le_of_ble_eq_true rfl) (by omega) (by omega) dL_law_316 (ko1 ?_)
    refine r_istore hX.1 dL_law_319 (by decide) (lv2 := lvL w b (nI (8 * j)) (some (.int (nI (k + 1)))) none) rfl ?_
    refine r_aload_n hX.1 dL_law_321 (i := 2) rfl rfl ?_
    refine ld hX (k := 1) (q := 326) (by omega) dL_law_322 dL_law_323 (fun _ h => r_iconst hX.1 dL_law_325 (v := nI 1) (by decide) h) dL_law_326 dL_law_327 ?_
    have h3 := c_X3_retire (l := l) (w := w) (M := M1) (G := G) (x := (xs (8 * j + 1))) hnt hw hD1
    try dsimp only at hn1
    rw [hn1] at h3
    refine r_callV hX.1 h3 mw_X3_retire kc3 mi_X3_retire (hw.2 _ _ (by decide)) ev3 ml_L_120 rfl rfl (Nat.le_of_ble_eq_true rfl) (Nat.le_of_ble_eq_true rfl) (Nat.le_of_ble_eq_true rfl) (by omega) (by omega) dL_law_328 (ko1 ?_)
    exact lw_tail hX (p0 := 331) (off := 1574) (kv := nI (k + 1)) hn2 (fun z => absurd z (nI_ne0 (by omega) (by have := (List.getElem?_eq_some_iff.mp hXk).1; simp at this; omega))) (by omega) (by omega) dL_law_331 dL_law_333 dL_law_334 dL_law_337 dL_law_339 dL_law_344 dL_law_346 dL_law_349 dL_law_350 dL_law_351 dL_law_352 dL_law_354 dL_law_355 dL_law_356 dL_law_361 (by decide) (fun a7 => VE_widen (by omega) (by omega) (K M2 G _ a7 hI2 hG))
  · obtain ⟨M2, hn1, hn2, hD1, hI2⟩ := hn (gs G (40, 0) v.toInt64)
    refine r_callSX hX.1 (c_L_retire (x1 := (xs (8 * j + 1))) hnt hw hI.DI (.inr ⟨v, M1, G, ho, rfl⟩)) mx_L_retire ms_L_retire ml_L_117 rfl rfl (Nat.le_of_ble_eq_true rfl) (Nat.le_of_ble_eq_true rfl) (Nat.le_of_ble_eq_true rfl) (by omega) (by omega) dL_law_316 (ko1 ?_)
    refine r_istore hX.1 dL_law_319 (by decide) (lv2 := lvL w b (nI (8 * j)) (some (.int (nI 0))) none) rfl ?_
    refine r_aload_n hX.1 dL_law_321 (i := 2) rfl rfl ?_
    refine ld hX (k := 1) (q := 326) (by omega) dL_law_322 dL_law_323 (fun _ h => r_iconst hX.1 dL_law_325 (v := nI 1) (by decide) h) dL_law_326 dL_law_327 ?_
    have h3 := c_X3_retire (l := l) (w := w) (M := M1) (G := (gs G (40, 0) v.toInt64)) (x := (xs (8 * j + 1))) hnt hw hD1
    try dsimp only at hn1
    rw [hn1] at h3
    refine r_callV hX.1 h3 mw_X3_retire kc3 mi_X3_retire (hw.2 _ _ (by decide)) ev3 ml_L_120 rfl rfl (Nat.le_of_ble_eq_true rfl) (Nat.le_of_ble_eq_true rfl) (Nat.le_of_ble_eq_true rfl) (by omega) (by omega) dL_law_328 (ko1 ?_)
    exact lw_tail hX (p0 := 331) (off := 1574) (kv := nI 0) hn2 (fun _ => by simp [gs]) (by omega) (by omega) dL_law_331 dL_law_333 dL_law_334 dL_law_337 dL_law_339 dL_law_344 dL_law_346 dL_law_349 dL_law_350 dL_law_351 dL_law_352 dL_law_354 dL_law_355 dL_law_356 dL_law_361 (by decide) (fun a7 => VE_widen (by omega) (by omega) (K M2 (gs G (40, 0) v.toInt64) _ a7 hI2 (by simp [gs, hG])))
set_option maxHeartbeats 4000000 in
set_option maxRecDepth 100000 in
theorem lc_moveTo (hX : LX p l s m args meth c hh w b L xs) (hI : INV M) (hG : G (2, 0) = G (3, 0)) (hj : 8 * j + 7 < L) (hcs : cells + 16 ≤ room_1.cells) (hss : slots + 96 ≤ room_1.slots) (K : KK p l e s m args below meth c cells slots Q w b j) : VE p l e room_1 s m args below meth c cells slots Q 8 w 364 (lvL w b (nI (8 * j)) none none) [] (ev w M G) := by
  obtain ⟨mn, en, hI⟩ := hI
  have hw : WK w := hX.2.1
  have hnt : l.stackTraces = false := hX.2.2.1
  refine r_aload_n hX.1 dL_law_364 (i := 1) rfl rfl ?_
  refine ld hX (k := 1) (q := 369) (by omega) dL_law_365 dL_law_366 (fun _ h => r_iconst hX.1 dL_law_368 (v := nI 1) (by decide) h) dL_law_369 dL_law_370 ?_
  refine ld hX (k := 2) (q := 375) (by omega) dL_law_371 dL_law_372 (fun _ h => r_iconst hX.1 dL_law_374 (v := nI 2) (by decide) h) dL_law_375 dL_law_376 ?_
  refine ld hX (k := 3) (q := 381) (by omega) dL_law_377 dL_law_378 (fun _ h => r_iconst hX.1 dL_law_380 (v := nI 3) (by decide) h) dL_law_381 dL_law_382 ?_
  refine r_aload_n hX.1 dL_law_383 (i := 3) rfl rfl ?_
  rcases ag_moveTo (G := G) (x := (xs (8 * j + 1))) (d := (xs (8 * j + 2))) (u := (xs (8 * j + 3))) hI with ⟨X9, k, M1, hXk, ho, hn⟩ | ⟨v, M1, ho, hn⟩
  · obtain ⟨v, M2, hn1, hn2, hD1, hI2⟩ := hn G
    refine r_callSX hX.1 (c_L_moveTo (x1 := (xs (8 * j + 1))) (x2 := (xs (8 * j + 2))) (x3 := (xs (8 * j + 3))) hnt hw hI.DI (.inl ⟨X9, k, M1, G, hXk, ho, rfl⟩)) mx_L_moveTo ms_L_moveTo ml_L_121 rfl rfl (Nat.le_of_ble_eq_true rfl) (Nat.le_of_ble_eq_true rfl) (Nat.le_of_ble_eq_true rfl) (by omega) (by omega) dL_law_384 (ko1 ?_)
    refine r_istore hX.1 dL_law_387 (by decide) (lv2 := lvL w b (nI (8 * j)) (some (.int (nI (k + 1)))) none) rfl ?_
    refine r_aload_n hX.1 dL_law_389 (i := 2) rfl rfl ?_
    refine ld hX (k := 1) (q := 394) (by omega) dL_law_390 dL_law_391 (fun _ h => r_iconst hX.1 dL_law_393 (v := nI 1) (by decide) h) dL_law_394 dL_law_395 ?_
    refine ld hX (k := 2) (q := 400) (by omega) dL_law_396 dL_law_397 (fun _ h => r_iconst hX.1 dL_law_399 (v := nI 2) (by decide) h) dL_law_400 dL_law_401 ?_
    refine ld hX (k := 3) (q := 406) (by omega) dL_law_402 dL_law_403 (fun _ h => r_iconst hX.1 dL_law_405 (v := nI 3) (by decide) h) dL_law_406 dL_law_407 ?_
    have h3 := c_X3_moveTo (l := l) (w := w) (M := M1) (G := G) (x := (xs (8 * j + 1))) (d9 := (xs (8 * j + 2))) (u9 := (xs (8 * j + 3))) hnt hw hD1
    try dsimp only at hn1
    rw [hn1] at h3
    refine r_callV hX.1 h3 mw_X3_moveTo kc3 mi_X3_moveTo (hw.2 _ _ (by decide)) ev3 ml_L_124 rfl rfl (Nat.le_of_ble_eq_true rfl) (Nat.le_of_ble_eq_true rfl) (Nat.le_of_ble_eq_true rfl) (by omega) (by omega) dL_law_408 (ko1 ?_)
    exact lw_tail hX (p0 := 411) (off := 1494) (kv := nI (k + 1)) hn2 (fun z => absurd z (nI_ne0 (by omega) (by have := (List.getElem?_eq_some_iff.mp hXk).1; simp at this; omega))) (by omega) (by omega) dL_law_411 dL_law_413 dL_law_414 dL_law_417 dL_law_419 dL_law_424 dL_law_426 dL_law_429 dL_law_430 dL_law_431 dL_law_432 dL_law_434 dL_law_435 dL_law_436 dL_law_441 (by decide) (fun a7 => VE_widen (by omega) (by omega) (K M2 G _ a7 hI2 hG))
  · obtain ⟨M2, hn1, hn2, hD1, hI2⟩ := hn (gs G (40, 0) v.toInt64)
    refine r_callSX hX.1 (c_L_moveTo (x1 := (xs (8 * j + 1))) (x2 := (xs (8 * j + 2))) (x3 := (xs (8 * j + 3))) hnt hw hI.DI (.inr ⟨v, M1, G, ho, rfl⟩)) mx_L_moveTo ms_L_moveTo ml_L_121 rfl rfl (Nat.le_of_ble_eq_true rfl) (Nat.le_of_ble_eq_true rfl) (Nat.le_of_ble_eq_true rfl) (by omega) (by omega) dL_law_384 (ko1 ?_)
    refine r_istore hX.1 dL_law_387 (by decide) (lv2 := lvL w b (nI (8 * j)) (some (.int (nI 0))) none) rfl ?_
    refine r_aload_n hX.1 dL_law_389 (i := 2) rfl rfl ?_
    refine ld hX (k := 1) (q := 394) (by omega) dL_law_390 dL_law_391 (fun _ h => r_iconst hX.1 dL_law_393 (v := nI 1) (by decide) h) dL_law_394 dL_law_395 ?_
    refine ld hX (k := 2) (q := 400) (by omega) dL_law_396 dL_law_397 (fun _ h => r_iconst hX.1 dL_law_399 (v := nI 2) (by decide) h) dL_law_400 dL_law_401 ?_
    refine ld hX (k := 3) (q := 406) (by omega) dL_law_402 dL_law_403 (fun _ h => r_iconst hX.1 dL_law_405 (v := nI 3) (by decide) h) dL_law_406 dL_law_407 ?_
    have h3 := c_X3_moveTo (l := l) (w := w) (M := M1) (G := (gs G (40, 0) v.toInt64)) (x := (xs (8 * j + 1))) (d9 := (xs (8 * j + 2))) (u9 := (xs (8 * j + 3))) hnt hw hD1
    try dsimp only at hn1
    rw [hn1] at h3
    refine r_callV hX.1 h3 mw_X3_moveTo kc3 mi_X3_moveTo (hw.2 _ _ (by decide)) ev3 ml_L_124 rfl rfl (Nat.le_of_ble_eq_true rfl) (Nat.le_of_ble_eq_true rfl) (Nat.le_of_ble_eq_true rfl) (by omega) (by omega) dL_law_408 (ko1 ?_)
    exact lw_tail hX (p0 := 411) (off := 1494) (kv := nI 0) hn2 (fun _ => by simp [gs]) (by omega) (by omega) dL_law_411 dL_law_413 dL_law_414 dL_law_417 dL_law_419 dL_law_424 dL_law_426 dL_law_429 dL_law_430 dL_law_431 dL_law_432 dL_law_434 dL_law_435 dL_law_436 dL_law_441 (by decide) (fun a7 => VE_widen (by omega) (by omega) (K M2 (gs G (40, 0) v.toInt64) _ a7 hI2 (by simp [gs, hG])))
set_option maxHeartbeats 4000000 in
set_option maxRecDepth 100000 in
theorem lc_setVersion (hX : LX p l s m args meth c hh w b L xs) (hI : INV M) (hG : G (2, 0) = G (3, 0)) (hj : 8 * j + 7 < L) (hcs : cells + 16 ≤ room_1.cells) (hss : slots + 96 ≤ room_1.slots) (K : KK p l e s m args below meth c cells slots Q w b j) : VE p l e room_1 s m args below meth c cells slots Q 8 w 444 (lvL w b (nI (8 * j)) none none) [] (ev w M G) := by
  obtain ⟨mn, en, hI⟩ := hI
  have hw : WK w := hX.2.1
  have hnt : l.stackTraces = false := hX.2.2.1
  refine r_aload_n hX.1 dL_law_444 (i := 1) rfl rfl ?_
  refine ld hX (k := 1) (q := 449) (by omega) dL_law_445 dL_law_446 (fun _ h => r_iconst hX.1 dL_law_448 (v := nI 1) (by decide) h) dL_law_449 dL_law_450 ?_
  refine ld hX (k := 2) (q := 455) (by omega) dL_law_451 dL_law_452 (fun _ h => r_iconst hX.1 dL_law_454 (v := nI 2) (by decide) h) dL_law_455 dL_law_456 ?_
  refine ld hX (k := 3) (q := 461) (by omega) dL_law_457 dL_law_458 (fun _ h => r_iconst hX.1 dL_law_460 (v := nI 3) (by decide) h) dL_law_461 dL_law_462 ?_
  refine r_aload_n hX.1 dL_law_463 (i := 3) rfl rfl ?_
  rcases ag_setVersion (G := G) (x := (xs (8 * j + 1))) (d := (xs (8 * j + 2))) (u := (xs (8 * j + 3))) hI with ⟨X9, k, M1, hXk, ho, hn⟩ | ⟨v, M1, ho, hn⟩
  · obtain ⟨v, M2, hn1, hn2, hD1, hI2⟩ := hn G
    refine r_callSX hX.1 (c_L_setVersion (x1 := (xs (8 * j + 1))) (x2 := (xs (8 * j + 2))) (x3 := (xs (8 * j + 3))) hnt hw hI.DI (.inl ⟨X9, k, M1, G, hXk, ho, rfl⟩)) mx_L_setVersion ms_L_setVersion ml_L_125 rfl rfl (Nat.le_of_ble_eq_true rfl) (Nat.le_of_ble_eq_true rfl) (Nat.le_of_ble_eq_true rfl) (by omega) (by omega) dL_law_464 (ko1 ?_)
    refine r_istore hX.1 dL_law_467 (by decide) (lv2 := lvL w b (nI (8 * j)) (some (.int (nI (k + 1)))) none) rfl ?_
    refine r_aload_n hX.1 dL_law_469 (i := 2) rfl rfl ?_
    refine ld hX (k := 1) (q := 474) (by omega) dL_law_470 dL_law_471 (fun _ h => r_iconst hX.1 dL_law_473 (v := nI 1) (by decide) h) dL_law_474 dL_law_475 ?_
    refine ld hX (k := 2) (q := 480) (by omega) dL_law_476 dL_law_477 (fun _ h => r_iconst hX.1 dL_law_479 (v := nI 2) (by decide) h) dL_law_480 dL_law_481 ?_
    refine ld hX (k := 3) (q := 486) (by omega) dL_law_482 dL_law_483 (fun _ h => r_iconst hX.1 dL_law_485 (v := nI 3) (by decide) h) dL_law_486 dL_law_487 ?_
    have h3 := c_X3_setVersion (l := l) (w := w) (M := M1) (G := G) (x := (xs (8 * j + 1))) (d9 := (xs (8 * j + 2))) (u9 := (xs (8 * j + 3))) hnt hw hD1
    try dsimp only at hn1
    rw [hn1] at h3
    refine r_callV hX.1 h3 mw_X3_setVersion kc3 mi_X3_setVersion (hw.2 _ _ (by decide)) ev3 ml_L_127 rfl rfl (Nat.le_of_ble_eq_true rfl) (Nat.le_of_ble_eq_true rfl) (Nat.le_of_ble_eq_true rfl) (by omega) (by omega) dL_law_488 (ko1 ?_)
    exact lw_tail hX (p0 := 491) (off := 1414) (kv := nI (k + 1)) hn2 (fun z => absurd z (nI_ne0 (by omega) (by have := (List.getElem?_eq_some_iff.mp hXk).1; simp at this; omega))) (by omega) (by omega) dL_law_491 dL_law_493 dL_law_494 dL_law_497 dL_law_499 dL_law_504 dL_law_506 dL_law_509 dL_law_510 dL_law_511 dL_law_512 dL_law_514 dL_law_515 dL_law_516 dL_law_521 (by decide) (fun a7 => VE_widen (by omega) (by omega) (K M2 G _ a7 hI2 hG))
  · obtain ⟨M2, hn1, hn2, hD1, hI2⟩ := hn (gs G (40, 0) v.toInt64)
    refine r_callSX hX.1 (c_L_setVersion (x1 := (xs (8 * j + 1))) (x2 := (xs (8 * j + 2))) (x3 := (xs (8 * j + 3))) hnt hw hI.DI (.inr ⟨v, M1, G, ho, rfl⟩)) mx_L_setVersion ms_L_setVersion ml_L_125 rfl rfl (Nat.le_of_ble_eq_true rfl) (Nat.le_of_ble_eq_true rfl) (Nat.le_of_ble_eq_true rfl) (by omega) (by omega) dL_law_464 (ko1 ?_)
    refine r_istore hX.1 dL_law_467 (by decide) (lv2 := lvL w b (nI (8 * j)) (some (.int (nI 0))) none) rfl ?_
    refine r_aload_n hX.1 dL_law_469 (i := 2) rfl rfl ?_
    refine ld hX (k := 1) (q := 474) (by omega) dL_law_470 dL_law_471 (fun _ h => r_iconst hX.1 dL_law_473 (v := nI 1) (by decide) h) dL_law_474 dL_law_475 ?_
    refine ld hX (k := 2) (q := 480) (by omega) dL_law_476 dL_law_477 (fun _ h => r_iconst hX.1 dL_law_479 (v := nI 2) (by decide) h) dL_law_480 dL_law_481 ?_
    refine ld hX (k := 3) (q := 486) (by omega) dL_law_482 dL_law_483 (fun _ h => r_iconst hX.1 dL_law_485 (v := nI 3) (by decide) h) dL_law_486 dL_law_487 ?_
    have h3 := c_X3_setVersion (l := l) (w := w) (M := M1) (G := (gs G (40, 0) v.toInt64)) (x := (xs (8 * j + 1))) (d9 := (xs (8 * j + 2))) (u9 := (xs (8 * j + 3))) hnt hw hD1
    try dsimp only at hn1
    rw [hn1] at h3
    refine r_callV hX.1 h3 mw_X3_setVersion kc3 mi_X3_setVersion (hw.2 _ _ (by decide)) ev3 ml_L_127 rfl rfl (Nat.le_of_ble_eq_true rfl) (Nat.le_of_ble_eq_true rfl) (Nat.le_of_ble_eq_true rfl) (by omega) (by omega) dL_law_488 (ko1 ?_)
    exact lw_tail hX (p0 := 491) (off := 1414) (kv := nI 0) hn2 (fun _ => by simp [gs]) (by omega) (by omega) dL_law_491 dL_law_493 dL_law_494 dL_law_497 dL_law_499 dL_law_504 dL_law_506 dL_law_509 dL_law_510 dL_law_511 dL_law_512 dL_law_514 dL_law_515 dL_law_516 dL_law_521 (by decide) (fun a7 => VE_widen (by omega) (by omega) (K M2 (gs G (40, 0) v.toInt64) _ a7 hI2 (by simp [gs, hG])))
set_option maxHeartbeats 4000000 in
set_option maxRecDepth 100000 in
theorem lc_setPool (hX : LX p l s m args meth c hh w b L xs) (hI : INV M) (hG : G (2, 0) = G (3, 0)) (hj : 8 * j + 7 < L) (hcs : cells + 16 ≤ room_1.cells) (hss : slots + 96 ≤ room_1.slots) (K : KK p l e s m args below meth c cells slots Q w b j) : VE p l e room_1 s m args below meth c cells slots Q 8 w 524 (lvL w b (nI (8 * j)) none none) [] (ev w M G) := by
  obtain ⟨mn, en, hI⟩ := hI
  have hw : WK w := hX.2.1
  have hnt : l.stackTraces = false := hX.2.2.1
  refine r_aload_n hX.1 dL_law_524 (i := 1) rfl rfl ?_
  refine ld hX (k := 1) (q := 529) (by omega) dL_law_525 dL_law_526 (fun _ h => r_iconst hX.1 dL_law_528 (v := nI 1) (by decide) h) dL_law_529 dL_law_530 ?_
  refine ld hX (k := 2) (q := 535) (by omega) dL_law_531 dL_law_532 (fun _ h => r_iconst hX.1 dL_law_534 (v := nI 2) (by decide) h) dL_law_535 dL_law_536 ?_
  refine r_aload_n hX.1 dL_law_537 (i := 3) rfl rfl ?_
  rcases ag_setPool (G := G) (x := (xs (8 * j + 1))) (d := (xs (8 * j + 2))) hI with ⟨X9, k, M1, hXk, ho, hn⟩ | ⟨v, M1, ho, hn⟩
  · obtain ⟨v, M2, hn1, hn2, hD1, hI2⟩ := hn G
    refine r_callSX hX.1 (c_L_setPool (x1 := (xs (8 * j + 1))) (x2 := (xs (8 * j + 2))) hnt hw hI.DI (.inl ⟨X9, k, M1, G, hXk, ho, rfl⟩)) mx_L_setPool ms_L_setPool ml_L_128 rfl rfl (Nat.le_of_ble_eq_true rfl) (Nat.le_of_ble_eq_true rfl) (Nat.le_of_ble_eq_true rfl) (by omega) (by omega) dL_law_538 (ko1 ?_)
    refine r_istore hX.1 dL_law_541 (by decide) (lv2 := lvL w b (nI (8 * j)) (some (.int (nI (k + 1)))) none) rfl ?_
    refine r_aload_n hX.1 dL_law_543 (i := 2) rfl rfl ?_
    refine ld hX (k := 1) (q := 548) (by omega) dL_law_544 dL_law_545 (fun _ h => r_iconst hX.1 dL_law_547 (v := nI 1) (by decide) h) dL_law_548 dL_law_549 ?_
    refine ld hX (k := 2) (q := 554) (by omega) dL_law_550 dL_law_551 (fun _ h => r_iconst hX.1 dL_law_553 (v := nI 2) (by decide) h) dL_law_554 dL_law_555 ?_
    have h3 := c_X3_setPool (l := l) (w := w) (M := M1) (G := G) (x := (xs (8 * j + 1))) (d9 := (xs (8 * j + 2))) hnt hw hD1
    try dsimp only at hn1
    rw [hn1] at h3
    refine r_callV hX.1 h3 mw_X3_setPool kc3 mi_X3_setPool (hw.2 _ _ (by decide)) ev3 ml_L_131 rfl rfl (Nat.le_of_ble_eq_true rfl) (Nat.le_of_ble_eq_true rfl) (Nat.le_of_ble_eq_true rfl) (by omega) (by omega) dL_law_556 (ko1 ?_)
    exact lw_tail hX (p0 := 559) (off := 1346) (kv := nI (k + 1)) hn2 (fun z => absurd z (nI_ne0 (by omega) (by have := (List.getElem?_eq_some_iff.mp hXk).1; simp at this; omega))) (by omega) (by omega) dL_law_559 dL_law_561 dL_law_562 dL_law_565 dL_law_567 dL_law_572 dL_law_574 dL_law_577 dL_law_578 dL_law_579 dL_law_580 dL_law_582 dL_law_583 dL_law_584 dL_law_589 (by decide) (fun a7 => VE_widen (by omega) (by omega) (K M2 G _ a7 hI2 hG))
  · obtain ⟨M2, hn1, hn2, hD1, hI2⟩ := hn (gs G (40, 0) v.toInt64)
    refine r_callSX hX.1 (c_L_setPool (x1 := (xs (8 * j + 1))) (x2 := (xs (8 * j + 2))) hnt hw hI.DI (.inr ⟨v, M1, G, ho, rfl⟩)) mx_L_setPool ms_L_setPool ml_L_128 rfl rfl (Nat.le_of_ble_eq_true rfl) (Nat.le_of_ble_eq_true rfl) (Nat.le_of_ble_eq_true rfl) (by omega) (by omega) dL_law_538 (ko1 ?_)
    refine r_istore hX.1 dL_law_541 (by decide) (lv2 := lvL w b (nI (8 * j)) (some (.int (nI 0))) none) rfl ?_
    refine r_aload_n hX.1 dL_law_543 (i := 2) rfl rfl ?_
    refine ld hX (k := 1) (q := 548) (by omega) dL_law_544 dL_law_545 (fun _ h => r_iconst hX.1 dL_law_547 (v := nI 1) (by decide) h) dL_law_548 dL_law_549 ?_
    refine ld hX (k := 2) (q := 554) (by omega) dL_law_550 dL_law_551 (fun _ h => r_iconst hX.1 dL_law_553 (v := nI 2) (by decide) h) dL_law_554 dL_law_555 ?_
    have h3 := c_X3_setPool (l := l) (w := w) (M := M1) (G := (gs G (40, 0) v.toInt64)) (x := (xs (8 * j + 1))) (d9 := (xs (8 * j + 2))) hnt hw hD1
    try dsimp only at hn1
    rw [hn1] at h3
    refine r_callV hX.1 h3 mw_X3_setPool kc3 mi_X3_setPool (hw.2 _ _ (by decide)) ev3 ml_L_131 rfl rfl (Nat.le_of_ble_eq_true rfl) (Nat.le_of_ble_eq_true rfl) (Nat.le_of_ble_eq_true rfl) (by omega) (by omega) dL_law_556 (ko1 ?_)
    exact lw_tail hX (p0 := 559) (off := 1346) (kv := nI 0) hn2 (fun _ => by simp [gs]) (by omega) (by omega) dL_law_559 dL_law_561 dL_law_562 dL_law_565 dL_law_567 dL_law_572 dL_law_574 dL_law_577 dL_law_578 dL_law_579 dL_law_580 dL_law_582 dL_law_583 dL_law_584 dL_law_589 (by decide) (fun a7 => VE_widen (by omega) (by omega) (K M2 (gs G (40, 0) v.toInt64) _ a7 hI2 (by simp [gs, hG])))
set_option maxHeartbeats 4000000 in
set_option maxRecDepth 100000 in
theorem lc_entitle (hX : LX p l s m args meth c hh w b L xs) (hI : INV M) (hG : G (2, 0) = G (3, 0)) (hj : 8 * j + 7 < L) (hcs : cells + 16 ≤ room_1.cells) (hss : slots + 96 ≤ room_1.slots) (K : KK p l e s m args below meth c cells slots Q w b j) : VE p l e room_1 s m args below meth c cells slots Q 8 w 630 (lvL w b (nI (8 * j)) none none) [] (ev w M G) := by
  obtain ⟨mn, en, hI⟩ := hI
  have hw : WK w := hX.2.1
  have hnt : l.stackTraces = false := hX.2.2.1
  refine r_aload_n hX.1 dL_law_630 (i := 1) rfl rfl ?_
  refine ld hX (k := 1) (q := 635) (by omega) dL_law_631 dL_law_632 (fun _ h => r_iconst hX.1 dL_law_634 (v := nI 1) (by decide) h) dL_law_635 dL_law_636 ?_
  refine ld hX (k := 2) (q := 641) (by omega) dL_law_637 dL_law_638 (fun _ h => r_iconst hX.1 dL_law_640 (v := nI 2) (by decide) h) dL_law_641 dL_law_642 ?_
  refine ld hX (k := 3) (q := 647) (by omega) dL_law_643 dL_law_644 (fun _ h => r_iconst hX.1 dL_law_646 (v := nI 3) (by decide) h) dL_law_647 dL_law_648 ?_
  refine ld hX (k := 4) (q := 653) (by omega) dL_law_649 dL_law_650 (fun _ h => r_iconst hX.1 dL_law_652 (v := nI 4) (by decide) h) dL_law_653 dL_law_654 ?_
  refine r_i2c hX.1 dL_law_655 ?_
  refine ld hX (k := 5) (q := 660) (by omega) dL_law_656 dL_law_657 (fun _ h => r_iconst hX.1 dL_law_659 (v := nI 5) (by decide) h) dL_law_660 dL_law_661 ?_
  refine ld hX (k := 6) (q := 667) (by omega) dL_law_662 dL_law_663 (fun _ h => r_bipush hX.1 dL_law_665 (v := nI 6) (by decide) h) dL_law_667 dL_law_668 ?_
  refine r_aload_n hX.1 dL_law_669 (i := 3) rfl rfl ?_
  rcases ag_entitle (G := G) (pr := (xs (8 * j + 1))) (v := (xs (8 * j + 2))) (ed := (xs (8 * j + 3))) (m := (ch (xs (8 * j + 4)))) (u := (xs (8 * j + 5))) (po := (xs (8 * j + 6))) hI with ⟨X9, k, M1, hXk, ho, hn⟩ | ⟨v, M1, ho, hn⟩
  · obtain ⟨v, M2, hn1, hn2, hD1, hI2⟩ := hn G
    refine r_callSX hX.1 (c_L_entitle (x1 := (xs (8 * j + 1))) (x2 := (xs (8 * j + 2))) (x3 := (xs (8 * j + 3))) (x4 := (ch (xs (8 * j + 4)))) (x5 := (xs (8 * j + 5))) (x6 := (xs (8 * j + 6))) hnt hw hI.DI (nar_ch _) (fit_ch _) (.inl ⟨X9, k, M1, G, hXk, ho, rfl⟩)) mx_L_entitle ms_L_entitle ml_L_141 rfl rfl (Nat.le_of_ble_eq_true rfl) (Nat.le_of_ble_eq_true rfl) (Nat.le_of_ble_eq_true rfl) (by omega) (by omega) dL_law_670 (ko1 ?_)
    refine r_istore hX.1 dL_law_673 (by decide) (lv2 := lvL w b (nI (8 * j)) (some (.int (nI (k + 1)))) none) rfl ?_
    refine r_aload_n hX.1 dL_law_675 (i := 2) rfl rfl ?_
    refine ld hX (k := 1) (q := 680) (by omega) dL_law_676 dL_law_677 (fun _ h => r_iconst hX.1 dL_law_679 (v := nI 1) (by decide) h) dL_law_680 dL_law_681 ?_
    refine ld hX (k := 2) (q := 686) (by omega) dL_law_682 dL_law_683 (fun _ h => r_iconst hX.1 dL_law_685 (v := nI 2) (by decide) h) dL_law_686 dL_law_687 ?_
    refine ld hX (k := 3) (q := 692) (by omega) dL_law_688 dL_law_689 (fun _ h => r_iconst hX.1 dL_law_691 (v := nI 3) (by decide) h) dL_law_692 dL_law_693 ?_
    refine ld hX (k := 4) (q := 698) (by omega) dL_law_694 dL_law_695 (fun _ h => r_iconst hX.1 dL_law_697 (v := nI 4) (by decide) h) dL_law_698 dL_law_699 ?_
    refine r_i2c hX.1 dL_law_700 ?_
    refine ld hX (k := 5) (q := 705) (by omega) dL_law_701 dL_law_702 (fun _ h => r_iconst hX.1 dL_law_704 (v := nI 5) (by decide) h) dL_law_705 dL_law_706 ?_
    refine ld hX (k := 6) (q := 712) (by omega) dL_law_707 dL_law_708 (fun _ h => r_bipush hX.1 dL_law_710 (v := nI 6) (by decide) h) dL_law_712 dL_law_713 ?_
    have h3 := c_X3_entitle (l := l) (w := w) (M := M1) (G := G) (p9 := (xs (8 * j + 1))) (v9 := (xs (8 * j + 2))) (d9 := (xs (8 * j + 3))) (m9 := (ch (xs (8 * j + 4)))) (u9 := (xs (8 * j + 5))) (q9 := (xs (8 * j + 6))) hnt hw hD1 (vp_ch _)
    try dsimp only at hn1
    rw [hn1] at h3
    refine r_callV hX.1 h3 mw_X3_entitle kc3 mi_X3_entitle (hw.2 _ _ (by decide)) ev3 ml_L_144 rfl rfl (Nat.le_of_ble_eq_true rfl) (Nat.le_of_ble_eq_true rfl) (Nat.le_of_ble_eq_true rfl) (by omega) (by omega) dL_law_714 (ko1 ?_)
    exact lw_tail hX (p0 := 717) (off := 1188) (kv := nI (k + 1)) hn2 (fun z => absurd z (nI_ne0 (by omega) (by have := (List.getElem?_eq_some_iff.mp hXk).1; simp at this; omega))) (by omega) (by omega) dL_law_717 dL_law_719 dL_law_720 dL_law_723 dL_law_725 dL_law_730 dL_law_732 dL_law_735 dL_law_736 dL_law_737 dL_law_738 dL_law_740 dL_law_741 dL_law_742 dL_law_747 (by decide) (fun a7 => VE_widen (by omega) (by omega) (K M2 G _ a7 hI2 hG))
  · obtain ⟨M2, hn1, hn2, hD1, hI2⟩ := hn (gs G (40, 0) v.toInt64)
    refine r_callSX hX.1 (c_L_entitle (x1 := (xs (8 * j + 1))) (x2 := (xs (8 * j + 2))) (x3 := (xs (8 * j + 3))) (x4 := (ch (xs (8 * j + 4)))) (x5 := (xs (8 * j + 5))) (x6 := (xs (8 * j + 6))) hnt hw hI.DI (nar_ch _) (fit_ch _) (.inr ⟨v, M1, G, ho, rfl⟩)) mx_L_entitle ms_L_entitle ml_L_141 rfl rfl (Nat.le_of_ble_eq_true rfl) (Nat.le_of_ble_eq_true rfl) (Nat.le_of_ble_eq_true rfl) (by omega) (by omega) dL_law_670 (ko1 ?_)
    refine r_istore hX.1 dL_law_673 (by decide) (lv2 := lvL w b (nI (8 * j)) (some (.int (nI 0))) none) rfl ?_
    refine r_aload_n hX.1 dL_law_675 (i := 2) rfl rfl ?_
    refine ld hX (k := 1) (q := 680) (by omega) dL_law_676 dL_law_677 (fun _ h => r_iconst hX.1 dL_law_679 (v := nI 1) (by decide) h) dL_law_680 dL_law_681 ?_
    refine ld hX (k := 2) (q := 686) (by omega) dL_law_682 dL_law_683 (fun _ h => r_iconst hX.1 dL_law_685 (v := nI 2) (by decide) h) dL_law_686 dL_law_687 ?_
    refine ld hX (k := 3) (q := 692) (by omega) dL_law_688 dL_law_689 (fun _ h => r_iconst hX.1 dL_law_691 (v := nI 3) (by decide) h) dL_law_692 dL_law_693 ?_
    refine ld hX (k := 4) (q := 698) (by omega) dL_law_694 dL_law_695 (fun _ h => r_iconst hX.1 dL_law_697 (v := nI 4) (by decide) h) dL_law_698 dL_law_699 ?_
    refine r_i2c hX.1 dL_law_700 ?_
    refine ld hX (k := 5) (q := 705) (by omega) dL_law_701 dL_law_702 (fun _ h => r_iconst hX.1 dL_law_704 (v := nI 5) (by decide) h) dL_law_705 dL_law_706 ?_
    refine ld hX (k := 6) (q := 712) (by omega) dL_law_707 dL_law_708 (fun _ h => r_bipush hX.1 dL_law_710 (v := nI 6) (by decide) h) dL_law_712 dL_law_713 ?_
    have h3 := c_X3_entitle (l := l) (w := w) (M := M1) (G := (gs G (40, 0) v.toInt64)) (p9 := (xs (8 * j + 1))) (v9 := (xs (8 * j + 2))) (d9 := (xs (8 * j + 3))) (m9 := (ch (xs (8 * j + 4)))) (u9 := (xs (8 * j + 5))) (q9 := (xs (8 * j + 6))) hnt hw hD1 (vp_ch _)
    try dsimp only at hn1
    rw [hn1] at h3
    refine r_callV hX.1 h3 mw_X3_entitle kc3 mi_X3_entitle (hw.2 _ _ (by decide)) ev3 ml_L_144 rfl rfl (Nat.le_of_ble_eq_true rfl) (Nat.le_of_ble_eq_true rfl) (Nat.le_of_ble_eq_true rfl) (by omega) (by omega) dL_law_714 (ko1 ?_)
    exact lw_tail hX (p0 := 717) (off := 1188) (kv := nI 0) hn2 (fun _ => by simp [gs]) (by omega) (by omega) dL_law_717 dL_law_719 dL_law_720 dL_law_723 dL_law_725 dL_law_730 dL_law_732 dL_law_735 dL_law_736 dL_law_737 dL_law_738 dL_law_740 dL_law_741 dL_law_742 dL_law_747 (by decide) (fun a7 => VE_widen (by omega) (by omega) (K M2 (gs G (40, 0) v.toInt64) _ a7 hI2 (by simp [gs, hG])))
set_option maxHeartbeats 4000000 in
set_option maxRecDepth 100000 in
theorem lc_setRights (hX : LX p l s m args meth c hh w b L xs) (hI : INV M) (hG : G (2, 0) = G (3, 0)) (hj : 8 * j + 7 < L) (hcs : cells + 16 ≤ room_1.cells) (hss : slots + 96 ≤ room_1.slots) (K : KK p l e s m args below meth c cells slots Q w b j) : VE p l e room_1 s m args below meth c cells slots Q 8 w 750 (lvL w b (nI (8 * j)) none none) [] (ev w M G) := by
  obtain ⟨mn, en, hI⟩ := hI
  have hw : WK w := hX.2.1
  have hnt : l.stackTraces = false := hX.2.2.1
  refine r_aload_n hX.1 dL_law_750 (i := 1) rfl rfl ?_
  refine ld hX (k := 1) (q := 755) (by omega) dL_law_751 dL_law_752 (fun _ h => r_iconst hX.1 dL_law_754 (v := nI 1) (by decide) h) dL_law_755 dL_law_756 ?_
  refine ld hX (k := 2) (q := 761) (by omega) dL_law_757 dL_law_758 (fun _ h => r_iconst hX.1 dL_law_760 (v := nI 2) (by decide) h) dL_law_761 dL_law_762 ?_
  refine ldB hX dL_law_763 dL_law_766 dL_law_767 dL_law_770 ?_
  refine ld hX (k := 3) (q := 775) (by omega) dL_law_771 dL_law_772 (fun _ h => r_iconst hX.1 dL_law_774 (v := nI 3) (by decide) h) dL_law_775 dL_law_776 ?_
  refine ldB hX dL_law_777 dL_law_780 dL_law_781 dL_law_784 ?_
  refine ld hX (k := 4) (q := 789) (by omega) dL_law_785 dL_law_786 (fun _ h => r_iconst hX.1 dL_law_788 (v := nI 4) (by decide) h) dL_law_789 dL_law_790 ?_
  refine ldB hX dL_law_791 dL_law_794 dL_law_795 dL_law_798 ?_
  refine r_aload_n hX.1 dL_law_799 (i := 3) rfl rfl ?_
  rcases ag_setRights (G := G) (x := (xs (8 * j + 1))) (a := (!decide (xs (8 * j + 2) = 0))) (b := (!decide (xs (8 * j + 3) = 0))) (c := (!decide (xs (8 * j + 4) = 0))) hI with ⟨X9, k, M1, hXk, ho, hn⟩ | ⟨v, M1, ho, hn⟩
  · obtain ⟨v, M2, hn1, hn2, hD1, hI2⟩ := hn G
    refine r_callSX hX.1 (c_L_setRights (x1 := (xs (8 * j + 1))) (b2 := (!decide (xs (8 * j + 2) = 0))) (b3 := (!decide (xs (8 * j + 3) = 0))) (b4 := (!decide (xs (8 * j + 4) = 0))) hnt hw hI.DI (.inl ⟨X9, k, M1, G, hXk, ho, rfl⟩)) mx_L_setRights ms_L_setRights ml_L_145 rfl rfl (Nat.le_of_ble_eq_true rfl) (Nat.le_of_ble_eq_true rfl) (Nat.le_of_ble_eq_true rfl) (by omega) (by omega) dL_law_800 (ko1 ?_)
    refine r_istore hX.1 dL_law_803 (by decide) (lv2 := lvL w b (nI (8 * j)) (some (.int (nI (k + 1)))) none) rfl ?_
    refine r_aload_n hX.1 dL_law_805 (i := 2) rfl rfl ?_
    refine ld hX (k := 1) (q := 810) (by omega) dL_law_806 dL_law_807 (fun _ h => r_iconst hX.1 dL_law_809 (v := nI 1) (by decide) h) dL_law_810 dL_law_811 ?_
    refine ld hX (k := 2) (q := 816) (by omega) dL_law_812 dL_law_813 (fun _ h => r_iconst hX.1 dL_law_815 (v := nI 2) (by decide) h) dL_law_816 dL_law_817 ?_
    refine ldB hX dL_law_818 dL_law_821 dL_law_822 dL_law_825 ?_
    refine ld hX (k := 3) (q := 830) (by omega) dL_law_826 dL_law_827 (fun _ h => r_iconst hX.1 dL_law_829 (v := nI 3) (by decide) h) dL_law_830 dL_law_831 ?_
    refine ldB hX dL_law_832 dL_law_835 dL_law_836 dL_law_839 ?_
    refine ld hX (k := 4) (q := 844) (by omega) dL_law_840 dL_law_841 (fun _ h => r_iconst hX.1 dL_law_843 (v := nI 4) (by decide) h) dL_law_844 dL_law_845 ?_
    refine ldB hX dL_law_846 dL_law_849 dL_law_850 dL_law_853 ?_
    have h3 := c_X3_setRights (l := l) (w := w) (M := M1) (G := G) (x := (xs (8 * j + 1))) (a9 := (!decide (xs (8 * j + 2) = 0))) (b9 := (!decide (xs (8 * j + 3) = 0))) (c9 := (!decide (xs (8 * j + 4) = 0))) hnt hw hD1
    try dsimp only at hn1
    rw [hn1] at h3
    refine r_callV hX.1 h3 mw_X3_setRights kc3 mi_X3_setRights (hw.2 _ _ (by decide)) ev3 ml_L_148 rfl rfl (Nat.le_of_ble_eq_true rfl) (Nat.le_of_ble_eq_true rfl) (Nat.le_of_ble_eq_true rfl) (by omega) (by omega) dL_law_854 (ko1 ?_)
    exact lw_tail hX (p0 := 857) (off := 1048) (kv := nI (k + 1)) hn2 (fun z => absurd z (nI_ne0 (by omega) (by have := (List.getElem?_eq_some_iff.mp hXk).1; simp at this; omega))) (by omega) (by omega) dL_law_857 dL_law_859 dL_law_860 dL_law_863 dL_law_865 dL_law_870 dL_law_872 dL_law_875 dL_law_876 dL_law_877 dL_law_878 dL_law_880 dL_law_881 dL_law_882 dL_law_887 (by decide) (fun a7 => VE_widen (by omega) (by omega) (K M2 G _ a7 hI2 hG))
  · obtain ⟨M2, hn1, hn2, hD1, hI2⟩ := hn (gs G (40, 0) v.toInt64)
    refine r_callSX hX.1 (c_L_setRights (x1 := (xs (8 * j + 1))) (b2 := (!decide (xs (8 * j + 2) = 0))) (b3 := (!decide (xs (8 * j + 3) = 0))) (b4 := (!decide (xs (8 * j + 4) = 0))) hnt hw hI.DI (.inr ⟨v, M1, G, ho, rfl⟩)) mx_L_setRights ms_L_setRights ml_L_145 rfl rfl (Nat.le_of_ble_eq_true rfl) (Nat.le_of_ble_eq_true rfl) (Nat.le_of_ble_eq_true rfl) (by omega) (by omega) dL_law_800 (ko1 ?_)
    refine r_istore hX.1 dL_law_803 (by decide) (lv2 := lvL w b (nI (8 * j)) (some (.int (nI 0))) none) rfl ?_
    refine r_aload_n hX.1 dL_law_805 (i := 2) rfl rfl ?_
    refine ld hX (k := 1) (q := 810) (by omega) dL_law_806 dL_law_807 (fun _ h => r_iconst hX.1 dL_law_809 (v := nI 1) (by decide) h) dL_law_810 dL_law_811 ?_
    refine ld hX (k := 2) (q := 816) (by omega) dL_law_812 dL_law_813 (fun _ h => r_iconst hX.1 dL_law_815 (v := nI 2) (by decide) h) dL_law_816 dL_law_817 ?_
    refine ldB hX dL_law_818 dL_law_821 dL_law_822 dL_law_825 ?_
    refine ld hX (k := 3) (q := 830) (by omega) dL_law_826 dL_law_827 (fun _ h => r_iconst hX.1 dL_law_829 (v := nI 3) (by decide) h) dL_law_830 dL_law_831 ?_
    refine ldB hX dL_law_832 dL_law_835 dL_law_836 dL_law_839 ?_
    refine ld hX (k := 4) (q := 844) (by omega) dL_law_840 dL_law_841 (fun _ h => r_iconst hX.1 dL_law_843 (v := nI 4) (by decide) h) dL_law_844 dL_law_845 ?_
    refine ldB hX dL_law_846 dL_law_849 dL_law_850 dL_law_853 ?_
    have h3 := c_X3_setRights (l := l) (w := w) (M := M1) (G := (gs G (40, 0) v.toInt64)) (x := (xs (8 * j + 1))) (a9 := (!decide (xs (8 * j + 2) = 0))) (b9 := (!decide (xs (8 * j + 3) = 0))) (c9 := (!decide (xs (8 * j + 4) = 0))) hnt hw hD1
    try dsimp only at hn1
    rw [hn1] at h3
    refine r_callV hX.1 h3 mw_X3_setRights kc3 mi_X3_setRights (hw.2 _ _ (by decide)) ev3 ml_L_148 rfl rfl (Nat.le_of_ble_eq_true rfl) (Nat.le_of_ble_eq_true rfl) (Nat.le_of_ble_eq_true rfl) (by omega) (by omega) dL_law_854 (ko1 ?_)
    exact lw_tail hX (p0 := 857) (off := 1048) (kv := nI 0) hn2 (fun _ => by simp [gs]) (by omega) (by omega) dL_law_857 dL_law_859 dL_law_860 dL_law_863 dL_law_865 dL_law_870 dL_law_872 dL_law_875 dL_law_876 dL_law_877 dL_law_878 dL_law_880 dL_law_881 dL_law_882 dL_law_887 (by decide) (fun a7 => VE_widen (by omega) (by omega) (K M2 (gs G (40, 0) v.toInt64) _ a7 hI2 (by simp [gs, hG])))
set_option maxHeartbeats 4000000 in
set_option maxRecDepth 100000 in
theorem lc_setMinimum (hX : LX p l s m args meth c hh w b L xs) (hI : INV M) (hG : G (2, 0) = G (3, 0)) (hj : 8 * j + 7 < L) (hcs : cells + 16 ≤ room_1.cells) (hss : slots + 96 ≤ room_1.slots) (K : KK p l e s m args below meth c cells slots Q w b j) : VE p l e room_1 s m args below meth c cells slots Q 8 w 890 (lvL w b (nI (8 * j)) none none) [] (ev w M G) := by
  obtain ⟨mn, en, hI⟩ := hI
  have hw : WK w := hX.2.1
  have hnt : l.stackTraces = false := hX.2.2.1
  refine r_aload_n hX.1 dL_law_890 (i := 1) rfl rfl ?_
  refine ld hX (k := 1) (q := 895) (by omega) dL_law_891 dL_law_892 (fun _ h => r_iconst hX.1 dL_law_894 (v := nI 1) (by decide) h) dL_law_895 dL_law_896 ?_
  refine ld hX (k := 2) (q := 901) (by omega) dL_law_897 dL_law_898 (fun _ h => r_iconst hX.1 dL_law_900 (v := nI 2) (by decide) h) dL_law_901 dL_law_902 ?_
  refine r_aload_n hX.1 dL_law_903 (i := 3) rfl rfl ?_
  rcases ag_setMinimum (G := G) (x := (xs (8 * j + 1))) (d := (xs (8 * j + 2))) hI with ⟨X9, k, M1, hXk, ho, hn⟩ | ⟨v, M1, ho, hn⟩
  · obtain ⟨v, M2, hn1, hn2, hD1, hI2⟩ := hn G
    refine r_callSX hX.1 (c_L_setMinimum (x1 := (xs (8 * j + 1))) (x2 := (xs (8 * j + 2))) hnt hw hI.DI (.inl ⟨X9, k, M1, G, hXk, ho, rfl⟩)) mx_L_setMinimum ms_L_setMinimum ml_L_149 rfl rfl (Nat.le_of_ble_eq_true rfl) (Nat.le_of_ble_eq_true rfl) (Nat.le_of_ble_eq_true rfl) (by omega) (by omega) dL_law_904 (ko1 ?_)
    refine r_istore hX.1 dL_law_907 (by decide) (lv2 := lvL w b (nI (8 * j)) (some (.int (nI (k + 1)))) none) rfl ?_
    refine r_aload_n hX.1 dL_law_909 (i := 2) rfl rfl ?_
    refine ld hX (k := 1) (q := 914) (by omega) dL_law_910 dL_law_911 (fun _ h => r_iconst hX.1 dL_law_913 (v := nI 1) (by decide) h) dL_law_914 dL_law_915 ?_
    refine ld hX (k := 2) (q := 920) (by omega) dL_law_916 dL_law_917 (fun _ h => r_iconst hX.1 dL_law_919 (v := nI 2) (by decide) h) dL_law_920 dL_law_921 ?_
    have h3 := c_X3_setMinimum (l := l) (w := w) (M := M1) (G := G) (x := (xs (8 * j + 1))) (d9 := (xs (8 * j + 2))) hnt hw hD1
    try dsimp only at hn1
    rw [hn1] at h3
    refine r_callV hX.1 h3 mw_X3_setMinimum kc3 mi_X3_setMinimum (hw.2 _ _ (by decide)) ev3 ml_L_151 rfl rfl (Nat.le_of_ble_eq_true rfl) (Nat.le_of_ble_eq_true rfl) (Nat.le_of_ble_eq_true rfl) (by omega) (by omega) dL_law_922 (ko1 ?_)
    exact lw_tail hX (p0 := 925) (off := 980) (kv := nI (k + 1)) hn2 (fun z => absurd z (nI_ne0 (by omega) (by have := (List.getElem?_eq_some_iff.mp hXk).1; simp at this; omega))) (by omega) (by omega) dL_law_925 dL_law_927 dL_law_928 dL_law_931 dL_law_933 dL_law_938 dL_law_940 dL_law_943 dL_law_944 dL_law_945 dL_law_946 dL_law_948 dL_law_949 dL_law_950 dL_law_955 (by decide) (fun a7 => VE_widen (by omega) (by omega) (K M2 G _ a7 hI2 hG))
  · obtain ⟨M2, hn1, hn2, hD1, hI2⟩ := hn (gs G (40, 0) v.toInt64)
    refine r_callSX hX.1 (c_L_setMinimum (x1 := (xs (8 * j + 1))) (x2 := (xs (8 * j + 2))) hnt hw hI.DI (.inr ⟨v, M1, G, ho, rfl⟩)) mx_L_setMinimum ms_L_setMinimum ml_L_149 rfl rfl (Nat.le_of_ble_eq_true rfl) (Nat.le_of_ble_eq_true rfl) (Nat.le_of_ble_eq_true rfl) (by omega) (by omega) dL_law_904 (ko1 ?_)
    refine r_istore hX.1 dL_law_907 (by decide) (lv2 := lvL w b (nI (8 * j)) (some (.int (nI 0))) none) rfl ?_
    refine r_aload_n hX.1 dL_law_909 (i := 2) rfl rfl ?_
    refine ld hX (k := 1) (q := 914) (by omega) dL_law_910 dL_law_911 (fun _ h => r_iconst hX.1 dL_law_913 (v := nI 1) (by decide) h) dL_law_914 dL_law_915 ?_
    refine ld hX (k := 2) (q := 920) (by omega) dL_law_916 dL_law_917 (fun _ h => r_iconst hX.1 dL_law_919 (v := nI 2) (by decide) h) dL_law_920 dL_law_921 ?_
    have h3 := c_X3_setMinimum (l := l) (w := w) (M := M1) (G := (gs G (40, 0) v.toInt64)) (x := (xs (8 * j + 1))) (d9 := (xs (8 * j + 2))) hnt hw hD1
    try dsimp only at hn1
    rw [hn1] at h3
    refine r_callV hX.1 h3 mw_X3_setMinimum kc3 mi_X3_setMinimum (hw.2 _ _ (by decide)) ev3 ml_L_151 rfl rfl (Nat.le_of_ble_eq_true rfl) (Nat.le_of_ble_eq_true rfl) (Nat.le_of_ble_eq_true rfl) (by omega) (by omega) dL_law_922 (ko1 ?_)
    exact lw_tail hX (p0 := 925) (off := 980) (kv := nI 0) hn2 (fun _ => by simp [gs]) (by omega) (by omega) dL_law_925 dL_law_927 dL_law_928 dL_law_931 dL_law_933 dL_law_938 dL_law_940 dL_law_943 dL_law_944 dL_law_945 dL_law_946 dL_law_948 dL_law_949 dL_law_950 dL_law_955 (by decide) (fun a7 => VE_widen (by omega) (by omega) (K M2 (gs G (40, 0) v.toInt64) _ a7 hI2 (by simp [gs, hG])))
set_option maxHeartbeats 4000000 in
set_option maxRecDepth 100000 in
theorem lc_setPrice (hX : LX p l s m args meth c hh w b L xs) (hI : INV M) (hG : G (2, 0) = G (3, 0)) (hj : 8 * j + 7 < L) (hcs : cells + 16 ≤ room_1.cells) (hss : slots + 96 ≤ room_1.slots) (K : KK p l e s m args below meth c cells slots Q w b j) : VE p l e room_1 s m args below meth c cells slots Q 8 w 958 (lvL w b (nI (8 * j)) none none) [] (ev w M G) := by
  obtain ⟨mn, en, hI⟩ := hI
  have hw : WK w := hX.2.1
  have hnt : l.stackTraces = false := hX.2.2.1
  refine r_aload_n hX.1 dL_law_958 (i := 1) rfl rfl ?_
  refine ld hX (k := 1) (q := 963) (by omega) dL_law_959 dL_law_960 (fun _ h => r_iconst hX.1 dL_law_962 (v := nI 1) (by decide) h) dL_law_963 dL_law_964 ?_
  refine ld hX (k := 2) (q := 969) (by omega) dL_law_965 dL_law_966 (fun _ h => r_iconst hX.1 dL_law_968 (v := nI 2) (by decide) h) dL_law_969 dL_law_970 ?_
  refine r_aload_n hX.1 dL_law_971 (i := 3) rfl rfl ?_
  rcases ag_setPrice (G := G) (x := (xs (8 * j + 1))) (d := (xs (8 * j + 2))) hI with ⟨X9, k, M1, hXk, ho, hn⟩ | ⟨v, M1, ho, hn⟩
  · obtain ⟨v, M2, hn1, hn2, hD1, hI2⟩ := hn G
    refine r_callSX hX.1 (c_L_setPrice (x1 := (xs (8 * j + 1))) (x2 := (xs (8 * j + 2))) hnt hw hI.DI (.inl ⟨X9, k, M1, G, hXk, ho, rfl⟩)) mx_L_setPrice ms_L_setPrice ml_L_152 rfl rfl (Nat.le_of_ble_eq_true rfl) (Nat.le_of_ble_eq_true rfl) (Nat.le_of_ble_eq_true rfl) (by omega) (by omega) dL_law_972 (ko1 ?_)
    refine r_istore hX.1 dL_law_975 (by decide) (lv2 := lvL w b (nI (8 * j)) (some (.int (nI (k + 1)))) none) rfl ?_
    refine r_aload_n hX.1 dL_law_977 (i := 2) rfl rfl ?_
    refine ld hX (k := 1) (q := 982) (by omega) dL_law_978 dL_law_979 (fun _ h => r_iconst hX.1 dL_law_981 (v := nI 1) (by decide) h) dL_law_982 dL_law_983 ?_
    refine ld hX (k := 2) (q := 988) (by omega) dL_law_984 dL_law_985 (fun _ h => r_iconst hX.1 dL_law_987 (v := nI 2) (by decide) h) dL_law_988 dL_law_989 ?_
    have h3 := c_X3_setPrice (l := l) (w := w) (M := M1) (G := G) (x := (xs (8 * j + 1))) (d9 := (xs (8 * j + 2))) hnt hw hD1
    try dsimp only at hn1
    rw [hn1] at h3
    refine r_callV hX.1 h3 mw_X3_setPrice kc3 mi_X3_setPrice (hw.2 _ _ (by decide)) ev3 ml_L_154 rfl rfl (Nat.le_of_ble_eq_true rfl) (Nat.le_of_ble_eq_true rfl) (Nat.le_of_ble_eq_true rfl) (by omega) (by omega) dL_law_990 (ko1 ?_)
    exact lw_tail hX (p0 := 993) (off := 912) (kv := nI (k + 1)) hn2 (fun z => absurd z (nI_ne0 (by omega) (by have := (List.getElem?_eq_some_iff.mp hXk).1; simp at this; omega))) (by omega) (by omega) dL_law_993 dL_law_995 dL_law_996 dL_law_999 dL_law_1001 dL_law_1006 dL_law_1008 dL_law_1011 dL_law_1012 dL_law_1013 dL_law_1014 dL_law_1016 dL_law_1017 dL_law_1018 dL_law_1023 (by decide) (fun a7 => VE_widen (by omega) (by omega) (K M2 G _ a7 hI2 hG))
  · obtain ⟨M2, hn1, hn2, hD1, hI2⟩ := hn (gs G (40, 0) v.toInt64)
    refine r_callSX hX.1 (c_L_setPrice (x1 := (xs (8 * j + 1))) (x2 := (xs (8 * j + 2))) hnt hw hI.DI (.inr ⟨v, M1, G, ho, rfl⟩)) mx_L_setPrice ms_L_setPrice ml_L_152 rfl rfl (Nat.le_of_ble_eq_true rfl) (Nat.le_of_ble_eq_true rfl) (Nat.le_of_ble_eq_true rfl) (by omega) (by omega) dL_law_972 (ko1 ?_)
    refine r_istore hX.1 dL_law_975 (by decide) (lv2 := lvL w b (nI (8 * j)) (some (.int (nI 0))) none) rfl ?_
    refine r_aload_n hX.1 dL_law_977 (i := 2) rfl rfl ?_
    refine ld hX (k := 1) (q := 982) (by omega) dL_law_978 dL_law_979 (fun _ h => r_iconst hX.1 dL_law_981 (v := nI 1) (by decide) h) dL_law_982 dL_law_983 ?_
    refine ld hX (k := 2) (q := 988) (by omega) dL_law_984 dL_law_985 (fun _ h => r_iconst hX.1 dL_law_987 (v := nI 2) (by decide) h) dL_law_988 dL_law_989 ?_
    have h3 := c_X3_setPrice (l := l) (w := w) (M := M1) (G := (gs G (40, 0) v.toInt64)) (x := (xs (8 * j + 1))) (d9 := (xs (8 * j + 2))) hnt hw hD1
    try dsimp only at hn1
    rw [hn1] at h3
    refine r_callV hX.1 h3 mw_X3_setPrice kc3 mi_X3_setPrice (hw.2 _ _ (by decide)) ev3 ml_L_154 rfl rfl (Nat.le_of_ble_eq_true rfl) (Nat.le_of_ble_eq_true rfl) (Nat.le_of_ble_eq_true rfl) (by omega) (by omega) dL_law_990 (ko1 ?_)
    exact lw_tail hX (p0 := 993) (off := 912) (kv := nI 0) hn2 (fun _ => by simp [gs]) (by omega) (by omega) dL_law_993 dL_law_995 dL_law_996 dL_law_999 dL_law_1001 dL_law_1006 dL_law_1008 dL_law_1011 dL_law_1012 dL_law_1013 dL_law_1014 dL_law_1016 dL_law_1017 dL_law_1018 dL_law_1023 (by decide) (fun a7 => VE_widen (by omega) (by omega) (K M2 (gs G (40, 0) v.toInt64) _ a7 hI2 (by simp [gs, hG])))
set_option maxHeartbeats 4000000 in
set_option maxRecDepth 100000 in
theorem lc_addUnits (hX : LX p l s m args meth c hh w b L xs) (hI : INV M) (hG : G (2, 0) = G (3, 0)) (hj : 8 * j + 7 < L) (hcs : cells + 16 ≤ room_1.cells) (hss : slots + 96 ≤ room_1.slots) (K : KK p l e s m args below meth c cells slots Q w b j) : VE p l e room_1 s m args below meth c cells slots Q 8 w 1026 (lvL w b (nI (8 * j)) none none) [] (ev w M G) := by
  obtain ⟨mn, en, hI⟩ := hI
  have hw : WK w := hX.2.1
  have hnt : l.stackTraces = false := hX.2.2.1
  refine r_aload_n hX.1 dL_law_1026 (i := 1) rfl rfl ?_
  refine ld hX (k := 1) (q := 1031) (by omega) dL_law_1027 dL_law_1028 (fun _ h => r_iconst hX.1 dL_law_1030 (v := nI 1) (by decide) h) dL_law_1031 dL_law_1032 ?_
  refine ld hX (k := 2) (q := 1037) (by omega) dL_law_1033 dL_law_1034 (fun _ h => r_iconst hX.1 dL_law_1036 (v := nI 2) (by decide) h) dL_law_1037 dL_law_1038 ?_
  refine r_aload_n hX.1 dL_law_1039 (i := 3) rfl rfl ?_
  rcases ag_addUnits (G := G) (x := (xs (8 * j + 1))) (d := (xs (8 * j + 2))) hI with ⟨X9, k, M1, hXk, ho, hn⟩ | ⟨v, M1, ho, hn⟩
  · obtain ⟨v, M2, hn1, hn2, hD1, hI2⟩ := hn G
    refine r_callSX hX.1 (c_L_addUnits (x1 := (xs (8 * j + 1))) (x2 := (xs (8 * j + 2))) hnt hw hI.DI (.inl ⟨X9, k, M1, G, hXk, ho, rfl⟩)) mx_L_addUnits ms_L_addUnits ml_L_155 rfl rfl (Nat.le_of_ble_eq_true rfl) (Nat.le_of_ble_eq_true rfl) (Nat.le_of_ble_eq_true rfl) (by omega) (by omega) dL_law_1040 (ko1 ?_)
    refine r_istore hX.1 dL_law_1043 (by decide) (lv2 := lvL w b (nI (8 * j)) (some (.int (nI (k + 1)))) none) rfl ?_
    refine r_aload_n hX.1 dL_law_1045 (i := 2) rfl rfl ?_
    refine ld hX (k := 1) (q := 1050) (by omega) dL_law_1046 dL_law_1047 (fun _ h => r_iconst hX.1 dL_law_1049 (v := nI 1) (by decide) h) dL_law_1050 dL_law_1051 ?_
    refine ld hX (k := 2) (q := 1056) (by omega) dL_law_1052 dL_law_1053 (fun _ h => r_iconst hX.1 dL_law_1055 (v := nI 2) (by decide) h) dL_law_1056 dL_law_1057 ?_
    have h3 := c_X3_addUnits (l := l) (w := w) (M := M1) (G := G) (x := (xs (8 * j + 1))) (d9 := (xs (8 * j + 2))) hnt hw hD1
    try dsimp only at hn1
    rw [hn1] at h3
    refine r_callV hX.1 h3 mw_X3_addUnits kc3 mi_X3_addUnits (hw.2 _ _ (by decide)) ev3 ml_L_157 rfl rfl (Nat.le_of_ble_eq_true rfl) (Nat.le_of_ble_eq_true rfl) (Nat.le_of_ble_eq_true rfl) (by omega) (by omega) dL_law_1058 (ko1 ?_)
    exact lw_tail hX (p0 := 1061) (off := 844) (kv := nI (k + 1)) hn2 (fun z => absurd z (nI_ne0 (by omega) (by have := (List.getElem?_eq_some_iff.mp hXk).1; simp at this; omega))) (by omega) (by omega) dL_law_1061 dL_law_1063 dL_law_1064 dL_law_1067 dL_law_1069 dL_law_1074 dL_law_1076 dL_law_1079 dL_law_1080 dL_law_1081 dL_law_1082 dL_law_1084 dL_law_1085 dL_law_1086 dL_law_1091 (by decide) (fun a7 => VE_widen (by omega) (by omega) (K M2 G _ a7 hI2 hG))
  · obtain ⟨M2, hn1, hn2, hD1, hI2⟩ := hn (gs G (40, 0) v.toInt64)
    refine r_callSX hX.1 (c_L_addUnits (x1 := (xs (8 * j + 1))) (x2 := (xs (8 * j + 2))) hnt hw hI.DI (.inr ⟨v, M1, G, ho, rfl⟩)) mx_L_addUnits ms_L_addUnits ml_L_155 rfl rfl (Nat.le_of_ble_eq_true rfl) (Nat.le_of_ble_eq_true rfl) (Nat.le_of_ble_eq_true rfl) (by omega) (by omega) dL_law_1040 (ko1 ?_)
    refine r_istore hX.1 dL_law_1043 (by decide) (lv2 := lvL w b (nI (8 * j)) (some (.int (nI 0))) none) rfl ?_
    refine r_aload_n hX.1 dL_law_1045 (i := 2) rfl rfl ?_
    refine ld hX (k := 1) (q := 1050) (by omega) dL_law_1046 dL_law_1047 (fun _ h => r_iconst hX.1 dL_law_1049 (v := nI 1) (by decide) h) dL_law_1050 dL_law_1051 ?_
    refine ld hX (k := 2) (q := 1056) (by omega) dL_law_1052 dL_law_1053 (fun _ h => r_iconst hX.1 dL_law_1055 (v := nI 2) (by decide) h) dL_law_1056 dL_law_1057 ?_
    have h3 := c_X3_addUnits (l := l) (w := w) (M := M1) (G := (gs G (40, 0) v.toInt64)) (x := (xs (8 * j + 1))) (d9 := (xs (8 * j + 2))) hnt hw hD1
    try dsimp only at hn1
    rw [hn1] at h3
    refine r_callV hX.1 h3 mw_X3_addUnits kc3 mi_X3_addUnits (hw.2 _ _ (by decide)) ev3 ml_L_157 rfl rfl (Nat.le_of_ble_eq_true rfl) (Nat.le_of_ble_eq_true rfl) (Nat.le_of_ble_eq_true rfl) (by omega) (by omega) dL_law_1058 (ko1 ?_)
    exact lw_tail hX (p0 := 1061) (off := 844) (kv := nI 0) hn2 (fun _ => by simp [gs]) (by omega) (by omega) dL_law_1061 dL_law_1063 dL_law_1064 dL_law_1067 dL_law_1069 dL_law_1074 dL_law_1076 dL_law_1079 dL_law_1080 dL_law_1081 dL_law_1082 dL_law_1084 dL_law_1085 dL_law_1086 dL_law_1091 (by decide) (fun a7 => VE_widen (by omega) (by omega) (K M2 (gs G (40, 0) v.toInt64) _ a7 hI2 (by simp [gs, hG])))
set_option maxHeartbeats 4000000 in
set_option maxRecDepth 100000 in
theorem lc_units (hX : LX p l s m args meth c hh w b L xs) (hI : INV M) (hG : G (2, 0) = G (3, 0)) (hj : 8 * j + 7 < L) (hcs : cells + 16 ≤ room_1.cells) (hss : slots + 96 ≤ room_1.slots) (K : KK p l e s m args below meth c cells slots Q w b j) : VE p l e room_1 s m args below meth c cells slots Q 8 w 1094 (lvL w b (nI (8 * j)) none none) [] (ev w M G) := by
  obtain ⟨mn, en, hI⟩ := hI
  have hw : WK w := hX.2.1
  have hnt : l.stackTraces = false := hX.2.2.1
  refine r_aload_n hX.1 dL_law_1094 (i := 1) rfl rfl ?_
  refine ld hX (k := 1) (q := 1099) (by omega) dL_law_1095 dL_law_1096 (fun _ h => r_iconst hX.1 dL_law_1098 (v := nI 1) (by decide) h) dL_law_1099 dL_law_1100 ?_
  refine r_aload_n hX.1 dL_law_1101 (i := 3) rfl rfl ?_
  rcases ag_units (G := G) (x := (xs (8 * j + 1))) hI with ⟨X9, k, M1, hXk, ho, hn⟩ | ⟨v, M1, ho, hn⟩
  · obtain ⟨v, M2, hn1, hn2, hD1, hI2⟩ := hn G
    refine r_callSX hX.1 (c_L_units (x1 := (xs (8 * j + 1))) hnt hw hI.DI (.inl ⟨X9, k, M1, G, hXk, ho, rfl⟩)) mx_L_units ms_L_units ml_L_158 rfl rfl (Nat.le_of_ble_eq_true rfl) (Nat.le_of_ble_eq_true rfl) (Nat.le_of_ble_eq_true rfl) (by omega) (by omega) dL_law_1102 (ko1 ?_)
    refine r_istore hX.1 dL_law_1105 (by decide) (lv2 := lvL w b (nI (8 * j)) (some (.int (nI (k + 1)))) none) rfl ?_
    refine r_aload_n hX.1 dL_law_1107 (i := 2) rfl rfl ?_
    refine ld hX (k := 1) (q := 1112) (by omega) dL_law_1108 dL_law_1109 (fun _ h => r_iconst hX.1 dL_law_1111 (v := nI 1) (by decide) h) dL_law_1112 dL_law_1113 ?_
    have h3 := c_X3_units (l := l) (w := w) (M := M1) (G := G) (x := (xs (8 * j + 1))) hnt hw hD1
    try dsimp only at hn1
    rw [hn1] at h3
    refine r_callV hX.1 h3 mw_X3_units kc3 mi_X3_units (hw.2 _ _ (by decide)) ev3 ml_L_160 rfl rfl (Nat.le_of_ble_eq_true rfl) (Nat.le_of_ble_eq_true rfl) (Nat.le_of_ble_eq_true rfl) (by omega) (by omega) dL_law_1114 (ko1 ?_)
    exact lw_tail hX (p0 := 1117) (off := 788) (kv := nI (k + 1)) hn2 (fun z => absurd z (nI_ne0 (by omega) (by have := (List.getElem?_eq_some_iff.mp hXk).1; simp at this; omega))) (by omega) (by omega) dL_law_1117 dL_law_1119 dL_law_1120 dL_law_1123 dL_law_1125 dL_law_1130 dL_law_1132 dL_law_1135 dL_law_1136 dL_law_1137 dL_law_1138 dL_law_1140 dL_law_1141 dL_law_1142 dL_law_1147 (by decide) (fun a7 => VE_widen (by omega) (by omega) (K M2 G _ a7 hI2 hG))
  · obtain ⟨M2, hn1, hn2, hD1, hI2⟩ := hn (gs G (40, 0) v.toInt64)
    refine r_callSX hX.1 (c_L_units (x1 := (xs (8 * j + 1))) hnt hw hI.DI (.inr ⟨v, M1, G, ho, rfl⟩)) mx_L_units ms_L_units ml_L_158 rfl rfl (Nat.le_of_ble_eq_true rfl) (Nat.le_of_ble_eq_true rfl) (Nat.le_of_ble_eq_true rfl) (by omega) (by omega) dL_law_1102 (ko1 ?_)
    refine r_istore hX.1 dL_law_1105 (by decide) (lv2 := lvL w b (nI (8 * j)) (some (.int (nI 0))) none) rfl ?_
    refine r_aload_n hX.1 dL_law_1107 (i := 2) rfl rfl ?_
    refine ld hX (k := 1) (q := 1112) (by omega) dL_law_1108 dL_law_1109 (fun _ h => r_iconst hX.1 dL_law_1111 (v := nI 1) (by decide) h) dL_law_1112 dL_law_1113 ?_
    have h3 := c_X3_units (l := l) (w := w) (M := M1) (G := (gs G (40, 0) v.toInt64)) (x := (xs (8 * j + 1))) hnt hw hD1
    try dsimp only at hn1
    rw [hn1] at h3
    refine r_callV hX.1 h3 mw_X3_units kc3 mi_X3_units (hw.2 _ _ (by decide)) ev3 ml_L_160 rfl rfl (Nat.le_of_ble_eq_true rfl) (Nat.le_of_ble_eq_true rfl) (Nat.le_of_ble_eq_true rfl) (by omega) (by omega) dL_law_1114 (ko1 ?_)
    exact lw_tail hX (p0 := 1117) (off := 788) (kv := nI 0) hn2 (fun _ => by simp [gs]) (by omega) (by omega) dL_law_1117 dL_law_1119 dL_law_1120 dL_law_1123 dL_law_1125 dL_law_1130 dL_law_1132 dL_law_1135 dL_law_1136 dL_law_1137 dL_law_1138 dL_law_1140 dL_law_1141 dL_law_1142 dL_law_1147 (by decide) (fun a7 => VE_widen (by omega) (by omega) (K M2 (gs G (40, 0) v.toInt64) _ a7 hI2 (by simp [gs, hG])))
set_option maxHeartbeats 4000000 in
set_option maxRecDepth 100000 in
theorem lc_why (hX : LX p l s m args meth c hh w b L xs) (hI : INV M) (hG : G (2, 0) = G (3, 0)) (hj : 8 * j + 7 < L) (hcs : cells + 16 ≤ room_1.cells) (hss : slots + 96 ≤ room_1.slots) (K : KK p l e s m args below meth c cells slots Q w b j) : VE p l e room_1 s m args below meth c cells slots Q 8 w 1150 (lvL w b (nI (8 * j)) none none) [] (ev w M G) := by
  obtain ⟨mn, en, hI⟩ := hI
  have hw : WK w := hX.2.1
  have hnt : l.stackTraces = false := hX.2.2.1
  refine r_aload_n hX.1 dL_law_1150 (i := 1) rfl rfl ?_
  refine ld hX (k := 1) (q := 1155) (by omega) dL_law_1151 dL_law_1152 (fun _ h => r_iconst hX.1 dL_law_1154 (v := nI 1) (by decide) h) dL_law_1155 dL_law_1156 ?_
  refine ld hX (k := 2) (q := 1161) (by omega) dL_law_1157 dL_law_1158 (fun _ h => r_iconst hX.1 dL_law_1160 (v := nI 2) (by decide) h) dL_law_1161 dL_law_1162 ?_
  refine r_aload_n hX.1 dL_law_1163 (i := 3) rfl rfl ?_
  rcases ag_why (G := G) (x := (xs (8 * j + 1))) (y := (xs (8 * j + 2))) hI with ⟨X9, k, M1, hXk, ho, hn⟩ | ⟨v, M1, ho, hn⟩
  · obtain ⟨v, M2, hn1, hn2, hD1, hI2⟩ := hn G
    refine r_callSX hX.1 (c_L_why (x1 := (xs (8 * j + 1))) (x2 := (xs (8 * j + 2))) hnt hw hI.DI (.inl ⟨X9, k, M1, G, hXk, ho, rfl⟩)) mx_L_why ms_L_why ml_L_161 rfl rfl (Nat.le_of_ble_eq_true rfl) (Nat.le_of_ble_eq_true rfl) (Nat.le_of_ble_eq_true rfl) (by omega) (by omega) dL_law_1164 (ko1 ?_)
    refine r_istore hX.1 dL_law_1167 (by decide) (lv2 := lvL w b (nI (8 * j)) (some (.int (nI (k + 1)))) none) rfl ?_
    refine r_aload_n hX.1 dL_law_1169 (i := 2) rfl rfl ?_
    refine ld hX (k := 1) (q := 1174) (by omega) dL_law_1170 dL_law_1171 (fun _ h => r_iconst hX.1 dL_law_1173 (v := nI 1) (by decide) h) dL_law_1174 dL_law_1175 ?_
    refine ld hX (k := 2) (q := 1180) (by omega) dL_law_1176 dL_law_1177 (fun _ h => r_iconst hX.1 dL_law_1179 (v := nI 2) (by decide) h) dL_law_1180 dL_law_1181 ?_
    have h3 := c_X3_why (l := l) (w := w) (M := M1) (G := G) (x := (xs (8 * j + 1))) (y := (xs (8 * j + 2))) hnt hw hD1
    try dsimp only at hn1
    rw [hn1] at h3
    refine r_callV hX.1 h3 mw_X3_why kc3 mi_X3_why (hw.2 _ _ (by decide)) ev3 ml_L_163 rfl rfl (Nat.le_of_ble_eq_true rfl) (Nat.le_of_ble_eq_true rfl) (Nat.le_of_ble_eq_true rfl) (by omega) (by omega) dL_law_1182 (ko1 ?_)
    exact lw_tail hX (p0 := 1185) (off := 720) (kv := nI (k + 1)) hn2 (fun z => absurd z (nI_ne0 (by omega) (by have := (List.getElem?_eq_some_iff.mp hXk).1; simp at this; omega))) (by omega) (by omega) dL_law_1185 dL_law_1187 dL_law_1188 dL_law_1191 dL_law_1193 dL_law_1198 dL_law_1200 dL_law_1203 dL_law_1204 dL_law_1205 dL_law_1206 dL_law_1208 dL_law_1209 dL_law_1210 dL_law_1215 (by decide) (fun a7 => VE_widen (by omega) (by omega) (K M2 G _ a7 hI2 hG))
  · obtain ⟨M2, hn1, hn2, hD1, hI2⟩ := hn (gs G (40, 0) v.toInt64)
    refine r_callSX hX.1 (c_L_why (x1 := (xs (8 * j + 1))) (x2 := (xs (8 * j + 2))) hnt hw hI.DI (.inr ⟨v, M1, G, ho, rfl⟩)) mx_L_why ms_L_why ml_L_161 rfl rfl (Nat.le_of_ble_eq_true rfl) (Nat.le_of_ble_eq_true rfl) (Nat.le_of_ble_eq_true rfl) (by omega) (by omega) dL_law_1164 (ko1 ?_)
    refine r_istore hX.1 dL_law_1167 (by decide) (lv2 := lvL w b (nI (8 * j)) (some (.int (nI 0))) none) rfl ?_
    refine r_aload_n hX.1 dL_law_1169 (i := 2) rfl rfl ?_
    refine ld hX (k := 1) (q := 1174) (by omega) dL_law_1170 dL_law_1171 (fun _ h => r_iconst hX.1 dL_law_1173 (v := nI 1) (by decide) h) dL_law_1174 dL_law_1175 ?_
    refine ld hX (k := 2) (q := 1180) (by omega) dL_law_1176 dL_law_1177 (fun _ h => r_iconst hX.1 dL_law_1179 (v := nI 2) (by decide) h) dL_law_1180 dL_law_1181 ?_
    have h3 := c_X3_why (l := l) (w := w) (M := M1) (G := (gs G (40, 0) v.toInt64)) (x := (xs (8 * j + 1))) (y := (xs (8 * j + 2))) hnt hw hD1
    try dsimp only at hn1
    rw [hn1] at h3
    refine r_callV hX.1 h3 mw_X3_why kc3 mi_X3_why (hw.2 _ _ (by decide)) ev3 ml_L_163 rfl rfl (Nat.le_of_ble_eq_true rfl) (Nat.le_of_ble_eq_true rfl) (Nat.le_of_ble_eq_true rfl) (by omega) (by omega) dL_law_1182 (ko1 ?_)
    exact lw_tail hX (p0 := 1185) (off := 720) (kv := nI 0) hn2 (fun _ => by simp [gs]) (by omega) (by omega) dL_law_1185 dL_law_1187 dL_law_1188 dL_law_1191 dL_law_1193 dL_law_1198 dL_law_1200 dL_law_1203 dL_law_1204 dL_law_1205 dL_law_1206 dL_law_1208 dL_law_1209 dL_law_1210 dL_law_1215 (by decide) (fun a7 => VE_widen (by omega) (by omega) (K M2 (gs G (40, 0) v.toInt64) _ a7 hI2 (by simp [gs, hG])))
set_option maxHeartbeats 4000000 in
set_option maxRecDepth 100000 in
theorem lc_fitting (hX : LX p l s m args meth c hh w b L xs) (hI : INV M) (hG : G (2, 0) = G (3, 0)) (hj : 8 * j + 7 < L) (hcs : cells + 16 ≤ room_1.cells) (hss : slots + 96 ≤ room_1.slots) (K : KK p l e s m args below meth c cells slots Q w b j) : VE p l e room_1 s m args below meth c cells slots Q 8 w 1218 (lvL w b (nI (8 * j)) none none) [] (ev w M G) := by
  obtain ⟨mn, en, hI⟩ := hI
  have hw : WK w := hX.2.1
  have hnt : l.stackTraces = false := hX.2.2.1
  refine r_aload_n hX.1 dL_law_1218 (i := 1) rfl rfl ?_
  refine ld hX (k := 1) (q := 1223) (by omega) dL_law_1219 dL_law_1220 (fun _ h => r_iconst hX.1 dL_law_1222 (v := nI 1) (by decide) h) dL_law_1223 dL_law_1224 ?_
  refine r_aload_n hX.1 dL_law_1225 (i := 3) rfl rfl ?_
  rcases ag_fitting (G := G) (x := (xs (8 * j + 1))) hI with ⟨X9, k, M1, hXk, ho, hn⟩ | ⟨v, M1, ho, hn⟩
  · obtain ⟨v, M2, hn1, hn2, hD1, hI2⟩ := hn G
    refine r_callSX hX.1 (c_L_fitting (x1 := (xs (8 * j + 1))) hnt hw hI.DI (.inl ⟨X9, k, M1, G, hXk, ho, rfl⟩)) mx_L_fitting ms_L_fitting ml_L_164 rfl rfl (Nat.le_of_ble_eq_true rfl) (Nat.le_of_ble_eq_true rfl) (Nat.le_of_ble_eq_true rfl) (by omega) (by omega) dL_law_1226 (ko1 ?_)
    refine r_istore hX.1 dL_law_1229 (by decide) (lv2 := lvL w b (nI (8 * j)) (some (.int (nI (k + 1)))) none) rfl ?_
    refine r_aload_n hX.1 dL_law_1231 (i := 2) rfl rfl ?_
    refine ld hX (k := 1) (q := 1236) (by omega) dL_law_1232 dL_law_1233 (fun _ h => r_iconst hX.1 dL_law_1235 (v := nI 1) (by decide) h) dL_law_1236 dL_law_1237 ?_
    have h3 := c_X3_fitting (l := l) (w := w) (M := M1) (G := G) (x := (xs (8 * j + 1))) hnt hw hD1
    try dsimp only at hn1
    rw [hn1] at h3
    refine r_callV hX.1 h3 mw_X3_fitting kc3 mi_X3_fitting (hw.2 _ _ (by decide)) ev3 ml_L_166 rfl rfl (Nat.le_of_ble_eq_true rfl) (Nat.le_of_ble_eq_true rfl) (Nat.le_of_ble_eq_true rfl) (by omega) (by omega) dL_law_1238 (ko1 ?_)
    exact lw_tail hX (p0 := 1241) (off := 664) (kv := nI (k + 1)) hn2 (fun z => absurd z (nI_ne0 (by omega) (by have := (List.getElem?_eq_some_iff.mp hXk).1; simp at this; omega))) (by omega) (by omega) dL_law_1241 dL_law_1243 dL_law_1244 dL_law_1247 dL_law_1249 dL_law_1254 dL_law_1256 dL_law_1259 dL_law_1260 dL_law_1261 dL_law_1262 dL_law_1264 dL_law_1265 dL_law_1266 dL_law_1271 (by decide) (fun a7 => VE_widen (by omega) (by omega) (K M2 G _ a7 hI2 hG))
  · obtain ⟨M2, hn1, hn2, hD1, hI2⟩ := hn (gs G (40, 0) v.toInt64)
    refine r_callSX hX.1 (c_L_fitting (x1 := (xs (8 * j + 1))) hnt hw hI.DI (.inr ⟨v, M1, G, ho, rfl⟩)) mx_L_fitting ms_L_fitting ml_L_164 rfl rfl (Nat.le_of_ble_eq_true rfl) (Nat.le_of_ble_eq_true rfl) (Nat.le_of_ble_eq_true rfl) (by omega) (by omega) dL_law_1226 (ko1 ?_)
    refine r_istore hX.1 dL_law_1229 (by decide) (lv2 := lvL w b (nI (8 * j)) (some (.int (nI 0))) none) rfl ?_
    refine r_aload_n hX.1 dL_law_1231 (i := 2) rfl rfl ?_
    refine ld hX (k := 1) (q := 1236) (by omega) dL_law_1232 dL_law_1233 (fun _ h => r_iconst hX.1 dL_law_1235 (v := nI 1) (by decide) h) dL_law_1236 dL_law_1237 ?_
    have h3 := c_X3_fitting (l := l) (w := w) (M := M1) (G := (gs G (40, 0) v.toInt64)) (x := (xs (8 * j + 1))) hnt hw hD1
    try dsimp only at hn1
    rw [hn1] at h3
    refine r_callV hX.1 h3 mw_X3_fitting kc3 mi_X3_fitting (hw.2 _ _ (by decide)) ev3 ml_L_166 rfl rfl (Nat.le_of_ble_eq_true rfl) (Nat.le_of_ble_eq_true rfl) (Nat.le_of_ble_eq_true rfl) (by omega) (by omega) dL_law_1238 (ko1 ?_)
    exact lw_tail hX (p0 := 1241) (off := 664) (kv := nI 0) hn2 (fun _ => by simp [gs]) (by omega) (by omega) dL_law_1241 dL_law_1243 dL_law_1244 dL_law_1247 dL_law_1249 dL_law_1254 dL_law_1256 dL_law_1259 dL_law_1260 dL_law_1261 dL_law_1262 dL_law_1264 dL_law_1265 dL_law_1266 dL_law_1271 (by decide) (fun a7 => VE_widen (by omega) (by omega) (K M2 (gs G (40, 0) v.toInt64) _ a7 hI2 (by simp [gs, hG])))
set_option maxHeartbeats 4000000 in
set_option maxRecDepth 100000 in
theorem lc_firstFitting (hX : LX p l s m args meth c hh w b L xs) (hI : INV M) (hG : G (2, 0) = G (3, 0)) (hj : 8 * j + 7 < L) (hcs : cells + 16 ≤ room_1.cells) (hss : slots + 96 ≤ room_1.slots) (K : KK p l e s m args below meth c cells slots Q w b j) : VE p l e room_1 s m args below meth c cells slots Q 8 w 1274 (lvL w b (nI (8 * j)) none none) [] (ev w M G) := by
  obtain ⟨mn, en, hI⟩ := hI
  have hw : WK w := hX.2.1
  have hnt : l.stackTraces = false := hX.2.2.1
  refine r_aload_n hX.1 dL_law_1274 (i := 1) rfl rfl ?_
  refine ld hX (k := 1) (q := 1279) (by omega) dL_law_1275 dL_law_1276 (fun _ h => r_iconst hX.1 dL_law_1278 (v := nI 1) (by decide) h) dL_law_1279 dL_law_1280 ?_
  refine r_aload_n hX.1 dL_law_1281 (i := 3) rfl rfl ?_
  rcases ag_first (G := G) (x := (xs (8 * j + 1))) hI with ⟨X9, k, M1, hXk, ho, hn⟩ | ⟨v, M1, ho, hn⟩
  · obtain ⟨v, M2, hn1, hn2, hD1, hI2⟩ := hn G
    refine r_callSX hX.1 (c_L_firstFitting (x1 := (xs (8 * j + 1))) hnt hw hI.DI (.inl ⟨X9, k, M1, G, hXk, ho, rfl⟩)) mx_L_firstFitting ms_L_firstFitting ml_L_167 rfl rfl (Nat.le_of_ble_eq_true rfl) (Nat.le_of_ble_eq_true rfl) (Nat.le_of_ble_eq_true rfl) (by omega) (by omega) dL_law_1282 (ko1 ?_)
    refine r_istore hX.1 dL_law_1285 (by decide) (lv2 := lvL w b (nI (8 * j)) (some (.int (nI (k + 1)))) none) rfl ?_
    refine r_aload_n hX.1 dL_law_1287 (i := 2) rfl rfl ?_
    refine ld hX (k := 1) (q := 1292) (by omega) dL_law_1288 dL_law_1289 (fun _ h => r_iconst hX.1 dL_law_1291 (v := nI 1) (by decide) h) dL_law_1292 dL_law_1293 ?_
    have h3 := c_X3_firstFitting (l := l) (w := w) (M := M1) (G := G) (x := (xs (8 * j + 1))) hnt hw hD1
    try dsimp only at hn1
    rw [hn1] at h3
    refine r_callV hX.1 h3 mw_X3_firstFitting kc3 mi_X3_firstFitting (hw.2 _ _ (by decide)) ev3 ml_L_169 rfl rfl (Nat.le_of_ble_eq_true rfl) (Nat.le_of_ble_eq_true rfl) (Nat.le_of_ble_eq_true rfl) (by omega) (by omega) dL_law_1294 (ko1 ?_)
    exact lw_tail hX (p0 := 1297) (off := 608) (kv := nI (k + 1)) hn2 (fun z => absurd z (nI_ne0 (by omega) (by have := (List.getElem?_eq_some_iff.mp hXk).1; simp at this; omega))) (by omega) (by omega) dL_law_1297 dL_law_1299 dL_law_1300 dL_law_1303 dL_law_1305 dL_law_1310 dL_law_1312 dL_law_1315 dL_law_1316 dL_law_1317 dL_law_1318 dL_law_1320 dL_law_1321 dL_law_1322 dL_law_1327 (by decide) (fun a7 => VE_widen (by omega) (by omega) (K M2 G _ a7 hI2 hG))
  · obtain ⟨M2, hn1, hn2, hD1, hI2⟩ := hn (gs G (40, 0) v.toInt64)
    refine r_callSX hX.1 (c_L_firstFitting (x1 := (xs (8 * j + 1))) hnt hw hI.DI (.inr ⟨v, M1, G, ho, rfl⟩)) mx_L_firstFitting ms_L_firstFitting ml_L_167 rfl rfl (Nat.le_of_ble_eq_true rfl) (Nat.le_of_ble_eq_true rfl) (Nat.le_of_ble_eq_true rfl) (by omega) (by omega) dL_law_1282 (ko1 ?_)
    refine r_istore hX.1 dL_law_1285 (by decide) (lv2 := lvL w b (nI (8 * j)) (some (.int (nI 0))) none) rfl ?_
    refine r_aload_n hX.1 dL_law_1287 (i := 2) rfl rfl ?_
    refine ld hX (k := 1) (q := 1292) (by omega) dL_law_1288 dL_law_1289 (fun _ h => r_iconst hX.1 dL_law_1291 (v := nI 1) (by decide) h) dL_law_1292 dL_law_1293 ?_
    have h3 := c_X3_firstFitting (l := l) (w := w) (M := M1) (G := (gs G (40, 0) v.toInt64)) (x := (xs (8 * j + 1))) hnt hw hD1
    try dsimp only at hn1
    rw [hn1] at h3
    refine r_callV hX.1 h3 mw_X3_firstFitting kc3 mi_X3_firstFitting (hw.2 _ _ (by decide)) ev3 ml_L_169 rfl rfl (Nat.le_of_ble_eq_true rfl) (Nat.le_of_ble_eq_true rfl) (Nat.le_of_ble_eq_true rfl) (by omega) (by omega) dL_law_1294 (ko1 ?_)
    exact lw_tail hX (p0 := 1297) (off := 608) (kv := nI 0) hn2 (fun _ => by simp [gs]) (by omega) (by omega) dL_law_1297 dL_law_1299 dL_law_1300 dL_law_1303 dL_law_1305 dL_law_1310 dL_law_1312 dL_law_1315 dL_law_1316 dL_law_1317 dL_law_1318 dL_law_1320 dL_law_1321 dL_law_1322 dL_law_1327 (by decide) (fun a7 => VE_widen (by omega) (by omega) (K M2 (gs G (40, 0) v.toInt64) _ a7 hI2 (by simp [gs, hG])))
set_option maxHeartbeats 4000000 in
set_option maxRecDepth 100000 in
theorem lc_unitsForAll (hX : LX p l s m args meth c hh w b L xs) (hI : INV M) (hG : G (2, 0) = G (3, 0)) (hj : 8 * j + 7 < L) (hcs : cells + 16 ≤ room_1.cells) (hss : slots + 96 ≤ room_1.slots) (K : KK p l e s m args below meth c cells slots Q w b j) : VE p l e room_1 s m args below meth c cells slots Q 8 w 1330 (lvL w b (nI (8 * j)) none none) [] (ev w M G) := by
  obtain ⟨mn, en, hI⟩ := hI
  have hw : WK w := hX.2.1
  have hnt : l.stackTraces = false := hX.2.2.1
  refine r_aload_n hX.1 dL_law_1330 (i := 1) rfl rfl ?_
  refine ld hX (k := 1) (q := 1335) (by omega) dL_law_1331 dL_law_1332 (fun _ h => r_iconst hX.1 dL_law_1334 (v := nI 1) (by decide) h) dL_law_1335 dL_law_1336 ?_
  refine r_aload_n hX.1 dL_law_1337 (i := 3) rfl rfl ?_
  rcases ag_UFA (G := G) (x := (xs (8 * j + 1))) hI with ⟨X9, k, M1, hXk, ho, hn⟩ | ⟨v, M1, ho, hn⟩
  · obtain ⟨v, M2, hn1, hn2, hD1, hI2⟩ := hn G
    refine r_callSX hX.1 (c_L_unitsForAll (x1 := (xs (8 * j + 1))) hnt hw hI.DI (.inl ⟨X9, k, M1, G, hXk, ho, rfl⟩)) mx_L_unitsForAll ms_L_unitsForAll ml_L_170 rfl rfl (Nat.le_of_ble_eq_true rfl) (Nat.le_of_ble_eq_true rfl) (Nat.le_of_ble_eq_true rfl) (by omega) (by omega) dL_law_1338 (ko1 ?_)
    refine r_istore hX.1 dL_law_1341 (by decide) (lv2 := lvL w b (nI (8 * j)) (some (.int (nI (k + 1)))) none) rfl ?_
    refine r_aload_n hX.1 dL_law_1343 (i := 2) rfl rfl ?_
    refine ld hX (k := 1) (q := 1348) (by omega) dL_law_1344 dL_law_1345 (fun _ h => r_iconst hX.1 dL_law_1347 (v := nI 1) (by decide) h) dL_law_1348 dL_law_1349 ?_
    have h3 := c_X3_unitsForAll (l := l) (w := w) (M := M1) (G := G) (x := (xs (8 * j + 1))) hnt hw hD1
    try dsimp only at hn1
    rw [hn1] at h3
    refine r_callV hX.1 h3 mw_X3_unitsForAll kc3 mi_X3_unitsForAll (hw.2 _ _ (by decide)) ev3 ml_L_172 rfl rfl (Nat.le_of_ble_eq_true rfl) (Nat.le_of_ble_eq_true rfl) (Nat.le_of_ble_eq_true rfl) (by omega) (by omega) dL_law_1350 (ko1 ?_)
    exact lw_tail hX (p0 := 1353) (off := 552) (kv := nI (k + 1)) hn2 (fun z => absurd z (nI_ne0 (by omega) (by have := (List.getElem?_eq_some_iff.mp hXk).1; simp at this; omega))) (by omega) (by omega) dL_law_1353 dL_law_1355 dL_law_1356 dL_law_1359 dL_law_1361 dL_law_1366 dL_law_1368 dL_law_1371 dL_law_1372 dL_law_1373 dL_law_1374 dL_law_1376 dL_law_1377 dL_law_1378 dL_law_1383 (by decide) (fun a7 => VE_widen (by omega) (by omega) (K M2 G _ a7 hI2 hG))
  · obtain ⟨M2, hn1, hn2, hD1, hI2⟩ := hn (gs G (40, 0) v.toInt64)
    refine r_callSX hX.1 (c_L_unitsForAll (x1 := (xs (8 * j + 1))) hnt hw hI.DI (.inr ⟨v, M1, G, ho, rfl⟩)) mx_L_unitsForAll ms_L_unitsForAll ml_L_170 rfl rfl (Nat.le_of_ble_eq_true rfl) (Nat.le_of_ble_eq_true rfl) (Nat.le_of_ble_eq_true rfl) (by omega) (by omega) dL_law_1338 (ko1 ?_)
    refine r_istore hX.1 dL_law_1341 (by decide) (lv2 := lvL w b (nI (8 * j)) (some (.int (nI 0))) none) rfl ?_
    refine r_aload_n hX.1 dL_law_1343 (i := 2) rfl rfl ?_
    refine ld hX (k := 1) (q := 1348) (by omega) dL_law_1344 dL_law_1345 (fun _ h => r_iconst hX.1 dL_law_1347 (v := nI 1) (by decide) h) dL_law_1348 dL_law_1349 ?_
    have h3 := c_X3_unitsForAll (l := l) (w := w) (M := M1) (G := (gs G (40, 0) v.toInt64)) (x := (xs (8 * j + 1))) hnt hw hD1
    try dsimp only at hn1
    rw [hn1] at h3
    refine r_callV hX.1 h3 mw_X3_unitsForAll kc3 mi_X3_unitsForAll (hw.2 _ _ (by decide)) ev3 ml_L_172 rfl rfl (Nat.le_of_ble_eq_true rfl) (Nat.le_of_ble_eq_true rfl) (Nat.le_of_ble_eq_true rfl) (by omega) (by omega) dL_law_1350 (ko1 ?_)
    exact lw_tail hX (p0 := 1353) (off := 552) (kv := nI 0) hn2 (fun _ => by simp [gs]) (by omega) (by omega) dL_law_1353 dL_law_1355 dL_law_1356 dL_law_1359 dL_law_1361 dL_law_1366 dL_law_1368 dL_law_1371 dL_law_1372 dL_law_1373 dL_law_1374 dL_law_1376 dL_law_1377 dL_law_1378 dL_law_1383 (by decide) (fun a7 => VE_widen (by omega) (by omega) (K M2 (gs G (40, 0) v.toInt64) _ a7 hI2 (by simp [gs, hG])))
set_option maxHeartbeats 4000000 in
set_option maxRecDepth 100000 in
theorem lc_coveredByTrying (hX : LX p l s m args meth c hh w b L xs) (hI : INV M) (hG : G (2, 0) = G (3, 0)) (hj : 8 * j + 7 < L) (hcs : cells + 16 ≤ room_1.cells) (hss : slots + 96 ≤ room_1.slots) (K : KK p l e s m args below meth c cells slots Q w b j) : VE p l e room_1 s m args below meth c cells slots Q 8 w 1399 (lvL w b (nI (8 * j)) none none) [] (ev w M G) := by
  obtain ⟨mn, en, hI⟩ := hI
  have hw : WK w := hX.2.1
  have hnt : l.stackTraces = false := hX.2.2.1
  refine r_aload_n hX.1 dL_law_1399 (i := 1) rfl rfl ?_
  refine r_aload_n hX.1 dL_law_1400 (i := 3) rfl rfl ?_
  rcases ag_CT (G := G)  hI with ⟨X9, k, M1, hXk, ho, hn⟩ | ⟨v, M1, ho, hn⟩
  · obtain ⟨v, M2, hn1, hn2, hD1, hI2⟩ := hn G
    refine r_callSX hX.1 (c_L_coveredByTrying  hnt hw hI.DI (.inl ⟨X9, k, M1, G, hXk, ho, rfl⟩)) mx_L_coveredByTrying ms_L_coveredByTrying ml_L_177 rfl rfl (Nat.le_of_ble_eq_true rfl) (Nat.le_of_ble_eq_true rfl) (Nat.le_of_ble_eq_true rfl) (by omega) (by omega) dL_law_1401 (ko1 ?_)
    refine r_istore hX.1 dL_law_1404 (by decide) (lv2 := lvL w b (nI (8 * j)) (some (.int (nI (k + 1)))) none) rfl ?_
    refine r_aload_n hX.1 dL_law_1406 (i := 2) rfl rfl ?_
    have h3 := c_X3_coveredByTrying (l := l) (w := w) (M := M1) (G := G)  hnt hw hD1
    try dsimp only at hn1
    rw [hn1] at h3
    refine r_callV hX.1 h3 mw_X3_coveredByTrying kc3 mi_X3_coveredByTrying (hw.2 _ _ (by decide)) ev3 ml_L_180 rfl rfl (Nat.le_of_ble_eq_true rfl) (Nat.le_of_ble_eq_true rfl) (Nat.le_of_ble_eq_true rfl) (by omega) (by omega) dL_law_1407 (ko1 ?_)
    exact lw_tail hX (p0 := 1410) (off := 495) (kv := nI (k + 1)) hn2 (fun z => absurd z (nI_ne0 (by omega) (by have := (List.getElem?_eq_some_iff.mp hXk).1; simp at this; omega))) (by omega) (by omega) dL_law_1410 dL_law_1412 dL_law_1413 dL_law_1416 dL_law_1418 dL_law_1423 dL_law_1425 dL_law_1428 dL_law_1429 dL_law_1430 dL_law_1431 dL_law_1433 dL_law_1434 dL_law_1435 dL_law_1440 (by decide) (fun a7 => VE_widen (by omega) (by omega) (K M2 G _ a7 hI2 hG))
  · obtain ⟨M2, hn1, hn2, hD1, hI2⟩ := hn (gs G (40, 0) v.toInt64)
    refine r_callSX hX.1 (c_L_coveredByTrying  hnt hw hI.DI (.inr ⟨v, M1, G, ho, rfl⟩)) mx_L_coveredByTrying ms_L_coveredByTrying ml_L_177 rfl rfl (Nat.le_of_ble_eq_true rfl) (Nat.le_of_ble_eq_true rfl) (Nat.le_of_ble_eq_true rfl) (by omega) (by omega) dL_law_1401 (ko1 ?_)
    refine r_istore hX.1 dL_law_1404 (by decide) (lv2 := lvL w b (nI (8 * j)) (some (.int (nI 0))) none) rfl ?_
    refine r_aload_n hX.1 dL_law_1406 (i := 2) rfl rfl ?_
    have h3 := c_X3_coveredByTrying (l := l) (w := w) (M := M1) (G := (gs G (40, 0) v.toInt64))  hnt hw hD1
    try dsimp only at hn1
    rw [hn1] at h3
    refine r_callV hX.1 h3 mw_X3_coveredByTrying kc3 mi_X3_coveredByTrying (hw.2 _ _ (by decide)) ev3 ml_L_180 rfl rfl (Nat.le_of_ble_eq_true rfl) (Nat.le_of_ble_eq_true rfl) (Nat.le_of_ble_eq_true rfl) (by omega) (by omega) dL_law_1407 (ko1 ?_)
    exact lw_tail hX (p0 := 1410) (off := 495) (kv := nI 0) hn2 (fun _ => by simp [gs]) (by omega) (by omega) dL_law_1410 dL_law_1412 dL_law_1413 dL_law_1416 dL_law_1418 dL_law_1423 dL_law_1425 dL_law_1428 dL_law_1429 dL_law_1430 dL_law_1431 dL_law_1433 dL_law_1434 dL_law_1435 dL_law_1440 (by decide) (fun a7 => VE_widen (by omega) (by omega) (K M2 (gs G (40, 0) v.toInt64) _ a7 hI2 (by simp [gs, hG])))
set_option maxHeartbeats 4000000 in
set_option maxRecDepth 100000 in
theorem lc_entitlementOf (hX : LX p l s m args meth c hh w b L xs) (hI : INV M) (hG : G (2, 0) = G (3, 0)) (hj : 8 * j + 7 < L) (hcs : cells + 16 ≤ room_1.cells) (hss : slots + 96 ≤ room_1.slots) (K : KK p l e s m args below meth c cells slots Q w b j) : VE p l e room_1 s m args below meth c cells slots Q 8 w 1443 (lvL w b (nI (8 * j)) none none) [] (ev w M G) := by
  obtain ⟨mn, en, hI⟩ := hI
  have hw : WK w := hX.2.1
  have hnt : l.stackTraces = false := hX.2.2.1
  refine r_aload_n hX.1 dL_law_1443 (i := 1) rfl rfl ?_
  refine ld hX (k := 1) (q := 1448) (by omega) dL_law_1444 dL_law_1445 (fun _ h => r_iconst hX.1 dL_law_1447 (v := nI 1) (by decide) h) dL_law_1448 dL_law_1449 ?_
  refine r_aload_n hX.1 dL_law_1450 (i := 3) rfl rfl ?_
  rcases ag_EOf (G := G) (x := (xs (8 * j + 1))) hI with ⟨X9, k, M1, hXk, ho, hn⟩ | ⟨v, M1, ho, hn⟩
  · obtain ⟨v, M2, hn1, hn2, hD1, hI2⟩ := hn G
    refine r_callSX hX.1 (c_L_entitlementOf (x1 := (xs (8 * j + 1))) hnt hw hI.DI (.inl ⟨X9, k, M1, G, hXk, ho, rfl⟩)) mx_L_entitlementOf ms_L_entitlementOf ml_L_181 rfl rfl (Nat.le_of_ble_eq_true rfl) (Nat.le_of_ble_eq_true rfl) (Nat.le_of_ble_eq_true rfl) (by omega) (by omega) dL_law_1451 (ko1 ?_)
    refine r_istore hX.1 dL_law_1454 (by decide) (lv2 := lvL w b (nI (8 * j)) (some (.int (nI (k + 1)))) none) rfl ?_
    refine r_aload_n hX.1 dL_law_1456 (i := 2) rfl rfl ?_
    refine ld hX (k := 1) (q := 1461) (by omega) dL_law_1457 dL_law_1458 (fun _ h => r_iconst hX.1 dL_law_1460 (v := nI 1) (by decide) h) dL_law_1461 dL_law_1462 ?_
    have h3 := c_X3_entitlementOf (l := l) (w := w) (M := M1) (G := G) (x := (xs (8 * j + 1))) hnt hw hD1
    try dsimp only at hn1
    rw [hn1] at h3
    refine r_callV hX.1 h3 mw_X3_entitlementOf kc3 mi_X3_entitlementOf (hw.2 _ _ (by decide)) ev3 ml_L_183 rfl rfl (Nat.le_of_ble_eq_true rfl) (Nat.le_of_ble_eq_true rfl) (Nat.le_of_ble_eq_true rfl) (by omega) (by omega) dL_law_1463 (ko1 ?_)
    exact lw_tail hX (p0 := 1466) (off := 439) (kv := nI (k + 1)) hn2 (fun z => absurd z (nI_ne0 (by omega) (by have := (List.getElem?_eq_some_iff.mp hXk).1; simp at this; omega))) (by omega) (by omega) dL_law_1466 dL_law_1468 dL_law_1469 dL_law_1472 dL_law_1474 dL_law_1479 dL_law_1481 dL_law_1484 dL_law_1485 dL_law_1486 dL_law_1487 dL_law_1489 dL_law_1490 dL_law_1491 dL_law_1496 (by decide) (fun a7 => VE_widen (by omega) (by omega) (K M2 G _ a7 hI2 hG))
  · obtain ⟨M2, hn1, hn2, hD1, hI2⟩ := hn (gs G (40, 0) v.toInt64)
    refine r_callSX hX.1 (c_L_entitlementOf (x1 := (xs (8 * j + 1))) hnt hw hI.DI (.inr ⟨v, M1, G, ho, rfl⟩)) mx_L_entitlementOf ms_L_entitlementOf ml_L_181 rfl rfl (Nat.le_of_ble_eq_true rfl) (Nat.le_of_ble_eq_true rfl) (Nat.le_of_ble_eq_true rfl) (by omega) (by omega) dL_law_1451 (ko1 ?_)
    refine r_istore hX.1 dL_law_1454 (by decide) (lv2 := lvL w b (nI (8 * j)) (some (.int (nI 0))) none) rfl ?_
    refine r_aload_n hX.1 dL_law_1456 (i := 2) rfl rfl ?_
    refine ld hX (k := 1) (q := 1461) (by omega) dL_law_1457 dL_law_1458 (fun _ h => r_iconst hX.1 dL_law_1460 (v := nI 1) (by decide) h) dL_law_1461 dL_law_1462 ?_
    have h3 := c_X3_entitlementOf (l := l) (w := w) (M := M1) (G := (gs G (40, 0) v.toInt64)) (x := (xs (8 * j + 1))) hnt hw hD1
    try dsimp only at hn1
    rw [hn1] at h3
    refine r_callV hX.1 h3 mw_X3_entitlementOf kc3 mi_X3_entitlementOf (hw.2 _ _ (by decide)) ev3 ml_L_183 rfl rfl (Nat.le_of_ble_eq_true rfl) (Nat.le_of_ble_eq_true rfl) (Nat.le_of_ble_eq_true rfl) (by omega) (by omega) dL_law_1463 (ko1 ?_)
    exact lw_tail hX (p0 := 1466) (off := 439) (kv := nI 0) hn2 (fun _ => by simp [gs]) (by omega) (by omega) dL_law_1466 dL_law_1468 dL_law_1469 dL_law_1472 dL_law_1474 dL_law_1479 dL_law_1481 dL_law_1484 dL_law_1485 dL_law_1486 dL_law_1487 dL_law_1489 dL_law_1490 dL_law_1491 dL_law_1496 (by decide) (fun a7 => VE_widen (by omega) (by omega) (K M2 (gs G (40, 0) v.toInt64) _ a7 hI2 (by simp [gs, hG])))
set_option maxHeartbeats 4000000 in
set_option maxRecDepth 100000 in
theorem lc_reason (hX : LX p l s m args meth c hh w b L xs) (hI : INV M) (hG : G (2, 0) = G (3, 0)) (hj : 8 * j + 7 < L) (hcs : cells + 16 ≤ room_1.cells) (hss : slots + 96 ≤ room_1.slots) (K : KK p l e s m args below meth c cells slots Q w b j) : VE p l e room_1 s m args below meth c cells slots Q 8 w 1499 (lvL w b (nI (8 * j)) none none) [] (ev w M G) := by
  obtain ⟨mn, en, hI⟩ := hI
  have hw : WK w := hX.2.1
  have hnt : l.stackTraces = false := hX.2.2.1
  refine r_aload_n hX.1 dL_law_1499 (i := 1) rfl rfl ?_
  refine ld hX (k := 1) (q := 1504) (by omega) dL_law_1500 dL_law_1501 (fun _ h => r_iconst hX.1 dL_law_1503 (v := nI 1) (by decide) h) dL_law_1504 dL_law_1505 ?_
  refine r_aload_n hX.1 dL_law_1506 (i := 3) rfl rfl ?_
  rcases ag_reason (G := G) (x := (xs (8 * j + 1))) hI with ⟨X9, k, M1, hXk, ho, hn⟩ | ⟨v, M1, ho, hn⟩
  · obtain ⟨v, M2, hn1, hn2, hD1, hI2⟩ := hn G
    refine r_callSX hX.1 (c_L_reason (x1 := (xs (8 * j + 1))) hnt hw hI.DI (.inl ⟨X9, k, M1, G, hXk, ho, rfl⟩)) mx_L_reason ms_L_reason ml_L_184 rfl rfl (Nat.le_of_ble_eq_true rfl) (Nat.le_of_ble_eq_true rfl) (Nat.le_of_ble_eq_true rfl) (by omega) (by omega) dL_law_1507 (ko1 ?_)
    refine r_istore hX.1 dL_law_1510 (by decide) (lv2 := lvL w b (nI (8 * j)) (some (.int (nI (k + 1)))) none) rfl ?_
    refine r_aload_n hX.1 dL_law_1512 (i := 2) rfl rfl ?_
    refine ld hX (k := 1) (q := 1517) (by omega) dL_law_1513 dL_law_1514 (fun _ h => r_iconst hX.1 dL_law_1516 (v := nI 1) (by decide) h) dL_law_1517 dL_law_1518 ?_
    have h3 := c_X3_reason (l := l) (w := w) (M := M1) (G := G) (x := (xs (8 * j + 1))) hnt hw hD1
    try dsimp only at hn1
    rw [hn1] at h3
    refine r_callV hX.1 h3 mw_X3_reason kc3 mi_X3_reason (hw.2 _ _ (by decide)) ev3 ml_L_186 rfl rfl (Nat.le_of_ble_eq_true rfl) (Nat.le_of_ble_eq_true rfl) (Nat.le_of_ble_eq_true rfl) (by omega) (by omega) dL_law_1519 (ko1 ?_)
    exact lw_tail hX (p0 := 1522) (off := 383) (kv := nI (k + 1)) hn2 (fun z => absurd z (nI_ne0 (by omega) (by have := (List.getElem?_eq_some_iff.mp hXk).1; simp at this; omega))) (by omega) (by omega) dL_law_1522 dL_law_1524 dL_law_1525 dL_law_1528 dL_law_1530 dL_law_1535 dL_law_1537 dL_law_1540 dL_law_1541 dL_law_1542 dL_law_1543 dL_law_1545 dL_law_1546 dL_law_1547 dL_law_1552 (by decide) (fun a7 => VE_widen (by omega) (by omega) (K M2 G _ a7 hI2 hG))
  · obtain ⟨M2, hn1, hn2, hD1, hI2⟩ := hn (gs G (40, 0) v.toInt64)
    refine r_callSX hX.1 (c_L_reason (x1 := (xs (8 * j + 1))) hnt hw hI.DI (.inr ⟨v, M1, G, ho, rfl⟩)) mx_L_reason ms_L_reason ml_L_184 rfl rfl (Nat.le_of_ble_eq_true rfl) (Nat.le_of_ble_eq_true rfl) (Nat.le_of_ble_eq_true rfl) (by omega) (by omega) dL_law_1507 (ko1 ?_)
    refine r_istore hX.1 dL_law_1510 (by decide) (lv2 := lvL w b (nI (8 * j)) (some (.int (nI 0))) none) rfl ?_
    refine r_aload_n hX.1 dL_law_1512 (i := 2) rfl rfl ?_
    refine ld hX (k := 1) (q := 1517) (by omega) dL_law_1513 dL_law_1514 (fun _ h => r_iconst hX.1 dL_law_1516 (v := nI 1) (by decide) h) dL_law_1517 dL_law_1518 ?_
    have h3 := c_X3_reason (l := l) (w := w) (M := M1) (G := (gs G (40, 0) v.toInt64)) (x := (xs (8 * j + 1))) hnt hw hD1
    try dsimp only at hn1
    rw [hn1] at h3
    refine r_callV hX.1 h3 mw_X3_reason kc3 mi_X3_reason (hw.2 _ _ (by decide)) ev3 ml_L_186 rfl rfl (Nat.le_of_ble_eq_true rfl) (Nat.le_of_ble_eq_true rfl) (Nat.le_of_ble_eq_true rfl) (by omega) (by omega) dL_law_1519 (ko1 ?_)
    exact lw_tail hX (p0 := 1522) (off := 383) (kv := nI 0) hn2 (fun _ => by simp [gs]) (by omega) (by omega) dL_law_1522 dL_law_1524 dL_law_1525 dL_law_1528 dL_law_1530 dL_law_1535 dL_law_1537 dL_law_1540 dL_law_1541 dL_law_1542 dL_law_1543 dL_law_1545 dL_law_1546 dL_law_1547 dL_law_1552 (by decide) (fun a7 => VE_widen (by omega) (by omega) (K M2 (gs G (40, 0) v.toInt64) _ a7 hI2 (by simp [gs, hG])))
set_option maxHeartbeats 4000000 in
set_option maxRecDepth 100000 in
theorem lc_used (hX : LX p l s m args meth c hh w b L xs) (hI : INV M) (hG : G (2, 0) = G (3, 0)) (hj : 8 * j + 7 < L) (hcs : cells + 16 ≤ room_1.cells) (hss : slots + 96 ≤ room_1.slots) (K : KK p l e s m args below meth c cells slots Q w b j) : VE p l e room_1 s m args below meth c cells slots Q 8 w 1555 (lvL w b (nI (8 * j)) none none) [] (ev w M G) := by
  obtain ⟨mn, en, hI⟩ := hI
  have hw : WK w := hX.2.1
  have hnt : l.stackTraces = false := hX.2.2.1
  refine r_aload_n hX.1 dL_law_1555 (i := 1) rfl rfl ?_
  refine ld hX (k := 1) (q := 1560) (by omega) dL_law_1556 dL_law_1557 (fun _ h => r_iconst hX.1 dL_law_1559 (v := nI 1) (by decide) h) dL_law_1560 dL_law_1561 ?_
  refine r_aload_n hX.1 dL_law_1562 (i := 3) rfl rfl ?_
  rcases ag_used (G := G) (x := (xs (8 * j + 1))) hI with ⟨X9, k, M1, hXk, ho, hn⟩ | ⟨v, M1, ho, hn⟩
  · obtain ⟨v, M2, hn1, hn2, hD1, hI2⟩ := hn G
    refine r_callSX hX.1 (c_L_used (x1 := (xs (8 * j + 1))) hnt hw hI.DI (.inl ⟨X9, k, M1, G, hXk, ho, rfl⟩)) mx_L_used ms_L_used ml_L_187 rfl rfl (Nat.le_of_ble_eq_true rfl) (Nat.le_of_ble_eq_true rfl) (Nat.le_of_ble_eq_true rfl) (by omega) (by omega) dL_law_1563 (ko1 ?_)
    refine r_istore hX.1 dL_law_1566 (by decide) (lv2 := lvL w b (nI (8 * j)) (some (.int (nI (k + 1)))) none) rfl ?_
    refine r_aload_n hX.1 dL_law_1568 (i := 2) rfl rfl ?_
    refine ld hX (k := 1) (q := 1573) (by omega) dL_law_1569 dL_law_1570 (fun _ h => r_iconst hX.1 dL_law_1572 (v := nI 1) (by decide) h) dL_law_1573 dL_law_1574 ?_
    have h3 := c_X3_used (l := l) (w := w) (M := M1) (G := G) (x := (xs (8 * j + 1))) hnt hw hD1
    try dsimp only at hn1
    rw [hn1] at h3
    refine r_callV hX.1 h3 mw_X3_used kc3 mi_X3_used (hw.2 _ _ (by decide)) ev3 ml_L_189 rfl rfl (Nat.le_of_ble_eq_true rfl) (Nat.le_of_ble_eq_true rfl) (Nat.le_of_ble_eq_true rfl) (by omega) (by omega) dL_law_1575 (ko1 ?_)
    exact lw_tail hX (p0 := 1578) (off := 327) (kv := nI (k + 1)) hn2 (fun z => absurd z (nI_ne0 (by omega) (by have := (List.getElem?_eq_some_iff.mp hXk).1; simp at this; omega))) (by omega) (by omega) dL_law_1578 dL_law_1580 dL_law_1581 dL_law_1584 dL_law_1586 dL_law_1591 dL_law_1593 dL_law_1596 dL_law_1597 dL_law_1598 dL_law_1599 dL_law_1601 dL_law_1602 dL_law_1603 dL_law_1608 (by decide) (fun a7 => VE_widen (by omega) (by omega) (K M2 G _ a7 hI2 hG))
  · obtain ⟨M2, hn1, hn2, hD1, hI2⟩ := hn (gs G (40, 0) v.toInt64)
    refine r_callSX hX.1 (c_L_used (x1 := (xs (8 * j + 1))) hnt hw hI.DI (.inr ⟨v, M1, G, ho, rfl⟩)) mx_L_used ms_L_used ml_L_187 rfl rfl (Nat.le_of_ble_eq_true rfl) (Nat.le_of_ble_eq_true rfl) (Nat.le_of_ble_eq_true rfl) (by omega) (by omega) dL_law_1563 (ko1 ?_)
    refine r_istore hX.1 dL_law_1566 (by decide) (lv2 := lvL w b (nI (8 * j)) (some (.int (nI 0))) none) rfl ?_
    refine r_aload_n hX.1 dL_law_1568 (i := 2) rfl rfl ?_
    refine ld hX (k := 1) (q := 1573) (by omega) dL_law_1569 dL_law_1570 (fun _ h => r_iconst hX.1 dL_law_1572 (v := nI 1) (by decide) h) dL_law_1573 dL_law_1574 ?_
    have h3 := c_X3_used (l := l) (w := w) (M := M1) (G := (gs G (40, 0) v.toInt64)) (x := (xs (8 * j + 1))) hnt hw hD1
    try dsimp only at hn1
    rw [hn1] at h3
    refine r_callV hX.1 h3 mw_X3_used kc3 mi_X3_used (hw.2 _ _ (by decide)) ev3 ml_L_189 rfl rfl (Nat.le_of_ble_eq_true rfl) (Nat.le_of_ble_eq_true rfl) (Nat.le_of_ble_eq_true rfl) (by omega) (by omega) dL_law_1575 (ko1 ?_)
    exact lw_tail hX (p0 := 1578) (off := 327) (kv := nI 0) hn2 (fun _ => by simp [gs]) (by omega) (by omega) dL_law_1578 dL_law_1580 dL_law_1581 dL_law_1584 dL_law_1586 dL_law_1591 dL_law_1593 dL_law_1596 dL_law_1597 dL_law_1598 dL_law_1599 dL_law_1601 dL_law_1602 dL_law_1603 dL_law_1608 (by decide) (fun a7 => VE_widen (by omega) (by omega) (K M2 (gs G (40, 0) v.toInt64) _ a7 hI2 (by simp [gs, hG])))
set_option maxHeartbeats 4000000 in
set_option maxRecDepth 100000 in
theorem lc_spare (hX : LX p l s m args meth c hh w b L xs) (hI : INV M) (hG : G (2, 0) = G (3, 0)) (hj : 8 * j + 7 < L) (hcs : cells + 16 ≤ room_1.cells) (hss : slots + 96 ≤ room_1.slots) (K : KK p l e s m args below meth c cells slots Q w b j) : VE p l e room_1 s m args below meth c cells slots Q 8 w 1611 (lvL w b (nI (8 * j)) none none) [] (ev w M G) := by
  obtain ⟨mn, en, hI⟩ := hI
  have hw : WK w := hX.2.1
  have hnt : l.stackTraces = false := hX.2.2.1
  refine r_aload_n hX.1 dL_law_1611 (i := 1) rfl rfl ?_
  refine ld hX (k := 1) (q := 1616) (by omega) dL_law_1612 dL_law_1613 (fun _ h => r_iconst hX.1 dL_law_1615 (v := nI 1) (by decide) h) dL_law_1616 dL_law_1617 ?_
  refine r_aload_n hX.1 dL_law_1618 (i := 3) rfl rfl ?_
  rcases ag_spare (G := G) (x := (xs (8 * j + 1))) hI with ⟨X9, k, M1, hXk, ho, hn⟩ | ⟨v, M1, ho, hn⟩
  · obtain ⟨v, M2, hn1, hn2, hD1, hI2⟩ := hn G
    refine r_callSX hX.1 (c_L_spare (x1 := (xs (8 * j + 1))) hnt hw hI.DI (.inl ⟨X9, k, M1, G, hXk, ho, rfl⟩)) mx_L_spare ms_L_spare ml_L_190 rfl rfl (Nat.le_of_ble_eq_true rfl) (Nat.le_of_ble_eq_true rfl) (Nat.le_of_ble_eq_true rfl) (by omega) (by omega) dL_law_1619 (ko1 ?_)
    refine r_istore hX.1 dL_law_1622 (by decide) (lv2 := lvL w b (nI (8 * j)) (some (.int (nI (k + 1)))) none) rfl ?_
    refine r_aload_n hX.1 dL_law_1624 (i := 2) rfl rfl ?_
    refine ld hX (k := 1) (q := 1629) (by omega) dL_law_1625 dL_law_1626 (fun _ h => r_iconst hX.1 dL_law_1628 (v := nI 1) (by decide) h) dL_law_1629 dL_law_1630 ?_
    have h3 := c_X3_spare (l := l) (w := w) (M := M1) (G := G) (x := (xs (8 * j + 1))) hnt hw hD1
    try dsimp only at hn1
    rw [hn1] at h3
    refine r_callV hX.1 h3 mw_X3_spare kc3 mi_X3_spare (hw.2 _ _ (by decide)) ev3 ml_L_192 rfl rfl (Nat.le_of_ble_eq_true rfl) (Nat.le_of_ble_eq_true rfl) (Nat.le_of_ble_eq_true rfl) (by omega) (by omega) dL_law_1631 (ko1 ?_)
    exact lw_tail hX (p0 := 1634) (off := 271) (kv := nI (k + 1)) hn2 (fun z => absurd z (nI_ne0 (by omega) (by have := (List.getElem?_eq_some_iff.mp hXk).1; simp at this; omega))) (by omega) (by omega) dL_law_1634 dL_law_1636 dL_law_1637 dL_law_1640 dL_law_1642 dL_law_1647 dL_law_1649 dL_law_1652 dL_law_1653 dL_law_1654 dL_law_1655 dL_law_1657 dL_law_1658 dL_law_1659 dL_law_1664 (by decide) (fun a7 => VE_widen (by omega) (by omega) (K M2 G _ a7 hI2 hG))
  · obtain ⟨M2, hn1, hn2, hD1, hI2⟩ := hn (gs G (40, 0) v.toInt64)
    refine r_callSX hX.1 (c_L_spare (x1 := (xs (8 * j + 1))) hnt hw hI.DI (.inr ⟨v, M1, G, ho, rfl⟩)) mx_L_spare ms_L_spare ml_L_190 rfl rfl (Nat.le_of_ble_eq_true rfl) (Nat.le_of_ble_eq_true rfl) (Nat.le_of_ble_eq_true rfl) (by omega) (by omega) dL_law_1619 (ko1 ?_)
    refine r_istore hX.1 dL_law_1622 (by decide) (lv2 := lvL w b (nI (8 * j)) (some (.int (nI 0))) none) rfl ?_
    refine r_aload_n hX.1 dL_law_1624 (i := 2) rfl rfl ?_
    refine ld hX (k := 1) (q := 1629) (by omega) dL_law_1625 dL_law_1626 (fun _ h => r_iconst hX.1 dL_law_1628 (v := nI 1) (by decide) h) dL_law_1629 dL_law_1630 ?_
    have h3 := c_X3_spare (l := l) (w := w) (M := M1) (G := (gs G (40, 0) v.toInt64)) (x := (xs (8 * j + 1))) hnt hw hD1
    try dsimp only at hn1
    rw [hn1] at h3
    refine r_callV hX.1 h3 mw_X3_spare kc3 mi_X3_spare (hw.2 _ _ (by decide)) ev3 ml_L_192 rfl rfl (Nat.le_of_ble_eq_true rfl) (Nat.le_of_ble_eq_true rfl) (Nat.le_of_ble_eq_true rfl) (by omega) (by omega) dL_law_1631 (ko1 ?_)
    exact lw_tail hX (p0 := 1634) (off := 271) (kv := nI 0) hn2 (fun _ => by simp [gs]) (by omega) (by omega) dL_law_1634 dL_law_1636 dL_law_1637 dL_law_1640 dL_law_1642 dL_law_1647 dL_law_1649 dL_law_1652 dL_law_1653 dL_law_1654 dL_law_1655 dL_law_1657 dL_law_1658 dL_law_1659 dL_law_1664 (by decide) (fun a7 => VE_widen (by omega) (by omega) (K M2 (gs G (40, 0) v.toInt64) _ a7 hI2 (by simp [gs, hG])))
set_option maxHeartbeats 4000000 in
set_option maxRecDepth 100000 in
theorem lc_purchase (hX : LX p l s m args meth c hh w b L xs) (hI : INV M) (hG : G (2, 0) = G (3, 0)) (hj : 8 * j + 7 < L) (hcs : cells + 16 ≤ room_1.cells) (hss : slots + 96 ≤ room_1.slots) (K : KK p l e s m args below meth c cells slots Q w b j) : VE p l e room_1 s m args below meth c cells slots Q 8 w 1667 (lvL w b (nI (8 * j)) none none) [] (ev w M G) := by
  obtain ⟨mn, en, hI⟩ := hI
  have hw : WK w := hX.2.1
  have hnt : l.stackTraces = false := hX.2.2.1
  refine r_aload_n hX.1 dL_law_1667 (i := 1) rfl rfl ?_
  refine r_aload_n hX.1 dL_law_1668 (i := 3) rfl rfl ?_
  rcases ag_purchase (G := G)  hI with ⟨X9, k, M1, hXk, ho, hn⟩ | ⟨v, M1, ho, hn⟩
  · obtain ⟨v, M2, hn1, hn2, hD1, hI2⟩ := hn G
    refine r_callSX hX.1 (c_L_purchase  hnt hw hI.DI (.inl ⟨X9, k, M1, G, hXk, ho, rfl⟩)) mx_L_purchase ms_L_purchase ml_L_193 rfl rfl (Nat.le_of_ble_eq_true rfl) (Nat.le_of_ble_eq_true rfl) (Nat.le_of_ble_eq_true rfl) (by omega) (by omega) dL_law_1669 (ko1 ?_)
    refine r_istore hX.1 dL_law_1672 (by decide) (lv2 := lvL w b (nI (8 * j)) (some (.int (nI (k + 1)))) none) rfl ?_
    refine r_aload_n hX.1 dL_law_1674 (i := 2) rfl rfl ?_
    have h3 := c_X3_purchase (l := l) (w := w) (M := M1) (G := G)  hnt hw hD1
    try dsimp only at hn1
    rw [hn1] at h3
    refine r_callV hX.1 h3 mw_X3_purchase kc3 mi_X3_purchase (hw.2 _ _ (by decide)) ev3 ml_L_195 rfl rfl (Nat.le_of_ble_eq_true rfl) (Nat.le_of_ble_eq_true rfl) (Nat.le_of_ble_eq_true rfl) (by omega) (by omega) dL_law_1675 (ko1 ?_)
    exact lw_tail hX (p0 := 1678) (off := 227) (kv := nI (k + 1)) hn2 (fun z => absurd z (nI_ne0 (by omega) (by have := (List.getElem?_eq_some_iff.mp hXk).1; simp at this; omega))) (by omega) (by omega) dL_law_1678 dL_law_1680 dL_law_1681 dL_law_1684 dL_law_1686 dL_law_1691 dL_law_1693 dL_law_1696 dL_law_1697 dL_law_1698 dL_law_1699 dL_law_1701 dL_law_1702 dL_law_1703 dL_law_1708 (by decide) (fun a7 => VE_widen (by omega) (by omega) (K M2 G _ a7 hI2 hG))
  · obtain ⟨M2, hn1, hn2, hD1, hI2⟩ := hn (gs G (40, 0) v.toInt64)
    refine r_callSX hX.1 (c_L_purchase  hnt hw hI.DI (.inr ⟨v, M1, G, ho, rfl⟩)) mx_L_purchase ms_L_purchase ml_L_193 rfl rfl (Nat.le_of_ble_eq_true rfl) (Nat.le_of_ble_eq_true rfl) (Nat.le_of_ble_eq_true rfl) (by omega) (by omega) dL_law_1669 (ko1 ?_)
    refine r_istore hX.1 dL_law_1672 (by decide) (lv2 := lvL w b (nI (8 * j)) (some (.int (nI 0))) none) rfl ?_
    refine r_aload_n hX.1 dL_law_1674 (i := 2) rfl rfl ?_
    have h3 := c_X3_purchase (l := l) (w := w) (M := M1) (G := (gs G (40, 0) v.toInt64))  hnt hw hD1
    try dsimp only at hn1
    rw [hn1] at h3
    refine r_callV hX.1 h3 mw_X3_purchase kc3 mi_X3_purchase (hw.2 _ _ (by decide)) ev3 ml_L_195 rfl rfl (Nat.le_of_ble_eq_true rfl) (Nat.le_of_ble_eq_true rfl) (Nat.le_of_ble_eq_true rfl) (by omega) (by omega) dL_law_1675 (ko1 ?_)
    exact lw_tail hX (p0 := 1678) (off := 227) (kv := nI 0) hn2 (fun _ => by simp [gs]) (by omega) (by omega) dL_law_1678 dL_law_1680 dL_law_1681 dL_law_1684 dL_law_1686 dL_law_1691 dL_law_1693 dL_law_1696 dL_law_1697 dL_law_1698 dL_law_1699 dL_law_1701 dL_law_1702 dL_law_1703 dL_law_1708 (by decide) (fun a7 => VE_widen (by omega) (by omega) (K M2 (gs G (40, 0) v.toInt64) _ a7 hI2 (by simp [gs, hG])))
set_option maxHeartbeats 4000000 in
set_option maxRecDepth 100000 in
theorem lc_purchaseByTrying (hX : LX p l s m args meth c hh w b L xs) (hI : INV M) (hG : G (2, 0) = G (3, 0)) (hj : 8 * j + 7 < L) (hcs : cells + 16 ≤ room_1.cells) (hss : slots + 96 ≤ room_1.slots) (K : KK p l e s m args below meth c cells slots Q w b j) : VE p l e room_1 s m args below meth c cells slots Q 8 w 1711 (lvL w b (nI (8 * j)) none none) [] (ev w M G) := by
  obtain ⟨mn, en, hI⟩ := hI
  have hw : WK w := hX.2.1
  have hnt : l.stackTraces = false := hX.2.2.1
  refine r_aload_n hX.1 dL_law_1711 (i := 1) rfl rfl ?_
  refine r_aload_n hX.1 dL_law_1712 (i := 3) rfl rfl ?_
  rcases ag_PT (G := G)  hI with ⟨X9, k, M1, hXk, ho, hn⟩ | ⟨v, M1, ho, hn⟩
  · obtain ⟨v, M2, hn1, hn2, hD1, hI2⟩ := hn G
    refine r_callSX hX.1 (c_L_purchaseByTrying  hnt hw hI.DI (.inl ⟨X9, k, M1, G, hXk, ho, rfl⟩)) mx_L_purchaseByTrying ms_L_purchaseByTrying ml_L_196 rfl rfl (Nat.le_of_ble_eq_true rfl) (Nat.le_of_ble_eq_true rfl) (Nat.le_of_ble_eq_true rfl) (by omega) (by omega) dL_law_1713 (ko1 ?_)
    refine r_istore hX.1 dL_law_1716 (by decide) (lv2 := lvL w b (nI (8 * j)) (some (.int (nI (k + 1)))) none) rfl ?_
    refine r_aload_n hX.1 dL_law_1718 (i := 2) rfl rfl ?_
    have h3 := c_X3_purchaseByTrying (l := l) (w := w) (M := M1) (G := G)  hnt hw hD1
    try dsimp only at hn1
    rw [hn1] at h3
    refine r_callV hX.1 h3 mw_X3_purchaseByTrying kc3 mi_X3_purchaseByTrying (hw.2 _ _ (by decide)) ev3 ml_L_198 rfl rfl (Nat.le_of_ble_eq_true rfl) (Nat.le_of_ble_eq_true rfl) (Nat.le_of_ble_eq_true rfl) (by omega) (by omega) dL_law_1719 (ko1 ?_)
    exact lw_tail hX (p0 := 1722) (off := 183) (kv := nI (k + 1)) hn2 (fun z => absurd z (nI_ne0 (by omega) (by have := (List.getElem?_eq_some_iff.mp hXk).1; simp at this; omega))) (by omega) (by omega) dL_law_1722 dL_law_1724 dL_law_1725 dL_law_1728 dL_law_1730 dL_law_1735 dL_law_1737 dL_law_1740 dL_law_1741 dL_law_1742 dL_law_1743 dL_law_1745 dL_law_1746 dL_law_1747 dL_law_1752 (by decide) (fun a7 => VE_widen (by omega) (by omega) (K M2 G _ a7 hI2 hG))
  · obtain ⟨M2, hn1, hn2, hD1, hI2⟩ := hn (gs G (40, 0) v.toInt64)
    refine r_callSX hX.1 (c_L_purchaseByTrying  hnt hw hI.DI (.inr ⟨v, M1, G, ho, rfl⟩)) mx_L_purchaseByTrying ms_L_purchaseByTrying ml_L_196 rfl rfl (Nat.le_of_ble_eq_true rfl) (Nat.le_of_ble_eq_true rfl) (Nat.le_of_ble_eq_true rfl) (by omega) (by omega) dL_law_1713 (ko1 ?_)
    refine r_istore hX.1 dL_law_1716 (by decide) (lv2 := lvL w b (nI (8 * j)) (some (.int (nI 0))) none) rfl ?_
    refine r_aload_n hX.1 dL_law_1718 (i := 2) rfl rfl ?_
    have h3 := c_X3_purchaseByTrying (l := l) (w := w) (M := M1) (G := (gs G (40, 0) v.toInt64))  hnt hw hD1
    try dsimp only at hn1
    rw [hn1] at h3
    refine r_callV hX.1 h3 mw_X3_purchaseByTrying kc3 mi_X3_purchaseByTrying (hw.2 _ _ (by decide)) ev3 ml_L_198 rfl rfl (Nat.le_of_ble_eq_true rfl) (Nat.le_of_ble_eq_true rfl) (Nat.le_of_ble_eq_true rfl) (by omega) (by omega) dL_law_1719 (ko1 ?_)
    exact lw_tail hX (p0 := 1722) (off := 183) (kv := nI 0) hn2 (fun _ => by simp [gs]) (by omega) (by omega) dL_law_1722 dL_law_1724 dL_law_1725 dL_law_1728 dL_law_1730 dL_law_1735 dL_law_1737 dL_law_1740 dL_law_1741 dL_law_1742 dL_law_1743 dL_law_1745 dL_law_1746 dL_law_1747 dL_law_1752 (by decide) (fun a7 => VE_widen (by omega) (by omega) (K M2 (gs G (40, 0) v.toInt64) _ a7 hI2 (by simp [gs, hG])))
set_option maxHeartbeats 4000000 in
set_option maxRecDepth 100000 in
theorem lc_toBuy (hX : LX p l s m args meth c hh w b L xs) (hI : INV M) (hG : G (2, 0) = G (3, 0)) (hj : 8 * j + 7 < L) (hcs : cells + 16 ≤ room_1.cells) (hss : slots + 96 ≤ room_1.slots) (K : KK p l e s m args below meth c cells slots Q w b j) : VE p l e room_1 s m args below meth c cells slots Q 8 w 1755 (lvL w b (nI (8 * j)) none none) [] (ev w M G) := by
  obtain ⟨mn, en, hI⟩ := hI
  have hw : WK w := hX.2.1
  have hnt : l.stackTraces = false := hX.2.2.1
  refine r_aload_n hX.1 dL_law_1755 (i := 1) rfl rfl ?_
  refine ld hX (k := 1) (q := 1760) (by omega) dL_law_1756 dL_law_1757 (fun _ h => r_iconst hX.1 dL_law_1759 (v := nI 1) (by decide) h) dL_law_1760 dL_law_1761 ?_
  refine r_aload_n hX.1 dL_law_1762 (i := 3) rfl rfl ?_
  rcases ag_toBuy (G := G) (x := (xs (8 * j + 1))) hI with ⟨X9, k, M1, hXk, ho, hn⟩ | ⟨v, M1, ho, hn⟩
  · obtain ⟨v, M2, hn1, hn2, hD1, hI2⟩ := hn G
    refine r_callSX hX.1 (c_L_toBuy (x1 := (xs (8 * j + 1))) hnt hw hI.DI (.inl ⟨X9, k, M1, G, hXk, ho, rfl⟩)) mx_L_toBuy ms_L_toBuy ml_L_199 rfl rfl (Nat.le_of_ble_eq_true rfl) (Nat.le_of_ble_eq_true rfl) (Nat.le_of_ble_eq_true rfl) (by omega) (by omega) dL_law_1763 (ko1 ?_)
    refine r_istore hX.1 dL_law_1766 (by decide) (lv2 := lvL w b (nI (8 * j)) (some (.int (nI (k + 1)))) none) rfl ?_
    refine r_aload_n hX.1 dL_law_1768 (i := 2) rfl rfl ?_
    refine ld hX (k := 1) (q := 1773) (by omega) dL_law_1769 dL_law_1770 (fun _ h => r_iconst hX.1 dL_law_1772 (v := nI 1) (by decide) h) dL_law_1773 dL_law_1774 ?_
    have h3 := c_X3_toBuy (l := l) (w := w) (M := M1) (G := G) (x := (xs (8 * j + 1))) hnt hw hD1
    try dsimp only at hn1
    rw [hn1] at h3
    refine r_callV hX.1 h3 mw_X3_toBuy kc3 mi_X3_toBuy (hw.2 _ _ (by decide)) ev3 ml_L_201 rfl rfl (Nat.le_of_ble_eq_true rfl) (Nat.le_of_ble_eq_true rfl) (Nat.le_of_ble_eq_true rfl) (by omega) (by omega) dL_law_1775 (ko1 ?_)
    exact lw_tail hX (p0 := 1778) (off := 127) (kv := nI (k + 1)) hn2 (fun z => absurd z (nI_ne0 (by omega) (by have := (List.getElem?_eq_some_iff.mp hXk).1; simp at this; omega))) (by omega) (by omega) dL_law_1778 dL_law_1780 dL_law_1781 dL_law_1784 dL_law_1786 dL_law_1791 dL_law_1793 dL_law_1796 dL_law_1797 dL_law_1798 dL_law_1799 dL_law_1801 dL_law_1802 dL_law_1803 dL_law_1808 (by decide) (fun a7 => VE_widen (by omega) (by omega) (K M2 G _ a7 hI2 hG))
  · obtain ⟨M2, hn1, hn2, hD1, hI2⟩ := hn (gs G (40, 0) v.toInt64)
    refine r_callSX hX.1 (c_L_toBuy (x1 := (xs (8 * j + 1))) hnt hw hI.DI (.inr ⟨v, M1, G, ho, rfl⟩)) mx_L_toBuy ms_L_toBuy ml_L_199 rfl rfl (Nat.le_of_ble_eq_true rfl) (Nat.le_of_ble_eq_true rfl) (Nat.le_of_ble_eq_true rfl) (by omega) (by omega) dL_law_1763 (ko1 ?_)
    refine r_istore hX.1 dL_law_1766 (by decide) (lv2 := lvL w b (nI (8 * j)) (some (.int (nI 0))) none) rfl ?_
    refine r_aload_n hX.1 dL_law_1768 (i := 2) rfl rfl ?_
    refine ld hX (k := 1) (q := 1773) (by omega) dL_law_1769 dL_law_1770 (fun _ h => r_iconst hX.1 dL_law_1772 (v := nI 1) (by decide) h) dL_law_1773 dL_law_1774 ?_
    have h3 := c_X3_toBuy (l := l) (w := w) (M := M1) (G := (gs G (40, 0) v.toInt64)) (x := (xs (8 * j + 1))) hnt hw hD1
    try dsimp only at hn1
    rw [hn1] at h3
    refine r_callV hX.1 h3 mw_X3_toBuy kc3 mi_X3_toBuy (hw.2 _ _ (by decide)) ev3 ml_L_201 rfl rfl (Nat.le_of_ble_eq_true rfl) (Nat.le_of_ble_eq_true rfl) (Nat.le_of_ble_eq_true rfl) (by omega) (by omega) dL_law_1775 (ko1 ?_)
    exact lw_tail hX (p0 := 1778) (off := 127) (kv := nI 0) hn2 (fun _ => by simp [gs]) (by omega) (by omega) dL_law_1778 dL_law_1780 dL_law_1781 dL_law_1784 dL_law_1786 dL_law_1791 dL_law_1793 dL_law_1796 dL_law_1797 dL_law_1798 dL_law_1799 dL_law_1801 dL_law_1802 dL_law_1803 dL_law_1808 (by decide) (fun a7 => VE_widen (by omega) (by omega) (K M2 (gs G (40, 0) v.toInt64) _ a7 hI2 (by simp [gs, hG])))
set_option maxHeartbeats 4000000 in
set_option maxRecDepth 100000 in
theorem lc_trueUp (hX : LX p l s m args meth c hh w b L xs) (hI : INV M) (hG : G (2, 0) = G (3, 0)) (hj : 8 * j + 7 < L) (hcs : cells + 16 ≤ room_1.cells) (hss : slots + 96 ≤ room_1.slots) (K : KK p l e s m args below meth c cells slots Q w b j) : VE p l e room_1 s m args below meth c cells slots Q 8 w 1811 (lvL w b (nI (8 * j)) none none) [] (ev w M G) := by
  obtain ⟨mn, en, hI⟩ := hI
  have hw : WK w := hX.2.1
  have hnt : l.stackTraces = false := hX.2.2.1
  refine r_aload_n hX.1 dL_law_1811 (i := 1) rfl rfl ?_
  refine r_aload_n hX.1 dL_law_1812 (i := 3) rfl rfl ?_
  rcases ag_trueUp (G := G) hI with ⟨ho, hn⟩ | ⟨v, M1, ho, hD1, hn⟩
  · obtain ⟨v, M2, hn1, hn2, hI2⟩ := hn G
    have hD1 := hI.DM
    refine r_callSX hX.1 (c_L_trueUp  hnt hw hI.DI (.inl ⟨xNSE, 0, M, G, rfl, ho, rfl⟩)) mx_L_trueUp ms_L_trueUp ml_L_202 rfl rfl (Nat.le_of_ble_eq_true rfl) (Nat.le_of_ble_eq_true rfl) (Nat.le_of_ble_eq_true rfl) (by omega) (by omega) dL_law_1813 (ko1 ?_)
    refine r_istore hX.1 dL_law_1816 (by decide) (lv2 := lvL w b (nI (8 * j)) (some (.int (nI (0 + 1)))) none) rfl ?_
    refine r_aload_n hX.1 dL_law_1818 (i := 2) rfl rfl ?_
    have h3 := c_X3_trueUp (l := l) (w := w) (M := M) (G := G)  hnt hw hD1
    try dsimp only at hn1
    rw [hn1] at h3
    refine r_callV hX.1 h3 mw_X3_trueUp kc3 mi_X3_trueUp (hw.2 _ _ (by decide)) ev3 ml_L_204 rfl rfl (Nat.le_of_ble_eq_true rfl) (Nat.le_of_ble_eq_true rfl) (Nat.le_of_ble_eq_true rfl) (by omega) (by omega) dL_law_1819 (ko1 ?_)
    exact lw_tail hX (p0 := 1822) (off := 83) (kv := nI (0 + 1)) hn2 (fun z => absurd z (by decide)) (by omega) (by omega) dL_law_1822 dL_law_1824 dL_law_1825 dL_law_1828 dL_law_1830 dL_law_1835 dL_law_1837 dL_law_1840 dL_law_1841 dL_law_1842 dL_law_1843 dL_law_1845 dL_law_1846 dL_law_1847 dL_law_1852 (by decide) (fun a7 => VE_widen (by omega) (by omega) (K M2 G _ a7 hI2 hG))
  · obtain ⟨M2, hn1, hn2, hI2⟩ := hn (gs (gs G (2, 0) (G (2, 0) + v.toInt64)) (40, 0) v.toInt64)
    refine r_callSX hX.1 (c_L_trueUp  hnt hw hI.DI (.inr ⟨v, M1, _, ho, rfl⟩)) mx_L_trueUp ms_L_trueUp ml_L_202 rfl rfl (Nat.le_of_ble_eq_true rfl) (Nat.le_of_ble_eq_true rfl) (Nat.le_of_ble_eq_true rfl) (by omega) (by omega) dL_law_1813 (ko1 ?_)
    refine r_istore hX.1 dL_law_1816 (by decide) (lv2 := lvL w b (nI (8 * j)) (some (.int (nI 0))) none) rfl ?_
    refine r_aload_n hX.1 dL_law_1818 (i := 2) rfl rfl ?_
    have h3 := c_X3_trueUp (l := l) (w := w) (M := M1) (G := gs (gs G (2, 0) (G (2, 0) + v.toInt64)) (40, 0) v.toInt64)  hnt hw hD1
    try dsimp only at hn1
    rw [hn1] at h3
    refine r_callV hX.1 h3 mw_X3_trueUp kc3 mi_X3_trueUp (hw.2 _ _ (by decide)) ev3 ml_L_204 rfl rfl (Nat.le_of_ble_eq_true rfl) (Nat.le_of_ble_eq_true rfl) (Nat.le_of_ble_eq_true rfl) (by omega) (by omega) dL_law_1819 (ko1 ?_)
    exact lw_tail hX (p0 := 1822) (off := 83) (kv := nI 0) hn2 (fun _ => by simp [gs]) (by omega) (by omega) dL_law_1822 dL_law_1824 dL_law_1825 dL_law_1828 dL_law_1830 dL_law_1835 dL_law_1837 dL_law_1840 dL_law_1841 dL_law_1842 dL_law_1843 dL_law_1845 dL_law_1846 dL_law_1847 dL_law_1852 (by decide) (fun a7 => VE_widen (by omega) (by omega) (K M2 _ _ a7 hI2 (by simp [gs, hG])))
end Cases
