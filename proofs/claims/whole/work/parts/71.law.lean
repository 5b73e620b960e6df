/-! the law: reading the script, the calls (written by wip/tools/law.py) -/
def lvL (G : Gx) (b i : Nat) : List (Nat × Value) := [(3, .int (nI i)), (2, .ref (ga G 25)), (1, .ref (ga G 0)), (0, .ref b)]
def SX (X : Cx) (b L : Nat) (xv : Nat → Int32) : Prop := va_X b L xv (xs X) (xs X).heap ∧ b < (xs X).heap.size ∧ ¬ xA X b ∧ L ≤ 3584
section LAWROWS
variable {G : Gx} {X : Cx} {d : Nat} {σ : St} {pc b L i : Nat} {xv : Nat → Int32} {st : List Value}
theorem x_al0 (F : Fx G X code 4 RL d) (hd : decode code pc = .ok (.aload_n 0, 1)) (k : Wx G X 4 σ (pc + 1) (lvL G b i) (.ref b :: st)) : Wx G X 4 σ pc (lvL G b i) st := fun H locs ls hP hS hl => lv_aload_n F.ex F.bt hd rfl (lv_at hl 3 rfl) (k H locs ls hP hS hl)
theorem x_al1 (F : Fx G X code 4 RL d) (hd : decode code pc = .ok (.aload_n 1, 1)) (k : Wx G X 4 σ (pc + 1) (lvL G b i) (.ref (ga G 0) :: st)) : Wx G X 4 σ pc (lvL G b i) st := fun H locs ls hP hS hl => lv_aload_n F.ex F.bt hd rfl (lv_at hl 2 rfl) (k H locs ls hP hS hl)
theorem x_al2 (F : Fx G X code 4 RL d) (hd : decode code pc = .ok (.aload_n 2, 1)) (k : Wx G X 4 σ (pc + 1) (lvL G b i) (.ref (ga G 25) :: st)) : Wx G X 4 σ pc (lvL G b i) st := fun H locs ls hP hS hl => lv_aload_n F.ex F.bt hd rfl (lv_at hl 1 rfl) (k H locs ls hP hS hl)
theorem x_il3 (F : Fx G X code 4 RL d) (hd : decode code pc = .ok (.iload_n 3, 1)) (k : Wx G X 4 σ (pc + 1) (lvL G b i) (.int (nI i) :: st)) : Wx G X 4 σ pc (lvL G b i) st := fun H locs ls hP hS hl => lv_iload_n F.ex F.bt hd rfl (lv_at hl 0 rfl) (k H locs ls hP hS hl)
theorem x_sld (F : Fx G X code 4 RL d) (S : SX X b L xv) {j : Nat} (hj : j < L) (hd : decode code pc = .ok (.iaload, 1)) (k : Wx G X 4 σ (pc + 1) (lvL G b i) (.int (xv j) :: st)) : Wx G X 4 σ pc (lvL G b i) (.int (nI j) :: .ref b :: st) := fun H locs ls hP hS hl => by
  obtain ⟨hX, hbl, hbA, hL⟩ := S
  refine va_sld F.ex F.bt hX hbl hbA hS (vp_in_nI hj (by omega)) hd ?_
  rw [clN (by omega)]
  exact k H locs ls hP hS hl
theorem x_arg (F : Fx G X code 4 RL d) (S : SX X b L xv) {j : Nat} {n : Int} (hj : i + j < L) (h0 : decode code pc = .ok (.aload_n 0, 1)) (h1 : decode code (pc + 1) = .ok (.iload_n 3, 1)) (h2 : decode code (pc + 1 + 1) = .ok (.iconst n, 1)) (hn : Int32.ofInt n = nI j) (h3 : decode code (pc + 1 + 1 + 1) = .ok (.iadd, 1)) (h4 : decode code (pc + 1 + 1 + 1 + 1) = .ok (.iaload, 1)) (k : Wx G X 4 σ (pc + 1 + 1 + 1 + 1 + 1) (lvL G b i) (.int (xv (i + j)) :: st)) : Wx G X 4 σ pc (lvL G b i) st :=
  x_al0 F h0 (x_il3 F h1 (fun H locs ls hP hS hl => lv_iconst F.ex F.bt h2 hn (lv_iadd F.ex F.bt h3 (by
    rw [nI_add]
    exact x_sld F S hj h4 k H locs ls hP hS hl))))
theorem x_arg6 (F : Fx G X code 4 RL d) (S : SX X b L xv) {j : Nat} {n : Int} (hj : i + j < L) (h0 : decode code pc = .ok (.aload_n 0, 1)) (h1 : decode code (pc + 1) = .ok (.iload_n 3, 1)) (h2 : decode code (pc + 1 + 1) = .ok (.bipush n, 2)) (hn : (Int8.ofInt n).toInt32 = nI j) (h3 : decode code (pc + 1 + 1 + 2) = .ok (.iadd, 1)) (h4 : decode code (pc + 1 + 1 + 2 + 1) = .ok (.iaload, 1)) (k : Wx G X 4 σ (pc + 1 + 1 + 2 + 1 + 1) (lvL G b i) (.int (xv (i + j)) :: st)) : Wx G X 4 σ pc (lvL G b i) st :=
  x_al0 F h0 (x_il3 F h1 (fun H locs ls hP hS hl => lv_bipush F.ex F.bt h2 hn (lv_iadd F.ex F.bt h3 (by
    rw [nI_add]
    exact x_sld F S hj h4 k H locs ls hP hS hl))))
theorem x_eq (F : Fx G X code 4 RL d) {off : Int} {r : Int32} {tgt : Nat} (hd : decode code pc = .ok (.if_icmp .eq off, 3)) (ht : (pc : Int) + off = (tgt : Int)) (k : Wx G X 4 σ tgt (lvL G b i) []) : Wx G X 4 σ pc (lvL G b i) [.int r, .int r] := fun H locs ls hP hS hl => lv_icmp_eq F.ex F.bt hd ht (fun _ => k H locs ls hP hS hl) (fun z => absurd rfl z)
theorem x_leq (F : Fx G X code 4 RL d) {off : Int} {r : Int64} {tgt : Nat} (h1 : decode code pc = .ok (.lcmp, 1)) (hd : decode code (pc + 1) = .ok (.ifCond .eq off, 3)) (ht : ((pc + 1 : Nat) : Int) + off = (tgt : Int)) (k : Wx G X 4 σ tgt (lvL G b i) []) : Wx G X 4 σ pc (lvL G b i) [.long r, .long r] := fun H locs ls hP hS hl => W.lcmp F.ex F.bt h1 (lv_if_eq F.ex F.bt hd ht (fun _ => k H locs ls hP hS hl) (fun z => absurd ((lc_eq r r).mpr rfl) z))
end LAWROWS
section LAWCASES
variable {G : Gx} {X : Cx} {σ : St} {b L i : Nat} {xv : Nat → Int32}
theorem law_0 (F : Fx G X code 4 RL 100) (S : SX X b L xv) (hi : i + 7 ≤ L) (iv : Inv σ) (nx : ∀ τ, Inv τ → Wx G X 4 τ 1494 (lvL G b i) []) : Wx G X 4 σ 204 (lvL G b i) [] := by
  obtain ⟨r, σ1, σ2, e1, e2, i2⟩ := e_row iv (xv (i + 1)) (xv (i + 2)) (xv (i + 3))
  refine x_al1 F dL_law_204 ?_
  refine x_arg F S (j := 1) (by omega) dL_law_205 dL_law_206 dL_law_207 (by decide +kernel) dL_law_208 dL_law_209 ?_
  refine x_arg F S (j := 2) (by omega) dL_law_210 dL_law_211 dL_law_212 (by decide +kernel) dL_law_213 dL_law_214 ?_
  refine x_arg F S (j := 3) (by omega) dL_law_215 dL_law_216 dL_law_217 (by decide +kernel) dL_law_218 dL_law_219 ?_
  refine wx_V (n := 3) (st := []) (As := [.int (xv (i + 1)), .int (xv (i + 2)), .int (xv (i + 3))]) F dL_law_220 (c_X7_row e1) wV_L_13 nk_X7_row (by decide) (by decide) ob_0 vc_6 rfl rfl (Nat.le_of_ble_eq_true rfl) ?_
  refine x_al2 (st := [.int r]) F dL_law_223 ?_
  refine x_arg F S (j := 1) (by omega) dL_law_224 dL_law_225 dL_law_226 (by decide +kernel) dL_law_227 dL_law_228 ?_
  refine x_arg F S (j := 2) (by omega) dL_law_229 dL_law_230 dL_law_231 (by decide +kernel) dL_law_232 dL_law_233 ?_
  refine x_arg F S (j := 3) (by omega) dL_law_234 dL_law_235 dL_law_236 (by decide +kernel) dL_law_237 dL_law_238 ?_
  refine wx_V (n := 3) (st := [.int r]) (As := [.int (xv (i + 1)), .int (xv (i + 2)), .int (xv (i + 3))]) F dL_law_239 (c_X8_row e2) wV_L_17 nk_X8_row (by decide) (by decide) ob_25 vc_7 rfl rfl (Nat.le_of_ble_eq_true rfl) ?_
  exact x_eq (tgt := 1494) F dL_law_242 (by decide) (nx σ2 i2)
theorem law_1 (F : Fx G X code 4 RL 100) (S : SX X b L xv) (hi : i + 7 ≤ L) (iv : Inv σ) (nx : ∀ τ, Inv τ → Wx G X 4 τ 1494 (lvL G b i) []) : Wx G X 4 σ 247 (lvL G b i) [] := by
  obtain ⟨r, σ1, σ2, e1, e2, i2⟩ := e_set iv (xv (i + 1)) (xv (i + 2)) (xv (i + 3))
  refine x_al1 F dL_law_247 ?_
  refine x_arg F S (j := 1) (by omega) dL_law_248 dL_law_249 dL_law_250 (by decide +kernel) dL_law_251 dL_law_252 ?_
  refine x_arg F S (j := 2) (by omega) dL_law_253 dL_law_254 dL_law_255 (by decide +kernel) dL_law_256 dL_law_257 ?_
  refine x_arg F S (j := 3) (by omega) dL_law_258 dL_law_259 dL_law_260 (by decide +kernel) dL_law_261 dL_law_262 ?_
  refine wx_V (n := 3) (st := []) (As := [.int (xv (i + 1)), .int (xv (i + 2)), .int (xv (i + 3))]) F dL_law_263 (c_X7_set e1) wV_L_18 nk_X7_set (by decide) (by decide) ob_0 vc_6 rfl rfl (Nat.le_of_ble_eq_true rfl) ?_
  refine x_al2 (st := [.int r]) F dL_law_266 ?_
  refine x_arg F S (j := 1) (by omega) dL_law_267 dL_law_268 dL_law_269 (by decide +kernel) dL_law_270 dL_law_271 ?_
  refine x_arg F S (j := 2) (by omega) dL_law_272 dL_law_273 dL_law_274 (by decide +kernel) dL_law_275 dL_law_276 ?_
  refine x_arg F S (j := 3) (by omega) dL_law_277 dL_law_278 dL_law_279 (by decide +kernel) dL_law_280 dL_law_281 ?_
  refine wx_V (n := 3) (st := [.int r]) (As := [.int (xv (i + 1)), .int (xv (i + 2)), .int (xv (i + 3))]) F dL_law_282 (c_X8_set e2) wV_L_21 nk_X8_set (by decide) (by decide) ob_25 vc_7 rfl rfl (Nat.le_of_ble_eq_true rfl) ?_
  exact x_eq (tgt := 1494) F dL_law_285 (by decide) (nx σ2 i2)
theorem law_2 (F : Fx G X code 4 RL 100) (S : SX X b L xv) (hi : i + 7 ≤ L) (iv : Inv σ) (nx : ∀ τ, Inv τ → Wx G X 4 τ 1494 (lvL G b i) []) : Wx G X 4 σ 290 (lvL G b i) [] := by
  obtain ⟨r, σ1, σ2, e1, e2, i2⟩ := e_copy iv (xv (i + 1)) (xv (i + 2)) (xv (i + 3)) (xv (i + 4)) (xv (i + 5))
  refine x_al1 F dL_law_290 ?_
  refine x_arg F S (j := 1) (by omega) dL_law_291 dL_law_292 dL_law_293 (by decide +kernel) dL_law_294 dL_law_295 ?_
  refine x_arg F S (j := 2) (by omega) dL_law_296 dL_law_297 dL_law_298 (by decide +kernel) dL_law_299 dL_law_300 ?_
  refine x_arg F S (j := 3) (by omega) dL_law_301 dL_law_302 dL_law_303 (by decide +kernel) dL_law_304 dL_law_305 ?_
  refine x_arg F S (j := 4) (by omega) dL_law_306 dL_law_307 dL_law_308 (by decide +kernel) dL_law_309 dL_law_310 ?_
  refine x_arg F S (j := 5) (by omega) dL_law_311 dL_law_312 dL_law_313 (by decide +kernel) dL_law_314 dL_law_315 ?_
  refine wx_V (n := 5) (st := []) (As := [.int (xv (i + 1)), .int (xv (i + 2)), .int (xv (i + 3)), .int (xv (i + 4)), .int (xv (i + 5))]) F dL_law_316 (c_X7_copy e1) wV_L_22 nk_X7_copy (by decide) (by decide) ob_0 vc_6 rfl rfl (Nat.le_of_ble_eq_true rfl) ?_
  refine x_al2 (st := [.int r]) F dL_law_319 ?_
  refine x_arg F S (j := 1) (by omega) dL_law_320 dL_law_321 dL_law_322 (by decide +kernel) dL_law_323 dL_law_324 ?_
  refine x_arg F S (j := 2) (by omega) dL_law_325 dL_law_326 dL_law_327 (by decide +kernel) dL_law_328 dL_law_329 ?_
  refine x_arg F S (j := 3) (by omega) dL_law_330 dL_law_331 dL_law_332 (by decide +kernel) dL_law_333 dL_law_334 ?_
  refine x_arg F S (j := 4) (by omega) dL_law_335 dL_law_336 dL_law_337 (by decide +kernel) dL_law_338 dL_law_339 ?_
  refine x_arg F S (j := 5) (by omega) dL_law_340 dL_law_341 dL_law_342 (by decide +kernel) dL_law_343 dL_law_344 ?_
  refine wx_V (n := 5) (st := [.int r]) (As := [.int (xv (i + 1)), .int (xv (i + 2)), .int (xv (i + 3)), .int (xv (i + 4)), .int (xv (i + 5))]) F dL_law_345 (c_X8_copy e2) wV_L_26 nk_X8_copy (by decide) (by decide) ob_25 vc_7 rfl rfl (Nat.le_of_ble_eq_true rfl) ?_
  exact x_eq (tgt := 1494) F dL_law_348 (by decide) (nx σ2 i2)
theorem law_3 (F : Fx G X code 4 RL 100) (S : SX X b L xv) (hi : i + 7 ≤ L) (iv : Inv σ) (nx : ∀ τ, Inv τ → Wx G X 4 τ 1494 (lvL G b i) []) : Wx G X 4 σ 353 (lvL G b i) [] := by
  obtain ⟨r, σ1, σ2, e1, e2, i2⟩ := e_drop iv (xv (i + 1))
  refine x_al1 F dL_law_353 ?_
  refine x_arg F S (j := 1) (by omega) dL_law_354 dL_law_355 dL_law_356 (by decide +kernel) dL_law_357 dL_law_358 ?_
  refine wx_V (n := 1) (st := []) (As := [.int (xv (i + 1))]) F dL_law_359 (c_X7_drop e1) wV_L_27 nk_X7_drop (by decide) (by decide) ob_0 vc_6 rfl rfl (Nat.le_of_ble_eq_true rfl) ?_
  refine x_al2 (st := [.int r]) F dL_law_362 ?_
  refine x_arg F S (j := 1) (by omega) dL_law_363 dL_law_364 dL_law_365 (by decide +kernel) dL_law_366 dL_law_367 ?_
  refine wx_V (n := 1) (st := [.int r]) (As := [.int (xv (i + 1))]) F dL_law_368 (c_X8_drop e2) wV_L_31 nk_X8_drop (by decide) (by decide) ob_25 vc_7 rfl rfl (Nat.le_of_ble_eq_true rfl) ?_
  exact x_eq (tgt := 1494) F dL_law_371 (by decide) (nx σ2 i2)
theorem law_4 (F : Fx G X code 4 RL 100) (S : SX X b L xv) (hi : i + 7 ≤ L) (iv : Inv σ) (nx : ∀ τ, Inv τ → Wx G X 4 τ 1494 (lvL G b i) []) : Wx G X 4 σ 376 (lvL G b i) [] := by
  obtain ⟨r, σ1, σ2, e1, e2, i2⟩ := e_feed iv (xv (i + 1))
  refine x_al1 F dL_law_376 ?_
  refine x_arg F S (j := 1) (by omega) dL_law_377 dL_law_378 dL_law_379 (by decide +kernel) dL_law_380 dL_law_381 ?_
  refine wx_V (n := 1) (st := []) (As := [.int (xv (i + 1))]) F dL_law_382 (c_X7_feed e1) wV_L_32 nk_X7_feed (by decide) (by decide) ob_0 vc_6 rfl rfl (Nat.le_of_ble_eq_true rfl) ?_
  refine x_al2 (st := [.int r]) F dL_law_385 ?_
  refine x_arg F S (j := 1) (by omega) dL_law_386 dL_law_387 dL_law_388 (by decide +kernel) dL_law_389 dL_law_390 ?_
  refine wx_V (n := 1) (st := [.int r]) (As := [.int (xv (i + 1))]) F dL_law_391 (c_X8_feed e2) wV_L_35 nk_X8_feed (by decide) (by decide) ob_25 vc_7 rfl rfl (Nat.le_of_ble_eq_true rfl) ?_
  exact x_eq (tgt := 1494) F dL_law_394 (by decide) (nx σ2 i2)
theorem law_5 (F : Fx G X code 4 RL 100) (S : SX X b L xv) (hi : i + 7 ≤ L) (iv : Inv σ) (nx : ∀ τ, Inv τ → Wx G X 4 τ 1494 (lvL G b i) []) : Wx G X 4 σ 399 (lvL G b i) [] := by
  obtain ⟨r, σ1, σ2, e1, e2, i2⟩ := e_house iv
  refine x_al1 F dL_law_399 ?_
  refine wx_V (n := 0) (st := []) (As := []) F dL_law_400 (c_X7_house e1) wV_L_36 nk_X7_house (by decide) (by decide) ob_0 vc_6 rfl rfl (Nat.le_of_ble_eq_true rfl) ?_
  refine x_al2 (st := [.int r]) F dL_law_403 ?_
  refine wx_V (n := 0) (st := [.int r]) (As := []) F dL_law_404 (c_X8_house e2) wV_L_40 nk_X8_house (by decide) (by decide) ob_25 vc_7 rfl rfl (Nat.le_of_ble_eq_true rfl) ?_
  exact x_eq (tgt := 1494) F dL_law_407 (by decide) (nx σ2 i2)
theorem law_6 (F : Fx G X code 4 RL 100) (S : SX X b L xv) (hi : i + 7 ≤ L) (iv : Inv σ) (nx : ∀ τ, Inv τ → Wx G X 4 τ 1494 (lvL G b i) []) : Wx G X 4 σ 412 (lvL G b i) [] := by
  obtain ⟨r, σ1, σ2, e1, e2, i2⟩ := e_fault iv
  refine x_al1 F dL_law_412 ?_
  refine wx_V (n := 0) (st := []) (As := []) F dL_law_413 (c_X7_fault e1) wV_L_41 nk_X7_fault (by decide) (by decide) ob_0 vc_6 rfl rfl (Nat.le_of_ble_eq_true rfl) ?_
  refine x_al2 (st := [.int r]) F dL_law_416 ?_
  refine wx_V (n := 0) (st := [.int r]) (As := []) F dL_law_417 (c_X8_fault e2) wV_L_44 nk_X8_fault (by decide) (by decide) ob_25 vc_7 rfl rfl (Nat.le_of_ble_eq_true rfl) ?_
  exact x_eq (tgt := 1494) F dL_law_420 (by decide) (nx σ2 i2)
theorem law_7 (F : Fx G X code 4 RL 100) (S : SX X b L xv) (hi : i + 7 ≤ L) (iv : Inv σ) (nx : ∀ τ, Inv τ → Wx G X 4 τ 1494 (lvL G b i) []) : Wx G X 4 σ 425 (lvL G b i) [] := by
  obtain ⟨r, σ1, σ2, e1, e2, i2⟩ := e_undo iv
  refine x_al1 F dL_law_425 ?_
  refine wx_V (n := 0) (st := []) (As := []) F dL_law_426 (c_X7_undo e1) wV_L_45 nk_X7_undo (by decide) (by decide) ob_0 vc_6 rfl rfl (Nat.le_of_ble_eq_true rfl) ?_
  refine x_al2 (st := [.int r]) F dL_law_429 ?_
  refine wx_V (n := 0) (st := [.int r]) (As := []) F dL_law_430 (c_X8_undo e2) wV_L_48 nk_X8_undo (by decide) (by decide) ob_25 vc_7 rfl rfl (Nat.le_of_ble_eq_true rfl) ?_
  exact x_eq (tgt := 1494) F dL_law_433 (by decide) (nx σ2 i2)
theorem law_8 (F : Fx G X code 4 RL 100) (S : SX X b L xv) (hi : i + 7 ≤ L) (iv : Inv σ) (nx : ∀ τ, Inv τ → Wx G X 4 τ 1494 (lvL G b i) []) : Wx G X 4 σ 438 (lvL G b i) [] := by
  obtain ⟨r, σ1, σ2, e1, e2, i2⟩ := e_breathe iv (xv (i + 1))
  refine x_al1 F dL_law_438 ?_
  refine x_arg F S (j := 1) (by omega) dL_law_439 dL_law_440 dL_law_441 (by decide +kernel) dL_law_442 dL_law_443 ?_
  refine wx_V (n := 1) (st := []) (As := [.int (xv (i + 1))]) F dL_law_444 (c_X7_breathe e1) wV_L_49 nk_X7_breathe (by decide) (by decide) ob_0 vc_6 rfl rfl (Nat.le_of_ble_eq_true rfl) ?_
  refine x_al2 (st := [.int r]) F dL_law_447 ?_
  refine x_arg F S (j := 1) (by omega) dL_law_448 dL_law_449 dL_law_450 (by decide +kernel) dL_law_451 dL_law_452 ?_
  refine wx_V (n := 1) (st := [.int r]) (As := [.int (xv (i + 1))]) F dL_law_453 (c_X8_breathe e2) wV_L_52 nk_X8_breathe (by decide) (by decide) ob_25 vc_7 rfl rfl (Nat.le_of_ble_eq_true rfl) ?_
  exact x_eq (tgt := 1494) F dL_law_456 (by decide) (nx σ2 i2)
theorem law_9 (F : Fx G X code 4 RL 100) (S : SX X b L xv) (hi : i + 7 ≤ L) (iv : Inv σ) (nx : ∀ τ, Inv τ → Wx G X 4 τ 1494 (lvL G b i) []) : Wx G X 4 σ 461 (lvL G b i) [] := by
  obtain ⟨r, σ1, σ2, e1, e2, i2⟩ := e_speak iv (xv (i + 1)) (xv (i + 2)) (xv (i + 3))
  refine x_al1 F dL_law_461 ?_
  refine x_arg F S (j := 1) (by omega) dL_law_462 dL_law_463 dL_law_464 (by decide +kernel) dL_law_465 dL_law_466 ?_
  refine x_arg F S (j := 2) (by omega) dL_law_467 dL_law_468 dL_law_469 (by decide +kernel) dL_law_470 dL_law_471 ?_
  refine x_arg F S (j := 3) (by omega) dL_law_472 dL_law_473 dL_law_474 (by decide +kernel) dL_law_475 dL_law_476 ?_
  refine wx_V (n := 3) (st := []) (As := [.int (xv (i + 1)), .int (xv (i + 2)), .int (xv (i + 3))]) F dL_law_477 (c_X7_speak e1) wV_L_53 nk_X7_speak (by decide) (by decide) ob_0 vc_6 rfl rfl (Nat.le_of_ble_eq_true rfl) ?_
  refine x_al2 (st := [.int r]) F dL_law_480 ?_
  refine x_arg F S (j := 1) (by omega) dL_law_481 dL_law_482 dL_law_483 (by decide +kernel) dL_law_484 dL_law_485 ?_
  refine x_arg F S (j := 2) (by omega) dL_law_486 dL_law_487 dL_law_488 (by decide +kernel) dL_law_489 dL_law_490 ?_
  refine x_arg F S (j := 3) (by omega) dL_law_491 dL_law_492 dL_law_493 (by decide +kernel) dL_law_494 dL_law_495 ?_
  refine wx_V (n := 3) (st := [.int r]) (As := [.int (xv (i + 1)), .int (xv (i + 2)), .int (xv (i + 3))]) F dL_law_496 (c_X8_speak e2) wV_L_56 nk_X8_speak (by decide) (by decide) ob_25 vc_7 rfl rfl (Nat.le_of_ble_eq_true rfl) ?_
  exact x_eq (tgt := 1494) F dL_law_499 (by decide) (nx σ2 i2)
theorem law_10 (F : Fx G X code 4 RL 100) (S : SX X b L xv) (hi : i + 7 ≤ L) (iv : Inv σ) (nx : ∀ τ, Inv τ → Wx G X 4 τ 1494 (lvL G b i) []) : Wx G X 4 σ 504 (lvL G b i) [] := by
  obtain ⟨r, σ1, σ2, e1, e2, i2⟩ := e_tap iv (xv (i + 1)) (xv (i + 2))
  refine x_al1 F dL_law_504 ?_
  refine x_arg F S (j := 1) (by omega) dL_law_505 dL_law_506 dL_law_507 (by decide +kernel) dL_law_508 dL_law_509 ?_
  refine x_arg F S (j := 2) (by omega) dL_law_510 dL_law_511 dL_law_512 (by decide +kernel) dL_law_513 dL_law_514 ?_
  refine wx_V (n := 2) (st := []) (As := [.int (xv (i + 1)), .int (xv (i + 2))]) F dL_law_515 (c_X7_tap e1) wV_L_57 nk_X7_tap (by decide) (by decide) ob_0 vc_6 rfl rfl (Nat.le_of_ble_eq_true rfl) ?_
  refine x_al2 (st := [.int r]) F dL_law_518 ?_
  refine x_arg F S (j := 1) (by omega) dL_law_519 dL_law_520 dL_law_521 (by decide +kernel) dL_law_522 dL_law_523 ?_
  refine x_arg F S (j := 2) (by omega) dL_law_524 dL_law_525 dL_law_526 (by decide +kernel) dL_law_527 dL_law_528 ?_
  refine wx_V (n := 2) (st := [.int r]) (As := [.int (xv (i + 1)), .int (xv (i + 2))]) F dL_law_529 (c_X8_tap e2) wV_L_61 nk_X8_tap (by decide) (by decide) ob_25 vc_7 rfl rfl (Nat.le_of_ble_eq_true rfl) ?_
  exact x_eq (tgt := 1494) F dL_law_532 (by decide) (nx σ2 i2)
theorem law_11 (F : Fx G X code 4 RL 100) (S : SX X b L xv) (hi : i + 7 ≤ L) (iv : Inv σ) (nx : ∀ τ, Inv τ → Wx G X 4 τ 1494 (lvL G b i) []) : Wx G X 4 σ 537 (lvL G b i) [] := by
  obtain ⟨r, σ1, σ2, e1, e2, i2⟩ := e_dent iv (xv (i + 1)) (xv (i + 2))
  refine x_al1 F dL_law_537 ?_
  refine x_arg F S (j := 1) (by omega) dL_law_538 dL_law_539 dL_law_540 (by decide +kernel) dL_law_541 dL_law_542 ?_
  refine x_arg F S (j := 2) (by omega) dL_law_543 dL_law_544 dL_law_545 (by decide +kernel) dL_law_546 dL_law_547 ?_
  refine wx_V (n := 2) (st := []) (As := [.int (xv (i + 1)), .int (xv (i + 2))]) F dL_law_548 (c_X7_dent e1) wV_L_62 nk_X7_dent (by decide) (by decide) ob_0 vc_6 rfl rfl (Nat.le_of_ble_eq_true rfl) ?_
  refine x_al2 (st := [.int r]) F dL_law_551 ?_
  refine x_arg F S (j := 1) (by omega) dL_law_552 dL_law_553 dL_law_554 (by decide +kernel) dL_law_555 dL_law_556 ?_
  refine x_arg F S (j := 2) (by omega) dL_law_557 dL_law_558 dL_law_559 (by decide +kernel) dL_law_560 dL_law_561 ?_
  refine wx_V (n := 2) (st := [.int r]) (As := [.int (xv (i + 1)), .int (xv (i + 2))]) F dL_law_562 (c_X8_dent e2) wV_L_65 nk_X8_dent (by decide) (by decide) ob_25 vc_7 rfl rfl (Nat.le_of_ble_eq_true rfl) ?_
  exact x_eq (tgt := 1494) F dL_law_565 (by decide) (nx σ2 i2)
theorem law_12 (F : Fx G X code 4 RL 100) (S : SX X b L xv) (hi : i + 7 ≤ L) (iv : Inv σ) (nx : ∀ τ, Inv τ → Wx G X 4 τ 1494 (lvL G b i) []) : Wx G X 4 σ 570 (lvL G b i) [] := by
  obtain ⟨r, σ1, σ2, e1, e2, i2⟩ := e_hush iv
  refine x_al1 F dL_law_570 ?_
  refine wx_V (n := 0) (st := []) (As := []) F dL_law_571 (c_X7_hush e1) wV_L_66 nk_X7_hush (by decide) (by decide) ob_0 vc_6 rfl rfl (Nat.le_of_ble_eq_true rfl) ?_
  refine x_al2 (st := [.int r]) F dL_law_574 ?_
  refine wx_V (n := 0) (st := [.int r]) (As := []) F dL_law_575 (c_X8_hush e2) wV_L_69 nk_X8_hush (by decide) (by decide) ob_25 vc_7 rfl rfl (Nat.le_of_ble_eq_true rfl) ?_
  exact x_eq (tgt := 1494) F dL_law_578 (by decide) (nx σ2 i2)
theorem law_13 (F : Fx G X code 4 RL 100) (S : SX X b L xv) (hi : i + 7 ≤ L) (iv : Inv σ) (nx : ∀ τ, Inv τ → Wx G X 4 τ 1494 (lvL G b i) []) : Wx G X 4 σ 583 (lvL G b i) [] := by
  obtain ⟨r, σ1, σ2, e1, e2, i2⟩ := e_pipe iv (xv (i + 1)) (xv (i + 2))
  refine x_al1 F dL_law_583 ?_
  refine x_arg F S (j := 1) (by omega) dL_law_584 dL_law_585 dL_law_586 (by decide +kernel) dL_law_587 dL_law_588 ?_
  refine x_arg F S (j := 2) (by omega) dL_law_589 dL_law_590 dL_law_591 (by decide +kernel) dL_law_592 dL_law_593 ?_
  refine wx_V (n := 2) (st := []) (As := [.int (xv (i + 1)), .int (xv (i + 2))]) F dL_law_594 (c_X7_pipe e1) wV_L_70 nk_X7_pipe (by decide) (by decide) ob_0 vc_6 rfl rfl (Nat.le_of_ble_eq_true rfl) ?_
  refine x_al2 (st := [.int r]) F dL_law_597 ?_
  refine x_arg F S (j := 1) (by omega) dL_law_598 dL_law_599 dL_law_600 (by decide +kernel) dL_law_601 dL_law_602 ?_
  refine x_arg F S (j := 2) (by omega) dL_law_603 dL_law_604 dL_law_605 (by decide +kernel) dL_law_606 dL_law_607 ?_
  refine wx_V (n := 2) (st := [.int r]) (As := [.int (xv (i + 1)), .int (xv (i + 2))]) F dL_law_608 (c_X8_pipe e2) wV_L_73 nk_X8_pipe (by decide) (by decide) ob_25 vc_7 rfl rfl (Nat.le_of_ble_eq_true rfl) ?_
  exact x_eq (tgt := 1494) F dL_law_611 (by decide) (nx σ2 i2)
theorem law_14 (F : Fx G X code 4 RL 100) (S : SX X b L xv) (hi : i + 7 ≤ L) (iv : Inv σ) (nx : ∀ τ, Inv τ → Wx G X 4 τ 1494 (lvL G b i) []) : Wx G X 4 σ 616 (lvL G b i) [] := by
  obtain ⟨r, σ1, σ2, e1, e2, i2⟩ := e_inside iv (xv (i + 1)) (xv (i + 2))
  refine x_al1 F dL_law_616 ?_
  refine x_arg F S (j := 1) (by omega) dL_law_617 dL_law_618 dL_law_619 (by decide +kernel) dL_law_620 dL_law_621 ?_
  refine x_arg F S (j := 2) (by omega) dL_law_622 dL_law_623 dL_law_624 (by decide +kernel) dL_law_625 dL_law_626 ?_
  refine wx_V (n := 2) (st := []) (As := [.int (xv (i + 1)), .int (xv (i + 2))]) F dL_law_627 (c_X7_inside e1) wV_L_74 nk_X7_inside (by decide) (by decide) ob_0 vc_6 rfl rfl (Nat.le_of_ble_eq_true rfl) ?_
  refine x_al2 (st := [.int r]) F dL_law_630 ?_
  refine x_arg F S (j := 1) (by omega) dL_law_631 dL_law_632 dL_law_633 (by decide +kernel) dL_law_634 dL_law_635 ?_
  refine x_arg F S (j := 2) (by omega) dL_law_636 dL_law_637 dL_law_638 (by decide +kernel) dL_law_639 dL_law_640 ?_
  refine wx_V (n := 2) (st := [.int r]) (As := [.int (xv (i + 1)), .int (xv (i + 2))]) F dL_law_641 (c_X8_inside e2) wV_L_77 nk_X8_inside (by decide) (by decide) ob_25 vc_7 rfl rfl (Nat.le_of_ble_eq_true rfl) ?_
  exact x_eq (tgt := 1494) F dL_law_644 (by decide) (nx σ2 i2)
theorem law_15 (F : Fx G X code 4 RL 100) (S : SX X b L xv) (hi : i + 7 ≤ L) (iv : Inv σ) (nx : ∀ τ, Inv τ → Wx G X 4 τ 1494 (lvL G b i) []) : Wx G X 4 σ 649 (lvL G b i) [] := by
  obtain ⟨r, σ1, σ2, e1, e2, i2⟩ := e_horn iv (xv (i + 1)) (xv (i + 2))
  refine x_al1 F dL_law_649 ?_
  refine x_arg F S (j := 1) (by omega) dL_law_650 dL_law_651 dL_law_652 (by decide +kernel) dL_law_653 dL_law_654 ?_
  refine x_arg F S (j := 2) (by omega) dL_law_655 dL_law_656 dL_law_657 (by decide +kernel) dL_law_658 dL_law_659 ?_
  refine wx_V (n := 2) (st := []) (As := [.int (xv (i + 1)), .int (xv (i + 2))]) F dL_law_660 (c_X7_horn e1) wV_L_78 nk_X7_horn (by decide) (by decide) ob_0 vc_6 rfl rfl (Nat.le_of_ble_eq_true rfl) ?_
  refine x_al2 (st := [.int r]) F dL_law_663 ?_
  refine x_arg F S (j := 1) (by omega) dL_law_664 dL_law_665 dL_law_666 (by decide +kernel) dL_law_667 dL_law_668 ?_
  refine x_arg F S (j := 2) (by omega) dL_law_669 dL_law_670 dL_law_671 (by decide +kernel) dL_law_672 dL_law_673 ?_
  refine wx_V (n := 2) (st := [.int r]) (As := [.int (xv (i + 1)), .int (xv (i + 2))]) F dL_law_674 (c_X8_horn e2) wV_L_81 nk_X8_horn (by decide) (by decide) ob_25 vc_7 rfl rfl (Nat.le_of_ble_eq_true rfl) ?_
  exact x_eq (tgt := 1494) F dL_law_677 (by decide) (nx σ2 i2)
theorem law_16 (F : Fx G X code 4 RL 100) (S : SX X b L xv) (hi : i + 7 ≤ L) (iv : Inv σ) (nx : ∀ τ, Inv τ → Wx G X 4 τ 1494 (lvL G b i) []) : Wx G X 4 σ 682 (lvL G b i) [] := by
  obtain ⟨r, σ1, σ2, e1, e2, i2⟩ := e_ahead iv (xv (i + 1)) (xv (i + 2)) (xv (i + 3))
  refine x_al1 F dL_law_682 ?_
  refine x_arg F S (j := 1) (by omega) dL_law_683 dL_law_684 dL_law_685 (by decide +kernel) dL_law_686 dL_law_687 ?_
  refine x_arg F S (j := 2) (by omega) dL_law_688 dL_law_689 dL_law_690 (by decide +kernel) dL_law_691 dL_law_692 ?_
  refine x_arg F S (j := 3) (by omega) dL_law_693 dL_law_694 dL_law_695 (by decide +kernel) dL_law_696 dL_law_697 ?_
  refine wx_V (n := 3) (st := []) (As := [.int (xv (i + 1)), .int (xv (i + 2)), .int (xv (i + 3))]) F dL_law_698 (c_X7_ahead e1) wV_L_82 nk_X7_ahead (by decide) (by decide) ob_0 vc_6 rfl rfl (Nat.le_of_ble_eq_true rfl) ?_
  refine x_al2 (st := [.int r]) F dL_law_701 ?_
  refine x_arg F S (j := 1) (by omega) dL_law_702 dL_law_703 dL_law_704 (by decide +kernel) dL_law_705 dL_law_706 ?_
  refine x_arg F S (j := 2) (by omega) dL_law_707 dL_law_708 dL_law_709 (by decide +kernel) dL_law_710 dL_law_711 ?_
  refine x_arg F S (j := 3) (by omega) dL_law_712 dL_law_713 dL_law_714 (by decide +kernel) dL_law_715 dL_law_716 ?_
  refine wx_V (n := 3) (st := [.int r]) (As := [.int (xv (i + 1)), .int (xv (i + 2)), .int (xv (i + 3))]) F dL_law_717 (c_X8_ahead e2) wV_L_85 nk_X8_ahead (by decide) (by decide) ob_25 vc_7 rfl rfl (Nat.le_of_ble_eq_true rfl) ?_
  exact x_eq (tgt := 1494) F dL_law_720 (by decide) (nx σ2 i2)
theorem law_17 (F : Fx G X code 4 RL 100) (S : SX X b L xv) (hi : i + 7 ≤ L) (iv : Inv σ) (nx : ∀ τ, Inv τ → Wx G X 4 τ 1494 (lvL G b i) []) : Wx G X 4 σ 725 (lvL G b i) [] := by
  obtain ⟨r, σ1, σ2, e1, e2, i2⟩ := e_first iv (xv (i + 1))
  refine x_al1 F dL_law_725 ?_
  refine x_arg F S (j := 1) (by omega) dL_law_726 dL_law_727 dL_law_728 (by decide +kernel) dL_law_729 dL_law_730 ?_
  refine wx_V (n := 1) (st := []) (As := [.int (xv (i + 1))]) F dL_law_731 (c_X7_first e1) wV_L_86 nk_X7_first (by decide) (by decide) ob_0 vc_6 rfl rfl (Nat.le_of_ble_eq_true rfl) ?_
  refine x_al2 (st := [.int r]) F dL_law_734 ?_
  refine x_arg F S (j := 1) (by omega) dL_law_735 dL_law_736 dL_law_737 (by decide +kernel) dL_law_738 dL_law_739 ?_
  refine wx_V (n := 1) (st := [.int r]) (As := [.int (xv (i + 1))]) F dL_law_740 (c_X8_first e2) wV_L_89 nk_X8_first (by decide) (by decide) ob_25 vc_7 rfl rfl (Nat.le_of_ble_eq_true rfl) ?_
  exact x_eq (tgt := 1494) F dL_law_743 (by decide) (nx σ2 i2)
theorem law_18 (F : Fx G X code 4 RL 100) (S : SX X b L xv) (hi : i + 7 ≤ L) (iv : Inv σ) (nx : ∀ τ, Inv τ → Wx G X 4 τ 1494 (lvL G b i) []) : Wx G X 4 σ 748 (lvL G b i) [] := by
  obtain ⟨r, σ1, σ2, e1, e2, i2⟩ := e_hearers iv (xv (i + 1))
  refine x_al1 F dL_law_748 ?_
  refine x_arg F S (j := 1) (by omega) dL_law_749 dL_law_750 dL_law_751 (by decide +kernel) dL_law_752 dL_law_753 ?_
  refine wx_V (n := 1) (st := []) (As := [.int (xv (i + 1))]) F dL_law_754 (c_X7_hearers e1) wV_L_90 nk_X7_hearers (by decide) (by decide) ob_0 vc_6 rfl rfl (Nat.le_of_ble_eq_true rfl) ?_
  refine x_al2 (st := [.int r]) F dL_law_757 ?_
  refine x_arg F S (j := 1) (by omega) dL_law_758 dL_law_759 dL_law_760 (by decide +kernel) dL_law_761 dL_law_762 ?_
  refine wx_V (n := 1) (st := [.int r]) (As := [.int (xv (i + 1))]) F dL_law_763 (c_X8_hearers e2) wV_L_93 nk_X8_hearers (by decide) (by decide) ob_25 vc_7 rfl rfl (Nat.le_of_ble_eq_true rfl) ?_
  exact x_eq (tgt := 1494) F dL_law_766 (by decide) (nx σ2 i2)
theorem law_19 (F : Fx G X code 4 RL 100) (S : SX X b L xv) (hi : i + 7 ≤ L) (iv : Inv σ) (nx : ∀ τ, Inv τ → Wx G X 4 τ 1494 (lvL G b i) []) : Wx G X 4 σ 771 (lvL G b i) [] := by
  obtain ⟨r, σ1, σ2, e1, e2, i2⟩ := e_quiet iv
  refine x_al1 F dL_law_771 ?_
  refine wx_V (n := 0) (st := []) (As := []) F dL_law_772 (c_X7_quiet e1) wV_L_94 nk_X7_quiet (by decide) (by decide) ob_0 vc_6 rfl rfl (Nat.le_of_ble_eq_true rfl) ?_
  refine x_al2 (st := [.int r]) F dL_law_775 ?_
  refine wx_V (n := 0) (st := [.int r]) (As := []) F dL_law_776 (c_X8_quiet e2) wV_L_97 nk_X8_quiet (by decide) (by decide) ob_25 vc_7 rfl rfl (Nat.le_of_ble_eq_true rfl) ?_
  exact x_eq (tgt := 1494) F dL_law_779 (by decide) (nx σ2 i2)
theorem law_20 (F : Fx G X code 4 RL 100) (S : SX X b L xv) (hi : i + 7 ≤ L) (iv : Inv σ) (nx : ∀ τ, Inv τ → Wx G X 4 τ 1494 (lvL G b i) []) : Wx G X 4 σ 784 (lvL G b i) [] := by
  obtain ⟨r, σ1, σ2, e1, e2, i2⟩ := e_shuts iv (xv (i + 1)) (xv (i + 2)) (xv (i + 3)) (xv (i + 4))
  refine x_al1 F dL_law_784 ?_
  refine x_arg F S (j := 1) (by omega) dL_law_785 dL_law_786 dL_law_787 (by decide +kernel) dL_law_788 dL_law_789 ?_
  refine x_arg F S (j := 2) (by omega) dL_law_790 dL_law_791 dL_law_792 (by decide +kernel) dL_law_793 dL_law_794 ?_
  refine x_arg F S (j := 3) (by omega) dL_law_795 dL_law_796 dL_law_797 (by decide +kernel) dL_law_798 dL_law_799 ?_
  refine x_arg F S (j := 4) (by omega) dL_law_800 dL_law_801 dL_law_802 (by decide +kernel) dL_law_803 dL_law_804 ?_
  refine wx_V (n := 4) (st := []) (As := [.int (xv (i + 1)), .int (xv (i + 2)), .int (xv (i + 3)), .int (xv (i + 4))]) F dL_law_805 (c_X7_shuts e1) wV_L_98 nk_X7_shuts (by decide) (by decide) ob_0 vc_6 rfl rfl (Nat.le_of_ble_eq_true rfl) ?_
  refine x_al2 (st := [.int r]) F dL_law_808 ?_
  refine x_arg F S (j := 1) (by omega) dL_law_809 dL_law_810 dL_law_811 (by decide +kernel) dL_law_812 dL_law_813 ?_
  refine x_arg F S (j := 2) (by omega) dL_law_814 dL_law_815 dL_law_816 (by decide +kernel) dL_law_817 dL_law_818 ?_
  refine x_arg F S (j := 3) (by omega) dL_law_819 dL_law_820 dL_law_821 (by decide +kernel) dL_law_822 dL_law_823 ?_
  refine x_arg F S (j := 4) (by omega) dL_law_824 dL_law_825 dL_law_826 (by decide +kernel) dL_law_827 dL_law_828 ?_
  refine wx_V (n := 4) (st := [.int r]) (As := [.int (xv (i + 1)), .int (xv (i + 2)), .int (xv (i + 3)), .int (xv (i + 4))]) F dL_law_829 (c_X8_shuts e2) wV_L_102 nk_X8_shuts (by decide) (by decide) ob_25 vc_7 rfl rfl (Nat.le_of_ble_eq_true rfl) ?_
  exact x_eq (tgt := 1494) F dL_law_832 (by decide) (nx σ2 i2)
theorem law_21 (F : Fx G X code 4 RL 100) (S : SX X b L xv) (hi : i + 7 ≤ L) (iv : Inv σ) (nx : ∀ τ, Inv τ → Wx G X 4 τ 1494 (lvL G b i) []) : Wx G X 4 σ 837 (lvL G b i) [] := by
  obtain ⟨r, σ1, σ2, e1, e2, i2⟩ := e_opens iv (xv (i + 1)) (xv (i + 2)) (xv (i + 3)) (xv (i + 4))
  refine x_al1 F dL_law_837 ?_
  refine x_arg F S (j := 1) (by omega) dL_law_838 dL_law_839 dL_law_840 (by decide +kernel) dL_law_841 dL_law_842 ?_
  refine x_arg F S (j := 2) (by omega) dL_law_843 dL_law_844 dL_law_845 (by decide +kernel) dL_law_846 dL_law_847 ?_
  refine x_arg F S (j := 3) (by omega) dL_law_848 dL_law_849 dL_law_850 (by decide +kernel) dL_law_851 dL_law_852 ?_
  refine x_arg F S (j := 4) (by omega) dL_law_853 dL_law_854 dL_law_855 (by decide +kernel) dL_law_856 dL_law_857 ?_
  refine wx_V (n := 4) (st := []) (As := [.int (xv (i + 1)), .int (xv (i + 2)), .int (xv (i + 3)), .int (xv (i + 4))]) F dL_law_858 (c_X7_opens e1) wV_L_103 nk_X7_opens (by decide) (by decide) ob_0 vc_6 rfl rfl (Nat.le_of_ble_eq_true rfl) ?_
  refine x_al2 (st := [.int r]) F dL_law_861 ?_
  refine x_arg F S (j := 1) (by omega) dL_law_862 dL_law_863 dL_law_864 (by decide +kernel) dL_law_865 dL_law_866 ?_
  refine x_arg F S (j := 2) (by omega) dL_law_867 dL_law_868 dL_law_869 (by decide +kernel) dL_law_870 dL_law_871 ?_
  refine x_arg F S (j := 3) (by omega) dL_law_872 dL_law_873 dL_law_874 (by decide +kernel) dL_law_875 dL_law_876 ?_
  refine x_arg F S (j := 4) (by omega) dL_law_877 dL_law_878 dL_law_879 (by decide +kernel) dL_law_880 dL_law_881 ?_
  refine wx_V (n := 4) (st := [.int r]) (As := [.int (xv (i + 1)), .int (xv (i + 2)), .int (xv (i + 3)), .int (xv (i + 4))]) F dL_law_882 (c_X8_opens e2) wV_L_106 nk_X8_opens (by decide) (by decide) ob_25 vc_7 rfl rfl (Nat.le_of_ble_eq_true rfl) ?_
  exact x_eq (tgt := 1494) F dL_law_885 (by decide) (nx σ2 i2)
theorem law_22 (F : Fx G X code 4 RL 100) (S : SX X b L xv) (hi : i + 7 ≤ L) (iv : Inv σ) (nx : ∀ τ, Inv τ → Wx G X 4 τ 1494 (lvL G b i) []) : Wx G X 4 σ 890 (lvL G b i) [] := by
  obtain ⟨r, σ1, σ2, e1, e2, i2⟩ := e_loud iv (xv (i + 1)) (xv (i + 2)) (xv (i + 3))
  refine x_al1 F dL_law_890 ?_
  refine x_arg F S (j := 1) (by omega) dL_law_891 dL_law_892 dL_law_893 (by decide +kernel) dL_law_894 dL_law_895 ?_
  refine x_arg F S (j := 2) (by omega) dL_law_896 dL_law_897 dL_law_898 (by decide +kernel) dL_law_899 dL_law_900 ?_
  refine x_arg F S (j := 3) (by omega) dL_law_901 dL_law_902 dL_law_903 (by decide +kernel) dL_law_904 dL_law_905 ?_
  refine wx_V (n := 3) (st := []) (As := [.int (xv (i + 1)), .int (xv (i + 2)), .int (xv (i + 3))]) F dL_law_906 (c_X7_loud e1) wV_L_107 nk_X7_loud (by decide) (by decide) ob_0 vc_6 rfl rfl (Nat.le_of_ble_eq_true rfl) ?_
  refine x_al2 (st := [.int r]) F dL_law_909 ?_
  refine x_arg F S (j := 1) (by omega) dL_law_910 dL_law_911 dL_law_912 (by decide +kernel) dL_law_913 dL_law_914 ?_
  refine x_arg F S (j := 2) (by omega) dL_law_915 dL_law_916 dL_law_917 (by decide +kernel) dL_law_918 dL_law_919 ?_
  refine x_arg F S (j := 3) (by omega) dL_law_920 dL_law_921 dL_law_922 (by decide +kernel) dL_law_923 dL_law_924 ?_
  refine wx_V (n := 3) (st := [.int r]) (As := [.int (xv (i + 1)), .int (xv (i + 2)), .int (xv (i + 3))]) F dL_law_925 (c_X8_loud e2) wV_L_110 nk_X8_loud (by decide) (by decide) ob_25 vc_7 rfl rfl (Nat.le_of_ble_eq_true rfl) ?_
  exact x_eq (tgt := 1494) F dL_law_928 (by decide) (nx σ2 i2)
theorem law_23 (F : Fx G X code 4 RL 100) (S : SX X b L xv) (hi : i + 7 ≤ L) (iv : Inv σ) (nx : ∀ τ, Inv τ → Wx G X 4 τ 1494 (lvL G b i) []) : Wx G X 4 σ 933 (lvL G b i) [] := by
  obtain ⟨r, σ1, σ2, e1, e2, i2⟩ := e_say iv (xv (i + 1)) (xv (i + 2)) (xv (i + 3)) (xv (i + 4))
  refine x_al1 F dL_law_933 ?_
  refine x_arg F S (j := 1) (by omega) dL_law_934 dL_law_935 dL_law_936 (by decide +kernel) dL_law_937 dL_law_938 ?_
  refine x_arg F S (j := 2) (by omega) dL_law_939 dL_law_940 dL_law_941 (by decide +kernel) dL_law_942 dL_law_943 ?_
  refine x_arg F S (j := 3) (by omega) dL_law_944 dL_law_945 dL_law_946 (by decide +kernel) dL_law_947 dL_law_948 ?_
  refine x_arg F S (j := 4) (by omega) dL_law_949 dL_law_950 dL_law_951 (by decide +kernel) dL_law_952 dL_law_953 ?_
  refine wx_V (n := 4) (st := []) (As := [.int (xv (i + 1)), .int (xv (i + 2)), .int (xv (i + 3)), .int (xv (i + 4))]) F dL_law_954 (c_X7_say e1) wV_L_111 nk_X7_say (by decide) (by decide) ob_0 vc_6 rfl rfl (Nat.le_of_ble_eq_true rfl) ?_
  refine x_al2 (st := [.int r]) F dL_law_957 ?_
  refine x_arg F S (j := 1) (by omega) dL_law_958 dL_law_959 dL_law_960 (by decide +kernel) dL_law_961 dL_law_962 ?_
  refine x_arg F S (j := 2) (by omega) dL_law_963 dL_law_964 dL_law_965 (by decide +kernel) dL_law_966 dL_law_967 ?_
  refine x_arg F S (j := 3) (by omega) dL_law_968 dL_law_969 dL_law_970 (by decide +kernel) dL_law_971 dL_law_972 ?_
  refine x_arg F S (j := 4) (by omega) dL_law_973 dL_law_974 dL_law_975 (by decide +kernel) dL_law_976 dL_law_977 ?_
  refine wx_V (n := 4) (st := [.int r]) (As := [.int (xv (i + 1)), .int (xv (i + 2)), .int (xv (i + 3)), .int (xv (i + 4))]) F dL_law_978 (c_X8_say e2) wV_L_114 nk_X8_say (by decide) (by decide) ob_25 vc_7 rfl rfl (Nat.le_of_ble_eq_true rfl) ?_
  exact x_eq (tgt := 1494) F dL_law_981 (by decide) (nx σ2 i2)
theorem law_24 (F : Fx G X code 4 RL 100) (S : SX X b L xv) (hi : i + 7 ≤ L) (iv : Inv σ) (nx : ∀ τ, Inv τ → Wx G X 4 τ 1494 (lvL G b i) []) : Wx G X 4 σ 986 (lvL G b i) [] := by
  obtain ⟨r, σ1, σ2, e1, e2, i2⟩ := e_round iv (xv (i + 1))
  refine x_al1 F dL_law_986 ?_
  refine x_arg F S (j := 1) (by omega) dL_law_987 dL_law_988 dL_law_989 (by decide +kernel) dL_law_990 dL_law_991 ?_
  refine wx_V (n := 1) (st := []) (As := [.int (xv (i + 1))]) F dL_law_992 (c_X7_round e1) wV_L_115 nk_X7_round (by decide) (by decide) ob_0 vc_6 rfl rfl (Nat.le_of_ble_eq_true rfl) ?_
  refine x_al2 (st := [.int r]) F dL_law_995 ?_
  refine x_arg F S (j := 1) (by omega) dL_law_996 dL_law_997 dL_law_998 (by decide +kernel) dL_law_999 dL_law_1000 ?_
  refine wx_V (n := 1) (st := [.int r]) (As := [.int (xv (i + 1))]) F dL_law_1001 (c_X8_round e2) wV_L_118 nk_X8_round (by decide) (by decide) ob_25 vc_7 rfl rfl (Nat.le_of_ble_eq_true rfl) ?_
  exact x_eq (tgt := 1494) F dL_law_1004 (by decide) (nx σ2 i2)
theorem law_25 (F : Fx G X code 4 RL 100) (S : SX X b L xv) (hi : i + 7 ≤ L) (iv : Inv σ) (nx : ∀ τ, Inv τ → Wx G X 4 τ 1494 (lvL G b i) []) : Wx G X 4 σ 1009 (lvL G b i) [] := by
  obtain ⟨r, σ1, σ2, e1, e2, i2⟩ := e_way iv (xv (i + 1)) (xv (i + 2))
  refine x_al1 F dL_law_1009 ?_
  refine x_arg F S (j := 1) (by omega) dL_law_1010 dL_law_1011 dL_law_1012 (by decide +kernel) dL_law_1013 dL_law_1014 ?_
  refine x_arg F S (j := 2) (by omega) dL_law_1015 dL_law_1016 dL_law_1017 (by decide +kernel) dL_law_1018 dL_law_1019 ?_
  refine wx_V (n := 2) (st := []) (As := [.int (xv (i + 1)), .int (xv (i + 2))]) F dL_law_1020 (c_X7_way e1) wV_L_119 nk_X7_way (by decide) (by decide) ob_0 vc_6 rfl rfl (Nat.le_of_ble_eq_true rfl) ?_
  refine x_al2 (st := [.int r]) F dL_law_1023 ?_
  refine x_arg F S (j := 1) (by omega) dL_law_1024 dL_law_1025 dL_law_1026 (by decide +kernel) dL_law_1027 dL_law_1028 ?_
  refine x_arg F S (j := 2) (by omega) dL_law_1029 dL_law_1030 dL_law_1031 (by decide +kernel) dL_law_1032 dL_law_1033 ?_
  refine wx_V (n := 2) (st := [.int r]) (As := [.int (xv (i + 1)), .int (xv (i + 2))]) F dL_law_1034 (c_X8_way e2) wV_L_122 nk_X8_way (by decide) (by decide) ob_25 vc_7 rfl rfl (Nat.le_of_ble_eq_true rfl) ?_
  exact x_eq (tgt := 1494) F dL_law_1037 (by decide) (nx σ2 i2)
theorem law_26 (F : Fx G X code 4 RL 100) (S : SX X b L xv) (hi : i + 7 ≤ L) (iv : Inv σ) (nx : ∀ τ, Inv τ → Wx G X 4 τ 1494 (lvL G b i) []) : Wx G X 4 σ 1042 (lvL G b i) [] := by
  obtain ⟨r, σ1, σ2, e1, e2, i2⟩ := e_who iv (xv (i + 1)) (xv (i + 2)) (xv (i + 3)) (xv (i + 4)) (xv (i + 5)) (xv (i + 6))
  refine x_al1 F dL_law_1042 ?_
  refine x_arg F S (j := 1) (by omega) dL_law_1043 dL_law_1044 dL_law_1045 (by decide +kernel) dL_law_1046 dL_law_1047 ?_
  refine x_arg F S (j := 2) (by omega) dL_law_1048 dL_law_1049 dL_law_1050 (by decide +kernel) dL_law_1051 dL_law_1052 ?_
  refine x_arg F S (j := 3) (by omega) dL_law_1053 dL_law_1054 dL_law_1055 (by decide +kernel) dL_law_1056 dL_law_1057 ?_
  refine x_arg F S (j := 4) (by omega) dL_law_1058 dL_law_1059 dL_law_1060 (by decide +kernel) dL_law_1061 dL_law_1062 ?_
  refine x_arg F S (j := 5) (by omega) dL_law_1063 dL_law_1064 dL_law_1065 (by decide +kernel) dL_law_1066 dL_law_1067 ?_
  refine x_arg6 F S (j := 6) (by omega) dL_law_1068 dL_law_1069 dL_law_1070 (by decide +kernel) dL_law_1072 dL_law_1073 ?_
  refine wx_V (n := 6) (st := []) (As := [.int (xv (i + 1)), .int (xv (i + 2)), .int (xv (i + 3)), .int (xv (i + 4)), .int (xv (i + 5)), .int (xv (i + 6))]) F dL_law_1074 (c_X7_who e1) wV_L_123 nk_X7_who (by decide) (by decide) ob_0 vc_6 rfl rfl (Nat.le_of_ble_eq_true rfl) ?_
  refine x_al2 (st := [.int r]) F dL_law_1077 ?_
  refine x_arg F S (j := 1) (by omega) dL_law_1078 dL_law_1079 dL_law_1080 (by decide +kernel) dL_law_1081 dL_law_1082 ?_
  refine x_arg F S (j := 2) (by omega) dL_law_1083 dL_law_1084 dL_law_1085 (by decide +kernel) dL_law_1086 dL_law_1087 ?_
  refine x_arg F S (j := 3) (by omega) dL_law_1088 dL_law_1089 dL_law_1090 (by decide +kernel) dL_law_1091 dL_law_1092 ?_
  refine x_arg F S (j := 4) (by omega) dL_law_1093 dL_law_1094 dL_law_1095 (by decide +kernel) dL_law_1096 dL_law_1097 ?_
  refine x_arg F S (j := 5) (by omega) dL_law_1098 dL_law_1099 dL_law_1100 (by decide +kernel) dL_law_1101 dL_law_1102 ?_
  refine x_arg6 F S (j := 6) (by omega) dL_law_1103 dL_law_1104 dL_law_1105 (by decide +kernel) dL_law_1107 dL_law_1108 ?_
  refine wx_V (n := 6) (st := [.int r]) (As := [.int (xv (i + 1)), .int (xv (i + 2)), .int (xv (i + 3)), .int (xv (i + 4)), .int (xv (i + 5)), .int (xv (i + 6))]) F dL_law_1109 (c_X8_who e2) wV_L_127 nk_X8_who (by decide) (by decide) ob_25 vc_7 rfl rfl (Nat.le_of_ble_eq_true rfl) ?_
  exact x_eq (tgt := 1494) F dL_law_1112 (by decide) (nx σ2 i2)
theorem law_27 (F : Fx G X code 4 RL 100) (S : SX X b L xv) (hi : i + 7 ≤ L) (iv : Inv σ) (nx : ∀ τ, Inv τ → Wx G X 4 τ 1494 (lvL G b i) []) : Wx G X 4 σ 1117 (lvL G b i) [] := by
  obtain ⟨r, σ1, σ2, e1, e2, i2⟩ := e_spoke iv (xv (i + 1)) (xv (i + 2)) (xv (i + 3)) (xv (i + 4)) (xv (i + 5))
  refine x_al1 F dL_law_1117 ?_
  refine x_arg F S (j := 1) (by omega) dL_law_1118 dL_law_1119 dL_law_1120 (by decide +kernel) dL_law_1121 dL_law_1122 ?_
  refine x_arg F S (j := 2) (by omega) dL_law_1123 dL_law_1124 dL_law_1125 (by decide +kernel) dL_law_1126 dL_law_1127 ?_
  refine x_arg F S (j := 3) (by omega) dL_law_1128 dL_law_1129 dL_law_1130 (by decide +kernel) dL_law_1131 dL_law_1132 ?_
  refine x_arg F S (j := 4) (by omega) dL_law_1133 dL_law_1134 dL_law_1135 (by decide +kernel) dL_law_1136 dL_law_1137 ?_
  refine x_arg F S (j := 5) (by omega) dL_law_1138 dL_law_1139 dL_law_1140 (by decide +kernel) dL_law_1141 dL_law_1142 ?_
  refine wx_V (n := 5) (st := []) (As := [.int (xv (i + 1)), .int (xv (i + 2)), .int (xv (i + 3)), .int (xv (i + 4)), .int (xv (i + 5))]) F dL_law_1143 (c_X7_spoke e1) wV_L_128 nk_X7_spoke (by decide) (by decide) ob_0 vc_6 rfl rfl (Nat.le_of_ble_eq_true rfl) ?_
  refine x_al2 (st := [.int r]) F dL_law_1146 ?_
  refine x_arg F S (j := 1) (by omega) dL_law_1147 dL_law_1148 dL_law_1149 (by decide +kernel) dL_law_1150 dL_law_1151 ?_
  refine x_arg F S (j := 2) (by omega) dL_law_1152 dL_law_1153 dL_law_1154 (by decide +kernel) dL_law_1155 dL_law_1156 ?_
  refine x_arg F S (j := 3) (by omega) dL_law_1157 dL_law_1158 dL_law_1159 (by decide +kernel) dL_law_1160 dL_law_1161 ?_
  refine x_arg F S (j := 4) (by omega) dL_law_1162 dL_law_1163 dL_law_1164 (by decide +kernel) dL_law_1165 dL_law_1166 ?_
  refine x_arg F S (j := 5) (by omega) dL_law_1167 dL_law_1168 dL_law_1169 (by decide +kernel) dL_law_1170 dL_law_1171 ?_
  refine wx_V (n := 5) (st := [.int r]) (As := [.int (xv (i + 1)), .int (xv (i + 2)), .int (xv (i + 3)), .int (xv (i + 4)), .int (xv (i + 5))]) F dL_law_1172 (c_X8_spoke e2) wV_L_131 nk_X8_spoke (by decide) (by decide) ob_25 vc_7 rfl rfl (Nat.le_of_ble_eq_true rfl) ?_
  exact x_eq (tgt := 1494) F dL_law_1175 (by decide) (nx σ2 i2)
theorem law_28 (F : Fx G X code 4 RL 100) (S : SX X b L xv) (hi : i + 7 ≤ L) (iv : Inv σ) (nx : ∀ τ, Inv τ → Wx G X 4 τ 1494 (lvL G b i) []) : Wx G X 4 σ 1180 (lvL G b i) [] := by
  obtain ⟨r, σ1, σ2, e1, e2, i2⟩ := e_cold iv (xv (i + 1))
  refine x_al1 F dL_law_1180 ?_
  refine x_arg F S (j := 1) (by omega) dL_law_1181 dL_law_1182 dL_law_1183 (by decide +kernel) dL_law_1184 dL_law_1185 ?_
  refine wx_V (n := 1) (st := []) (As := [.int (xv (i + 1))]) F dL_law_1186 (c_X7_cold e1) wV_L_132 nk_X7_cold (by decide) (by decide) ob_0 vc_6 rfl rfl (Nat.le_of_ble_eq_true rfl) ?_
  refine x_al2 (st := [.int r]) F dL_law_1189 ?_
  refine x_arg F S (j := 1) (by omega) dL_law_1190 dL_law_1191 dL_law_1192 (by decide +kernel) dL_law_1193 dL_law_1194 ?_
  refine wx_V (n := 1) (st := [.int r]) (As := [.int (xv (i + 1))]) F dL_law_1195 (c_X8_cold e2) wV_L_135 nk_X8_cold (by decide) (by decide) ob_25 vc_7 rfl rfl (Nat.le_of_ble_eq_true rfl) ?_
  exact x_eq (tgt := 1494) F dL_law_1198 (by decide) (nx σ2 i2)
theorem law_29 (F : Fx G X code 4 RL 100) (S : SX X b L xv) (hi : i + 7 ≤ L) (iv : Inv σ) (nx : ∀ τ, Inv τ → Wx G X 4 τ 1494 (lvL G b i) []) : Wx G X 4 σ 1203 (lvL G b i) [] := by
  obtain ⟨r, σ1, σ2, e1, e2, i2⟩ := e_stuck iv (xv (i + 1)) (xv (i + 2)) (xv (i + 3)) (xv (i + 4))
  refine x_al1 F dL_law_1203 ?_
  refine x_arg F S (j := 1) (by omega) dL_law_1204 dL_law_1205 dL_law_1206 (by decide +kernel) dL_law_1207 dL_law_1208 ?_
  refine x_arg F S (j := 2) (by omega) dL_law_1209 dL_law_1210 dL_law_1211 (by decide +kernel) dL_law_1212 dL_law_1213 ?_
  refine x_arg F S (j := 3) (by omega) dL_law_1214 dL_law_1215 dL_law_1216 (by decide +kernel) dL_law_1217 dL_law_1218 ?_
  refine x_arg F S (j := 4) (by omega) dL_law_1219 dL_law_1220 dL_law_1221 (by decide +kernel) dL_law_1222 dL_law_1223 ?_
  refine wx_V (n := 4) (st := []) (As := [.int (xv (i + 1)), .int (xv (i + 2)), .int (xv (i + 3)), .int (xv (i + 4))]) F dL_law_1224 (c_X7_stuck e1) wV_L_136 nk_X7_stuck (by decide) (by decide) ob_0 vc_6 rfl rfl (Nat.le_of_ble_eq_true rfl) ?_
  refine x_al2 (st := [.long r]) F dL_law_1227 ?_
  refine x_arg F S (j := 1) (by omega) dL_law_1228 dL_law_1229 dL_law_1230 (by decide +kernel) dL_law_1231 dL_law_1232 ?_
  refine x_arg F S (j := 2) (by omega) dL_law_1233 dL_law_1234 dL_law_1235 (by decide +kernel) dL_law_1236 dL_law_1237 ?_
  refine x_arg F S (j := 3) (by omega) dL_law_1238 dL_law_1239 dL_law_1240 (by decide +kernel) dL_law_1241 dL_law_1242 ?_
  refine x_arg F S (j := 4) (by omega) dL_law_1243 dL_law_1244 dL_law_1245 (by decide +kernel) dL_law_1246 dL_law_1247 ?_
  refine wx_V (n := 4) (st := [.long r]) (As := [.int (xv (i + 1)), .int (xv (i + 2)), .int (xv (i + 3)), .int (xv (i + 4))]) F dL_law_1248 (c_X8_stuck e2) wV_L_140 nk_X8_stuck (by decide) (by decide) ob_25 vc_7 rfl rfl (Nat.le_of_ble_eq_true rfl) ?_
  exact x_leq (tgt := 1494) F dL_law_1251 dL_law_1252 (by decide) (nx σ2 i2)
theorem law_30 (F : Fx G X code 4 RL 100) (S : SX X b L xv) (hi : i + 7 ≤ L) (iv : Inv σ) (nx : ∀ τ, Inv τ → Wx G X 4 τ 1494 (lvL G b i) []) : Wx G X 4 σ 1257 (lvL G b i) [] := by
  obtain ⟨r, σ1, σ2, e1, e2, i2⟩ := e_drawn iv (xv (i + 1)) (xv (i + 2)) (xv (i + 3))
  refine x_al1 F dL_law_1257 ?_
  refine x_arg F S (j := 1) (by omega) dL_law_1258 dL_law_1259 dL_law_1260 (by decide +kernel) dL_law_1261 dL_law_1262 ?_
  refine x_arg F S (j := 2) (by omega) dL_law_1263 dL_law_1264 dL_law_1265 (by decide +kernel) dL_law_1266 dL_law_1267 ?_
  refine x_arg F S (j := 3) (by omega) dL_law_1268 dL_law_1269 dL_law_1270 (by decide +kernel) dL_law_1271 dL_law_1272 ?_
  refine wx_V (n := 3) (st := []) (As := [.int (xv (i + 1)), .int (xv (i + 2)), .int (xv (i + 3))]) F dL_law_1273 (c_X7_drawn e1) wV_L_141 nk_X7_drawn (by decide) (by decide) ob_0 vc_6 rfl rfl (Nat.le_of_ble_eq_true rfl) ?_
  refine x_al2 (st := [.int r]) F dL_law_1276 ?_
  refine x_arg F S (j := 1) (by omega) dL_law_1277 dL_law_1278 dL_law_1279 (by decide +kernel) dL_law_1280 dL_law_1281 ?_
  refine x_arg F S (j := 2) (by omega) dL_law_1282 dL_law_1283 dL_law_1284 (by decide +kernel) dL_law_1285 dL_law_1286 ?_
  refine x_arg F S (j := 3) (by omega) dL_law_1287 dL_law_1288 dL_law_1289 (by decide +kernel) dL_law_1290 dL_law_1291 ?_
  refine wx_V (n := 3) (st := [.int r]) (As := [.int (xv (i + 1)), .int (xv (i + 2)), .int (xv (i + 3))]) F dL_law_1292 (c_X8_drawn e2) wV_L_144 nk_X8_drawn (by decide) (by decide) ob_25 vc_7 rfl rfl (Nat.le_of_ble_eq_true rfl) ?_
  exact x_eq (tgt := 1494) F dL_law_1295 (by decide) (nx σ2 i2)
theorem law_31 (F : Fx G X code 4 RL 100) (S : SX X b L xv) (hi : i + 7 ≤ L) (iv : Inv σ) (nx : ∀ τ, Inv τ → Wx G X 4 τ 1494 (lvL G b i) []) : Wx G X 4 σ 1300 (lvL G b i) [] := by
  obtain ⟨r, σ1, σ2, e1, e2, i2⟩ := e_image iv (xv (i + 1))
  refine x_al1 F dL_law_1300 ?_
  refine x_arg F S (j := 1) (by omega) dL_law_1301 dL_law_1302 dL_law_1303 (by decide +kernel) dL_law_1304 dL_law_1305 ?_
  refine wx_V (n := 1) (st := []) (As := [.int (xv (i + 1))]) F dL_law_1306 (c_X7_image e1) wV_L_145 nk_X7_image (by decide) (by decide) ob_0 vc_6 rfl rfl (Nat.le_of_ble_eq_true rfl) ?_
  refine x_al2 (st := [.int r]) F dL_law_1309 ?_
  refine x_arg F S (j := 1) (by omega) dL_law_1310 dL_law_1311 dL_law_1312 (by decide +kernel) dL_law_1313 dL_law_1314 ?_
  refine wx_V (n := 1) (st := [.int r]) (As := [.int (xv (i + 1))]) F dL_law_1315 (c_X8_image e2) wV_L_148 nk_X8_image (by decide) (by decide) ob_25 vc_7 rfl rfl (Nat.le_of_ble_eq_true rfl) ?_
  exact x_eq (tgt := 1494) F dL_law_1318 (by decide) (nx σ2 i2)
theorem law_32 (F : Fx G X code 4 RL 100) (S : SX X b L xv) (hi : i + 7 ≤ L) (iv : Inv σ) (nx : ∀ τ, Inv τ → Wx G X 4 τ 1494 (lvL G b i) []) : Wx G X 4 σ 1323 (lvL G b i) [] := by
  obtain ⟨r, σ1, σ2, e1, e2, i2⟩ := e_restore iv (xv (i + 1))
  refine x_al1 F dL_law_1323 ?_
  refine x_arg F S (j := 1) (by omega) dL_law_1324 dL_law_1325 dL_law_1326 (by decide +kernel) dL_law_1327 dL_law_1328 ?_
  refine wx_V (n := 1) (st := []) (As := [.int (xv (i + 1))]) F dL_law_1329 (c_X7_restore e1) wV_L_149 nk_X7_restore (by decide) (by decide) ob_0 vc_6 rfl rfl (Nat.le_of_ble_eq_true rfl) ?_
  refine x_al2 (st := [.int r]) F dL_law_1332 ?_
  refine x_arg F S (j := 1) (by omega) dL_law_1333 dL_law_1334 dL_law_1335 (by decide +kernel) dL_law_1336 dL_law_1337 ?_
  refine wx_V (n := 1) (st := [.int r]) (As := [.int (xv (i + 1))]) F dL_law_1338 (c_X8_restore e2) wV_L_152 nk_X8_restore (by decide) (by decide) ob_25 vc_7 rfl rfl (Nat.le_of_ble_eq_true rfl) ?_
  exact x_eq (tgt := 1494) F dL_law_1341 (by decide) (nx σ2 i2)
theorem law_33 (F : Fx G X code 4 RL 100) (S : SX X b L xv) (hi : i + 7 ≤ L) (iv : Inv σ) (nx : ∀ τ, Inv τ → Wx G X 4 τ 1494 (lvL G b i) []) : Wx G X 4 σ 1346 (lvL G b i) [] := by
  obtain ⟨r, σ1, σ2, e1, e2, i2⟩ := e_kind iv (xv (i + 1))
  refine x_al1 F dL_law_1346 ?_
  refine x_arg F S (j := 1) (by omega) dL_law_1347 dL_law_1348 dL_law_1349 (by decide +kernel) dL_law_1350 dL_law_1351 ?_
  refine wx_V (n := 1) (st := []) (As := [.int (xv (i + 1))]) F dL_law_1352 (c_X7_kind e1) wV_L_153 nk_X7_kind (by decide) (by decide) ob_0 vc_6 rfl rfl (Nat.le_of_ble_eq_true rfl) ?_
  refine x_al2 (st := [.int r]) F dL_law_1355 ?_
  refine x_arg F S (j := 1) (by omega) dL_law_1356 dL_law_1357 dL_law_1358 (by decide +kernel) dL_law_1359 dL_law_1360 ?_
  refine wx_V (n := 1) (st := [.int r]) (As := [.int (xv (i + 1))]) F dL_law_1361 (c_X8_kind e2) wV_L_156 nk_X8_kind (by decide) (by decide) ob_25 vc_7 rfl rfl (Nat.le_of_ble_eq_true rfl) ?_
  exact x_eq (tgt := 1494) F dL_law_1364 (by decide) (nx σ2 i2)
theorem law_34 (F : Fx G X code 4 RL 100) (S : SX X b L xv) (hi : i + 7 ≤ L) (iv : Inv σ) (nx : ∀ τ, Inv τ → Wx G X 4 τ 1494 (lvL G b i) []) : Wx G X 4 σ 1369 (lvL G b i) [] := by
  obtain ⟨r, σ1, σ2, e1, e2, i2⟩ := e_as iv (xv (i + 1)) (xv (i + 2))
  refine x_al1 F dL_law_1369 ?_
  refine x_arg F S (j := 1) (by omega) dL_law_1370 dL_law_1371 dL_law_1372 (by decide +kernel) dL_law_1373 dL_law_1374 ?_
  refine x_arg F S (j := 2) (by omega) dL_law_1375 dL_law_1376 dL_law_1377 (by decide +kernel) dL_law_1378 dL_law_1379 ?_
  refine wx_V (n := 2) (st := []) (As := [.int (xv (i + 1)), .int (xv (i + 2))]) F dL_law_1380 (c_X7_as e1) wV_L_157 nk_X7_as (by decide) (by decide) ob_0 vc_6 rfl rfl (Nat.le_of_ble_eq_true rfl) ?_
  refine x_al2 (st := [.int r]) F dL_law_1383 ?_
  refine x_arg F S (j := 1) (by omega) dL_law_1384 dL_law_1385 dL_law_1386 (by decide +kernel) dL_law_1387 dL_law_1388 ?_
  refine x_arg F S (j := 2) (by omega) dL_law_1389 dL_law_1390 dL_law_1391 (by decide +kernel) dL_law_1392 dL_law_1393 ?_
  refine wx_V (n := 2) (st := [.int r]) (As := [.int (xv (i + 1)), .int (xv (i + 2))]) F dL_law_1394 (c_X8_as e2) wV_L_160 nk_X8_as (by decide) (by decide) ob_25 vc_7 rfl rfl (Nat.le_of_ble_eq_true rfl) ?_
  exact x_eq (tgt := 1494) F dL_law_1397 (by decide) (nx σ2 i2)
theorem law_35 (F : Fx G X code 4 RL 100) (S : SX X b L xv) (hi : i + 7 ≤ L) (iv : Inv σ) (nx : ∀ τ, Inv τ → Wx G X 4 τ 1494 (lvL G b i) []) : Wx G X 4 σ 1402 (lvL G b i) [] := by
  obtain ⟨r, σ1, σ2, e1, e2, i2⟩ := e_ask iv (xv (i + 1)) (xv (i + 2))
  refine x_al1 F dL_law_1402 ?_
  refine x_arg F S (j := 1) (by omega) dL_law_1403 dL_law_1404 dL_law_1405 (by decide +kernel) dL_law_1406 dL_law_1407 ?_
  refine x_arg F S (j := 2) (by omega) dL_law_1408 dL_law_1409 dL_law_1410 (by decide +kernel) dL_law_1411 dL_law_1412 ?_
  refine wx_V (n := 2) (st := []) (As := [.int (xv (i + 1)), .int (xv (i + 2))]) F dL_law_1413 (c_X7_ask e1) wV_L_161 nk_X7_ask (by decide) (by decide) ob_0 vc_6 rfl rfl (Nat.le_of_ble_eq_true rfl) ?_
  refine x_al2 (st := [.int r]) F dL_law_1416 ?_
  refine x_arg F S (j := 1) (by omega) dL_law_1417 dL_law_1418 dL_law_1419 (by decide +kernel) dL_law_1420 dL_law_1421 ?_
  refine x_arg F S (j := 2) (by omega) dL_law_1422 dL_law_1423 dL_law_1424 (by decide +kernel) dL_law_1425 dL_law_1426 ?_
  refine wx_V (n := 2) (st := [.int r]) (As := [.int (xv (i + 1)), .int (xv (i + 2))]) F dL_law_1427 (c_X8_ask e2) wV_L_164 nk_X8_ask (by decide) (by decide) ob_25 vc_7 rfl rfl (Nat.le_of_ble_eq_true rfl) ?_
  exact x_eq (tgt := 1494) F dL_law_1430 (by decide) (nx σ2 i2)
theorem law_36 (F : Fx G X code 4 RL 100) (S : SX X b L xv) (hi : i + 7 ≤ L) (iv : Inv σ) (nx : ∀ τ, Inv τ → Wx G X 4 τ 1494 (lvL G b i) []) : Wx G X 4 σ 1435 (lvL G b i) [] := by
  obtain ⟨r, σ1, σ2, e1, e2, i2⟩ := e_trace iv (xv (i + 1))
  refine x_al1 F dL_law_1435 ?_
  refine x_arg F S (j := 1) (by omega) dL_law_1436 dL_law_1437 dL_law_1438 (by decide +kernel) dL_law_1439 dL_law_1440 ?_
  refine wx_V (n := 1) (st := []) (As := [.int (xv (i + 1))]) F dL_law_1441 (c_X7_trace e1) wV_L_165 nk_X7_trace (by decide) (by decide) ob_0 vc_6 rfl rfl (Nat.le_of_ble_eq_true rfl) ?_
  refine x_al2 (st := [.int r]) F dL_law_1444 ?_
  refine x_arg F S (j := 1) (by omega) dL_law_1445 dL_law_1446 dL_law_1447 (by decide +kernel) dL_law_1448 dL_law_1449 ?_
  refine wx_V (n := 1) (st := [.int r]) (As := [.int (xv (i + 1))]) F dL_law_1450 (c_X8_trace e2) wV_L_168 nk_X8_trace (by decide) (by decide) ob_25 vc_7 rfl rfl (Nat.le_of_ble_eq_true rfl) ?_
  exact x_eq (tgt := 1494) F dL_law_1453 (by decide) (nx σ2 i2)
theorem law_37 (F : Fx G X code 4 RL 100) (S : SX X b L xv) (hi : i + 7 ≤ L) (iv : Inv σ) (nx : ∀ τ, Inv τ → Wx G X 4 τ 1494 (lvL G b i) []) : Wx G X 4 σ 1458 (lvL G b i) [] := by
  obtain ⟨r, σ1, σ2, e1, e2, i2⟩ := e_count iv (xv (i + 1))
  refine x_al1 F dL_law_1458 ?_
  refine x_arg F S (j := 1) (by omega) dL_law_1459 dL_law_1460 dL_law_1461 (by decide +kernel) dL_law_1462 dL_law_1463 ?_
  refine wx_V (n := 1) (st := []) (As := [.int (xv (i + 1))]) F dL_law_1464 (c_X7_count e1) wV_L_169 nk_X7_count (by decide) (by decide) ob_0 vc_6 rfl rfl (Nat.le_of_ble_eq_true rfl) ?_
  refine x_al2 (st := [.int r]) F dL_law_1467 ?_
  refine x_arg F S (j := 1) (by omega) dL_law_1468 dL_law_1469 dL_law_1470 (by decide +kernel) dL_law_1471 dL_law_1472 ?_
  refine wx_V (n := 1) (st := [.int r]) (As := [.int (xv (i + 1))]) F dL_law_1473 (c_X8_count e2) wV_L_172 nk_X8_count (by decide) (by decide) ob_25 vc_7 rfl rfl (Nat.le_of_ble_eq_true rfl) ?_
  exact x_eq (tgt := 1494) F dL_law_1476 (by decide) (nx σ2 i2)
theorem law_38 (F : Fx G X code 4 RL 100) (S : SX X b L xv) (hi : i + 7 ≤ L) (iv : Inv σ) (nx : ∀ τ, Inv τ → Wx G X 4 τ 1494 (lvL G b i) []) : Wx G X 4 σ 1481 (lvL G b i) [] := by
  obtain ⟨r, σ1, σ2, e1, e2, i2⟩ := e_status iv
  refine x_al1 F dL_law_1481 ?_
  refine wx_V (n := 0) (st := []) (As := []) F dL_law_1482 (c_X7_status e1) wV_L_173 nk_X7_status (by decide) (by decide) ob_0 vc_6 rfl rfl (Nat.le_of_ble_eq_true rfl) ?_
  refine x_al2 (st := [.int r]) F dL_law_1485 ?_
  refine wx_V (n := 0) (st := [.int r]) (As := []) F dL_law_1486 (c_X8_status e2) wV_L_176 nk_X8_status (by decide) (by decide) ob_25 vc_7 rfl rfl (Nat.le_of_ble_eq_true rfl) ?_
  exact x_eq (tgt := 1494) F dL_law_1489 (by decide) (nx σ2 i2)
end LAWCASES
def tgL (k : Nat) : Nat := ([204, 247, 290, 353, 376, 399, 412, 425, 438, 461, 504, 537, 570, 583, 616, 649, 682, 725, 748, 771, 784, 837, 890, 933, 986, 1009, 1042, 1117, 1180, 1203, 1257, 1300, 1323, 1346, 1369, 1402, 1435, 1458, 1481] : List Nat).getD k 0
theorem tg_ok : ∀ k : Nat, k < 39 → (#[171, 214, 257, 320, 343, 366, 379, 392, 405, 428, 471, 504, 537, 550, 583, 616, 649, 692, 715, 738, 751, 804, 857, 900, 953, 976, 1009, 1084, 1147, 1170, 1224, 1267, 1290, 1313, 1336, 1369, 1402, 1425, 1448] : Array Int)[((k : Int) - 0).toNat]? = some ((tgL k : Int) - 33) := by decide +kernel
theorem law_sw {G : Gx} {X : Cx} {σ : St} {b L i : Nat} {xv : Nat → Int32} (F : Fx G X code 4 RL 100) (S : SX X b L xv) (hi : i + 7 ≤ L) (iv : Inv σ) (nx : ∀ τ, Inv τ → Wx G X 4 τ 1494 (lvL G b i) []) (x : Int32) : Wx G X 4 σ 33 (lvL G b i) [.int x] := by
  have cs : ∀ k, k < 39 → Wx G X 4 σ (tgL k) (lvL G b i) [] := fun k hk => match k, hk with
    | 0, _ => law_0 F S hi iv nx
    | 1, _ => law_1 F S hi iv nx
    | 2, _ => law_2 F S hi iv nx
    | 3, _ => law_3 F S hi iv nx
    | 4, _ => law_4 F S hi iv nx
    | 5, _ => law_5 F S hi iv nx
    | 6, _ => law_6 F S hi iv nx
    | 7, _ => law_7 F S hi iv nx
    | 8, _ => law_8 F S hi iv nx
    | 9, _ => law_9 F S hi iv nx
    | 10, _ => law_10 F S hi iv nx
    | 11, _ => law_11 F S hi iv nx
    | 12, _ => law_12 F S hi iv nx
    | 13, _ => law_13 F S hi iv nx
    | 14, _ => law_14 F S hi iv nx
    | 15, _ => law_15 F S hi iv nx
    | 16, _ => law_16 F S hi iv nx
    | 17, _ => law_17 F S hi iv nx
    | 18, _ => law_18 F S hi iv nx
    | 19, _ => law_19 F S hi iv nx
    | 20, _ => law_20 F S hi iv nx
    | 21, _ => law_21 F S hi iv nx
    | 22, _ => law_22 F S hi iv nx
    | 23, _ => law_23 F S hi iv nx
    | 24, _ => law_24 F S hi iv nx
    | 25, _ => law_25 F S hi iv nx
    | 26, _ => law_26 F S hi iv nx
    | 27, _ => law_27 F S hi iv nx
    | 28, _ => law_28 F S hi iv nx
    | 29, _ => law_29 F S hi iv nx
    | 30, _ => law_30 F S hi iv nx
    | 31, _ => law_31 F S hi iv nx
    | 32, _ => law_32 F S hi iv nx
    | 33, _ => law_33 F S hi iv nx
    | 34, _ => law_34 F S hi iv nx
    | 35, _ => law_35 F S hi iv nx
    | 36, _ => law_36 F S hi iv nx
    | 37, _ => law_37 F S hi iv nx
    | 38, _ => law_38 F S hi iv nx
    | _ + 39, h => absurd h (by omega)
  by_cases h1 : x.toInt < 0
  · exact fun H locs ls hP hS hl => lv_tableOut (tgt := 1494) F.ex F.bt dL_law_33 (Or.inl h1) (by decide) (nx σ iv H locs ls hP hS hl)
  · by_cases h2 : 38 < x.toInt
    · exact fun H locs ls hP hS hl => lv_tableOut (tgt := 1494) F.ex F.bt dL_law_33 (Or.inr h2) (by decide) (nx σ iv H locs ls hP hS hl)
    · obtain ⟨k, hk, e⟩ : ∃ k : Nat, k < 39 ∧ x.toInt = (k : Int) := ⟨x.toInt.toNat, by omega, by omega⟩
      exact fun H locs ls hP hS hl => lv_tableIn (off := (tgL k : Int) - 33) (tgt := tgL k) F.ex F.bt dL_law_33 h1 h2 (by rw [e]; exact tg_ok k hk) (by omega) (cs k hk H locs ls hP hS hl)
