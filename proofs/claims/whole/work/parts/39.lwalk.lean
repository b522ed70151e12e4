-- the law: a walk for each call (printed by wip/whole/lawgen.py)
set_option maxHeartbeats 4000000 in
theorem lc_begin {I : Nat → Wd → Prop} (hm : LMath I) {K : KT} {b L n : Nat} {xs : Nat → Int32} {w : Wd} (B : LB K b L xs n w) (hn : 6 * n + 6 ≤ L) (hi : I n w) (kk : ∀ (K' : KT) (w' : Wd) (lv : List (Option Value)), lv.take 5 = LV5 n → lv.length = 8 → LB K' b L xs (n + 1) w' → I (n + 1) w' → KPs K K' → XW K' 2201 lv [] w') : XW K 244 (LV n) [] w := by
  have hL := B.2.2.2.1.2.2.2.2.2
  have hn5 : n < 512 := by omega
  have hr := B.room hn5
  have G := B.1.1
  have M := B.1.2.1
  obtain ⟨hst, hb170, hX, hbl, hbA, -⟩ := B.2.2.2.1
  obtain ⟨r, w1, w2, h1, h2, h5, h6, h7⟩ := lm_begin hm n w  hn5 hi
  refine x_aload_n G dL_law_244 rfl rfl ?_
  refine x_virI G (As := []) (mX11_begin G.2.2.2.2.2.2.1 M h1) mv_L_36 (kd0 M) cl11 rfl rfl rfl rfl rfl dL_law_245 ?_
  refine x_aload_n G dL_law_248 rfl rfl ?_
  refine x_virI G (As := []) (mX12_begin G.2.2.2.2.2.2.1 M h2) mv_L_40 (kd148 M) cl12 rfl rfl rfl rfl rfl dL_law_249 ?_
  refine x_icmpeq (α := Unit) (A := some ()) (B := none) (r := ()) G dL_law_252 (tgt := 2201) (by decide) (if_pos rfl) (fun _ _ => ?_) (fun _ h => by cases h)
  exact kk K w2 (LV n) rfl rfl ((B.fl h6).fl h7).up h5 (KPs.rf K)
set_option maxHeartbeats 4000000 in
theorem lc_set {I : Nat → Wd → Prop} (hm : LMath I) {K : KT} {b L n : Nat} {xs : Nat → Int32} {w : Wd} (B : LB K b L xs n w) (hn : 6 * n + 6 ≤ L) (hi : I n w) (kk : ∀ (K' : KT) (w' : Wd) (lv : List (Option Value)), lv.take 5 = LV5 n → lv.length = 8 → LB K' b L xs (n + 1) w' → I (n + 1) w' → KPs K K' → XW K' 2201 lv [] w') : XW K 257 (LV n) [] w := by
  have hL := B.2.2.2.1.2.2.2.2.2
  have hn5 : n < 512 := by omega
  have hr := B.room hn5
  have G := B.1.1
  have M := B.1.2.1
  obtain ⟨hst, hb170, hX, hbl, hbA, -⟩ := B.2.2.2.1
  obtain ⟨r, w1, w2, h1, h2, h5, h6, h7⟩ := lm_set hm n w (xs (Int32.toNatClampNeg (iN (6 * n) + (1 : Int32)))) (xs (Int32.toNatClampNeg (iN (6 * n) + (2 : Int32)))) (xs (Int32.toNatClampNeg (iN (6 * n) + (3 : Int32)))) hn5 hi
  refine x_aload_n G dL_law_257 rfl rfl ?_
  refine x_aload_n G dL_law_258 rfl rfl ?_
  refine x_iload G dL_law_259 rfl ?_
  refine x_iconst G (v := 1) dL_law_261 (by decide) ?_
  refine x_iadd G dL_law_262 ?_
  refine x_sld G hb170 hX hbl hbA (lv_at6 (k := 1) hn hL (by omega) rfl) dL_law_263 ?_
  refine x_aload_n G dL_law_264 rfl rfl ?_
  refine x_iload G dL_law_265 rfl ?_
  refine x_iconst G (v := 2) dL_law_267 (by decide) ?_
  refine x_iadd G dL_law_268 ?_
  refine x_sld G hb170 hX hbl hbA (lv_at6 (k := 2) hn hL (by omega) rfl) dL_law_269 ?_
  refine x_aload_n G dL_law_270 rfl rfl ?_
  refine x_iload G dL_law_271 rfl ?_
  refine x_iconst G (v := 3) dL_law_273 (by decide) ?_
  refine x_iadd G dL_law_274 ?_
  refine x_sld G hb170 hX hbl hbA (lv_at6 (k := 3) hn hL (by omega) rfl) dL_law_275 ?_
  refine x_virI G (As := [.int (xs (Int32.toNatClampNeg (iN (6 * n) + (1 : Int32)))), .int (xs (Int32.toNatClampNeg (iN (6 * n) + (2 : Int32)))), .int (xs (Int32.toNatClampNeg (iN (6 * n) + (3 : Int32))))]) (mX11_set G.2.2.2.2.2.2.1 M h1) mv_L_41 (kd0 M) cl11 rfl rfl rfl rfl rfl dL_law_276 ?_
  refine x_aload_n G dL_law_279 rfl rfl ?_
  refine x_aload_n G dL_law_280 rfl rfl ?_
  refine x_iload G dL_law_281 rfl ?_
  refine x_iconst G (v := 1) dL_law_283 (by decide) ?_
  refine x_iadd G dL_law_284 ?_
  refine x_sld G hb170 hX hbl hbA (lv_at6 (k := 1) hn hL (by omega) rfl) dL_law_285 ?_
  refine x_aload_n G dL_law_286 rfl rfl ?_
  refine x_iload G dL_law_287 rfl ?_
  refine x_iconst G (v := 2) dL_law_289 (by decide) ?_
  refine x_iadd G dL_law_290 ?_
  refine x_sld G hb170 hX hbl hbA (lv_at6 (k := 2) hn hL (by omega) rfl) dL_law_291 ?_
  refine x_aload_n G dL_law_292 rfl rfl ?_
  refine x_iload G dL_law_293 rfl ?_
  refine x_iconst G (v := 3) dL_law_295 (by decide) ?_
  refine x_iadd G dL_law_296 ?_
  refine x_sld G hb170 hX hbl hbA (lv_at6 (k := 3) hn hL (by omega) rfl) dL_law_297 ?_
  refine x_virI G (As := [.int (xs (Int32.toNatClampNeg (iN (6 * n) + (1 : Int32)))), .int (xs (Int32.toNatClampNeg (iN (6 * n) + (2 : Int32)))), .int (xs (Int32.toNatClampNeg (iN (6 * n) + (3 : Int32))))]) (mX12_set G.2.2.2.2.2.2.1 M h2) mv_L_44 (kd148 M) cl12 rfl rfl rfl rfl rfl dL_law_298 ?_
  refine x_icmpeq (α := Unit) (A := some ()) (B := none) (r := ()) G dL_law_301 (tgt := 2201) (by decide) (if_pos rfl) (fun _ _ => ?_) (fun _ h => by cases h)
  exact kk K w2 (LV n) rfl rfl ((B.fl h6).fl h7).up h5 (KPs.rf K)
set_option maxHeartbeats 4000000 in
theorem lc_of {I : Nat → Wd → Prop} (hm : LMath I) {K : KT} {b L n : Nat} {xs : Nat → Int32} {w : Wd} (B : LB K b L xs n w) (hn : 6 * n + 6 ≤ L) (hi : I n w) (kk : ∀ (K' : KT) (w' : Wd) (lv : List (Option Value)), lv.take 5 = LV5 n → lv.length = 8 → LB K' b L xs (n + 1) w' → I (n + 1) w' → KPs K K' → XW K' 2201 lv [] w') : XW K 306 (LV n) [] w := by
  have hL := B.2.2.2.1.2.2.2.2.2
  have hn5 : n < 512 := by omega
  have hr := B.room hn5
  have G := B.1.1
  have M := B.1.2.1
  obtain ⟨hst, hb170, hX, hbl, hbA, -⟩ := B.2.2.2.1
  obtain ⟨o, r, w2, h1, h2, h3, h4, h5, h6⟩ := lm_of hm n w (xs (Int32.toNatClampNeg (iN (6 * n) + (1 : Int32)))) (xs (Int32.toNatClampNeg (iN (6 * n) + (2 : Int32)))) hn5 hi
  refine x_aload_n G dL_law_306 rfl rfl ?_
  refine x_aload_n G dL_law_307 rfl rfl ?_
  refine x_iload G dL_law_308 rfl ?_
  refine x_iconst G (v := 1) dL_law_310 (by decide) ?_
  refine x_iadd G dL_law_311 ?_
  refine x_sld G hb170 hX hbl hbA (lv_at6 (k := 1) hn hL (by omega) rfl) dL_law_312 ?_
  refine x_aload_n G dL_law_313 rfl rfl ?_
  refine x_iload G dL_law_314 rfl ?_
  refine x_iconst G (v := 2) dL_law_316 (by decide) ?_
  refine x_iadd G dL_law_317 ?_
  refine x_sld G hb170 hX hbl hbA (lv_at6 (k := 2) hn hL (by omega) rfl) dL_law_318 ?_
  refine x_aload_n G dL_law_319 rfl rfl ?_
  refine xh_sta G (As := [.ref 0, .int (xs (Int32.toNatClampNeg (iN (6 * n) + (1 : Int32)))), .int (xs (Int32.toNatClampNeg (iN (6 * n) + (2 : Int32)))), .ref 169]) (r := oI o) (mL_of hst G.2.2.2.2.2.2.1 M B.1.2.2.1 h1) mh_RL_45 rfl rfl rfl rfl rfl dL_law_320 (by omega) (by omega) ?_
  have G2 := G.kn (by omega) (by omega)
  refine x_istore G2 (lv' := LV5 n ++ [some (.int (oI o).1), none, none]) dL_law_323 rfl rfl rfl ?_
  refine x_aload_n G2 dL_law_325 rfl rfl ?_
  refine x_aload_n G2 dL_law_326 rfl rfl ?_
  refine x_iload G2 dL_law_327 rfl ?_
  refine x_iconst G2 (v := 1) dL_law_329 (by decide) ?_
  refine x_iadd G2 dL_law_330 ?_
  refine x_sld G2 hb170 hX hbl hbA (lv_at6 (k := 1) hn hL (by omega) rfl) dL_law_331 ?_
  refine x_aload_n G2 dL_law_332 rfl rfl ?_
  refine x_iload G2 dL_law_333 rfl ?_
  refine x_iconst G2 (v := 2) dL_law_335 (by decide) ?_
  refine x_iadd G2 dL_law_336 ?_
  refine x_sld G2 hb170 hX hbl hbA (lv_at6 (k := 2) hn hL (by omega) rfl) dL_law_337 ?_
  refine x_virI G2 (As := [.int (xs (Int32.toNatClampNeg (iN (6 * n) + (1 : Int32)))), .int (xs (Int32.toNatClampNeg (iN (6 * n) + (2 : Int32))))]) (mX12_of G2.2.2.2.2.2.2.1 M h2) mv_L_50 (kd148 M) cl12 rfl rfl rfl rfl rfl dL_law_338 ?_
  refine x_istore G2 (lv' := LV5 n ++ [some (.int (oI o).1), some (.int r), none]) dL_law_341 rfl rfl rfl ?_
  refine x_aload_n G2 dL_law_343 rfl rfl ?_
  refine x_virI G2 (r0 := w2.1 148 0) (As := []) (mX12_thrown G2.2.2.2.2.2.2.1 M rfl) mv_L_51 (kd148 M) cl12 rfl rfl rfl rfl rfl dL_law_344 ?_
  refine x_iload G2 dL_law_347 rfl ?_
  refine x_icmpeq (α := Unit) (A := some ()) (B := none) (r := ()) G2 dL_law_349 (tgt := 354) (by decide) (if_pos h3) (fun _ _ => ?_) (fun _ h => by cases h)
  refine x_iload G2 dL_law_354 rfl ?_
  have fin : ∀ lv : List (Option Value), lv.take 5 = LV5 n → lv.length = 8 → XW (Kn K K.ks (K.cells + 1) (K.slots + 6)) 2201 lv [] w2 := fun lv e1 e2 => kk _ w2 lv e1 e2 (B.kn G2 hr h6) h5 (KPs.kn K)
  refine x_ifne (α := Unit) (A := some ()) (B := some ()) (r := ()) G2 dL_law_356 (tgt := 371) (by decide) (by split <;> rfl) (fun he _ => ?_) (fun _ _ => x_goto G2 (tgt := 2201) dL_law_371 (by decide) (fin _ rfl rfl))
  obtain ⟨x, hx⟩ := oI_inl he
  obtain ⟨e1, e2⟩ := h4 x hx
  refine x_aload_n G2 dL_law_359 rfl rfl ?_
  refine x_iconst G2 (v := 0) dL_law_360 (by decide) ?_
  refine x_lald0 G2 B.1.2.2.1 dL_law_361 (by decide) ?_
  refine x_iload G2 dL_law_362 rfl ?_
  refine x_i2l G2 dL_law_364 ?_
  refine x_lcmp G2 dL_law_365 ?_
  refine x_ifeq (α := Unit) (A := some ()) (B := none) (r := ()) G2 dL_law_366 (tgt := 371) (by decide) (if_pos (by rw [show rl w2 169 (0 : Int32) = w2.2 169 0 from rfl, e1, e2]; exact cmp_self _)) (fun _ _ => ?_) (fun _ h => by cases h)
  exact x_goto G2 (tgt := 2201) dL_law_371 (by decide) (fin _ rfl rfl)
set_option maxHeartbeats 4000000 in
theorem lc_tide {I : Nat → Wd → Prop} (hm : LMath I) {K : KT} {b L n : Nat} {xs : Nat → Int32} {w : Wd} (B : LB K b L xs n w) (hn : 6 * n + 6 ≤ L) (hi : I n w) (kk : ∀ (K' : KT) (w' : Wd) (lv : List (Option Value)), lv.take 5 = LV5 n → lv.length = 8 → LB K' b L xs (n + 1) w' → I (n + 1) w' → KPs K K' → XW K' 2201 lv [] w') : XW K 374 (LV n) [] w := by
  have hL := B.2.2.2.1.2.2.2.2.2
  have hn5 : n < 512 := by omega
  have hr := B.room hn5
  have G := B.1.1
  have M := B.1.2.1
  obtain ⟨hst, hb170, hX, hbl, hbA, -⟩ := B.2.2.2.1
  obtain ⟨r, w1, w2, h1, h2, h5, h6, h7⟩ := lm_tide hm n w (xs (Int32.toNatClampNeg (iN (6 * n) + (1 : Int32)))) hn5 hi
  refine x_aload_n G dL_law_374 rfl rfl ?_
  refine x_aload_n G dL_law_375 rfl rfl ?_
  refine x_iload G dL_law_376 rfl ?_
  refine x_iconst G (v := 1) dL_law_378 (by decide) ?_
  refine x_iadd G dL_law_379 ?_
  refine x_sld G hb170 hX hbl hbA (lv_at6 (k := 1) hn hL (by omega) rfl) dL_law_380 ?_
  refine x_virI G (As := [.int (xs (Int32.toNatClampNeg (iN (6 * n) + (1 : Int32))))]) (mX11_tide G.2.2.2.2.2.2.1 M h1) mv_L_54 (kd0 M) cl11 rfl rfl rfl rfl rfl dL_law_381 ?_
  refine x_aload_n G dL_law_384 rfl rfl ?_
  refine x_aload_n G dL_law_385 rfl rfl ?_
  refine x_iload G dL_law_386 rfl ?_
  refine x_iconst G (v := 1) dL_law_388 (by decide) ?_
  refine x_iadd G dL_law_389 ?_
  refine x_sld G hb170 hX hbl hbA (lv_at6 (k := 1) hn hL (by omega) rfl) dL_law_390 ?_
  refine x_virI G (As := [.int (xs (Int32.toNatClampNeg (iN (6 * n) + (1 : Int32))))]) (mX12_tide G.2.2.2.2.2.2.1 M h2) mv_L_57 (kd148 M) cl12 rfl rfl rfl rfl rfl dL_law_391 ?_
  refine x_icmpeq (α := Unit) (A := some ()) (B := none) (r := ()) G dL_law_394 (tgt := 2201) (by decide) (if_pos rfl) (fun _ _ => ?_) (fun _ h => by cases h)
  exact kk K w2 (LV n) rfl rfl ((B.fl h6).fl h7).up h5 (KPs.rf K)
set_option maxHeartbeats 4000000 in
theorem lc_level {I : Nat → Wd → Prop} (hm : LMath I) {K : KT} {b L n : Nat} {xs : Nat → Int32} {w : Wd} (B : LB K b L xs n w) (hn : 6 * n + 6 ≤ L) (hi : I n w) (kk : ∀ (K' : KT) (w' : Wd) (lv : List (Option Value)), lv.take 5 = LV5 n → lv.length = 8 → LB K' b L xs (n + 1) w' → I (n + 1) w' → KPs K K' → XW K' 2201 lv [] w') : XW K 399 (LV n) [] w := by
  have hL := B.2.2.2.1.2.2.2.2.2
  have hn5 : n < 512 := by omega
  have hr := B.room hn5
  have G := B.1.1
  have M := B.1.2.1
  obtain ⟨hst, hb170, hX, hbl, hbA, -⟩ := B.2.2.2.1
  obtain ⟨o, r, w2, h1, h2, h3, h4, h5, h6⟩ := lm_level hm n w (xs (Int32.toNatClampNeg (iN (6 * n) + (1 : Int32)))) hn5 hi
  refine x_aload_n G dL_law_399 rfl rfl ?_
  refine x_aload_n G dL_law_400 rfl rfl ?_
  refine x_iload G dL_law_401 rfl ?_
  refine x_iconst G (v := 1) dL_law_403 (by decide) ?_
  refine x_iadd G dL_law_404 ?_
  refine x_sld G hb170 hX hbl hbA (lv_at6 (k := 1) hn hL (by omega) rfl) dL_law_405 ?_
  refine x_aload_n G dL_law_406 rfl rfl ?_
  refine xh_sta G (As := [.ref 0, .int (xs (Int32.toNatClampNeg (iN (6 * n) + (1 : Int32)))), .ref 169]) (r := oI o) (mL_level hst G.2.2.2.2.2.2.1 M B.1.2.2.1 h1) mh_RL_58 rfl rfl rfl rfl rfl dL_law_407 (by omega) (by omega) ?_
  have G2 := G.kn (by omega) (by omega)
  refine x_istore G2 (lv' := LV5 n ++ [some (.int (oI o).1), none, none]) dL_law_410 rfl rfl rfl ?_
  refine x_aload_n G2 dL_law_412 rfl rfl ?_
  refine x_aload_n G2 dL_law_413 rfl rfl ?_
  refine x_iload G2 dL_law_414 rfl ?_
  refine x_iconst G2 (v := 1) dL_law_416 (by decide) ?_
  refine x_iadd G2 dL_law_417 ?_
  refine x_sld G2 hb170 hX hbl hbA (lv_at6 (k := 1) hn hL (by omega) rfl) dL_law_418 ?_
  refine x_virI G2 (As := [.int (xs (Int32.toNatClampNeg (iN (6 * n) + (1 : Int32))))]) (mX12_level G2.2.2.2.2.2.2.1 M h2) mv_L_61 (kd148 M) cl12 rfl rfl rfl rfl rfl dL_law_419 ?_
  refine x_istore G2 (lv' := LV5 n ++ [some (.int (oI o).1), some (.int r), none]) dL_law_422 rfl rfl rfl ?_
  refine x_aload_n G2 dL_law_424 rfl rfl ?_
  refine x_virI G2 (r0 := w2.1 148 0) (As := []) (mX12_thrown G2.2.2.2.2.2.2.1 M rfl) mv_L_51 (kd148 M) cl12 rfl rfl rfl rfl rfl dL_law_425 ?_
  refine x_iload G2 dL_law_428 rfl ?_
  refine x_icmpeq (α := Unit) (A := some ()) (B := none) (r := ()) G2 dL_law_430 (tgt := 435) (by decide) (if_pos h3) (fun _ _ => ?_) (fun _ h => by cases h)
  refine x_iload G2 dL_law_435 rfl ?_
  have fin : ∀ lv : List (Option Value), lv.take 5 = LV5 n → lv.length = 8 → XW (Kn K K.ks (K.cells + 1) (K.slots + 6)) 2201 lv [] w2 := fun lv e1 e2 => kk _ w2 lv e1 e2 (B.kn G2 hr h6) h5 (KPs.kn K)
  refine x_ifne (α := Unit) (A := some ()) (B := some ()) (r := ()) G2 dL_law_437 (tgt := 452) (by decide) (by split <;> rfl) (fun he _ => ?_) (fun _ _ => x_goto G2 (tgt := 2201) dL_law_452 (by decide) (fin _ rfl rfl))
  obtain ⟨x, hx⟩ := oI_inl he
  obtain ⟨e1, e2⟩ := h4 x hx
  refine x_aload_n G2 dL_law_440 rfl rfl ?_
  refine x_iconst G2 (v := 0) dL_law_441 (by decide) ?_
  refine x_lald0 G2 B.1.2.2.1 dL_law_442 (by decide) ?_
  refine x_iload G2 dL_law_443 rfl ?_
  refine x_i2l G2 dL_law_445 ?_
  refine x_lcmp G2 dL_law_446 ?_
  refine x_ifeq (α := Unit) (A := some ()) (B := none) (r := ()) G2 dL_law_447 (tgt := 452) (by decide) (if_pos (by rw [show rl w2 169 (0 : Int32) = w2.2 169 0 from rfl, e1, e2]; exact cmp_self _)) (fun _ _ => ?_) (fun _ h => by cases h)
  exact x_goto G2 (tgt := 2201) dL_law_452 (by decide) (fin _ rfl rfl)
set_option maxHeartbeats 4000000 in
theorem lc_comesBack {I : Nat → Wd → Prop} (hm : LMath I) {K : KT} {b L n : Nat} {xs : Nat → Int32} {w : Wd} (B : LB K b L xs n w) (hn : 6 * n + 6 ≤ L) (hi : I n w) (kk : ∀ (K' : KT) (w' : Wd) (lv : List (Option Value)), lv.take 5 = LV5 n → lv.length = 8 → LB K' b L xs (n + 1) w' → I (n + 1) w' → KPs K K' → XW K' 2201 lv [] w') : XW K 455 (LV n) [] w := by
  have hL := B.2.2.2.1.2.2.2.2.2
  have hn5 : n < 512 := by omega
  have hr := B.room hn5
  have G := B.1.1
  have M := B.1.2.1
  obtain ⟨hst, hb170, hX, hbl, hbA, -⟩ := B.2.2.2.1
  obtain ⟨r, w2, h1, h2, h5, h6⟩ := lm_comesBack hm n w (xs (Int32.toNatClampNeg (iN (6 * n) + (1 : Int32)))) hn5 hi
  refine x_aload_n G dL_law_455 rfl rfl ?_
  refine x_aload_n G dL_law_456 rfl rfl ?_
  refine x_iload G dL_law_457 rfl ?_
  refine x_iconst G (v := 1) dL_law_459 (by decide) ?_
  refine x_iadd G dL_law_460 ?_
  refine x_sld G hb170 hX hbl hbA (lv_at6 (k := 1) hn hL (by omega) rfl) dL_law_461 ?_
  refine x_virI G (As := [.int (xs (Int32.toNatClampNeg (iN (6 * n) + (1 : Int32))))]) (mX11_comesBack G.2.2.2.2.2.2.1 M h1) mv_L_62 (kd0 M) cl11 rfl rfl rfl rfl rfl dL_law_462 ?_
  refine x_aload_n G dL_law_465 rfl rfl ?_
  refine x_aload_n G dL_law_466 rfl rfl ?_
  refine x_iload G dL_law_467 rfl ?_
  refine x_iconst G (v := 1) dL_law_469 (by decide) ?_
  refine x_iadd G dL_law_470 ?_
  refine x_sld G hb170 hX hbl hbA (lv_at6 (k := 1) hn hL (by omega) rfl) dL_law_471 ?_
  refine x_virI G (As := [.int (xs (Int32.toNatClampNeg (iN (6 * n) + (1 : Int32))))]) (mX12_comesBack G.2.2.2.2.2.2.1 M h2) mv_L_65 (kd148 M) cl12 rfl rfl rfl rfl rfl dL_law_472 ?_
  refine x_icmpeq (α := Unit) (A := some ()) (B := none) (r := ()) G dL_law_475 (tgt := 2201) (by decide) (if_pos rfl) (fun _ _ => ?_) (fun _ h => by cases h)
  exact kk K w2 (LV n) rfl rfl (B.fl h6).up h5 (KPs.rf K)
set_option maxHeartbeats 4000000 in
theorem lc_window {I : Nat → Wd → Prop} (hm : LMath I) {K : KT} {b L n : Nat} {xs : Nat → Int32} {w : Wd} (B : LB K b L xs n w) (hn : 6 * n + 6 ≤ L) (hi : I n w) (kk : ∀ (K' : KT) (w' : Wd) (lv : List (Option Value)), lv.take 5 = LV5 n → lv.length = 8 → LB K' b L xs (n + 1) w' → I (n + 1) w' → KPs K K' → XW K' 2201 lv [] w') : XW K 480 (LV n) [] w := by
  have hL := B.2.2.2.1.2.2.2.2.2
  have hn5 : n < 512 := by omega
  have hr := B.room hn5
  have G := B.1.1
  have M := B.1.2.1
  obtain ⟨hst, hb170, hX, hbl, hbA, -⟩ := B.2.2.2.1
  obtain ⟨r, w2, h1, h2, h5, h6⟩ := lm_window hm n w (xs (Int32.toNatClampNeg (iN (6 * n) + (1 : Int32)))) (xs (Int32.toNatClampNeg (iN (6 * n) + (2 : Int32)))) hn5 hi
  refine x_aload_n G dL_law_480 rfl rfl ?_
  refine x_aload_n G dL_law_481 rfl rfl ?_
  refine x_iload G dL_law_482 rfl ?_
  refine x_iconst G (v := 1) dL_law_484 (by decide) ?_
  refine x_iadd G dL_law_485 ?_
  refine x_sld G hb170 hX hbl hbA (lv_at6 (k := 1) hn hL (by omega) rfl) dL_law_486 ?_
  refine x_aload_n G dL_law_487 rfl rfl ?_
  refine x_iload G dL_law_488 rfl ?_
  refine x_iconst G (v := 2) dL_law_490 (by decide) ?_
  refine x_iadd G dL_law_491 ?_
  refine x_sld G hb170 hX hbl hbA (lv_at6 (k := 2) hn hL (by omega) rfl) dL_law_492 ?_
  refine x_virI G (As := [.int (xs (Int32.toNatClampNeg (iN (6 * n) + (1 : Int32)))), .int (xs (Int32.toNatClampNeg (iN (6 * n) + (2 : Int32))))]) (mX11_window G.2.2.2.2.2.2.1 M h1) mv_L_66 (kd0 M) cl11 rfl rfl rfl rfl rfl dL_law_493 ?_
  refine x_aload_n G dL_law_496 rfl rfl ?_
  refine x_aload_n G dL_law_497 rfl rfl ?_
  refine x_iload G dL_law_498 rfl ?_
  refine x_iconst G (v := 1) dL_law_500 (by decide) ?_
  refine x_iadd G dL_law_501 ?_
  refine x_sld G hb170 hX hbl hbA (lv_at6 (k := 1) hn hL (by omega) rfl) dL_law_502 ?_
  refine x_aload_n G dL_law_503 rfl rfl ?_
  refine x_iload G dL_law_504 rfl ?_
  refine x_iconst G (v := 2) dL_law_506 (by decide) ?_
  refine x_iadd G dL_law_507 ?_
  refine x_sld G hb170 hX hbl hbA (lv_at6 (k := 2) hn hL (by omega) rfl) dL_law_508 ?_
  refine x_virI G (As := [.int (xs (Int32.toNatClampNeg (iN (6 * n) + (1 : Int32)))), .int (xs (Int32.toNatClampNeg (iN (6 * n) + (2 : Int32))))]) (mX12_window G.2.2.2.2.2.2.1 M h2) mv_L_69 (kd148 M) cl12 rfl rfl rfl rfl rfl dL_law_509 ?_
  refine x_icmpeq (α := Unit) (A := some ()) (B := none) (r := ()) G dL_law_512 (tgt := 2201) (by decide) (if_pos rfl) (fun _ _ => ?_) (fun _ h => by cases h)
  exact kk K w2 (LV n) rfl rfl (B.fl h6).up h5 (KPs.rf K)
set_option maxHeartbeats 4000000 in
theorem lc_old {I : Nat → Wd → Prop} (hm : LMath I) {K : KT} {b L n : Nat} {xs : Nat → Int32} {w : Wd} (B : LB K b L xs n w) (hn : 6 * n + 6 ≤ L) (hi : I n w) (kk : ∀ (K' : KT) (w' : Wd) (lv : List (Option Value)), lv.take 5 = LV5 n → lv.length = 8 → LB K' b L xs (n + 1) w' → I (n + 1) w' → KPs K K' → XW K' 2201 lv [] w') : XW K 517 (LV n) [] w := by
  have hL := B.2.2.2.1.2.2.2.2.2
  have hn5 : n < 512 := by omega
  have hr := B.room hn5
  have G := B.1.1
  have M := B.1.2.1
  obtain ⟨hst, hb170, hX, hbl, hbA, -⟩ := B.2.2.2.1
  obtain ⟨r, w1, w2, h1, h2, h5, h6, h7⟩ := lm_old hm n w (xs (Int32.toNatClampNeg (iN (6 * n) + (1 : Int32)))) (xs (Int32.toNatClampNeg (iN (6 * n) + (2 : Int32)))) (xs (Int32.toNatClampNeg (iN (6 * n) + (3 : Int32)))) (xs (Int32.toNatClampNeg (iN (6 * n) + (4 : Int32)))) hn5 hi
  refine x_aload_n G dL_law_517 rfl rfl ?_
  refine x_aload_n G dL_law_518 rfl rfl ?_
  refine x_iload G dL_law_519 rfl ?_
  refine x_iconst G (v := 1) dL_law_521 (by decide) ?_
  refine x_iadd G dL_law_522 ?_
  refine x_sld G hb170 hX hbl hbA (lv_at6 (k := 1) hn hL (by omega) rfl) dL_law_523 ?_
  refine x_aload_n G dL_law_524 rfl rfl ?_
  refine x_iload G dL_law_525 rfl ?_
  refine x_iconst G (v := 2) dL_law_527 (by decide) ?_
  refine x_iadd G dL_law_528 ?_
  refine x_sld G hb170 hX hbl hbA (lv_at6 (k := 2) hn hL (by omega) rfl) dL_law_529 ?_
  refine x_aload_n G dL_law_530 rfl rfl ?_
  refine x_iload G dL_law_531 rfl ?_
  refine x_iconst G (v := 3) dL_law_533 (by decide) ?_
  refine x_iadd G dL_law_534 ?_
  refine x_sld G hb170 hX hbl hbA (lv_at6 (k := 3) hn hL (by omega) rfl) dL_law_535 ?_
  refine x_aload_n G dL_law_536 rfl rfl ?_
  refine x_iload G dL_law_537 rfl ?_
  refine x_iconst G (v := 4) dL_law_539 (by decide) ?_
  refine x_iadd G dL_law_540 ?_
  refine x_sld G hb170 hX hbl hbA (lv_at6 (k := 4) hn hL (by omega) rfl) dL_law_541 ?_
  refine x_virI G (As := [.int (xs (Int32.toNatClampNeg (iN (6 * n) + (1 : Int32)))), .int (xs (Int32.toNatClampNeg (iN (6 * n) + (2 : Int32)))), .int (xs (Int32.toNatClampNeg (iN (6 * n) + (3 : Int32)))), .int (xs (Int32.toNatClampNeg (iN (6 * n) + (4 : Int32))))]) (mX11_old G.2.2.2.2.2.2.1 M h1) mv_L_70 (kd0 M) cl11 rfl rfl rfl rfl rfl dL_law_542 ?_
  refine x_aload_n G dL_law_545 rfl rfl ?_
  refine x_aload_n G dL_law_546 rfl rfl ?_
  refine x_iload G dL_law_547 rfl ?_
  refine x_iconst G (v := 1) dL_law_549 (by decide) ?_
  refine x_iadd G dL_law_550 ?_
  refine x_sld G hb170 hX hbl hbA (lv_at6 (k := 1) hn hL (by omega) rfl) dL_law_551 ?_
  refine x_aload_n G dL_law_552 rfl rfl ?_
  refine x_iload G dL_law_553 rfl ?_
  refine x_iconst G (v := 2) dL_law_555 (by decide) ?_
  refine x_iadd G dL_law_556 ?_
  refine x_sld G hb170 hX hbl hbA (lv_at6 (k := 2) hn hL (by omega) rfl) dL_law_557 ?_
  refine x_aload_n G dL_law_558 rfl rfl ?_
  refine x_iload G dL_law_559 rfl ?_
  refine x_iconst G (v := 3) dL_law_561 (by decide) ?_
  refine x_iadd G dL_law_562 ?_
  refine x_sld G hb170 hX hbl hbA (lv_at6 (k := 3) hn hL (by omega) rfl) dL_law_563 ?_
  refine x_aload_n G dL_law_564 rfl rfl ?_
  refine x_iload G dL_law_565 rfl ?_
  refine x_iconst G (v := 4) dL_law_567 (by decide) ?_
  refine x_iadd G dL_law_568 ?_
  refine x_sld G hb170 hX hbl hbA (lv_at6 (k := 4) hn hL (by omega) rfl) dL_law_569 ?_
  refine x_virI G (As := [.int (xs (Int32.toNatClampNeg (iN (6 * n) + (1 : Int32)))), .int (xs (Int32.toNatClampNeg (iN (6 * n) + (2 : Int32)))), .int (xs (Int32.toNatClampNeg (iN (6 * n) + (3 : Int32)))), .int (xs (Int32.toNatClampNeg (iN (6 * n) + (4 : Int32))))]) (mX12_old G.2.2.2.2.2.2.1 M h2) mv_L_74 (kd148 M) cl12 rfl rfl rfl rfl rfl dL_law_570 ?_
  refine x_icmpeq (α := Unit) (A := some ()) (B := none) (r := ()) G dL_law_573 (tgt := 2201) (by decide) (if_pos rfl) (fun _ _ => ?_) (fun _ h => by cases h)
  exact kk K w2 (LV n) rfl rfl ((B.fl h6).fl h7).up h5 (KPs.rf K)
set_option maxHeartbeats 4000000 in
theorem lc_map {I : Nat → Wd → Prop} (hm : LMath I) {K : KT} {b L n : Nat} {xs : Nat → Int32} {w : Wd} (B : LB K b L xs n w) (hn : 6 * n + 6 ≤ L) (hi : I n w) (kk : ∀ (K' : KT) (w' : Wd) (lv : List (Option Value)), lv.take 5 = LV5 n → lv.length = 8 → LB K' b L xs (n + 1) w' → I (n + 1) w' → KPs K K' → XW K' 2201 lv [] w') : XW K 578 (LV n) [] w := by
  have hL := B.2.2.2.1.2.2.2.2.2
  have hn5 : n < 512 := by omega
  have hr := B.room hn5
  have G := B.1.1
  have M := B.1.2.1
  obtain ⟨hst, hb170, hX, hbl, hbA, -⟩ := B.2.2.2.1
  obtain ⟨r, w1, w2, h1, h2, h5, h6, h7⟩ := lm_map hm n w (xs (Int32.toNatClampNeg (iN (6 * n) + (1 : Int32)))) (xs (Int32.toNatClampNeg (iN (6 * n) + (2 : Int32)))) (xs (Int32.toNatClampNeg (iN (6 * n) + (3 : Int32)))) hn5 hi
  refine x_aload_n G dL_law_578 rfl rfl ?_
  refine x_aload_n G dL_law_579 rfl rfl ?_
  refine x_iload G dL_law_580 rfl ?_
  refine x_iconst G (v := 1) dL_law_582 (by decide) ?_
  refine x_iadd G dL_law_583 ?_
  refine x_sld G hb170 hX hbl hbA (lv_at6 (k := 1) hn hL (by omega) rfl) dL_law_584 ?_
  refine x_aload_n G dL_law_585 rfl rfl ?_
  refine x_iload G dL_law_586 rfl ?_
  refine x_iconst G (v := 2) dL_law_588 (by decide) ?_
  refine x_iadd G dL_law_589 ?_
  refine x_sld G hb170 hX hbl hbA (lv_at6 (k := 2) hn hL (by omega) rfl) dL_law_590 ?_
  refine x_aload_n G dL_law_591 rfl rfl ?_
  refine x_iload G dL_law_592 rfl ?_
  refine x_iconst G (v := 3) dL_law_594 (by decide) ?_
  refine x_iadd G dL_law_595 ?_
  refine x_sld G hb170 hX hbl hbA (lv_at6 (k := 3) hn hL (by omega) rfl) dL_law_596 ?_
  refine x_virI G (As := [.int (xs (Int32.toNatClampNeg (iN (6 * n) + (1 : Int32)))), .int (xs (Int32.toNatClampNeg (iN (6 * n) + (2 : Int32)))), .int (xs (Int32.toNatClampNeg (iN (6 * n) + (3 : Int32))))]) (mX11_map G.2.2.2.2.2.2.1 M h1) mv_L_75 (kd0 M) cl11 rfl rfl rfl rfl rfl dL_law_597 ?_
  refine x_aload_n G dL_law_600 rfl rfl ?_
  refine x_aload_n G dL_law_601 rfl rfl ?_
  refine x_iload G dL_law_602 rfl ?_
  refine x_iconst G (v := 1) dL_law_604 (by decide) ?_
  refine x_iadd G dL_law_605 ?_
  refine x_sld G hb170 hX hbl hbA (lv_at6 (k := 1) hn hL (by omega) rfl) dL_law_606 ?_
  refine x_aload_n G dL_law_607 rfl rfl ?_
  refine x_iload G dL_law_608 rfl ?_
  refine x_iconst G (v := 2) dL_law_610 (by decide) ?_
  refine x_iadd G dL_law_611 ?_
  refine x_sld G hb170 hX hbl hbA (lv_at6 (k := 2) hn hL (by omega) rfl) dL_law_612 ?_
  refine x_aload_n G dL_law_613 rfl rfl ?_
  refine x_iload G dL_law_614 rfl ?_
  refine x_iconst G (v := 3) dL_law_616 (by decide) ?_
  refine x_iadd G dL_law_617 ?_
  refine x_sld G hb170 hX hbl hbA (lv_at6 (k := 3) hn hL (by omega) rfl) dL_law_618 ?_
  refine x_virI G (As := [.int (xs (Int32.toNatClampNeg (iN (6 * n) + (1 : Int32)))), .int (xs (Int32.toNatClampNeg (iN (6 * n) + (2 : Int32)))), .int (xs (Int32.toNatClampNeg (iN (6 * n) + (3 : Int32))))]) (mX12_map G.2.2.2.2.2.2.1 M h2) mv_L_78 (kd148 M) cl12 rfl rfl rfl rfl rfl dL_law_619 ?_
  refine x_icmpeq (α := Unit) (A := some ()) (B := none) (r := ()) G dL_law_622 (tgt := 2201) (by decide) (if_pos rfl) (fun _ _ => ?_) (fun _ h => by cases h)
  exact kk K w2 (LV n) rfl rfl ((B.fl h6).fl h7).up h5 (KPs.rf K)
set_option maxHeartbeats 4000000 in
theorem lc_cut {I : Nat → Wd → Prop} (hm : LMath I) {K : KT} {b L n : Nat} {xs : Nat → Int32} {w : Wd} (B : LB K b L xs n w) (hn : 6 * n + 6 ≤ L) (hi : I n w) (kk : ∀ (K' : KT) (w' : Wd) (lv : List (Option Value)), lv.take 5 = LV5 n → lv.length = 8 → LB K' b L xs (n + 1) w' → I (n + 1) w' → KPs K K' → XW K' 2201 lv [] w') : XW K 627 (LV n) [] w := by
  have hL := B.2.2.2.1.2.2.2.2.2
  have hn5 : n < 512 := by omega
  have hr := B.room hn5
  have G := B.1.1
  have M := B.1.2.1
  obtain ⟨hst, hb170, hX, hbl, hbA, -⟩ := B.2.2.2.1
  obtain ⟨r, w1, w2, h1, h2, h5, h6, h7⟩ := lm_cut hm n w (xs (Int32.toNatClampNeg (iN (6 * n) + (1 : Int32)))) hn5 hi
  refine x_aload_n G dL_law_627 rfl rfl ?_
  refine x_aload_n G dL_law_628 rfl rfl ?_
  refine x_iload G dL_law_629 rfl ?_
  refine x_iconst G (v := 1) dL_law_631 (by decide) ?_
  refine x_iadd G dL_law_632 ?_
  refine x_sld G hb170 hX hbl hbA (lv_at6 (k := 1) hn hL (by omega) rfl) dL_law_633 ?_
  refine x_virI G (As := [.int (xs (Int32.toNatClampNeg (iN (6 * n) + (1 : Int32))))]) (mX11_cut G.2.2.2.2.2.2.1 M h1) mv_L_79 (kd0 M) cl11 rfl rfl rfl rfl rfl dL_law_634 ?_
  refine x_aload_n G dL_law_637 rfl rfl ?_
  refine x_aload_n G dL_law_638 rfl rfl ?_
  refine x_iload G dL_law_639 rfl ?_
  refine x_iconst G (v := 1) dL_law_641 (by decide) ?_
  refine x_iadd G dL_law_642 ?_
  refine x_sld G hb170 hX hbl hbA (lv_at6 (k := 1) hn hL (by omega) rfl) dL_law_643 ?_
  refine x_virI G (As := [.int (xs (Int32.toNatClampNeg (iN (6 * n) + (1 : Int32))))]) (mX12_cut G.2.2.2.2.2.2.1 M h2) mv_L_82 (kd148 M) cl12 rfl rfl rfl rfl rfl dL_law_644 ?_
  refine x_icmpeq (α := Unit) (A := some ()) (B := none) (r := ()) G dL_law_647 (tgt := 2201) (by decide) (if_pos rfl) (fun _ _ => ?_) (fun _ h => by cases h)
  exact kk K w2 (LV n) rfl rfl ((B.fl h6).fl h7).up h5 (KPs.rf K)
set_option maxHeartbeats 4000000 in
theorem lc_mapOf {I : Nat → Wd → Prop} (hm : LMath I) {K : KT} {b L n : Nat} {xs : Nat → Int32} {w : Wd} (B : LB K b L xs n w) (hn : 6 * n + 6 ≤ L) (hi : I n w) (kk : ∀ (K' : KT) (w' : Wd) (lv : List (Option Value)), lv.take 5 = LV5 n → lv.length = 8 → LB K' b L xs (n + 1) w' → I (n + 1) w' → KPs K K' → XW K' 2201 lv [] w') : XW K 652 (LV n) [] w := by
  have hL := B.2.2.2.1.2.2.2.2.2
  have hn5 : n < 512 := by omega
  have hr := B.room hn5
  have G := B.1.1
  have M := B.1.2.1
  obtain ⟨hst, hb170, hX, hbl, hbA, -⟩ := B.2.2.2.1
  obtain ⟨r, w2, h1, h2, h5, h6⟩ := lm_mapOf hm n w (xs (Int32.toNatClampNeg (iN (6 * n) + (1 : Int32)))) (xs (Int32.toNatClampNeg (iN (6 * n) + (2 : Int32)))) (xs (Int32.toNatClampNeg (iN (6 * n) + (3 : Int32)))) hn5 hi
  refine x_aload_n G dL_law_652 rfl rfl ?_
  refine x_aload_n G dL_law_653 rfl rfl ?_
  refine x_iload G dL_law_654 rfl ?_
  refine x_iconst G (v := 1) dL_law_656 (by decide) ?_
  refine x_iadd G dL_law_657 ?_
  refine x_sld G hb170 hX hbl hbA (lv_at6 (k := 1) hn hL (by omega) rfl) dL_law_658 ?_
  refine x_aload_n G dL_law_659 rfl rfl ?_
  refine x_iload G dL_law_660 rfl ?_
  refine x_iconst G (v := 2) dL_law_662 (by decide) ?_
  refine x_iadd G dL_law_663 ?_
  refine x_sld G hb170 hX hbl hbA (lv_at6 (k := 2) hn hL (by omega) rfl) dL_law_664 ?_
  refine x_aload_n G dL_law_665 rfl rfl ?_
  refine x_iload G dL_law_666 rfl ?_
  refine x_iconst G (v := 3) dL_law_668 (by decide) ?_
  refine x_iadd G dL_law_669 ?_
  refine x_sld G hb170 hX hbl hbA (lv_at6 (k := 3) hn hL (by omega) rfl) dL_law_670 ?_
  refine x_virI G (As := [.int (xs (Int32.toNatClampNeg (iN (6 * n) + (1 : Int32)))), .int (xs (Int32.toNatClampNeg (iN (6 * n) + (2 : Int32)))), .int (xs (Int32.toNatClampNeg (iN (6 * n) + (3 : Int32))))]) (mX11_mapOf G.2.2.2.2.2.2.1 M h1) mv_L_83 (kd0 M) cl11 rfl rfl rfl rfl rfl dL_law_671 ?_
  refine x_aload_n G dL_law_674 rfl rfl ?_
  refine x_aload_n G dL_law_675 rfl rfl ?_
  refine x_iload G dL_law_676 rfl ?_
  refine x_iconst G (v := 1) dL_law_678 (by decide) ?_
  refine x_iadd G dL_law_679 ?_
  refine x_sld G hb170 hX hbl hbA (lv_at6 (k := 1) hn hL (by omega) rfl) dL_law_680 ?_
  refine x_aload_n G dL_law_681 rfl rfl ?_
  refine x_iload G dL_law_682 rfl ?_
  refine x_iconst G (v := 2) dL_law_684 (by decide) ?_
  refine x_iadd G dL_law_685 ?_
  refine x_sld G hb170 hX hbl hbA (lv_at6 (k := 2) hn hL (by omega) rfl) dL_law_686 ?_
  refine x_aload_n G dL_law_687 rfl rfl ?_
  refine x_iload G dL_law_688 rfl ?_
  refine x_iconst G (v := 3) dL_law_690 (by decide) ?_
  refine x_iadd G dL_law_691 ?_
  refine x_sld G hb170 hX hbl hbA (lv_at6 (k := 3) hn hL (by omega) rfl) dL_law_692 ?_
  refine x_virI G (As := [.int (xs (Int32.toNatClampNeg (iN (6 * n) + (1 : Int32)))), .int (xs (Int32.toNatClampNeg (iN (6 * n) + (2 : Int32)))), .int (xs (Int32.toNatClampNeg (iN (6 * n) + (3 : Int32))))]) (mX12_mapOf G.2.2.2.2.2.2.1 M h2) mv_L_86 (kd148 M) cl12 rfl rfl rfl rfl rfl dL_law_693 ?_
  refine x_icmpeq (α := Unit) (A := some ()) (B := none) (r := ()) G dL_law_696 (tgt := 2201) (by decide) (if_pos rfl) (fun _ _ => ?_) (fun _ h => by cases h)
  exact kk K w2 (LV n) rfl rfl (B.fl h6).up h5 (KPs.rf K)
set_option maxHeartbeats 4000000 in
theorem lc_route {I : Nat → Wd → Prop} (hm : LMath I) {K : KT} {b L n : Nat} {xs : Nat → Int32} {w : Wd} (B : LB K b L xs n w) (hn : 6 * n + 6 ≤ L) (hi : I n w) (kk : ∀ (K' : KT) (w' : Wd) (lv : List (Option Value)), lv.take 5 = LV5 n → lv.length = 8 → LB K' b L xs (n + 1) w' → I (n + 1) w' → KPs K K' → XW K' 2201 lv [] w') : XW K 701 (LV n) [] w := by
  have hL := B.2.2.2.1.2.2.2.2.2
  have hn5 : n < 512 := by omega
  have hr := B.room hn5
  have G := B.1.1
  have M := B.1.2.1
  obtain ⟨hst, hb170, hX, hbl, hbA, -⟩ := B.2.2.2.1
  obtain ⟨r, w1, w2, h1, h2, h5, h6, h7⟩ := lm_route hm n w (xs (Int32.toNatClampNeg (iN (6 * n) + (1 : Int32)))) (xs (Int32.toNatClampNeg (iN (6 * n) + (2 : Int32)))) (xs (Int32.toNatClampNeg (iN (6 * n) + (3 : Int32)))) (xs (Int32.toNatClampNeg (iN (6 * n) + (4 : Int32)))) hn5 hi
  refine x_aload_n G dL_law_701 rfl rfl ?_
  refine x_aload_n G dL_law_702 rfl rfl ?_
  refine x_iload G dL_law_703 rfl ?_
  refine x_iconst G (v := 1) dL_law_705 (by decide) ?_
  refine x_iadd G dL_law_706 ?_
  refine x_sld G hb170 hX hbl hbA (lv_at6 (k := 1) hn hL (by omega) rfl) dL_law_707 ?_
  refine x_aload_n G dL_law_708 rfl rfl ?_
  refine x_iload G dL_law_709 rfl ?_
  refine x_iconst G (v := 2) dL_law_711 (by decide) ?_
  refine x_iadd G dL_law_712 ?_
  refine x_sld G hb170 hX hbl hbA (lv_at6 (k := 2) hn hL (by omega) rfl) dL_law_713 ?_
  refine x_aload_n G dL_law_714 rfl rfl ?_
  refine x_iload G dL_law_715 rfl ?_
  refine x_iconst G (v := 3) dL_law_717 (by decide) ?_
  refine x_iadd G dL_law_718 ?_
  refine x_sld G hb170 hX hbl hbA (lv_at6 (k := 3) hn hL (by omega) rfl) dL_law_719 ?_
  refine x_aload_n G dL_law_720 rfl rfl ?_
  refine x_iload G dL_law_721 rfl ?_
  refine x_iconst G (v := 4) dL_law_723 (by decide) ?_
  refine x_iadd G dL_law_724 ?_
  refine x_sld G hb170 hX hbl hbA (lv_at6 (k := 4) hn hL (by omega) rfl) dL_law_725 ?_
  refine x_virI G (As := [.int (xs (Int32.toNatClampNeg (iN (6 * n) + (1 : Int32)))), .int (xs (Int32.toNatClampNeg (iN (6 * n) + (2 : Int32)))), .int (xs (Int32.toNatClampNeg (iN (6 * n) + (3 : Int32)))), .int (xs (Int32.toNatClampNeg (iN (6 * n) + (4 : Int32))))]) (mX11_route G.2.2.2.2.2.2.1 M h1) mv_L_87 (kd0 M) cl11 rfl rfl rfl rfl rfl dL_law_726 ?_
  refine x_aload_n G dL_law_729 rfl rfl ?_
  refine x_aload_n G dL_law_730 rfl rfl ?_
  refine x_iload G dL_law_731 rfl ?_
  refine x_iconst G (v := 1) dL_law_733 (by decide) ?_
  refine x_iadd G dL_law_734 ?_
  refine x_sld G hb170 hX hbl hbA (lv_at6 (k := 1) hn hL (by omega) rfl) dL_law_735 ?_
  refine x_aload_n G dL_law_736 rfl rfl ?_
  refine x_iload G dL_law_737 rfl ?_
  refine x_iconst G (v := 2) dL_law_739 (by decide) ?_
  refine x_iadd G dL_law_740 ?_
  refine x_sld G hb170 hX hbl hbA (lv_at6 (k := 2) hn hL (by omega) rfl) dL_law_741 ?_
  refine x_aload_n G dL_law_742 rfl rfl ?_
  refine x_iload G dL_law_743 rfl ?_
  refine x_iconst G (v := 3) dL_law_745 (by decide) ?_
  refine x_iadd G dL_law_746 ?_
  refine x_sld G hb170 hX hbl hbA (lv_at6 (k := 3) hn hL (by omega) rfl) dL_law_747 ?_
  refine x_aload_n G dL_law_748 rfl rfl ?_
  refine x_iload G dL_law_749 rfl ?_
  refine x_iconst G (v := 4) dL_law_751 (by decide) ?_
  refine x_iadd G dL_law_752 ?_
  refine x_sld G hb170 hX hbl hbA (lv_at6 (k := 4) hn hL (by omega) rfl) dL_law_753 ?_
  refine x_virI G (As := [.int (xs (Int32.toNatClampNeg (iN (6 * n) + (1 : Int32)))), .int (xs (Int32.toNatClampNeg (iN (6 * n) + (2 : Int32)))), .int (xs (Int32.toNatClampNeg (iN (6 * n) + (3 : Int32)))), .int (xs (Int32.toNatClampNeg (iN (6 * n) + (4 : Int32))))]) (mX12_route G.2.2.2.2.2.2.1 M h2) mv_L_90 (kd148 M) cl12 rfl rfl rfl rfl rfl dL_law_754 ?_
  refine x_icmpeq (α := Unit) (A := some ()) (B := none) (r := ()) G dL_law_757 (tgt := 2201) (by decide) (if_pos rfl) (fun _ _ => ?_) (fun _ h => by cases h)
  exact kk K w2 (LV n) rfl rfl ((B.fl h6).fl h7).up h5 (KPs.rf K)
set_option maxHeartbeats 4000000 in
theorem lc_way {I : Nat → Wd → Prop} (hm : LMath I) {K : KT} {b L n : Nat} {xs : Nat → Int32} {w : Wd} (B : LB K b L xs n w) (hn : 6 * n + 6 ≤ L) (hi : I n w) (kk : ∀ (K' : KT) (w' : Wd) (lv : List (Option Value)), lv.take 5 = LV5 n → lv.length = 8 → LB K' b L xs (n + 1) w' → I (n + 1) w' → KPs K K' → XW K' 2201 lv [] w') : XW K 762 (LV n) [] w := by
  have hL := B.2.2.2.1.2.2.2.2.2
  have hn5 : n < 512 := by omega
  have hr := B.room hn5
  have G := B.1.1
  have M := B.1.2.1
  obtain ⟨hst, hb170, hX, hbl, hbA, -⟩ := B.2.2.2.1
  obtain ⟨r, w2, h1, h2, h5, h6⟩ := lm_way hm n w (xs (Int32.toNatClampNeg (iN (6 * n) + (1 : Int32)))) hn5 hi
  refine x_aload_n G dL_law_762 rfl rfl ?_
  refine x_aload_n G dL_law_763 rfl rfl ?_
  refine x_iload G dL_law_764 rfl ?_
  refine x_iconst G (v := 1) dL_law_766 (by decide) ?_
  refine x_iadd G dL_law_767 ?_
  refine x_sld G hb170 hX hbl hbA (lv_at6 (k := 1) hn hL (by omega) rfl) dL_law_768 ?_
  refine x_virI G (As := [.int (xs (Int32.toNatClampNeg (iN (6 * n) + (1 : Int32))))]) (mX11_way G.2.2.2.2.2.2.1 M h1) mv_L_91 (kd0 M) cl11 rfl rfl rfl rfl rfl dL_law_769 ?_
  refine x_aload_n G dL_law_772 rfl rfl ?_
  refine x_aload_n G dL_law_773 rfl rfl ?_
  refine x_iload G dL_law_774 rfl ?_
  refine x_iconst G (v := 1) dL_law_776 (by decide) ?_
  refine x_iadd G dL_law_777 ?_
  refine x_sld G hb170 hX hbl hbA (lv_at6 (k := 1) hn hL (by omega) rfl) dL_law_778 ?_
  refine x_virI G (As := [.int (xs (Int32.toNatClampNeg (iN (6 * n) + (1 : Int32))))]) (mX12_way G.2.2.2.2.2.2.1 M h2) mv_L_94 (kd148 M) cl12 rfl rfl rfl rfl rfl dL_law_779 ?_
  refine x_icmpeq (α := Unit) (A := some ()) (B := none) (r := ()) G dL_law_782 (tgt := 2201) (by decide) (if_pos rfl) (fun _ _ => ?_) (fun _ h => by cases h)
  exact kk K w2 (LV n) rfl rfl (B.fl h6).up h5 (KPs.rf K)
set_option maxHeartbeats 4000000 in
theorem lc_take {I : Nat → Wd → Prop} (hm : LMath I) {K : KT} {b L n : Nat} {xs : Nat → Int32} {w : Wd} (B : LB K b L xs n w) (hn : 6 * n + 6 ≤ L) (hi : I n w) (kk : ∀ (K' : KT) (w' : Wd) (lv : List (Option Value)), lv.take 5 = LV5 n → lv.length = 8 → LB K' b L xs (n + 1) w' → I (n + 1) w' → KPs K K' → XW K' 2201 lv [] w') : XW K 787 (LV n) [] w := by
  have hL := B.2.2.2.1.2.2.2.2.2
  have hn5 : n < 512 := by omega
  have hr := B.room hn5
  have G := B.1.1
  have M := B.1.2.1
  obtain ⟨hst, hb170, hX, hbl, hbA, -⟩ := B.2.2.2.1
  obtain ⟨r, w1, w2, h1, h2, h5, h6, h7⟩ := lm_take hm n w (xs (Int32.toNatClampNeg (iN (6 * n) + (1 : Int32)))) (xs (Int32.toNatClampNeg (iN (6 * n) + (2 : Int32)))) hn5 hi
  refine x_aload_n G dL_law_787 rfl rfl ?_
  refine x_aload_n G dL_law_788 rfl rfl ?_
  refine x_iload G dL_law_789 rfl ?_
  refine x_iconst G (v := 1) dL_law_791 (by decide) ?_
  refine x_iadd G dL_law_792 ?_
  refine x_sld G hb170 hX hbl hbA (lv_at6 (k := 1) hn hL (by omega) rfl) dL_law_793 ?_
  refine x_aload_n G dL_law_794 rfl rfl ?_
  refine x_iload G dL_law_795 rfl ?_
  refine x_iconst G (v := 2) dL_law_797 (by decide) ?_
  refine x_iadd G dL_law_798 ?_
  refine x_sld G hb170 hX hbl hbA (lv_at6 (k := 2) hn hL (by omega) rfl) dL_law_799 ?_
  refine x_virI G (As := [.int (xs (Int32.toNatClampNeg (iN (6 * n) + (1 : Int32)))), .int (xs (Int32.toNatClampNeg (iN (6 * n) + (2 : Int32))))]) (mX11_take G.2.2.2.2.2.2.1 M h1) mv_L_95 (kd0 M) cl11 rfl rfl rfl rfl rfl dL_law_800 ?_
  refine x_aload_n G dL_law_803 rfl rfl ?_
  refine x_aload_n G dL_law_804 rfl rfl ?_
  refine x_iload G dL_law_805 rfl ?_
  refine x_iconst G (v := 1) dL_law_807 (by decide) ?_
  refine x_iadd G dL_law_808 ?_
  refine x_sld G hb170 hX hbl hbA (lv_at6 (k := 1) hn hL (by omega) rfl) dL_law_809 ?_
  refine x_aload_n G dL_law_810 rfl rfl ?_
  refine x_iload G dL_law_811 rfl ?_
  refine x_iconst G (v := 2) dL_law_813 (by decide) ?_
  refine x_iadd G dL_law_814 ?_
  refine x_sld G hb170 hX hbl hbA (lv_at6 (k := 2) hn hL (by omega) rfl) dL_law_815 ?_
  refine x_virI G (As := [.int (xs (Int32.toNatClampNeg (iN (6 * n) + (1 : Int32)))), .int (xs (Int32.toNatClampNeg (iN (6 * n) + (2 : Int32))))]) (mX12_take G.2.2.2.2.2.2.1 M h2) mv_L_98 (kd148 M) cl12 rfl rfl rfl rfl rfl dL_law_816 ?_
  refine x_icmpeq (α := Unit) (A := some ()) (B := none) (r := ()) G dL_law_819 (tgt := 2201) (by decide) (if_pos rfl) (fun _ _ => ?_) (fun _ h => by cases h)
  exact kk K w2 (LV n) rfl rfl ((B.fl h6).fl h7).up h5 (KPs.rf K)
set_option maxHeartbeats 4000000 in
theorem lc_lineOf {I : Nat → Wd → Prop} (hm : LMath I) {K : KT} {b L n : Nat} {xs : Nat → Int32} {w : Wd} (B : LB K b L xs n w) (hn : 6 * n + 6 ≤ L) (hi : I n w) (kk : ∀ (K' : KT) (w' : Wd) (lv : List (Option Value)), lv.take 5 = LV5 n → lv.length = 8 → LB K' b L xs (n + 1) w' → I (n + 1) w' → KPs K K' → XW K' 2201 lv [] w') : XW K 824 (LV n) [] w := by
  have hL := B.2.2.2.1.2.2.2.2.2
  have hn5 : n < 512 := by omega
  have hr := B.room hn5
  have G := B.1.1
  have M := B.1.2.1
  obtain ⟨hst, hb170, hX, hbl, hbA, -⟩ := B.2.2.2.1
  obtain ⟨o, r, w2, h1, h2, h3, h4, h5, h6⟩ := lm_lineOf hm n w (xs (Int32.toNatClampNeg (iN (6 * n) + (1 : Int32)))) (xs (Int32.toNatClampNeg (iN (6 * n) + (2 : Int32)))) (xs (Int32.toNatClampNeg (iN (6 * n) + (3 : Int32)))) hn5 hi
  refine x_aload_n G dL_law_824 rfl rfl ?_
  refine x_aload_n G dL_law_825 rfl rfl ?_
  refine x_iload G dL_law_826 rfl ?_
  refine x_iconst G (v := 1) dL_law_828 (by decide) ?_
  refine x_iadd G dL_law_829 ?_
  refine x_sld G hb170 hX hbl hbA (lv_at6 (k := 1) hn hL (by omega) rfl) dL_law_830 ?_
  refine x_aload_n G dL_law_831 rfl rfl ?_
  refine x_iload G dL_law_832 rfl ?_
  refine x_iconst G (v := 2) dL_law_834 (by decide) ?_
  refine x_iadd G dL_law_835 ?_
  refine x_sld G hb170 hX hbl hbA (lv_at6 (k := 2) hn hL (by omega) rfl) dL_law_836 ?_
  refine x_aload_n G dL_law_837 rfl rfl ?_
  refine x_iload G dL_law_838 rfl ?_
  refine x_iconst G (v := 3) dL_law_840 (by decide) ?_
  refine x_iadd G dL_law_841 ?_
  refine x_sld G hb170 hX hbl hbA (lv_at6 (k := 3) hn hL (by omega) rfl) dL_law_842 ?_
  refine x_aload_n G dL_law_843 rfl rfl ?_
  refine xh_sta G (As := [.ref 0, .int (xs (Int32.toNatClampNeg (iN (6 * n) + (1 : Int32)))), .int (xs (Int32.toNatClampNeg (iN (6 * n) + (2 : Int32)))), .int (xs (Int32.toNatClampNeg (iN (6 * n) + (3 : Int32)))), .ref 169]) (r := oI o) (mL_lineOf hst G.2.2.2.2.2.2.1 M B.1.2.2.1 h1) mh_RL_99 rfl rfl rfl rfl rfl dL_law_844 (by omega) (by omega) ?_
  have G2 := G.kn (by omega) (by omega)
  refine x_istore G2 (lv' := LV5 n ++ [some (.int (oI o).1), none, none]) dL_law_847 rfl rfl rfl ?_
  refine x_aload_n G2 dL_law_849 rfl rfl ?_
  refine x_aload_n G2 dL_law_850 rfl rfl ?_
  refine x_iload G2 dL_law_851 rfl ?_
  refine x_iconst G2 (v := 1) dL_law_853 (by decide) ?_
  refine x_iadd G2 dL_law_854 ?_
  refine x_sld G2 hb170 hX hbl hbA (lv_at6 (k := 1) hn hL (by omega) rfl) dL_law_855 ?_
  refine x_aload_n G2 dL_law_856 rfl rfl ?_
  refine x_iload G2 dL_law_857 rfl ?_
  refine x_iconst G2 (v := 2) dL_law_859 (by decide) ?_
  refine x_iadd G2 dL_law_860 ?_
  refine x_sld G2 hb170 hX hbl hbA (lv_at6 (k := 2) hn hL (by omega) rfl) dL_law_861 ?_
  refine x_aload_n G2 dL_law_862 rfl rfl ?_
  refine x_iload G2 dL_law_863 rfl ?_
  refine x_iconst G2 (v := 3) dL_law_865 (by decide) ?_
  refine x_iadd G2 dL_law_866 ?_
  refine x_sld G2 hb170 hX hbl hbA (lv_at6 (k := 3) hn hL (by omega) rfl) dL_law_867 ?_
  refine x_virI G2 (As := [.int (xs (Int32.toNatClampNeg (iN (6 * n) + (1 : Int32)))), .int (xs (Int32.toNatClampNeg (iN (6 * n) + (2 : Int32)))), .int (xs (Int32.toNatClampNeg (iN (6 * n) + (3 : Int32))))]) (mX12_lineOf G2.2.2.2.2.2.2.1 M h2) mv_L_102 (kd148 M) cl12 rfl rfl rfl rfl rfl dL_law_868 ?_
  refine x_istore G2 (lv' := LV5 n ++ [some (.int (oI o).1), some (.int r), none]) dL_law_871 rfl rfl rfl ?_
  refine x_aload_n G2 dL_law_873 rfl rfl ?_
  refine x_virI G2 (r0 := w2.1 148 0) (As := []) (mX12_thrown G2.2.2.2.2.2.2.1 M rfl) mv_L_51 (kd148 M) cl12 rfl rfl rfl rfl rfl dL_law_874 ?_
  refine x_iload G2 dL_law_877 rfl ?_
  refine x_icmpeq (α := Unit) (A := some ()) (B := none) (r := ()) G2 dL_law_879 (tgt := 884) (by decide) (if_pos h3) (fun _ _ => ?_) (fun _ h => by cases h)
  refine x_iload G2 dL_law_884 rfl ?_
  have fin : ∀ lv : List (Option Value), lv.take 5 = LV5 n → lv.length = 8 → XW (Kn K K.ks (K.cells + 1) (K.slots + 6)) 2201 lv [] w2 := fun lv e1 e2 => kk _ w2 lv e1 e2 (B.kn G2 hr h6) h5 (KPs.kn K)
  refine x_ifne (α := Unit) (A := some ()) (B := some ()) (r := ()) G2 dL_law_886 (tgt := 901) (by decide) (by split <;> rfl) (fun he _ => ?_) (fun _ _ => x_goto G2 (tgt := 2201) dL_law_901 (by decide) (fin _ rfl rfl))
  obtain ⟨x, hx⟩ := oI_inl he
  obtain ⟨e1, e2⟩ := h4 x hx
  refine x_aload_n G2 dL_law_889 rfl rfl ?_
  refine x_iconst G2 (v := 0) dL_law_890 (by decide) ?_
  refine x_lald0 G2 B.1.2.2.1 dL_law_891 (by decide) ?_
  refine x_iload G2 dL_law_892 rfl ?_
  refine x_i2l G2 dL_law_894 ?_
  refine x_lcmp G2 dL_law_895 ?_
  refine x_ifeq (α := Unit) (A := some ()) (B := none) (r := ()) G2 dL_law_896 (tgt := 901) (by decide) (if_pos (by rw [show rl w2 169 (0 : Int32) = w2.2 169 0 from rfl, e1, e2]; exact cmp_self _)) (fun _ _ => ?_) (fun _ h => by cases h)
  exact x_goto G2 (tgt := 2201) dL_law_901 (by decide) (fin _ rfl rfl)
set_option maxHeartbeats 4000000 in
theorem lc_size {I : Nat → Wd → Prop} (hm : LMath I) {K : KT} {b L n : Nat} {xs : Nat → Int32} {w : Wd} (B : LB K b L xs n w) (hn : 6 * n + 6 ≤ L) (hi : I n w) (kk : ∀ (K' : KT) (w' : Wd) (lv : List (Option Value)), lv.take 5 = LV5 n → lv.length = 8 → LB K' b L xs (n + 1) w' → I (n + 1) w' → KPs K K' → XW K' 2201 lv [] w') : XW K 904 (LV n) [] w := by
  have hL := B.2.2.2.1.2.2.2.2.2
  have hn5 : n < 512 := by omega
  have hr := B.room hn5
  have G := B.1.1
  have M := B.1.2.1
  obtain ⟨hst, hb170, hX, hbl, hbA, -⟩ := B.2.2.2.1
  obtain ⟨r, w2, h1, h2, h5, h6⟩ := lm_size hm n w (xs (Int32.toNatClampNeg (iN (6 * n) + (1 : Int32)))) hn5 hi
  refine x_aload_n G dL_law_904 rfl rfl ?_
  refine x_aload_n G dL_law_905 rfl rfl ?_
  refine x_iload G dL_law_906 rfl ?_
  refine x_iconst G (v := 1) dL_law_908 (by decide) ?_
  refine x_iadd G dL_law_909 ?_
  refine x_sld G hb170 hX hbl hbA (lv_at6 (k := 1) hn hL (by omega) rfl) dL_law_910 ?_
  refine x_virI G (As := [.int (xs (Int32.toNatClampNeg (iN (6 * n) + (1 : Int32))))]) (mX11_size G.2.2.2.2.2.2.1 M h1) mv_L_103 (kd0 M) cl11 rfl rfl rfl rfl rfl dL_law_911 ?_
  refine x_aload_n G dL_law_914 rfl rfl ?_
  refine x_aload_n G dL_law_915 rfl rfl ?_
  refine x_iload G dL_law_916 rfl ?_
  refine x_iconst G (v := 1) dL_law_918 (by decide) ?_
  refine x_iadd G dL_law_919 ?_
  refine x_sld G hb170 hX hbl hbA (lv_at6 (k := 1) hn hL (by omega) rfl) dL_law_920 ?_
  refine x_virI G (As := [.int (xs (Int32.toNatClampNeg (iN (6 * n) + (1 : Int32))))]) (mX12_size G.2.2.2.2.2.2.1 M h2) mv_L_106 (kd148 M) cl12 rfl rfl rfl rfl rfl dL_law_921 ?_
  refine x_icmpeq (α := Unit) (A := some ()) (B := none) (r := ()) G dL_law_924 (tgt := 2201) (by decide) (if_pos rfl) (fun _ _ => ?_) (fun _ h => by cases h)
  exact kk K w2 (LV n) rfl rfl (B.fl h6).up h5 (KPs.rf K)
set_option maxHeartbeats 4000000 in
theorem lc_gangs {I : Nat → Wd → Prop} (hm : LMath I) {K : KT} {b L n : Nat} {xs : Nat → Int32} {w : Wd} (B : LB K b L xs n w) (hn : 6 * n + 6 ≤ L) (hi : I n w) (kk : ∀ (K' : KT) (w' : Wd) (lv : List (Option Value)), lv.take 5 = LV5 n → lv.length = 8 → LB K' b L xs (n + 1) w' → I (n + 1) w' → KPs K K' → XW K' 2201 lv [] w') : XW K 929 (LV n) [] w := by
  have hL := B.2.2.2.1.2.2.2.2.2
  have hn5 : n < 512 := by omega
  have hr := B.room hn5
  have G := B.1.1
  have M := B.1.2.1
  obtain ⟨hst, hb170, hX, hbl, hbA, -⟩ := B.2.2.2.1
  obtain ⟨r, w1, w2, h1, h2, h5, h6, h7⟩ := lm_gangs hm n w (xs (Int32.toNatClampNeg (iN (6 * n) + (1 : Int32)))) (xs (Int32.toNatClampNeg (iN (6 * n) + (2 : Int32)))) hn5 hi
  refine x_aload_n G dL_law_929 rfl rfl ?_
  refine x_aload_n G dL_law_930 rfl rfl ?_
  refine x_iload G dL_law_931 rfl ?_
  refine x_iconst G (v := 1) dL_law_933 (by decide) ?_
  refine x_iadd G dL_law_934 ?_
  refine x_sld G hb170 hX hbl hbA (lv_at6 (k := 1) hn hL (by omega) rfl) dL_law_935 ?_
  refine x_aload_n G dL_law_936 rfl rfl ?_
  refine x_iload G dL_law_937 rfl ?_
  refine x_iconst G (v := 2) dL_law_939 (by decide) ?_
  refine x_iadd G dL_law_940 ?_
  refine x_sld G hb170 hX hbl hbA (lv_at6 (k := 2) hn hL (by omega) rfl) dL_law_941 ?_
  refine x_virI G (As := [.int (xs (Int32.toNatClampNeg (iN (6 * n) + (1 : Int32)))), .int (xs (Int32.toNatClampNeg (iN (6 * n) + (2 : Int32))))]) (mX11_gangs G.2.2.2.2.2.2.1 M h1) mv_L_107 (kd0 M) cl11 rfl rfl rfl rfl rfl dL_law_942 ?_
  refine x_aload_n G dL_law_945 rfl rfl ?_
  refine x_aload_n G dL_law_946 rfl rfl ?_
  refine x_iload G dL_law_947 rfl ?_
  refine x_iconst G (v := 1) dL_law_949 (by decide) ?_
  refine x_iadd G dL_law_950 ?_
  refine x_sld G hb170 hX hbl hbA (lv_at6 (k := 1) hn hL (by omega) rfl) dL_law_951 ?_
  refine x_aload_n G dL_law_952 rfl rfl ?_
  refine x_iload G dL_law_953 rfl ?_
  refine x_iconst G (v := 2) dL_law_955 (by decide) ?_
  refine x_iadd G dL_law_956 ?_
  refine x_sld G hb170 hX hbl hbA (lv_at6 (k := 2) hn hL (by omega) rfl) dL_law_957 ?_
  refine x_virI G (As := [.int (xs (Int32.toNatClampNeg (iN (6 * n) + (1 : Int32)))), .int (xs (Int32.toNatClampNeg (iN (6 * n) + (2 : Int32))))]) (mX12_gangs G.2.2.2.2.2.2.1 M h2) mv_L_110 (kd148 M) cl12 rfl rfl rfl rfl rfl dL_law_958 ?_
  refine x_icmpeq (α := Unit) (A := some ()) (B := none) (r := ()) G dL_law_961 (tgt := 2201) (by decide) (if_pos rfl) (fun _ _ => ?_) (fun _ h => by cases h)
  exact kk K w2 (LV n) rfl rfl ((B.fl h6).fl h7).up h5 (KPs.rf K)
set_option maxHeartbeats 4000000 in
theorem lc_kiln {I : Nat → Wd → Prop} (hm : LMath I) {K : KT} {b L n : Nat} {xs : Nat → Int32} {w : Wd} (B : LB K b L xs n w) (hn : 6 * n + 6 ≤ L) (hi : I n w) (kk : ∀ (K' : KT) (w' : Wd) (lv : List (Option Value)), lv.take 5 = LV5 n → lv.length = 8 → LB K' b L xs (n + 1) w' → I (n + 1) w' → KPs K K' → XW K' 2201 lv [] w') : XW K 966 (LV n) [] w := by
  have hL := B.2.2.2.1.2.2.2.2.2
  have hn5 : n < 512 := by omega
  have hr := B.room hn5
  have G := B.1.1
  have M := B.1.2.1
  obtain ⟨hst, hb170, hX, hbl, hbA, -⟩ := B.2.2.2.1
  obtain ⟨r, w1, w2, h1, h2, h5, h6, h7⟩ := lm_kiln hm n w (xs (Int32.toNatClampNeg (iN (6 * n) + (1 : Int32)))) hn5 hi
  refine x_aload_n G dL_law_966 rfl rfl ?_
  refine x_aload_n G dL_law_967 rfl rfl ?_
  refine x_iload G dL_law_968 rfl ?_
  refine x_iconst G (v := 1) dL_law_970 (by decide) ?_
  refine x_iadd G dL_law_971 ?_
  refine x_sld G hb170 hX hbl hbA (lv_at6 (k := 1) hn hL (by omega) rfl) dL_law_972 ?_
  refine x_virI G (As := [.int (xs (Int32.toNatClampNeg (iN (6 * n) + (1 : Int32))))]) (mX11_kiln G.2.2.2.2.2.2.1 M h1) mv_L_111 (kd0 M) cl11 rfl rfl rfl rfl rfl dL_law_973 ?_
  refine x_aload_n G dL_law_976 rfl rfl ?_
  refine x_aload_n G dL_law_977 rfl rfl ?_
  refine x_iload G dL_law_978 rfl ?_
  refine x_iconst G (v := 1) dL_law_980 (by decide) ?_
  refine x_iadd G dL_law_981 ?_
  refine x_sld G hb170 hX hbl hbA (lv_at6 (k := 1) hn hL (by omega) rfl) dL_law_982 ?_
  refine x_virI G (As := [.int (xs (Int32.toNatClampNeg (iN (6 * n) + (1 : Int32))))]) (mX12_kiln G.2.2.2.2.2.2.1 M h2) mv_L_114 (kd148 M) cl12 rfl rfl rfl rfl rfl dL_law_983 ?_
  refine x_icmpeq (α := Unit) (A := some ()) (B := none) (r := ()) G dL_law_986 (tgt := 2201) (by decide) (if_pos rfl) (fun _ _ => ?_) (fun _ h => by cases h)
  exact kk K w2 (LV n) rfl rfl ((B.fl h6).fl h7).up h5 (KPs.rf K)
set_option maxHeartbeats 4000000 in
theorem lc_bad {I : Nat → Wd → Prop} (hm : LMath I) {K : KT} {b L n : Nat} {xs : Nat → Int32} {w : Wd} (B : LB K b L xs n w) (hn : 6 * n + 6 ≤ L) (hi : I n w) (kk : ∀ (K' : KT) (w' : Wd) (lv : List (Option Value)), lv.take 5 = LV5 n → lv.length = 8 → LB K' b L xs (n + 1) w' → I (n + 1) w' → KPs K K' → XW K' 2201 lv [] w') : XW K 991 (LV n) [] w := by
  have hL := B.2.2.2.1.2.2.2.2.2
  have hn5 : n < 512 := by omega
  have hr := B.room hn5
  have G := B.1.1
  have M := B.1.2.1
  obtain ⟨hst, hb170, hX, hbl, hbA, -⟩ := B.2.2.2.1
  obtain ⟨r, w1, w2, h1, h2, h5, h6, h7⟩ := lm_bad hm n w (xs (Int32.toNatClampNeg (iN (6 * n) + (1 : Int32)))) (xs (Int32.toNatClampNeg (iN (6 * n) + (2 : Int32)))) ((if xs (Int32.toNatClampNeg (iN (6 * n) + (3 : Int32))) = 0 then 0 else 1)) hn5 hi (by split <;> simp)
  refine x_aload_n G dL_law_991 rfl rfl ?_
  refine x_aload_n G dL_law_992 rfl rfl ?_
  refine x_iload G dL_law_993 rfl ?_
  refine x_iconst G (v := 1) dL_law_995 (by decide) ?_
  refine x_iadd G dL_law_996 ?_
  refine x_sld G hb170 hX hbl hbA (lv_at6 (k := 1) hn hL (by omega) rfl) dL_law_997 ?_
  refine x_aload_n G dL_law_998 rfl rfl ?_
  refine x_iload G dL_law_999 rfl ?_
  refine x_iconst G (v := 2) dL_law_1001 (by decide) ?_
  refine x_iadd G dL_law_1002 ?_
  refine x_sld G hb170 hX hbl hbA (lv_at6 (k := 2) hn hL (by omega) rfl) dL_law_1003 ?_
  refine x_aload_n G dL_law_1004 rfl rfl ?_
  refine x_iload G dL_law_1005 rfl ?_
  refine x_iconst G (v := 3) dL_law_1007 (by decide) ?_
  refine x_iadd G dL_law_1008 ?_
  refine x_sld G hb170 hX hbl hbA (lv_at6 (k := 3) hn hL (by omega) rfl) dL_law_1009 ?_
  refine xb_bool G (t := 1017) (e := 1018) dL_law_1010 rfl dL_law_1013 dL_law_1014 rfl dL_law_1017 rfl ?_
  refine x_virI G (As := [.int (xs (Int32.toNatClampNeg (iN (6 * n) + (1 : Int32)))), .int (xs (Int32.toNatClampNeg (iN (6 * n) + (2 : Int32)))), .int ((if xs (Int32.toNatClampNeg (iN (6 * n) + (3 : Int32))) = 0 then 0 else 1))]) (mX11_bad G.2.2.2.2.2.2.1 M h1) mv_L_115 (kd0 M) cl11 rfl rfl rfl rfl rfl dL_law_1018 ?_
  refine x_aload_n G dL_law_1021 rfl rfl ?_
  refine x_aload_n G dL_law_1022 rfl rfl ?_
  refine x_iload G dL_law_1023 rfl ?_
  refine x_iconst G (v := 1) dL_law_1025 (by decide) ?_
  refine x_iadd G dL_law_1026 ?_
  refine x_sld G hb170 hX hbl hbA (lv_at6 (k := 1) hn hL (by omega) rfl) dL_law_1027 ?_
  refine x_aload_n G dL_law_1028 rfl rfl ?_
  refine x_iload G dL_law_1029 rfl ?_
  refine x_iconst G (v := 2) dL_law_1031 (by decide) ?_
  refine x_iadd G dL_law_1032 ?_
  refine x_sld G hb170 hX hbl hbA (lv_at6 (k := 2) hn hL (by omega) rfl) dL_law_1033 ?_
  refine x_aload_n G dL_law_1034 rfl rfl ?_
  refine x_iload G dL_law_1035 rfl ?_
  refine x_iconst G (v := 3) dL_law_1037 (by decide) ?_
  refine x_iadd G dL_law_1038 ?_
  refine x_sld G hb170 hX hbl hbA (lv_at6 (k := 3) hn hL (by omega) rfl) dL_law_1039 ?_
  refine xb_bool G (t := 1047) (e := 1048) dL_law_1040 rfl dL_law_1043 dL_law_1044 rfl dL_law_1047 rfl ?_
  refine x_virI G (As := [.int (xs (Int32.toNatClampNeg (iN (6 * n) + (1 : Int32)))), .int (xs (Int32.toNatClampNeg (iN (6 * n) + (2 : Int32)))), .int ((if xs (Int32.toNatClampNeg (iN (6 * n) + (3 : Int32))) = 0 then 0 else 1))]) (mX12_bad G.2.2.2.2.2.2.1 M h2) mv_L_119 (kd148 M) cl12 rfl rfl rfl rfl rfl dL_law_1048 ?_
  refine x_icmpeq (α := Unit) (A := some ()) (B := none) (r := ()) G dL_law_1051 (tgt := 2201) (by decide) (if_pos rfl) (fun _ _ => ?_) (fun _ h => by cases h)
  exact kk K w2 (LV n) rfl rfl ((B.fl h6).fl h7).up h5 (KPs.rf K)
set_option maxHeartbeats 4000000 in
theorem lc_bears {I : Nat → Wd → Prop} (hm : LMath I) {K : KT} {b L n : Nat} {xs : Nat → Int32} {w : Wd} (B : LB K b L xs n w) (hn : 6 * n + 6 ≤ L) (hi : I n w) (kk : ∀ (K' : KT) (w' : Wd) (lv : List (Option Value)), lv.take 5 = LV5 n → lv.length = 8 → LB K' b L xs (n + 1) w' → I (n + 1) w' → KPs K K' → XW K' 2201 lv [] w') : XW K 1056 (LV n) [] w := by
  have hL := B.2.2.2.1.2.2.2.2.2
  have hn5 : n < 512 := by omega
  have hr := B.room hn5
  have G := B.1.1
  have M := B.1.2.1
  obtain ⟨hst, hb170, hX, hbl, hbA, -⟩ := B.2.2.2.1
  obtain ⟨r, w2, h1, h2, h5, h6⟩ := lm_bears hm n w (xs (Int32.toNatClampNeg (iN (6 * n) + (1 : Int32)))) (xs (Int32.toNatClampNeg (iN (6 * n) + (2 : Int32)))) hn5 hi
  refine x_aload_n G dL_law_1056 rfl rfl ?_
  refine x_aload_n G dL_law_1057 rfl rfl ?_
  refine x_iload G dL_law_1058 rfl ?_
  refine x_iconst G (v := 1) dL_law_1060 (by decide) ?_
  refine x_iadd G dL_law_1061 ?_
  refine x_sld G hb170 hX hbl hbA (lv_at6 (k := 1) hn hL (by omega) rfl) dL_law_1062 ?_
  refine x_aload_n G dL_law_1063 rfl rfl ?_
  refine x_iload G dL_law_1064 rfl ?_
  refine x_iconst G (v := 2) dL_law_1066 (by decide) ?_
  refine x_iadd G dL_law_1067 ?_
  refine x_sld G hb170 hX hbl hbA (lv_at6 (k := 2) hn hL (by omega) rfl) dL_law_1068 ?_
  refine x_virI G (As := [.int (xs (Int32.toNatClampNeg (iN (6 * n) + (1 : Int32)))), .int (xs (Int32.toNatClampNeg (iN (6 * n) + (2 : Int32))))]) (mX11_bears G.2.2.2.2.2.2.1 M h1) mv_L_120 (kd0 M) cl11 rfl rfl rfl rfl rfl dL_law_1069 ?_
  refine x_aload_n G dL_law_1072 rfl rfl ?_
  refine x_aload_n G dL_law_1073 rfl rfl ?_
  refine x_iload G dL_law_1074 rfl ?_
  refine x_iconst G (v := 1) dL_law_1076 (by decide) ?_
  refine x_iadd G dL_law_1077 ?_
  refine x_sld G hb170 hX hbl hbA (lv_at6 (k := 1) hn hL (by omega) rfl) dL_law_1078 ?_
  refine x_aload_n G dL_law_1079 rfl rfl ?_
  refine x_iload G dL_law_1080 rfl ?_
  refine x_iconst G (v := 2) dL_law_1082 (by decide) ?_
  refine x_iadd G dL_law_1083 ?_
  refine x_sld G hb170 hX hbl hbA (lv_at6 (k := 2) hn hL (by omega) rfl) dL_law_1084 ?_
  refine x_virI G (As := [.int (xs (Int32.toNatClampNeg (iN (6 * n) + (1 : Int32)))), .int (xs (Int32.toNatClampNeg (iN (6 * n) + (2 : Int32))))]) (mX12_bears G.2.2.2.2.2.2.1 M h2) mv_L_123 (kd148 M) cl12 rfl rfl rfl rfl rfl dL_law_1085 ?_
  refine x_icmpeq (α := Unit) (A := some ()) (B := none) (r := ()) G dL_law_1088 (tgt := 2201) (by decide) (if_pos rfl) (fun _ _ => ?_) (fun _ h => by cases h)
  exact kk K w2 (LV n) rfl rfl (B.fl h6).up h5 (KPs.rf K)
set_option maxHeartbeats 4000000 in
theorem lc_carries {I : Nat → Wd → Prop} (hm : LMath I) {K : KT} {b L n : Nat} {xs : Nat → Int32} {w : Wd} (B : LB K b L xs n w) (hn : 6 * n + 6 ≤ L) (hi : I n w) (kk : ∀ (K' : KT) (w' : Wd) (lv : List (Option Value)), lv.take 5 = LV5 n → lv.length = 8 → LB K' b L xs (n + 1) w' → I (n + 1) w' → KPs K K' → XW K' 2201 lv [] w') : XW K 1093 (LV n) [] w := by
  have hL := B.2.2.2.1.2.2.2.2.2
  have hn5 : n < 512 := by omega
  have hr := B.room hn5
  have G := B.1.1
  have M := B.1.2.1
  obtain ⟨hst, hb170, hX, hbl, hbA, -⟩ := B.2.2.2.1
  obtain ⟨r, w2, h1, h2, h5, h6⟩ := lm_carries hm n w (xs (Int32.toNatClampNeg (iN (6 * n) + (1 : Int32)))) hn5 hi
  refine x_aload_n G dL_law_1093 rfl rfl ?_
  refine x_aload_n G dL_law_1094 rfl rfl ?_
  refine x_iload G dL_law_1095 rfl ?_
  refine x_iconst G (v := 1) dL_law_1097 (by decide) ?_
  refine x_iadd G dL_law_1098 ?_
  refine x_sld G hb170 hX hbl hbA (lv_at6 (k := 1) hn hL (by omega) rfl) dL_law_1099 ?_
  refine x_virI G (As := [.int (xs (Int32.toNatClampNeg (iN (6 * n) + (1 : Int32))))]) (mX11_carries G.2.2.2.2.2.2.1 M h1) mv_L_124 (kd0 M) cl11 rfl rfl rfl rfl rfl dL_law_1100 ?_
  refine x_aload_n G dL_law_1103 rfl rfl ?_
  refine x_aload_n G dL_law_1104 rfl rfl ?_
  refine x_iload G dL_law_1105 rfl ?_
  refine x_iconst G (v := 1) dL_law_1107 (by decide) ?_
  refine x_iadd G dL_law_1108 ?_
  refine x_sld G hb170 hX hbl hbA (lv_at6 (k := 1) hn hL (by omega) rfl) dL_law_1109 ?_
  refine x_virI G (As := [.int (xs (Int32.toNatClampNeg (iN (6 * n) + (1 : Int32))))]) (mX12_carries G.2.2.2.2.2.2.1 M h2) mv_L_127 (kd148 M) cl12 rfl rfl rfl rfl rfl dL_law_1110 ?_
  refine x_icmpeq (α := Unit) (A := some ()) (B := none) (r := ()) G dL_law_1113 (tgt := 2201) (by decide) (if_pos rfl) (fun _ _ => ?_) (fun _ h => by cases h)
  exact kk K w2 (LV n) rfl rfl (B.fl h6).up h5 (KPs.rf K)
set_option maxHeartbeats 4000000 in
theorem lc_cross {I : Nat → Wd → Prop} (hm : LMath I) {K : KT} {b L n : Nat} {xs : Nat → Int32} {w : Wd} (B : LB K b L xs n w) (hn : 6 * n + 6 ≤ L) (hi : I n w) (kk : ∀ (K' : KT) (w' : Wd) (lv : List (Option Value)), lv.take 5 = LV5 n → lv.length = 8 → LB K' b L xs (n + 1) w' → I (n + 1) w' → KPs K K' → XW K' 2201 lv [] w') : XW K 1118 (LV n) [] w := by
  have hL := B.2.2.2.1.2.2.2.2.2
  have hn5 : n < 512 := by omega
  have hr := B.room hn5
  have G := B.1.1
  have M := B.1.2.1
  obtain ⟨hst, hb170, hX, hbl, hbA, -⟩ := B.2.2.2.1
  obtain ⟨r, w2, h1, h2, h5, h6⟩ := lm_cross hm n w (xs (Int32.toNatClampNeg (iN (6 * n) + (1 : Int32)))) (xs (Int32.toNatClampNeg (iN (6 * n) + (2 : Int32)))) (xs (Int32.toNatClampNeg (iN (6 * n) + (3 : Int32)))) hn5 hi
  refine x_aload_n G dL_law_1118 rfl rfl ?_
  refine x_aload_n G dL_law_1119 rfl rfl ?_
  refine x_iload G dL_law_1120 rfl ?_
  refine x_iconst G (v := 1) dL_law_1122 (by decide) ?_
  refine x_iadd G dL_law_1123 ?_
  refine x_sld G hb170 hX hbl hbA (lv_at6 (k := 1) hn hL (by omega) rfl) dL_law_1124 ?_
  refine x_aload_n G dL_law_1125 rfl rfl ?_
  refine x_iload G dL_law_1126 rfl ?_
  refine x_iconst G (v := 2) dL_law_1128 (by decide) ?_
  refine x_iadd G dL_law_1129 ?_
  refine x_sld G hb170 hX hbl hbA (lv_at6 (k := 2) hn hL (by omega) rfl) dL_law_1130 ?_
  refine x_aload_n G dL_law_1131 rfl rfl ?_
  refine x_iload G dL_law_1132 rfl ?_
  refine x_iconst G (v := 3) dL_law_1134 (by decide) ?_
  refine x_iadd G dL_law_1135 ?_
  refine x_sld G hb170 hX hbl hbA (lv_at6 (k := 3) hn hL (by omega) rfl) dL_law_1136 ?_
  refine x_virI G (As := [.int (xs (Int32.toNatClampNeg (iN (6 * n) + (1 : Int32)))), .int (xs (Int32.toNatClampNeg (iN (6 * n) + (2 : Int32)))), .int (xs (Int32.toNatClampNeg (iN (6 * n) + (3 : Int32))))]) (mX11_cross G.2.2.2.2.2.2.1 M h1) mv_L_128 (kd0 M) cl11 rfl rfl rfl rfl rfl dL_law_1137 ?_
  refine x_aload_n G dL_law_1140 rfl rfl ?_
  refine x_aload_n G dL_law_1141 rfl rfl ?_
  refine x_iload G dL_law_1142 rfl ?_
  refine x_iconst G (v := 1) dL_law_1144 (by decide) ?_
  refine x_iadd G dL_law_1145 ?_
  refine x_sld G hb170 hX hbl hbA (lv_at6 (k := 1) hn hL (by omega) rfl) dL_law_1146 ?_
  refine x_aload_n G dL_law_1147 rfl rfl ?_
  refine x_iload G dL_law_1148 rfl ?_
  refine x_iconst G (v := 2) dL_law_1150 (by decide) ?_
  refine x_iadd G dL_law_1151 ?_
  refine x_sld G hb170 hX hbl hbA (lv_at6 (k := 2) hn hL (by omega) rfl) dL_law_1152 ?_
  refine x_aload_n G dL_law_1153 rfl rfl ?_
  refine x_iload G dL_law_1154 rfl ?_
  refine x_iconst G (v := 3) dL_law_1156 (by decide) ?_
  refine x_iadd G dL_law_1157 ?_
  refine x_sld G hb170 hX hbl hbA (lv_at6 (k := 3) hn hL (by omega) rfl) dL_law_1158 ?_
  refine x_virI G (As := [.int (xs (Int32.toNatClampNeg (iN (6 * n) + (1 : Int32)))), .int (xs (Int32.toNatClampNeg (iN (6 * n) + (2 : Int32)))), .int (xs (Int32.toNatClampNeg (iN (6 * n) + (3 : Int32))))]) (mX12_cross G.2.2.2.2.2.2.1 M h2) mv_L_131 (kd148 M) cl12 rfl rfl rfl rfl rfl dL_law_1159 ?_
  refine x_icmpeq (α := Unit) (A := some ()) (B := none) (r := ()) G dL_law_1162 (tgt := 2201) (by decide) (if_pos rfl) (fun _ _ => ?_) (fun _ h => by cases h)
  exact kk K w2 (LV n) rfl rfl (B.fl h6).up h5 (KPs.rf K)
set_option maxHeartbeats 4000000 in
theorem lc_rain {I : Nat → Wd → Prop} (hm : LMath I) {K : KT} {b L n : Nat} {xs : Nat → Int32} {w : Wd} (B : LB K b L xs n w) (hn : 6 * n + 6 ≤ L) (hi : I n w) (kk : ∀ (K' : KT) (w' : Wd) (lv : List (Option Value)), lv.take 5 = LV5 n → lv.length = 8 → LB K' b L xs (n + 1) w' → I (n + 1) w' → KPs K K' → XW K' 2201 lv [] w') : XW K 1167 (LV n) [] w := by
  have hL := B.2.2.2.1.2.2.2.2.2
  have hn5 : n < 512 := by omega
  have hr := B.room hn5
  have G := B.1.1
  have M := B.1.2.1
  obtain ⟨hst, hb170, hX, hbl, hbA, -⟩ := B.2.2.2.1
  obtain ⟨r, w1, w2, h1, h2, h5, h6, h7⟩ := lm_rain hm n w (xs (Int32.toNatClampNeg (iN (6 * n) + (1 : Int32)))) hn5 hi
  refine x_aload_n G dL_law_1167 rfl rfl ?_
  refine x_aload_n G dL_law_1168 rfl rfl ?_
  refine x_iload G dL_law_1169 rfl ?_
  refine x_iconst G (v := 1) dL_law_1171 (by decide) ?_
  refine x_iadd G dL_law_1172 ?_
  refine x_sld G hb170 hX hbl hbA (lv_at6 (k := 1) hn hL (by omega) rfl) dL_law_1173 ?_
  refine x_virI G (As := [.int (xs (Int32.toNatClampNeg (iN (6 * n) + (1 : Int32))))]) (mX11_rain G.2.2.2.2.2.2.1 M h1) mv_L_132 (kd0 M) cl11 rfl rfl rfl rfl rfl dL_law_1174 ?_
  refine x_aload_n G dL_law_1177 rfl rfl ?_
  refine x_aload_n G dL_law_1178 rfl rfl ?_
  refine x_iload G dL_law_1179 rfl ?_
  refine x_iconst G (v := 1) dL_law_1181 (by decide) ?_
  refine x_iadd G dL_law_1182 ?_
  refine x_sld G hb170 hX hbl hbA (lv_at6 (k := 1) hn hL (by omega) rfl) dL_law_1183 ?_
  refine x_virI G (As := [.int (xs (Int32.toNatClampNeg (iN (6 * n) + (1 : Int32))))]) (mX12_rain G.2.2.2.2.2.2.1 M h2) mv_L_135 (kd148 M) cl12 rfl rfl rfl rfl rfl dL_law_1184 ?_
  refine x_icmpeq (α := Unit) (A := some ()) (B := none) (r := ()) G dL_law_1187 (tgt := 2201) (by decide) (if_pos rfl) (fun _ _ => ?_) (fun _ h => by cases h)
  exact kk K w2 (LV n) rfl rfl ((B.fl h6).fl h7).up h5 (KPs.rf K)
set_option maxHeartbeats 4000000 in
theorem lc_lift {I : Nat → Wd → Prop} (hm : LMath I) {K : KT} {b L n : Nat} {xs : Nat → Int32} {w : Wd} (B : LB K b L xs n w) (hn : 6 * n + 6 ≤ L) (hi : I n w) (kk : ∀ (K' : KT) (w' : Wd) (lv : List (Option Value)), lv.take 5 = LV5 n → lv.length = 8 → LB K' b L xs (n + 1) w' → I (n + 1) w' → KPs K K' → XW K' 2201 lv [] w') : XW K 1192 (LV n) [] w := by
  have hL := B.2.2.2.1.2.2.2.2.2
  have hn5 : n < 512 := by omega
  have hr := B.room hn5
  have G := B.1.1
  have M := B.1.2.1
  obtain ⟨hst, hb170, hX, hbl, hbA, -⟩ := B.2.2.2.1
  obtain ⟨r, w1, w2, h1, h2, h5, h6, h7⟩ := lm_lift hm n w (xs (Int32.toNatClampNeg (iN (6 * n) + (1 : Int32)))) (xs (Int32.toNatClampNeg (iN (6 * n) + (2 : Int32)))) (xs (Int32.toNatClampNeg (iN (6 * n) + (3 : Int32)))) (xs (Int32.toNatClampNeg (iN (6 * n) + (4 : Int32)))) hn5 hi
  refine x_aload_n G dL_law_1192 rfl rfl ?_
  refine x_aload_n G dL_law_1193 rfl rfl ?_
  refine x_iload G dL_law_1194 rfl ?_
  refine x_iconst G (v := 1) dL_law_1196 (by decide) ?_
  refine x_iadd G dL_law_1197 ?_
  refine x_sld G hb170 hX hbl hbA (lv_at6 (k := 1) hn hL (by omega) rfl) dL_law_1198 ?_
  refine x_aload_n G dL_law_1199 rfl rfl ?_
  refine x_iload G dL_law_1200 rfl ?_
  refine x_iconst G (v := 2) dL_law_1202 (by decide) ?_
  refine x_iadd G dL_law_1203 ?_
  refine x_sld G hb170 hX hbl hbA (lv_at6 (k := 2) hn hL (by omega) rfl) dL_law_1204 ?_
  refine x_aload_n G dL_law_1205 rfl rfl ?_
  refine x_iload G dL_law_1206 rfl ?_
  refine x_iconst G (v := 3) dL_law_1208 (by decide) ?_
  refine x_iadd G dL_law_1209 ?_
  refine x_sld G hb170 hX hbl hbA (lv_at6 (k := 3) hn hL (by omega) rfl) dL_law_1210 ?_
  refine x_aload_n G dL_law_1211 rfl rfl ?_
  refine x_iload G dL_law_1212 rfl ?_
  refine x_iconst G (v := 4) dL_law_1214 (by decide) ?_
  refine x_iadd G dL_law_1215 ?_
  refine x_sld G hb170 hX hbl hbA (lv_at6 (k := 4) hn hL (by omega) rfl) dL_law_1216 ?_
  refine x_virI G (As := [.int (xs (Int32.toNatClampNeg (iN (6 * n) + (1 : Int32)))), .int (xs (Int32.toNatClampNeg (iN (6 * n) + (2 : Int32)))), .int (xs (Int32.toNatClampNeg (iN (6 * n) + (3 : Int32)))), .int (xs (Int32.toNatClampNeg (iN (6 * n) + (4 : Int32))))]) (mX11_lift G.2.2.2.2.2.2.1 M h1) mv_L_136 (kd0 M) cl11 rfl rfl rfl rfl rfl dL_law_1217 ?_
  refine x_aload_n G dL_law_1220 rfl rfl ?_
  refine x_aload_n G dL_law_1221 rfl rfl ?_
  refine x_iload G dL_law_1222 rfl ?_
  refine x_iconst G (v := 1) dL_law_1224 (by decide) ?_
  refine x_iadd G dL_law_1225 ?_
  refine x_sld G hb170 hX hbl hbA (lv_at6 (k := 1) hn hL (by omega) rfl) dL_law_1226 ?_
  refine x_aload_n G dL_law_1227 rfl rfl ?_
  refine x_iload G dL_law_1228 rfl ?_
  refine x_iconst G (v := 2) dL_law_1230 (by decide) ?_
  refine x_iadd G dL_law_1231 ?_
  refine x_sld G hb170 hX hbl hbA (lv_at6 (k := 2) hn hL (by omega) rfl) dL_law_1232 ?_
  refine x_aload_n G dL_law_1233 rfl rfl ?_
  refine x_iload G dL_law_1234 rfl ?_
  refine x_iconst G (v := 3) dL_law_1236 (by decide) ?_
  refine x_iadd G dL_law_1237 ?_
  refine x_sld G hb170 hX hbl hbA (lv_at6 (k := 3) hn hL (by omega) rfl) dL_law_1238 ?_
  refine x_aload_n G dL_law_1239 rfl rfl ?_
  refine x_iload G dL_law_1240 rfl ?_
  refine x_iconst G (v := 4) dL_law_1242 (by decide) ?_
  refine x_iadd G dL_law_1243 ?_
  refine x_sld G hb170 hX hbl hbA (lv_at6 (k := 4) hn hL (by omega) rfl) dL_law_1244 ?_
  refine x_virI G (As := [.int (xs (Int32.toNatClampNeg (iN (6 * n) + (1 : Int32)))), .int (xs (Int32.toNatClampNeg (iN (6 * n) + (2 : Int32)))), .int (xs (Int32.toNatClampNeg (iN (6 * n) + (3 : Int32)))), .int (xs (Int32.toNatClampNeg (iN (6 * n) + (4 : Int32))))]) (mX12_lift G.2.2.2.2.2.2.1 M h2) mv_L_139 (kd148 M) cl12 rfl rfl rfl rfl rfl dL_law_1245 ?_
  refine x_icmpeq (α := Unit) (A := some ()) (B := none) (r := ()) G dL_law_1248 (tgt := 2201) (by decide) (if_pos rfl) (fun _ _ => ?_) (fun _ h => by cases h)
  exact kk K w2 (LV n) rfl rfl ((B.fl h6).fl h7).up h5 (KPs.rf K)
set_option maxHeartbeats 4000000 in
theorem lc_coal {I : Nat → Wd → Prop} (hm : LMath I) {K : KT} {b L n : Nat} {xs : Nat → Int32} {w : Wd} (B : LB K b L xs n w) (hn : 6 * n + 6 ≤ L) (hi : I n w) (kk : ∀ (K' : KT) (w' : Wd) (lv : List (Option Value)), lv.take 5 = LV5 n → lv.length = 8 → LB K' b L xs (n + 1) w' → I (n + 1) w' → KPs K K' → XW K' 2201 lv [] w') : XW K 1253 (LV n) [] w := by
  have hL := B.2.2.2.1.2.2.2.2.2
  have hn5 : n < 512 := by omega
  have hr := B.room hn5
  have G := B.1.1
  have M := B.1.2.1
  obtain ⟨hst, hb170, hX, hbl, hbA, -⟩ := B.2.2.2.1
  obtain ⟨r, w1, w2, h1, h2, h5, h6, h7⟩ := lm_coal hm n w (xs (Int32.toNatClampNeg (iN (6 * n) + (1 : Int32)))) (xs (Int32.toNatClampNeg (iN (6 * n) + (2 : Int32)))) hn5 hi
  refine x_aload_n G dL_law_1253 rfl rfl ?_
  refine x_aload_n G dL_law_1254 rfl rfl ?_
  refine x_iload G dL_law_1255 rfl ?_
  refine x_iconst G (v := 1) dL_law_1257 (by decide) ?_
  refine x_iadd G dL_law_1258 ?_
  refine x_sld G hb170 hX hbl hbA (lv_at6 (k := 1) hn hL (by omega) rfl) dL_law_1259 ?_
  refine x_aload_n G dL_law_1260 rfl rfl ?_
  refine x_iload G dL_law_1261 rfl ?_
  refine x_iconst G (v := 2) dL_law_1263 (by decide) ?_
  refine x_iadd G dL_law_1264 ?_
  refine x_sld G hb170 hX hbl hbA (lv_at6 (k := 2) hn hL (by omega) rfl) dL_law_1265 ?_
  refine x_virI G (As := [.int (xs (Int32.toNatClampNeg (iN (6 * n) + (1 : Int32)))), .int (xs (Int32.toNatClampNeg (iN (6 * n) + (2 : Int32))))]) (mX11_coal G.2.2.2.2.2.2.1 M h1) mv_L_140 (kd0 M) cl11 rfl rfl rfl rfl rfl dL_law_1266 ?_
  refine x_aload_n G dL_law_1269 rfl rfl ?_
  refine x_aload_n G dL_law_1270 rfl rfl ?_
  refine x_iload G dL_law_1271 rfl ?_
  refine x_iconst G (v := 1) dL_law_1273 (by decide) ?_
  refine x_iadd G dL_law_1274 ?_
  refine x_sld G hb170 hX hbl hbA (lv_at6 (k := 1) hn hL (by omega) rfl) dL_law_1275 ?_
  refine x_aload_n G dL_law_1276 rfl rfl ?_
  refine x_iload G dL_law_1277 rfl ?_
  refine x_iconst G (v := 2) dL_law_1279 (by decide) ?_
  refine x_iadd G dL_law_1280 ?_
  refine x_sld G hb170 hX hbl hbA (lv_at6 (k := 2) hn hL (by omega) rfl) dL_law_1281 ?_
  refine x_virI G (As := [.int (xs (Int32.toNatClampNeg (iN (6 * n) + (1 : Int32)))), .int (xs (Int32.toNatClampNeg (iN (6 * n) + (2 : Int32))))]) (mX12_coal G.2.2.2.2.2.2.1 M h2) mv_L_143 (kd148 M) cl12 rfl rfl rfl rfl rfl dL_law_1282 ?_
  refine x_icmpeq (α := Unit) (A := some ()) (B := none) (r := ()) G dL_law_1285 (tgt := 2201) (by decide) (if_pos rfl) (fun _ _ => ?_) (fun _ h => by cases h)
  exact kk K w2 (LV n) rfl rfl ((B.fl h6).fl h7).up h5 (KPs.rf K)
set_option maxHeartbeats 4000000 in
theorem lc_stop {I : Nat → Wd → Prop} (hm : LMath I) {K : KT} {b L n : Nat} {xs : Nat → Int32} {w : Wd} (B : LB K b L xs n w) (hn : 6 * n + 6 ≤ L) (hi : I n w) (kk : ∀ (K' : KT) (w' : Wd) (lv : List (Option Value)), lv.take 5 = LV5 n → lv.length = 8 → LB K' b L xs (n + 1) w' → I (n + 1) w' → KPs K K' → XW K' 2201 lv [] w') : XW K 1290 (LV n) [] w := by
  have hL := B.2.2.2.1.2.2.2.2.2
  have hn5 : n < 512 := by omega
  have hr := B.room hn5
  have G := B.1.1
  have M := B.1.2.1
  obtain ⟨hst, hb170, hX, hbl, hbA, -⟩ := B.2.2.2.1
  obtain ⟨r, w1, w2, h1, h2, h5, h6, h7⟩ := lm_stop hm n w (xs (Int32.toNatClampNeg (iN (6 * n) + (1 : Int32)))) ((if xs (Int32.toNatClampNeg (iN (6 * n) + (2 : Int32))) = 0 then 0 else 1)) hn5 hi (by split <;> simp)
  refine x_aload_n G dL_law_1290 rfl rfl ?_
  refine x_aload_n G dL_law_1291 rfl rfl ?_
  refine x_iload G dL_law_1292 rfl ?_
  refine x_iconst G (v := 1) dL_law_1294 (by decide) ?_
  refine x_iadd G dL_law_1295 ?_
  refine x_sld G hb170 hX hbl hbA (lv_at6 (k := 1) hn hL (by omega) rfl) dL_law_1296 ?_
  refine x_aload_n G dL_law_1297 rfl rfl ?_
  refine x_iload G dL_law_1298 rfl ?_
  refine x_iconst G (v := 2) dL_law_1300 (by decide) ?_
  refine x_iadd G dL_law_1301 ?_
  refine x_sld G hb170 hX hbl hbA (lv_at6 (k := 2) hn hL (by omega) rfl) dL_law_1302 ?_
  refine xb_bool G (t := 1310) (e := 1311) dL_law_1303 rfl dL_law_1306 dL_law_1307 rfl dL_law_1310 rfl ?_
  refine x_virI G (As := [.int (xs (Int32.toNatClampNeg (iN (6 * n) + (1 : Int32)))), .int ((if xs (Int32.toNatClampNeg (iN (6 * n) + (2 : Int32))) = 0 then 0 else 1))]) (mX11_stop G.2.2.2.2.2.2.1 M h1) mv_L_144 (kd0 M) cl11 rfl rfl rfl rfl rfl dL_law_1311 ?_
  refine x_aload_n G dL_law_1314 rfl rfl ?_
  refine x_aload_n G dL_law_1315 rfl rfl ?_
  refine x_iload G dL_law_1316 rfl ?_
  refine x_iconst G (v := 1) dL_law_1318 (by decide) ?_
  refine x_iadd G dL_law_1319 ?_
  refine x_sld G hb170 hX hbl hbA (lv_at6 (k := 1) hn hL (by omega) rfl) dL_law_1320 ?_
  refine x_aload_n G dL_law_1321 rfl rfl ?_
  refine x_iload G dL_law_1322 rfl ?_
  refine x_iconst G (v := 2) dL_law_1324 (by decide) ?_
  refine x_iadd G dL_law_1325 ?_
  refine x_sld G hb170 hX hbl hbA (lv_at6 (k := 2) hn hL (by omega) rfl) dL_law_1326 ?_
  refine xb_bool G (t := 1334) (e := 1335) dL_law_1327 rfl dL_law_1330 dL_law_1331 rfl dL_law_1334 rfl ?_
  refine x_virI G (As := [.int (xs (Int32.toNatClampNeg (iN (6 * n) + (1 : Int32)))), .int ((if xs (Int32.toNatClampNeg (iN (6 * n) + (2 : Int32))) = 0 then 0 else 1))]) (mX12_stop G.2.2.2.2.2.2.1 M h2) mv_L_148 (kd148 M) cl12 rfl rfl rfl rfl rfl dL_law_1335 ?_
  refine x_icmpeq (α := Unit) (A := some ()) (B := none) (r := ()) G dL_law_1338 (tgt := 2201) (by decide) (if_pos rfl) (fun _ _ => ?_) (fun _ h => by cases h)
  exact kk K w2 (LV n) rfl rfl ((B.fl h6).fl h7).up h5 (KPs.rf K)
set_option maxHeartbeats 4000000 in
theorem lc_lasts {I : Nat → Wd → Prop} (hm : LMath I) {K : KT} {b L n : Nat} {xs : Nat → Int32} {w : Wd} (B : LB K b L xs n w) (hn : 6 * n + 6 ≤ L) (hi : I n w) (kk : ∀ (K' : KT) (w' : Wd) (lv : List (Option Value)), lv.take 5 = LV5 n → lv.length = 8 → LB K' b L xs (n + 1) w' → I (n + 1) w' → KPs K K' → XW K' 2201 lv [] w') : XW K 1343 (LV n) [] w := by
  have hL := B.2.2.2.1.2.2.2.2.2
  have hn5 : n < 512 := by omega
  have hr := B.room hn5
  have G := B.1.1
  have M := B.1.2.1
  obtain ⟨hst, hb170, hX, hbl, hbA, -⟩ := B.2.2.2.1
  obtain ⟨r, w1, w2, h1, h2, h5, h6, h7⟩ := lm_lasts hm n w (xs (Int32.toNatClampNeg (iN (6 * n) + (1 : Int32)))) (xs (Int32.toNatClampNeg (iN (6 * n) + (2 : Int32)))) hn5 hi
  refine x_aload_n G dL_law_1343 rfl rfl ?_
  refine x_aload_n G dL_law_1344 rfl rfl ?_
  refine x_iload G dL_law_1345 rfl ?_
  refine x_iconst G (v := 1) dL_law_1347 (by decide) ?_
  refine x_iadd G dL_law_1348 ?_
  refine x_sld G hb170 hX hbl hbA (lv_at6 (k := 1) hn hL (by omega) rfl) dL_law_1349 ?_
  refine x_aload_n G dL_law_1350 rfl rfl ?_
  refine x_iload G dL_law_1351 rfl ?_
  refine x_iconst G (v := 2) dL_law_1353 (by decide) ?_
  refine x_iadd G dL_law_1354 ?_
  refine x_sld G hb170 hX hbl hbA (lv_at6 (k := 2) hn hL (by omega) rfl) dL_law_1355 ?_
  refine x_virI G (As := [.int (xs (Int32.toNatClampNeg (iN (6 * n) + (1 : Int32)))), .int (xs (Int32.toNatClampNeg (iN (6 * n) + (2 : Int32))))]) (mX11_lasts G.2.2.2.2.2.2.1 M h1) mv_L_149 (kd0 M) cl11 rfl rfl rfl rfl rfl dL_law_1356 ?_
  refine x_aload_n G dL_law_1359 rfl rfl ?_
  refine x_aload_n G dL_law_1360 rfl rfl ?_
  refine x_iload G dL_law_1361 rfl ?_
  refine x_iconst G (v := 1) dL_law_1363 (by decide) ?_
  refine x_iadd G dL_law_1364 ?_
  refine x_sld G hb170 hX hbl hbA (lv_at6 (k := 1) hn hL (by omega) rfl) dL_law_1365 ?_
  refine x_aload_n G dL_law_1366 rfl rfl ?_
  refine x_iload G dL_law_1367 rfl ?_
  refine x_iconst G (v := 2) dL_law_1369 (by decide) ?_
  refine x_iadd G dL_law_1370 ?_
  refine x_sld G hb170 hX hbl hbA (lv_at6 (k := 2) hn hL (by omega) rfl) dL_law_1371 ?_
  refine x_virI G (As := [.int (xs (Int32.toNatClampNeg (iN (6 * n) + (1 : Int32)))), .int (xs (Int32.toNatClampNeg (iN (6 * n) + (2 : Int32))))]) (mX12_lasts G.2.2.2.2.2.2.1 M h2) mv_L_152 (kd148 M) cl12 rfl rfl rfl rfl rfl dL_law_1372 ?_
  refine x_icmpeq (α := Unit) (A := some ()) (B := none) (r := ()) G dL_law_1375 (tgt := 2201) (by decide) (if_pos rfl) (fun _ _ => ?_) (fun _ h => by cases h)
  exact kk K w2 (LV n) rfl rfl ((B.fl h6).fl h7).up h5 (KPs.rf K)
set_option maxHeartbeats 4000000 in
theorem lc_out {I : Nat → Wd → Prop} (hm : LMath I) {K : KT} {b L n : Nat} {xs : Nat → Int32} {w : Wd} (B : LB K b L xs n w) (hn : 6 * n + 6 ≤ L) (hi : I n w) (kk : ∀ (K' : KT) (w' : Wd) (lv : List (Option Value)), lv.take 5 = LV5 n → lv.length = 8 → LB K' b L xs (n + 1) w' → I (n + 1) w' → KPs K K' → XW K' 2201 lv [] w') : XW K 1380 (LV n) [] w := by
  have hL := B.2.2.2.1.2.2.2.2.2
  have hn5 : n < 512 := by omega
  have hr := B.room hn5
  have G := B.1.1
  have M := B.1.2.1
  obtain ⟨hst, hb170, hX, hbl, hbA, -⟩ := B.2.2.2.1
  obtain ⟨r, w1, w2, h1, h2, h5, h6, h7⟩ := lm_out hm n w (xs (Int32.toNatClampNeg (iN (6 * n) + (1 : Int32)))) (xs (Int32.toNatClampNeg (iN (6 * n) + (2 : Int32)))) (xs (Int32.toNatClampNeg (iN (6 * n) + (3 : Int32)))) (xs (Int32.toNatClampNeg (iN (6 * n) + (4 : Int32)))) hn5 hi
  refine x_aload_n G dL_law_1380 rfl rfl ?_
  refine x_aload_n G dL_law_1381 rfl rfl ?_
  refine x_iload G dL_law_1382 rfl ?_
  refine x_iconst G (v := 1) dL_law_1384 (by decide) ?_
  refine x_iadd G dL_law_1385 ?_
  refine x_sld G hb170 hX hbl hbA (lv_at6 (k := 1) hn hL (by omega) rfl) dL_law_1386 ?_
  refine x_aload_n G dL_law_1387 rfl rfl ?_
  refine x_iload G dL_law_1388 rfl ?_
  refine x_iconst G (v := 2) dL_law_1390 (by decide) ?_
  refine x_iadd G dL_law_1391 ?_
  refine x_sld G hb170 hX hbl hbA (lv_at6 (k := 2) hn hL (by omega) rfl) dL_law_1392 ?_
  refine x_aload_n G dL_law_1393 rfl rfl ?_
  refine x_iload G dL_law_1394 rfl ?_
  refine x_iconst G (v := 3) dL_law_1396 (by decide) ?_
  refine x_iadd G dL_law_1397 ?_
  refine x_sld G hb170 hX hbl hbA (lv_at6 (k := 3) hn hL (by omega) rfl) dL_law_1398 ?_
  refine x_aload_n G dL_law_1399 rfl rfl ?_
  refine x_iload G dL_law_1400 rfl ?_
  refine x_iconst G (v := 4) dL_law_1402 (by decide) ?_
  refine x_iadd G dL_law_1403 ?_
  refine x_sld G hb170 hX hbl hbA (lv_at6 (k := 4) hn hL (by omega) rfl) dL_law_1404 ?_
  refine x_virI G (As := [.int (xs (Int32.toNatClampNeg (iN (6 * n) + (1 : Int32)))), .int (xs (Int32.toNatClampNeg (iN (6 * n) + (2 : Int32)))), .int (xs (Int32.toNatClampNeg (iN (6 * n) + (3 : Int32)))), .int (xs (Int32.toNatClampNeg (iN (6 * n) + (4 : Int32))))]) (mX11_out G.2.2.2.2.2.2.1 M h1) mv_L_153 (kd0 M) cl11 rfl rfl rfl rfl rfl dL_law_1405 ?_
  refine x_aload_n G dL_law_1408 rfl rfl ?_
  refine x_aload_n G dL_law_1409 rfl rfl ?_
  refine x_iload G dL_law_1410 rfl ?_
  refine x_iconst G (v := 1) dL_law_1412 (by decide) ?_
  refine x_iadd G dL_law_1413 ?_
  refine x_sld G hb170 hX hbl hbA (lv_at6 (k := 1) hn hL (by omega) rfl) dL_law_1414 ?_
  refine x_aload_n G dL_law_1415 rfl rfl ?_
  refine x_iload G dL_law_1416 rfl ?_
  refine x_iconst G (v := 2) dL_law_1418 (by decide) ?_
  refine x_iadd G dL_law_1419 ?_
  refine x_sld G hb170 hX hbl hbA (lv_at6 (k := 2) hn hL (by omega) rfl) dL_law_1420 ?_
  refine x_aload_n G dL_law_1421 rfl rfl ?_
  refine x_iload G dL_law_1422 rfl ?_
  refine x_iconst G (v := 3) dL_law_1424 (by decide) ?_
  refine x_iadd G dL_law_1425 ?_
  refine x_sld G hb170 hX hbl hbA (lv_at6 (k := 3) hn hL (by omega) rfl) dL_law_1426 ?_
  refine x_aload_n G dL_law_1427 rfl rfl ?_
  refine x_iload G dL_law_1428 rfl ?_
  refine x_iconst G (v := 4) dL_law_1430 (by decide) ?_
  refine x_iadd G dL_law_1431 ?_
  refine x_sld G hb170 hX hbl hbA (lv_at6 (k := 4) hn hL (by omega) rfl) dL_law_1432 ?_
  refine x_virI G (As := [.int (xs (Int32.toNatClampNeg (iN (6 * n) + (1 : Int32)))), .int (xs (Int32.toNatClampNeg (iN (6 * n) + (2 : Int32)))), .int (xs (Int32.toNatClampNeg (iN (6 * n) + (3 : Int32)))), .int (xs (Int32.toNatClampNeg (iN (6 * n) + (4 : Int32))))]) (mX12_out G.2.2.2.2.2.2.1 M h2) mv_L_156 (kd148 M) cl12 rfl rfl rfl rfl rfl dL_law_1433 ?_
  refine x_icmpeq (α := Unit) (A := some ()) (B := none) (r := ()) G dL_law_1436 (tgt := 2201) (by decide) (if_pos rfl) (fun _ _ => ?_) (fun _ h => by cases h)
  exact kk K w2 (LV n) rfl rfl ((B.fl h6).fl h7).up h5 (KPs.rf K)
set_option maxHeartbeats 4000000 in
theorem lc_house {I : Nat → Wd → Prop} (hm : LMath I) {K : KT} {b L n : Nat} {xs : Nat → Int32} {w : Wd} (B : LB K b L xs n w) (hn : 6 * n + 6 ≤ L) (hi : I n w) (kk : ∀ (K' : KT) (w' : Wd) (lv : List (Option Value)), lv.take 5 = LV5 n → lv.length = 8 → LB K' b L xs (n + 1) w' → I (n + 1) w' → KPs K K' → XW K' 2201 lv [] w') : XW K 1441 (LV n) [] w := by
  have hL := B.2.2.2.1.2.2.2.2.2
  have hn5 : n < 512 := by omega
  have hr := B.room hn5
  have G := B.1.1
  have M := B.1.2.1
  obtain ⟨hst, hb170, hX, hbl, hbA, -⟩ := B.2.2.2.1
  obtain ⟨o, r, w2, h1, h2, h3, h4, h5, h6⟩ := lm_house hm n w (xs (Int32.toNatClampNeg (iN (6 * n) + (1 : Int32)))) (xs (Int32.toNatClampNeg (iN (6 * n) + (2 : Int32)))) hn5 hi
  refine x_aload_n G dL_law_1441 rfl rfl ?_
  refine x_aload_n G dL_law_1442 rfl rfl ?_
  refine x_iload G dL_law_1443 rfl ?_
  refine x_iconst G (v := 1) dL_law_1445 (by decide) ?_
  refine x_iadd G dL_law_1446 ?_
  refine x_sld G hb170 hX hbl hbA (lv_at6 (k := 1) hn hL (by omega) rfl) dL_law_1447 ?_
  refine x_aload_n G dL_law_1448 rfl rfl ?_
  refine x_iload G dL_law_1449 rfl ?_
  refine x_iconst G (v := 2) dL_law_1451 (by decide) ?_
  refine x_iadd G dL_law_1452 ?_
  refine x_sld G hb170 hX hbl hbA (lv_at6 (k := 2) hn hL (by omega) rfl) dL_law_1453 ?_
  refine x_aload_n G dL_law_1454 rfl rfl ?_
  refine xh_sta G (As := [.ref 0, .int (xs (Int32.toNatClampNeg (iN (6 * n) + (1 : Int32)))), .int (xs (Int32.toNatClampNeg (iN (6 * n) + (2 : Int32)))), .ref 169]) (r := oI o) (mL_house hst G.2.2.2.2.2.2.1 M B.1.2.2.1 h1) mh_RL_157 rfl rfl rfl rfl rfl dL_law_1455 (by omega) (by omega) ?_
  have G2 := G.kn (by omega) (by omega)
  refine x_istore G2 (lv' := LV5 n ++ [some (.int (oI o).1), none, none]) dL_law_1458 rfl rfl rfl ?_
  refine x_aload_n G2 dL_law_1460 rfl rfl ?_
  refine x_aload_n G2 dL_law_1461 rfl rfl ?_
  refine x_iload G2 dL_law_1462 rfl ?_
  refine x_iconst G2 (v := 1) dL_law_1464 (by decide) ?_
  refine x_iadd G2 dL_law_1465 ?_
  refine x_sld G2 hb170 hX hbl hbA (lv_at6 (k := 1) hn hL (by omega) rfl) dL_law_1466 ?_
  refine x_aload_n G2 dL_law_1467 rfl rfl ?_
  refine x_iload G2 dL_law_1468 rfl ?_
  refine x_iconst G2 (v := 2) dL_law_1470 (by decide) ?_
  refine x_iadd G2 dL_law_1471 ?_
  refine x_sld G2 hb170 hX hbl hbA (lv_at6 (k := 2) hn hL (by omega) rfl) dL_law_1472 ?_
  refine x_virI G2 (As := [.int (xs (Int32.toNatClampNeg (iN (6 * n) + (1 : Int32)))), .int (xs (Int32.toNatClampNeg (iN (6 * n) + (2 : Int32))))]) (mX12_house G2.2.2.2.2.2.2.1 M h2) mv_L_159 (kd148 M) cl12 rfl rfl rfl rfl rfl dL_law_1473 ?_
  refine x_istore G2 (lv' := LV5 n ++ [some (.int (oI o).1), some (.int r), none]) dL_law_1476 rfl rfl rfl ?_
  refine x_aload_n G2 dL_law_1478 rfl rfl ?_
  refine x_virI G2 (r0 := w2.1 148 0) (As := []) (mX12_thrown G2.2.2.2.2.2.2.1 M rfl) mv_L_51 (kd148 M) cl12 rfl rfl rfl rfl rfl dL_law_1479 ?_
  refine x_iload G2 dL_law_1482 rfl ?_
  refine x_icmpeq (α := Unit) (A := some ()) (B := none) (r := ()) G2 dL_law_1484 (tgt := 1489) (by decide) (if_pos h3) (fun _ _ => ?_) (fun _ h => by cases h)
  refine x_iload G2 dL_law_1489 rfl ?_
  have fin : ∀ lv : List (Option Value), lv.take 5 = LV5 n → lv.length = 8 → XW (Kn K K.ks (K.cells + 1) (K.slots + 6)) 2201 lv [] w2 := fun lv e1 e2 => kk _ w2 lv e1 e2 (B.kn G2 hr h6) h5 (KPs.kn K)
  refine x_ifne (α := Unit) (A := some ()) (B := some ()) (r := ()) G2 dL_law_1491 (tgt := 1506) (by decide) (by split <;> rfl) (fun he _ => ?_) (fun _ _ => x_goto G2 (tgt := 2201) dL_law_1506 (by decide) (fin _ rfl rfl))
  obtain ⟨x, hx⟩ := oI_inl he
  obtain ⟨e1, e2⟩ := h4 x hx
  refine x_aload_n G2 dL_law_1494 rfl rfl ?_
  refine x_iconst G2 (v := 0) dL_law_1495 (by decide) ?_
  refine x_lald0 G2 B.1.2.2.1 dL_law_1496 (by decide) ?_
  refine x_iload G2 dL_law_1497 rfl ?_
  refine x_i2l G2 dL_law_1499 ?_
  refine x_lcmp G2 dL_law_1500 ?_
  refine x_ifeq (α := Unit) (A := some ()) (B := none) (r := ()) G2 dL_law_1501 (tgt := 1506) (by decide) (if_pos (by rw [show rl w2 169 (0 : Int32) = w2.2 169 0 from rfl, e1, e2]; exact cmp_self _)) (fun _ _ => ?_) (fun _ h => by cases h)
  exact x_goto G2 (tgt := 2201) dL_law_1506 (by decide) (fin _ rfl rfl)
set_option maxHeartbeats 4000000 in
theorem lc_hours {I : Nat → Wd → Prop} (hm : LMath I) {K : KT} {b L n : Nat} {xs : Nat → Int32} {w : Wd} (B : LB K b L xs n w) (hn : 6 * n + 6 ≤ L) (hi : I n w) (kk : ∀ (K' : KT) (w' : Wd) (lv : List (Option Value)), lv.take 5 = LV5 n → lv.length = 8 → LB K' b L xs (n + 1) w' → I (n + 1) w' → KPs K K' → XW K' 2201 lv [] w') : XW K 1509 (LV n) [] w := by
  have hL := B.2.2.2.1.2.2.2.2.2
  have hn5 : n < 512 := by omega
  have hr := B.room hn5
  have G := B.1.1
  have M := B.1.2.1
  obtain ⟨hst, hb170, hX, hbl, hbA, -⟩ := B.2.2.2.1
  obtain ⟨r, w1, w2, h1, h2, h5, h6, h7⟩ := lm_hours hm n w (xs (Int32.toNatClampNeg (iN (6 * n) + (1 : Int32)))) hn5 hi
  refine x_aload_n G dL_law_1509 rfl rfl ?_
  refine x_aload_n G dL_law_1510 rfl rfl ?_
  refine x_iload G dL_law_1511 rfl ?_
  refine x_iconst G (v := 1) dL_law_1513 (by decide) ?_
  refine x_iadd G dL_law_1514 ?_
  refine x_sld G hb170 hX hbl hbA (lv_at6 (k := 1) hn hL (by omega) rfl) dL_law_1515 ?_
  refine x_virI G (As := [.int (xs (Int32.toNatClampNeg (iN (6 * n) + (1 : Int32))))]) (mX11_hours G.2.2.2.2.2.2.1 M h1) mv_L_160 (kd0 M) cl11 rfl rfl rfl rfl rfl dL_law_1516 ?_
  refine x_aload_n G dL_law_1519 rfl rfl ?_
  refine x_aload_n G dL_law_1520 rfl rfl ?_
  refine x_iload G dL_law_1521 rfl ?_
  refine x_iconst G (v := 1) dL_law_1523 (by decide) ?_
  refine x_iadd G dL_law_1524 ?_
  refine x_sld G hb170 hX hbl hbA (lv_at6 (k := 1) hn hL (by omega) rfl) dL_law_1525 ?_
  refine x_virI G (As := [.int (xs (Int32.toNatClampNeg (iN (6 * n) + (1 : Int32))))]) (mX12_hours G.2.2.2.2.2.2.1 M h2) mv_L_163 (kd148 M) cl12 rfl rfl rfl rfl rfl dL_law_1526 ?_
  refine x_icmpeq (α := Unit) (A := some ()) (B := none) (r := ()) G dL_law_1529 (tgt := 2201) (by decide) (if_pos rfl) (fun _ _ => ?_) (fun _ h => by cases h)
  exact kk K w2 (LV n) rfl rfl ((B.fl h6).fl h7).up h5 (KPs.rf K)
set_option maxHeartbeats 4000000 in
theorem lc_bridge {I : Nat → Wd → Prop} (hm : LMath I) {K : KT} {b L n : Nat} {xs : Nat → Int32} {w : Wd} (B : LB K b L xs n w) (hn : 6 * n + 6 ≤ L) (hi : I n w) (kk : ∀ (K' : KT) (w' : Wd) (lv : List (Option Value)), lv.take 5 = LV5 n → lv.length = 8 → LB K' b L xs (n + 1) w' → I (n + 1) w' → KPs K K' → XW K' 2201 lv [] w') : XW K 1534 (LV n) [] w := by
  have hL := B.2.2.2.1.2.2.2.2.2
  have hn5 : n < 512 := by omega
  have hr := B.room hn5
  have G := B.1.1
  have M := B.1.2.1
  obtain ⟨hst, hb170, hX, hbl, hbA, -⟩ := B.2.2.2.1
  obtain ⟨r, w1, w2, h1, h2, h5, h6, h7⟩ := lm_bridge hm n w (xs (Int32.toNatClampNeg (iN (6 * n) + (1 : Int32)))) hn5 hi
  refine x_aload_n G dL_law_1534 rfl rfl ?_
  refine x_aload_n G dL_law_1535 rfl rfl ?_
  refine x_iload G dL_law_1536 rfl ?_
  refine x_iconst G (v := 1) dL_law_1538 (by decide) ?_
  refine x_iadd G dL_law_1539 ?_
  refine x_sld G hb170 hX hbl hbA (lv_at6 (k := 1) hn hL (by omega) rfl) dL_law_1540 ?_
  refine x_virI G (As := [.int (xs (Int32.toNatClampNeg (iN (6 * n) + (1 : Int32))))]) (mX11_bridge G.2.2.2.2.2.2.1 M h1) mv_L_164 (kd0 M) cl11 rfl rfl rfl rfl rfl dL_law_1541 ?_
  refine x_aload_n G dL_law_1544 rfl rfl ?_
  refine x_aload_n G dL_law_1545 rfl rfl ?_
  refine x_iload G dL_law_1546 rfl ?_
  refine x_iconst G (v := 1) dL_law_1548 (by decide) ?_
  refine x_iadd G dL_law_1549 ?_
  refine x_sld G hb170 hX hbl hbA (lv_at6 (k := 1) hn hL (by omega) rfl) dL_law_1550 ?_
  refine x_virI G (As := [.int (xs (Int32.toNatClampNeg (iN (6 * n) + (1 : Int32))))]) (mX12_bridge G.2.2.2.2.2.2.1 M h2) mv_L_167 (kd148 M) cl12 rfl rfl rfl rfl rfl dL_law_1551 ?_
  refine x_icmpeq (α := Unit) (A := some ()) (B := none) (r := ()) G dL_law_1554 (tgt := 2201) (by decide) (if_pos rfl) (fun _ _ => ?_) (fun _ h => by cases h)
  exact kk K w2 (LV n) rfl rfl ((B.fl h6).fl h7).up h5 (KPs.rf K)
set_option maxHeartbeats 4000000 in
theorem lc_cutOff {I : Nat → Wd → Prop} (hm : LMath I) {K : KT} {b L n : Nat} {xs : Nat → Int32} {w : Wd} (B : LB K b L xs n w) (hn : 6 * n + 6 ≤ L) (hi : I n w) (kk : ∀ (K' : KT) (w' : Wd) (lv : List (Option Value)), lv.take 5 = LV5 n → lv.length = 8 → LB K' b L xs (n + 1) w' → I (n + 1) w' → KPs K K' → XW K' 2201 lv [] w') : XW K 1559 (LV n) [] w := by
  have hL := B.2.2.2.1.2.2.2.2.2
  have hn5 : n < 512 := by omega
  have hr := B.room hn5
  have G := B.1.1
  have M := B.1.2.1
  obtain ⟨hst, hb170, hX, hbl, hbA, -⟩ := B.2.2.2.1
  obtain ⟨r, w1, w2, h1, h2, h5, h6, h7⟩ := lm_cutOff hm n w  hn5 hi
  refine x_aload_n G dL_law_1559 rfl rfl ?_
  refine x_virI G (As := []) (mX11_cutOff G.2.2.2.2.2.2.1 M h1) mv_L_168 (kd0 M) cl11 rfl rfl rfl rfl rfl dL_law_1560 ?_
  refine x_aload_n G dL_law_1563 rfl rfl ?_
  refine x_virI G (As := []) (mX12_cutOff G.2.2.2.2.2.2.1 M h2) mv_L_171 (kd148 M) cl12 rfl rfl rfl rfl rfl dL_law_1564 ?_
  refine x_icmpeq (α := Unit) (A := some ()) (B := none) (r := ()) G dL_law_1567 (tgt := 2201) (by decide) (if_pos rfl) (fun _ _ => ?_) (fun _ h => by cases h)
  exact kk K w2 (LV n) rfl rfl ((B.fl h6).fl h7).up h5 (KPs.rf K)
set_option maxHeartbeats 4000000 in
theorem lc_law {I : Nat → Wd → Prop} (hm : LMath I) {K : KT} {b L n : Nat} {xs : Nat → Int32} {w : Wd} (B : LB K b L xs n w) (hn : 6 * n + 6 ≤ L) (hi : I n w) (kk : ∀ (K' : KT) (w' : Wd) (lv : List (Option Value)), lv.take 5 = LV5 n → lv.length = 8 → LB K' b L xs (n + 1) w' → I (n + 1) w' → KPs K K' → XW K' 2201 lv [] w') : XW K 1572 (LV n) [] w := by
  have hL := B.2.2.2.1.2.2.2.2.2
  have hn5 : n < 512 := by omega
  have hr := B.room hn5
  have G := B.1.1
  have M := B.1.2.1
  obtain ⟨hst, hb170, hX, hbl, hbA, -⟩ := B.2.2.2.1
  obtain ⟨r, w1, w2, h1, h2, h5, h6, h7⟩ := lm_law hm n w (xs (Int32.toNatClampNeg (iN (6 * n) + (1 : Int32)))) (xs (Int32.toNatClampNeg (iN (6 * n) + (2 : Int32)))) (xs (Int32.toNatClampNeg (iN (6 * n) + (3 : Int32)))) hn5 hi
  refine x_aload_n G dL_law_1572 rfl rfl ?_
  refine x_aload_n G dL_law_1573 rfl rfl ?_
  refine x_iload G dL_law_1574 rfl ?_
  refine x_iconst G (v := 1) dL_law_1576 (by decide) ?_
  refine x_iadd G dL_law_1577 ?_
  refine x_sld G hb170 hX hbl hbA (lv_at6 (k := 1) hn hL (by omega) rfl) dL_law_1578 ?_
  refine x_aload_n G dL_law_1579 rfl rfl ?_
  refine x_iload G dL_law_1580 rfl ?_
  refine x_iconst G (v := 2) dL_law_1582 (by decide) ?_
  refine x_iadd G dL_law_1583 ?_
  refine x_sld G hb170 hX hbl hbA (lv_at6 (k := 2) hn hL (by omega) rfl) dL_law_1584 ?_
  refine x_aload_n G dL_law_1585 rfl rfl ?_
  refine x_iload G dL_law_1586 rfl ?_
  refine x_iconst G (v := 3) dL_law_1588 (by decide) ?_
  refine x_iadd G dL_law_1589 ?_
  refine x_sld G hb170 hX hbl hbA (lv_at6 (k := 3) hn hL (by omega) rfl) dL_law_1590 ?_
  refine x_virI G (As := [.int (xs (Int32.toNatClampNeg (iN (6 * n) + (1 : Int32)))), .int (xs (Int32.toNatClampNeg (iN (6 * n) + (2 : Int32)))), .int (xs (Int32.toNatClampNeg (iN (6 * n) + (3 : Int32))))]) (mX11_law G.2.2.2.2.2.2.1 M h1) mv_L_172 (kd0 M) cl11 rfl rfl rfl rfl rfl dL_law_1591 ?_
  refine x_aload_n G dL_law_1594 rfl rfl ?_
  refine x_aload_n G dL_law_1595 rfl rfl ?_
  refine x_iload G dL_law_1596 rfl ?_
  refine x_iconst G (v := 1) dL_law_1598 (by decide) ?_
  refine x_iadd G dL_law_1599 ?_
  refine x_sld G hb170 hX hbl hbA (lv_at6 (k := 1) hn hL (by omega) rfl) dL_law_1600 ?_
  refine x_aload_n G dL_law_1601 rfl rfl ?_
  refine x_iload G dL_law_1602 rfl ?_
  refine x_iconst G (v := 2) dL_law_1604 (by decide) ?_
  refine x_iadd G dL_law_1605 ?_
  refine x_sld G hb170 hX hbl hbA (lv_at6 (k := 2) hn hL (by omega) rfl) dL_law_1606 ?_
  refine x_aload_n G dL_law_1607 rfl rfl ?_
  refine x_iload G dL_law_1608 rfl ?_
  refine x_iconst G (v := 3) dL_law_1610 (by decide) ?_
  refine x_iadd G dL_law_1611 ?_
  refine x_sld G hb170 hX hbl hbA (lv_at6 (k := 3) hn hL (by omega) rfl) dL_law_1612 ?_
  refine x_virI G (As := [.int (xs (Int32.toNatClampNeg (iN (6 * n) + (1 : Int32)))), .int (xs (Int32.toNatClampNeg (iN (6 * n) + (2 : Int32)))), .int (xs (Int32.toNatClampNeg (iN (6 * n) + (3 : Int32))))]) (mX12_law G.2.2.2.2.2.2.1 M h2) mv_L_175 (kd148 M) cl12 rfl rfl rfl rfl rfl dL_law_1613 ?_
  refine x_icmpeq (α := Unit) (A := some ()) (B := none) (r := ()) G dL_law_1616 (tgt := 2201) (by decide) (if_pos rfl) (fun _ _ => ?_) (fun _ h => by cases h)
  exact kk K w2 (LV n) rfl rfl ((B.fl h6).fl h7).up h5 (KPs.rf K)
set_option maxHeartbeats 4000000 in
theorem lc_inForce {I : Nat → Wd → Prop} (hm : LMath I) {K : KT} {b L n : Nat} {xs : Nat → Int32} {w : Wd} (B : LB K b L xs n w) (hn : 6 * n + 6 ≤ L) (hi : I n w) (kk : ∀ (K' : KT) (w' : Wd) (lv : List (Option Value)), lv.take 5 = LV5 n → lv.length = 8 → LB K' b L xs (n + 1) w' → I (n + 1) w' → KPs K K' → XW K' 2201 lv [] w') : XW K 1621 (LV n) [] w := by
  have hL := B.2.2.2.1.2.2.2.2.2
  have hn5 : n < 512 := by omega
  have hr := B.room hn5
  have G := B.1.1
  have M := B.1.2.1
  obtain ⟨hst, hb170, hX, hbl, hbA, -⟩ := B.2.2.2.1
  obtain ⟨r, w2, h1, h2, h5, h6⟩ := lm_inForce hm n w (xs (Int32.toNatClampNeg (iN (6 * n) + (1 : Int32)))) (xs (Int32.toNatClampNeg (iN (6 * n) + (2 : Int32)))) hn5 hi
  refine x_aload_n G dL_law_1621 rfl rfl ?_
  refine x_aload_n G dL_law_1622 rfl rfl ?_
  refine x_iload G dL_law_1623 rfl ?_
  refine x_iconst G (v := 1) dL_law_1625 (by decide) ?_
  refine x_iadd G dL_law_1626 ?_
  refine x_sld G hb170 hX hbl hbA (lv_at6 (k := 1) hn hL (by omega) rfl) dL_law_1627 ?_
  refine x_aload_n G dL_law_1628 rfl rfl ?_
  refine x_iload G dL_law_1629 rfl ?_
  refine x_iconst G (v := 2) dL_law_1631 (by decide) ?_
  refine x_iadd G dL_law_1632 ?_
  refine x_sld G hb170 hX hbl hbA (lv_at6 (k := 2) hn hL (by omega) rfl) dL_law_1633 ?_
  refine x_virI G (As := [.int (xs (Int32.toNatClampNeg (iN (6 * n) + (1 : Int32)))), .int (xs (Int32.toNatClampNeg (iN (6 * n) + (2 : Int32))))]) (mX11_inForce G.2.2.2.2.2.2.1 M h1) mv_L_176 (kd0 M) cl11 rfl rfl rfl rfl rfl dL_law_1634 ?_
  refine x_aload_n G dL_law_1637 rfl rfl ?_
  refine x_aload_n G dL_law_1638 rfl rfl ?_
  refine x_iload G dL_law_1639 rfl ?_
  refine x_iconst G (v := 1) dL_law_1641 (by decide) ?_
  refine x_iadd G dL_law_1642 ?_
  refine x_sld G hb170 hX hbl hbA (lv_at6 (k := 1) hn hL (by omega) rfl) dL_law_1643 ?_
  refine x_aload_n G dL_law_1644 rfl rfl ?_
  refine x_iload G dL_law_1645 rfl ?_
  refine x_iconst G (v := 2) dL_law_1647 (by decide) ?_
  refine x_iadd G dL_law_1648 ?_
  refine x_sld G hb170 hX hbl hbA (lv_at6 (k := 2) hn hL (by omega) rfl) dL_law_1649 ?_
  refine x_virI G (As := [.int (xs (Int32.toNatClampNeg (iN (6 * n) + (1 : Int32)))), .int (xs (Int32.toNatClampNeg (iN (6 * n) + (2 : Int32))))]) (mX12_inForce G.2.2.2.2.2.2.1 M h2) mv_L_179 (kd148 M) cl12 rfl rfl rfl rfl rfl dL_law_1650 ?_
  refine x_icmpeq (α := Unit) (A := some ()) (B := none) (r := ()) G dL_law_1653 (tgt := 2201) (by decide) (if_pos rfl) (fun _ _ => ?_) (fun _ h => by cases h)
  exact kk K w2 (LV n) rfl rfl (B.fl h6).up h5 (KPs.rf K)
set_option maxHeartbeats 4000000 in
theorem lc_holds {I : Nat → Wd → Prop} (hm : LMath I) {K : KT} {b L n : Nat} {xs : Nat → Int32} {w : Wd} (B : LB K b L xs n w) (hn : 6 * n + 6 ≤ L) (hi : I n w) (kk : ∀ (K' : KT) (w' : Wd) (lv : List (Option Value)), lv.take 5 = LV5 n → lv.length = 8 → LB K' b L xs (n + 1) w' → I (n + 1) w' → KPs K K' → XW K' 2201 lv [] w') : XW K 1658 (LV n) [] w := by
  have hL := B.2.2.2.1.2.2.2.2.2
  have hn5 : n < 512 := by omega
  have hr := B.room hn5
  have G := B.1.1
  have M := B.1.2.1
  obtain ⟨hst, hb170, hX, hbl, hbA, -⟩ := B.2.2.2.1
  obtain ⟨r, w1, w2, h1, h2, h5, h6, h7⟩ := lm_holds hm n w (xs (Int32.toNatClampNeg (iN (6 * n) + (1 : Int32)))) (xs (Int32.toNatClampNeg (iN (6 * n) + (2 : Int32)))) hn5 hi
  refine x_aload_n G dL_law_1658 rfl rfl ?_
  refine x_aload_n G dL_law_1659 rfl rfl ?_
  refine x_iload G dL_law_1660 rfl ?_
  refine x_iconst G (v := 1) dL_law_1662 (by decide) ?_
  refine x_iadd G dL_law_1663 ?_
  refine x_sld G hb170 hX hbl hbA (lv_at6 (k := 1) hn hL (by omega) rfl) dL_law_1664 ?_
  refine x_aload_n G dL_law_1665 rfl rfl ?_
  refine x_iload G dL_law_1666 rfl ?_
  refine x_iconst G (v := 2) dL_law_1668 (by decide) ?_
  refine x_iadd G dL_law_1669 ?_
  refine x_sld G hb170 hX hbl hbA (lv_at6 (k := 2) hn hL (by omega) rfl) dL_law_1670 ?_
  refine x_virI G (As := [.int (xs (Int32.toNatClampNeg (iN (6 * n) + (1 : Int32)))), .int (xs (Int32.toNatClampNeg (iN (6 * n) + (2 : Int32))))]) (mX11_holds G.2.2.2.2.2.2.1 M h1) mv_L_180 (kd0 M) cl11 rfl rfl rfl rfl rfl dL_law_1671 ?_
  refine x_aload_n G dL_law_1674 rfl rfl ?_
  refine x_aload_n G dL_law_1675 rfl rfl ?_
  refine x_iload G dL_law_1676 rfl ?_
  refine x_iconst G (v := 1) dL_law_1678 (by decide) ?_
  refine x_iadd G dL_law_1679 ?_
  refine x_sld G hb170 hX hbl hbA (lv_at6 (k := 1) hn hL (by omega) rfl) dL_law_1680 ?_
  refine x_aload_n G dL_law_1681 rfl rfl ?_
  refine x_iload G dL_law_1682 rfl ?_
  refine x_iconst G (v := 2) dL_law_1684 (by decide) ?_
  refine x_iadd G dL_law_1685 ?_
  refine x_sld G hb170 hX hbl hbA (lv_at6 (k := 2) hn hL (by omega) rfl) dL_law_1686 ?_
  refine x_virI G (As := [.int (xs (Int32.toNatClampNeg (iN (6 * n) + (1 : Int32)))), .int (xs (Int32.toNatClampNeg (iN (6 * n) + (2 : Int32))))]) (mX12_holds G.2.2.2.2.2.2.1 M h2) mv_L_183 (kd148 M) cl12 rfl rfl rfl rfl rfl dL_law_1687 ?_
  refine x_icmpeq (α := Unit) (A := some ()) (B := none) (r := ()) G dL_law_1690 (tgt := 2201) (by decide) (if_pos rfl) (fun _ _ => ?_) (fun _ h => by cases h)
  exact kk K w2 (LV n) rfl rfl ((B.fl h6).fl h7).up h5 (KPs.rf K)
set_option maxHeartbeats 4000000 in
theorem lc_best {I : Nat → Wd → Prop} (hm : LMath I) {K : KT} {b L n : Nat} {xs : Nat → Int32} {w : Wd} (B : LB K b L xs n w) (hn : 6 * n + 6 ≤ L) (hi : I n w) (kk : ∀ (K' : KT) (w' : Wd) (lv : List (Option Value)), lv.take 5 = LV5 n → lv.length = 8 → LB K' b L xs (n + 1) w' → I (n + 1) w' → KPs K K' → XW K' 2201 lv [] w') : XW K 1695 (LV n) [] w := by
  have hL := B.2.2.2.1.2.2.2.2.2
  have hn5 : n < 512 := by omega
  have hr := B.room hn5
  have G := B.1.1
  have M := B.1.2.1
  obtain ⟨hst, hb170, hX, hbl, hbA, -⟩ := B.2.2.2.1
  obtain ⟨r, w1, w2, h1, h2, h5, h6, h7⟩ := lm_best hm n w (xs (Int32.toNatClampNeg (iN (6 * n) + (1 : Int32)))) (xs (Int32.toNatClampNeg (iN (6 * n) + (2 : Int32)))) hn5 hi
  refine x_aload_n G dL_law_1695 rfl rfl ?_
  refine x_aload_n G dL_law_1696 rfl rfl ?_
  refine x_iload G dL_law_1697 rfl ?_
  refine x_iconst G (v := 1) dL_law_1699 (by decide) ?_
  refine x_iadd G dL_law_1700 ?_
  refine x_sld G hb170 hX hbl hbA (lv_at6 (k := 1) hn hL (by omega) rfl) dL_law_1701 ?_
  refine x_aload_n G dL_law_1702 rfl rfl ?_
  refine x_iload G dL_law_1703 rfl ?_
  refine x_iconst G (v := 2) dL_law_1705 (by decide) ?_
  refine x_iadd G dL_law_1706 ?_
  refine x_sld G hb170 hX hbl hbA (lv_at6 (k := 2) hn hL (by omega) rfl) dL_law_1707 ?_
  refine x_virI G (As := [.int (xs (Int32.toNatClampNeg (iN (6 * n) + (1 : Int32)))), .int (xs (Int32.toNatClampNeg (iN (6 * n) + (2 : Int32))))]) (mX11_best G.2.2.2.2.2.2.1 M h1) mv_L_184 (kd0 M) cl11 rfl rfl rfl rfl rfl dL_law_1708 ?_
  refine x_aload_n G dL_law_1711 rfl rfl ?_
  refine x_aload_n G dL_law_1712 rfl rfl ?_
  refine x_iload G dL_law_1713 rfl ?_
  refine x_iconst G (v := 1) dL_law_1715 (by decide) ?_
  refine x_iadd G dL_law_1716 ?_
  refine x_sld G hb170 hX hbl hbA (lv_at6 (k := 1) hn hL (by omega) rfl) dL_law_1717 ?_
  refine x_aload_n G dL_law_1718 rfl rfl ?_
  refine x_iload G dL_law_1719 rfl ?_
  refine x_iconst G (v := 2) dL_law_1721 (by decide) ?_
  refine x_iadd G dL_law_1722 ?_
  refine x_sld G hb170 hX hbl hbA (lv_at6 (k := 2) hn hL (by omega) rfl) dL_law_1723 ?_
  refine x_virI G (As := [.int (xs (Int32.toNatClampNeg (iN (6 * n) + (1 : Int32)))), .int (xs (Int32.toNatClampNeg (iN (6 * n) + (2 : Int32))))]) (mX12_best G.2.2.2.2.2.2.1 M h2) mv_L_187 (kd148 M) cl12 rfl rfl rfl rfl rfl dL_law_1724 ?_
  refine x_icmpeq (α := Unit) (A := some ()) (B := none) (r := ()) G dL_law_1727 (tgt := 2201) (by decide) (if_pos rfl) (fun _ _ => ?_) (fun _ h => by cases h)
  exact kk K w2 (LV n) rfl rfl ((B.fl h6).fl h7).up h5 (KPs.rf K)
set_option maxHeartbeats 4000000 in
theorem lc_judge {I : Nat → Wd → Prop} (hm : LMath I) {K : KT} {b L n : Nat} {xs : Nat → Int32} {w : Wd} (B : LB K b L xs n w) (hn : 6 * n + 6 ≤ L) (hi : I n w) (kk : ∀ (K' : KT) (w' : Wd) (lv : List (Option Value)), lv.take 5 = LV5 n → lv.length = 8 → LB K' b L xs (n + 1) w' → I (n + 1) w' → KPs K K' → XW K' 2201 lv [] w') : XW K 1732 (LV n) [] w := by
  have hL := B.2.2.2.1.2.2.2.2.2
  have hn5 : n < 512 := by omega
  have hr := B.room hn5
  have G := B.1.1
  have M := B.1.2.1
  obtain ⟨hst, hb170, hX, hbl, hbA, -⟩ := B.2.2.2.1
  obtain ⟨r, w1, w2, h1, h2, h5, h6, h7⟩ := lm_judge hm n w (xs (Int32.toNatClampNeg (iN (6 * n) + (1 : Int32)))) (xs (Int32.toNatClampNeg (iN (6 * n) + (2 : Int32)))) hn5 hi
  refine x_aload_n G dL_law_1732 rfl rfl ?_
  refine x_aload_n G dL_law_1733 rfl rfl ?_
  refine x_iload G dL_law_1734 rfl ?_
  refine x_iconst G (v := 1) dL_law_1736 (by decide) ?_
  refine x_iadd G dL_law_1737 ?_
  refine x_sld G hb170 hX hbl hbA (lv_at6 (k := 1) hn hL (by omega) rfl) dL_law_1738 ?_
  refine x_aload_n G dL_law_1739 rfl rfl ?_
  refine x_iload G dL_law_1740 rfl ?_
  refine x_iconst G (v := 2) dL_law_1742 (by decide) ?_
  refine x_iadd G dL_law_1743 ?_
  refine x_sld G hb170 hX hbl hbA (lv_at6 (k := 2) hn hL (by omega) rfl) dL_law_1744 ?_
  refine x_virI G (As := [.int (xs (Int32.toNatClampNeg (iN (6 * n) + (1 : Int32)))), .int (xs (Int32.toNatClampNeg (iN (6 * n) + (2 : Int32))))]) (mX11_judge G.2.2.2.2.2.2.1 M h1) mv_L_188 (kd0 M) cl11 rfl rfl rfl rfl rfl dL_law_1745 ?_
  refine x_aload_n G dL_law_1748 rfl rfl ?_
  refine x_aload_n G dL_law_1749 rfl rfl ?_
  refine x_iload G dL_law_1750 rfl ?_
  refine x_iconst G (v := 1) dL_law_1752 (by decide) ?_
  refine x_iadd G dL_law_1753 ?_
  refine x_sld G hb170 hX hbl hbA (lv_at6 (k := 1) hn hL (by omega) rfl) dL_law_1754 ?_
  refine x_aload_n G dL_law_1755 rfl rfl ?_
  refine x_iload G dL_law_1756 rfl ?_
  refine x_iconst G (v := 2) dL_law_1758 (by decide) ?_
  refine x_iadd G dL_law_1759 ?_
  refine x_sld G hb170 hX hbl hbA (lv_at6 (k := 2) hn hL (by omega) rfl) dL_law_1760 ?_
  refine x_virI G (As := [.int (xs (Int32.toNatClampNeg (iN (6 * n) + (1 : Int32)))), .int (xs (Int32.toNatClampNeg (iN (6 * n) + (2 : Int32))))]) (mX12_judge G.2.2.2.2.2.2.1 M h2) mv_L_191 (kd148 M) cl12 rfl rfl rfl rfl rfl dL_law_1761 ?_
  refine x_icmpeq (α := Unit) (A := some ()) (B := none) (r := ()) G dL_law_1764 (tgt := 2201) (by decide) (if_pos rfl) (fun _ _ => ?_) (fun _ h => by cases h)
  exact kk K w2 (LV n) rfl rfl ((B.fl h6).fl h7).up h5 (KPs.rf K)
set_option maxHeartbeats 4000000 in
theorem lc_share {I : Nat → Wd → Prop} (hm : LMath I) {K : KT} {b L n : Nat} {xs : Nat → Int32} {w : Wd} (B : LB K b L xs n w) (hn : 6 * n + 6 ≤ L) (hi : I n w) (kk : ∀ (K' : KT) (w' : Wd) (lv : List (Option Value)), lv.take 5 = LV5 n → lv.length = 8 → LB K' b L xs (n + 1) w' → I (n + 1) w' → KPs K K' → XW K' 2201 lv [] w') : XW K 1769 (LV n) [] w := by
  have hL := B.2.2.2.1.2.2.2.2.2
  have hn5 : n < 512 := by omega
  have hr := B.room hn5
  have G := B.1.1
  have M := B.1.2.1
  obtain ⟨hst, hb170, hX, hbl, hbA, -⟩ := B.2.2.2.1
  obtain ⟨r, w1, w2, h1, h2, h5, h6, h7⟩ := lm_share hm n w (xs (Int32.toNatClampNeg (iN (6 * n) + (1 : Int32)))) (xs (Int32.toNatClampNeg (iN (6 * n) + (2 : Int32)))) hn5 hi
  refine x_aload_n G dL_law_1769 rfl rfl ?_
  refine x_aload_n G dL_law_1770 rfl rfl ?_
  refine x_iload G dL_law_1771 rfl ?_
  refine x_iconst G (v := 1) dL_law_1773 (by decide) ?_
  refine x_iadd G dL_law_1774 ?_
  refine x_sld G hb170 hX hbl hbA (lv_at6 (k := 1) hn hL (by omega) rfl) dL_law_1775 ?_
  refine x_aload_n G dL_law_1776 rfl rfl ?_
  refine x_iload G dL_law_1777 rfl ?_
  refine x_iconst G (v := 2) dL_law_1779 (by decide) ?_
  refine x_iadd G dL_law_1780 ?_
  refine x_sld G hb170 hX hbl hbA (lv_at6 (k := 2) hn hL (by omega) rfl) dL_law_1781 ?_
  refine x_virI G (As := [.int (xs (Int32.toNatClampNeg (iN (6 * n) + (1 : Int32)))), .int (xs (Int32.toNatClampNeg (iN (6 * n) + (2 : Int32))))]) (mX11_share G.2.2.2.2.2.2.1 M h1) mv_L_192 (kd0 M) cl11 rfl rfl rfl rfl rfl dL_law_1782 ?_
  refine x_aload_n G dL_law_1785 rfl rfl ?_
  refine x_aload_n G dL_law_1786 rfl rfl ?_
  refine x_iload G dL_law_1787 rfl ?_
  refine x_iconst G (v := 1) dL_law_1789 (by decide) ?_
  refine x_iadd G dL_law_1790 ?_
  refine x_sld G hb170 hX hbl hbA (lv_at6 (k := 1) hn hL (by omega) rfl) dL_law_1791 ?_
  refine x_aload_n G dL_law_1792 rfl rfl ?_
  refine x_iload G dL_law_1793 rfl ?_
  refine x_iconst G (v := 2) dL_law_1795 (by decide) ?_
  refine x_iadd G dL_law_1796 ?_
  refine x_sld G hb170 hX hbl hbA (lv_at6 (k := 2) hn hL (by omega) rfl) dL_law_1797 ?_
  refine x_virI G (As := [.int (xs (Int32.toNatClampNeg (iN (6 * n) + (1 : Int32)))), .int (xs (Int32.toNatClampNeg (iN (6 * n) + (2 : Int32))))]) (mX12_share G.2.2.2.2.2.2.1 M h2) mv_L_195 (kd148 M) cl12 rfl rfl rfl rfl rfl dL_law_1798 ?_
  refine x_icmpeq (α := Unit) (A := some ()) (B := none) (r := ()) G dL_law_1801 (tgt := 2201) (by decide) (if_pos rfl) (fun _ _ => ?_) (fun _ h => by cases h)
  exact kk K w2 (LV n) rfl rfl ((B.fl h6).fl h7).up h5 (KPs.rf K)
set_option maxHeartbeats 4000000 in
theorem lc_tape {I : Nat → Wd → Prop} (hm : LMath I) {K : KT} {b L n : Nat} {xs : Nat → Int32} {w : Wd} (B : LB K b L xs n w) (hn : 6 * n + 6 ≤ L) (hi : I n w) (kk : ∀ (K' : KT) (w' : Wd) (lv : List (Option Value)), lv.take 5 = LV5 n → lv.length = 8 → LB K' b L xs (n + 1) w' → I (n + 1) w' → KPs K K' → XW K' 2201 lv [] w') : XW K 1806 (LV n) [] w := by
  have hL := B.2.2.2.1.2.2.2.2.2
  have hn5 : n < 512 := by omega
  have hr := B.room hn5
  have G := B.1.1
  have M := B.1.2.1
  obtain ⟨hst, hb170, hX, hbl, hbA, -⟩ := B.2.2.2.1
  obtain ⟨r, w1, w2, h1, h2, h5, h6, h7⟩ := lm_tape hm n w (xs (Int32.toNatClampNeg (iN (6 * n) + (1 : Int32)))) (xs (Int32.toNatClampNeg (iN (6 * n) + (2 : Int32)))) (xs (Int32.toNatClampNeg (iN (6 * n) + (3 : Int32)))) hn5 hi
  refine x_aload_n G dL_law_1806 rfl rfl ?_
  refine x_aload_n G dL_law_1807 rfl rfl ?_
  refine x_iload G dL_law_1808 rfl ?_
  refine x_iconst G (v := 1) dL_law_1810 (by decide) ?_
  refine x_iadd G dL_law_1811 ?_
  refine x_sld G hb170 hX hbl hbA (lv_at6 (k := 1) hn hL (by omega) rfl) dL_law_1812 ?_
  refine x_aload_n G dL_law_1813 rfl rfl ?_
  refine x_iload G dL_law_1814 rfl ?_
  refine x_iconst G (v := 2) dL_law_1816 (by decide) ?_
  refine x_iadd G dL_law_1817 ?_
  refine x_sld G hb170 hX hbl hbA (lv_at6 (k := 2) hn hL (by omega) rfl) dL_law_1818 ?_
  refine x_aload_n G dL_law_1819 rfl rfl ?_
  refine x_iload G dL_law_1820 rfl ?_
  refine x_iconst G (v := 3) dL_law_1822 (by decide) ?_
  refine x_iadd G dL_law_1823 ?_
  refine x_sld G hb170 hX hbl hbA (lv_at6 (k := 3) hn hL (by omega) rfl) dL_law_1824 ?_
  refine x_virI G (As := [.int (xs (Int32.toNatClampNeg (iN (6 * n) + (1 : Int32)))), .int (xs (Int32.toNatClampNeg (iN (6 * n) + (2 : Int32)))), .int (xs (Int32.toNatClampNeg (iN (6 * n) + (3 : Int32))))]) (mX11_tape G.2.2.2.2.2.2.1 M h1) mv_L_196 (kd0 M) cl11 rfl rfl rfl rfl rfl dL_law_1825 ?_
  refine x_aload_n G dL_law_1828 rfl rfl ?_
  refine x_aload_n G dL_law_1829 rfl rfl ?_
  refine x_iload G dL_law_1830 rfl ?_
  refine x_iconst G (v := 1) dL_law_1832 (by decide) ?_
  refine x_iadd G dL_law_1833 ?_
  refine x_sld G hb170 hX hbl hbA (lv_at6 (k := 1) hn hL (by omega) rfl) dL_law_1834 ?_
  refine x_aload_n G dL_law_1835 rfl rfl ?_
  refine x_iload G dL_law_1836 rfl ?_
  refine x_iconst G (v := 2) dL_law_1838 (by decide) ?_
  refine x_iadd G dL_law_1839 ?_
  refine x_sld G hb170 hX hbl hbA (lv_at6 (k := 2) hn hL (by omega) rfl) dL_law_1840 ?_
  refine x_aload_n G dL_law_1841 rfl rfl ?_
  refine x_iload G dL_law_1842 rfl ?_
  refine x_iconst G (v := 3) dL_law_1844 (by decide) ?_
  refine x_iadd G dL_law_1845 ?_
  refine x_sld G hb170 hX hbl hbA (lv_at6 (k := 3) hn hL (by omega) rfl) dL_law_1846 ?_
  refine x_virI G (As := [.int (xs (Int32.toNatClampNeg (iN (6 * n) + (1 : Int32)))), .int (xs (Int32.toNatClampNeg (iN (6 * n) + (2 : Int32)))), .int (xs (Int32.toNatClampNeg (iN (6 * n) + (3 : Int32))))]) (mX12_tape G.2.2.2.2.2.2.1 M h2) mv_L_199 (kd148 M) cl12 rfl rfl rfl rfl rfl dL_law_1847 ?_
  refine x_icmpeq (α := Unit) (A := some ()) (B := none) (r := ()) G dL_law_1850 (tgt := 2201) (by decide) (if_pos rfl) (fun _ _ => ?_) (fun _ h => by cases h)
  exact kk K w2 (LV n) rfl rfl ((B.fl h6).fl h7).up h5 (KPs.rf K)
set_option maxHeartbeats 4000000 in
theorem lc_keep {I : Nat → Wd → Prop} (hm : LMath I) {K : KT} {b L n : Nat} {xs : Nat → Int32} {w : Wd} (B : LB K b L xs n w) (hn : 6 * n + 6 ≤ L) (hi : I n w) (kk : ∀ (K' : KT) (w' : Wd) (lv : List (Option Value)), lv.take 5 = LV5 n → lv.length = 8 → LB K' b L xs (n + 1) w' → I (n + 1) w' → KPs K K' → XW K' 2201 lv [] w') : XW K 1855 (LV n) [] w := by
  have hL := B.2.2.2.1.2.2.2.2.2
  have hn5 : n < 512 := by omega
  have hr := B.room hn5
  have G := B.1.1
  have M := B.1.2.1
  obtain ⟨hst, hb170, hX, hbl, hbA, -⟩ := B.2.2.2.1
  obtain ⟨r, w1, w2, h1, h2, h5, h6⟩ := lm_keep hm n w (xs (Int32.toNatClampNeg (iN (6 * n) + (1 : Int32)))) hn5 hi
  refine x_aload_n G dL_law_1855 rfl rfl ?_
  refine x_aload_n G dL_law_1856 rfl rfl ?_
  refine x_iload G dL_law_1857 rfl ?_
  refine x_iconst G (v := 1) dL_law_1859 (by decide) ?_
  refine x_iadd G dL_law_1860 ?_
  refine x_sld G hb170 hX hbl hbA (lv_at6 (k := 1) hn hL (by omega) rfl) dL_law_1861 ?_
  refine x_keep G B.1.2.2.2.2 M B.2.1.1 B.2.1.2.1 B.2.1.2.2 h1 mv_L_200 rfl rfl rfl dL_law_1862 (by omega) (by omega) (fun v hv => noV_LV (by omega)) rfl (fun S' sz hsz hP G2 => ?_)
  obtain ⟨B2, hs2⟩ := B.keep hP hsz G2 hr.2.2
  have M2 := B2.1.2.1
  have hb2 := B2.2.2.2.1.2.1
  refine x_aload_n G2 dL_law_1865 rfl rfl ?_
  refine x_aload_n G2 dL_law_1866 rfl rfl ?_
  refine x_iload G2 dL_law_1867 rfl ?_
  refine x_iconst G2 (v := 1) dL_law_1869 (by decide) ?_
  refine x_iadd G2 dL_law_1870 ?_
  refine x_sld G2 hb2 hX hbl hbA (lv_at6 (k := 1) hn hL (by omega) rfl) dL_law_1871 ?_
  refine x_virI G2 (As := [.int (xs (Int32.toNatClampNeg (iN (6 * n) + (1 : Int32))))]) (mX12_keep G2.2.2.2.2.2.2.1 M2 h2) mv_L_203 (kd148 M2) cl12 rfl rfl rfl rfl rfl dL_law_1872 ?_
  refine x_icmpeq (α := Unit) (A := some ()) (B := none) (r := ()) G2 dL_law_1875 (tgt := 2201) (by decide) (if_pos rfl) (fun _ _ => ?_) (fun _ h => by cases h)
  exact kk _ w2 (LV n) rfl rfl (B2.fl h6) h5 hs2
set_option maxHeartbeats 4000000 in
theorem lc_back {I : Nat → Wd → Prop} (hm : LMath I) {K : KT} {b L n : Nat} {xs : Nat → Int32} {w : Wd} (B : LB K b L xs n w) (hn : 6 * n + 6 ≤ L) (hi : I n w) (kk : ∀ (K' : KT) (w' : Wd) (lv : List (Option Value)), lv.take 5 = LV5 n → lv.length = 8 → LB K' b L xs (n + 1) w' → I (n + 1) w' → KPs K K' → XW K' 2201 lv [] w') : XW K 1880 (LV n) [] w := by
  have hL := B.2.2.2.1.2.2.2.2.2
  have hn5 : n < 512 := by omega
  have hr := B.room hn5
  have G := B.1.1
  have M := B.1.2.1
  obtain ⟨hst, hb170, hX, hbl, hbA, -⟩ := B.2.2.2.1
  obtain ⟨r, w1, w2, h1, h2, h5, h6, h7⟩ := lm_back hm n w (xs (Int32.toNatClampNeg (iN (6 * n) + (1 : Int32)))) hn5 hi
  refine x_aload_n G dL_law_1880 rfl rfl ?_
  refine x_aload_n G dL_law_1881 rfl rfl ?_
  refine x_iload G dL_law_1882 rfl ?_
  refine x_iconst G (v := 1) dL_law_1884 (by decide) ?_
  refine x_iadd G dL_law_1885 ?_
  refine x_sld G hb170 hX hbl hbA (lv_at6 (k := 1) hn hL (by omega) rfl) dL_law_1886 ?_
  refine x_virI G (As := [.int (xs (Int32.toNatClampNeg (iN (6 * n) + (1 : Int32))))]) (mX11_back G.2.2.2.2.2.2.1 M B.2.1.1 h1) mv_L_204 (kd0 M) cl11 rfl rfl rfl rfl rfl dL_law_1887 ?_
  refine x_aload_n G dL_law_1890 rfl rfl ?_
  refine x_aload_n G dL_law_1891 rfl rfl ?_
  refine x_iload G dL_law_1892 rfl ?_
  refine x_iconst G (v := 1) dL_law_1894 (by decide) ?_
  refine x_iadd G dL_law_1895 ?_
  refine x_sld G hb170 hX hbl hbA (lv_at6 (k := 1) hn hL (by omega) rfl) dL_law_1896 ?_
  refine x_virI G (As := [.int (xs (Int32.toNatClampNeg (iN (6 * n) + (1 : Int32))))]) (mX12_back G.2.2.2.2.2.2.1 M h2) mv_L_207 (kd148 M) cl12 rfl rfl rfl rfl rfl dL_law_1897 ?_
  refine x_icmpeq (α := Unit) (A := some ()) (B := none) (r := ()) G dL_law_1900 (tgt := 2201) (by decide) (if_pos rfl) (fun _ _ => ?_) (fun _ h => by cases h)
  exact kk K w2 (LV n) rfl rfl ((B.fl h6).fl h7).up h5 (KPs.rf K)
set_option maxHeartbeats 4000000 in
theorem lc_toss {I : Nat → Wd → Prop} (hm : LMath I) {K : KT} {b L n : Nat} {xs : Nat → Int32} {w : Wd} (B : LB K b L xs n w) (hn : 6 * n + 6 ≤ L) (hi : I n w) (kk : ∀ (K' : KT) (w' : Wd) (lv : List (Option Value)), lv.take 5 = LV5 n → lv.length = 8 → LB K' b L xs (n + 1) w' → I (n + 1) w' → KPs K K' → XW K' 2201 lv [] w') : XW K 1905 (LV n) [] w := by
  have hL := B.2.2.2.1.2.2.2.2.2
  have hn5 : n < 512 := by omega
  have hr := B.room hn5
  have G := B.1.1
  have M := B.1.2.1
  obtain ⟨hst, hb170, hX, hbl, hbA, -⟩ := B.2.2.2.1
  obtain ⟨r, w1, w2, h1, h2, h5, h6, h7⟩ := lm_toss hm n w (xs (Int32.toNatClampNeg (iN (6 * n) + (1 : Int32)))) hn5 hi
  refine x_aload_n G dL_law_1905 rfl rfl ?_
  refine x_aload_n G dL_law_1906 rfl rfl ?_
  refine x_iload G dL_law_1907 rfl ?_
  refine x_iconst G (v := 1) dL_law_1909 (by decide) ?_
  refine x_iadd G dL_law_1910 ?_
  refine x_sld G hb170 hX hbl hbA (lv_at6 (k := 1) hn hL (by omega) rfl) dL_law_1911 ?_
  refine x_virI G (As := [.int (xs (Int32.toNatClampNeg (iN (6 * n) + (1 : Int32))))]) (mX11_toss G.2.2.2.2.2.2.1 M B.2.1.1 h1) mv_L_208 (kd0 M) cl11 rfl rfl rfl rfl rfl dL_law_1912 ?_
  refine x_aload_n G dL_law_1915 rfl rfl ?_
  refine x_aload_n G dL_law_1916 rfl rfl ?_
  refine x_iload G dL_law_1917 rfl ?_
  refine x_iconst G (v := 1) dL_law_1919 (by decide) ?_
  refine x_iadd G dL_law_1920 ?_
  refine x_sld G hb170 hX hbl hbA (lv_at6 (k := 1) hn hL (by omega) rfl) dL_law_1921 ?_
  refine x_virI G (As := [.int (xs (Int32.toNatClampNeg (iN (6 * n) + (1 : Int32))))]) (mX12_toss G.2.2.2.2.2.2.1 M h2) mv_L_211 (kd148 M) cl12 rfl rfl rfl rfl rfl dL_law_1922 ?_
  refine x_icmpeq (α := Unit) (A := some ()) (B := none) (r := ()) G dL_law_1925 (tgt := 2201) (by decide) (if_pos rfl) (fun _ _ => ?_) (fun _ h => by cases h)
  exact kk K w2 (LV n) rfl rfl ((B.fl h6).fl h7).up h5 (KPs.rf K)
set_option maxHeartbeats 4000000 in
theorem lc_clear {I : Nat → Wd → Prop} (hm : LMath I) {K : KT} {b L n : Nat} {xs : Nat → Int32} {w : Wd} (B : LB K b L xs n w) (hn : 6 * n + 6 ≤ L) (hi : I n w) (kk : ∀ (K' : KT) (w' : Wd) (lv : List (Option Value)), lv.take 5 = LV5 n → lv.length = 8 → LB K' b L xs (n + 1) w' → I (n + 1) w' → KPs K K' → XW K' 2201 lv [] w') : XW K 1930 (LV n) [] w := by
  have hL := B.2.2.2.1.2.2.2.2.2
  have hn5 : n < 512 := by omega
  have hr := B.room hn5
  have G := B.1.1
  have M := B.1.2.1
  obtain ⟨hst, hb170, hX, hbl, hbA, -⟩ := B.2.2.2.1
  obtain ⟨r, w1, w2, h1, h2, h5, h6, h7⟩ := lm_clear hm n w (xs (Int32.toNatClampNeg (iN (6 * n) + (1 : Int32)))) hn5 hi
  refine x_aload_n G dL_law_1930 rfl rfl ?_
  refine x_aload_n G dL_law_1931 rfl rfl ?_
  refine x_iload G dL_law_1932 rfl ?_
  refine x_iconst G (v := 1) dL_law_1934 (by decide) ?_
  refine x_iadd G dL_law_1935 ?_
  refine x_sld G hb170 hX hbl hbA (lv_at6 (k := 1) hn hL (by omega) rfl) dL_law_1936 ?_
  refine x_virI G (As := [.int (xs (Int32.toNatClampNeg (iN (6 * n) + (1 : Int32))))]) (mX11_clear G.2.2.2.2.2.2.1 M h1) mv_L_212 (kd0 M) cl11 rfl rfl rfl rfl rfl dL_law_1937 ?_
  refine x_aload_n G dL_law_1940 rfl rfl ?_
  refine x_aload_n G dL_law_1941 rfl rfl ?_
  refine x_iload G dL_law_1942 rfl ?_
  refine x_iconst G (v := 1) dL_law_1944 (by decide) ?_
  refine x_iadd G dL_law_1945 ?_
  refine x_sld G hb170 hX hbl hbA (lv_at6 (k := 1) hn hL (by omega) rfl) dL_law_1946 ?_
  refine x_virI G (As := [.int (xs (Int32.toNatClampNeg (iN (6 * n) + (1 : Int32))))]) (mX12_clear G.2.2.2.2.2.2.1 M h2) mv_L_215 (kd148 M) cl12 rfl rfl rfl rfl rfl dL_law_1947 ?_
  refine x_icmpeq (α := Unit) (A := some ()) (B := none) (r := ()) G dL_law_1950 (tgt := 2201) (by decide) (if_pos rfl) (fun _ _ => ?_) (fun _ h => by cases h)
  exact kk K w2 (LV n) rfl rfl ((B.fl h6).fl h7).up h5 (KPs.rf K)
set_option maxHeartbeats 4000000 in
theorem lc_put {I : Nat → Wd → Prop} (hm : LMath I) {K : KT} {b L n : Nat} {xs : Nat → Int32} {w : Wd} (B : LB K b L xs n w) (hn : 6 * n + 6 ≤ L) (hi : I n w) (kk : ∀ (K' : KT) (w' : Wd) (lv : List (Option Value)), lv.take 5 = LV5 n → lv.length = 8 → LB K' b L xs (n + 1) w' → I (n + 1) w' → KPs K K' → XW K' 2201 lv [] w') : XW K 1955 (LV n) [] w := by
  have hL := B.2.2.2.1.2.2.2.2.2
  have hn5 : n < 512 := by omega
  have hr := B.room hn5
  have G := B.1.1
  have M := B.1.2.1
  obtain ⟨hst, hb170, hX, hbl, hbA, -⟩ := B.2.2.2.1
  obtain ⟨r, w1, w2, h1, h2, h5, h6, h7⟩ := lm_put hm n w (xs (Int32.toNatClampNeg (iN (6 * n) + (1 : Int32)))) (xs (Int32.toNatClampNeg (iN (6 * n) + (2 : Int32)))) ((((xs (Int32.toNatClampNeg (iN (6 * n) + (3 : Int32)))).toInt64 <<< (Int32.toInt64 (32 : Int32) &&& 63)) ||| ((xs (Int32.toNatClampNeg (iN (6 * n) + (4 : Int32)))).toInt64 &&& (4294967295 : Int64)))) hn5 hi
  refine x_aload_n G dL_law_1955 rfl rfl ?_
  refine x_aload_n G dL_law_1956 rfl rfl ?_
  refine x_iload G dL_law_1957 rfl ?_
  refine x_iconst G (v := 1) dL_law_1959 (by decide) ?_
  refine x_iadd G dL_law_1960 ?_
  refine x_sld G hb170 hX hbl hbA (lv_at6 (k := 1) hn hL (by omega) rfl) dL_law_1961 ?_
  refine x_aload_n G dL_law_1962 rfl rfl ?_
  refine x_iload G dL_law_1963 rfl ?_
  refine x_iconst G (v := 2) dL_law_1965 (by decide) ?_
  refine x_iadd G dL_law_1966 ?_
  refine x_sld G hb170 hX hbl hbA (lv_at6 (k := 2) hn hL (by omega) rfl) dL_law_1967 ?_
  refine x_aload_n G dL_law_1968 rfl rfl ?_
  refine x_iload G dL_law_1969 rfl ?_
  refine x_iconst G (v := 3) dL_law_1971 (by decide) ?_
  refine x_iadd G dL_law_1972 ?_
  refine x_sld G hb170 hX hbl hbA (lv_at6 (k := 3) hn hL (by omega) rfl) dL_law_1973 ?_
  refine x_i2l G dL_law_1974 ?_
  refine x_bipush G (v := 32) dL_law_1975 (by decide) ?_
  refine x_lshl G dL_law_1977 ?_
  refine x_aload_n G dL_law_1978 rfl rfl ?_
  refine x_iload G dL_law_1979 rfl ?_
  refine x_iconst G (v := 4) dL_law_1981 (by decide) ?_
  refine x_iadd G dL_law_1982 ?_
  refine x_sld G hb170 hX hbl hbA (lv_at6 (k := 4) hn hL (by omega) rfl) dL_law_1983 ?_
  refine x_i2l G dL_law_1984 ?_
  refine x_ldc2 G wl_L_216 dL_law_1985 ?_
  refine x_land G dL_law_1988 ?_
  refine x_lor G dL_law_1989 ?_
  refine x_virI G (As := [.int (xs (Int32.toNatClampNeg (iN (6 * n) + (1 : Int32)))), .int (xs (Int32.toNatClampNeg (iN (6 * n) + (2 : Int32)))), .long ((((xs (Int32.toNatClampNeg (iN (6 * n) + (3 : Int32)))).toInt64 <<< (Int32.toInt64 (32 : Int32) &&& 63)) ||| ((xs (Int32.toNatClampNeg (iN (6 * n) + (4 : Int32)))).toInt64 &&& (4294967295 : Int64))))]) (mX11_put G.2.2.2.2.2.2.1 M h1) mv_L_218 (kd0 M) cl11 rfl rfl rfl rfl rfl dL_law_1990 ?_
  refine x_aload_n G dL_law_1993 rfl rfl ?_
  refine x_aload_n G dL_law_1994 rfl rfl ?_
  refine x_iload G dL_law_1995 rfl ?_
  refine x_iconst G (v := 1) dL_law_1997 (by decide) ?_
  refine x_iadd G dL_law_1998 ?_
  refine x_sld G hb170 hX hbl hbA (lv_at6 (k := 1) hn hL (by omega) rfl) dL_law_1999 ?_
  refine x_aload_n G dL_law_2000 rfl rfl ?_
  refine x_iload G dL_law_2001 rfl ?_
  refine x_iconst G (v := 2) dL_law_2003 (by decide) ?_
  refine x_iadd G dL_law_2004 ?_
  refine x_sld G hb170 hX hbl hbA (lv_at6 (k := 2) hn hL (by omega) rfl) dL_law_2005 ?_
  refine x_aload_n G dL_law_2006 rfl rfl ?_
  refine x_iload G dL_law_2007 rfl ?_
  refine x_iconst G (v := 3) dL_law_2009 (by decide) ?_
  refine x_iadd G dL_law_2010 ?_
  refine x_sld G hb170 hX hbl hbA (lv_at6 (k := 3) hn hL (by omega) rfl) dL_law_2011 ?_
  refine x_i2l G dL_law_2012 ?_
  refine x_bipush G (v := 32) dL_law_2013 (by decide) ?_
  refine x_lshl G dL_law_2015 ?_
  refine x_aload_n G dL_law_2016 rfl rfl ?_
  refine x_iload G dL_law_2017 rfl ?_
  refine x_iconst G (v := 4) dL_law_2019 (by decide) ?_
  refine x_iadd G dL_law_2020 ?_
  refine x_sld G hb170 hX hbl hbA (lv_at6 (k := 4) hn hL (by omega) rfl) dL_law_2021 ?_
  refine x_i2l G dL_law_2022 ?_
  refine x_ldc2 G wl_L_216 dL_law_2023 ?_
  refine x_land G dL_law_2026 ?_
  refine x_lor G dL_law_2027 ?_
  refine x_virI G (As := [.int (xs (Int32.toNatClampNeg (iN (6 * n) + (1 : Int32)))), .int (xs (Int32.toNatClampNeg (iN (6 * n) + (2 : Int32)))), .long ((((xs (Int32.toNatClampNeg (iN (6 * n) + (3 : Int32)))).toInt64 <<< (Int32.toInt64 (32 : Int32) &&& 63)) ||| ((xs (Int32.toNatClampNeg (iN (6 * n) + (4 : Int32)))).toInt64 &&& (4294967295 : Int64))))]) (mX12_put G.2.2.2.2.2.2.1 M h2) mv_L_222 (kd148 M) cl12 rfl rfl rfl rfl rfl dL_law_2028 ?_
  refine x_icmpeq (α := Unit) (A := some ()) (B := none) (r := ()) G dL_law_2031 (tgt := 2201) (by decide) (if_pos rfl) (fun _ _ => ?_) (fun _ h => by cases h)
  exact kk K w2 (LV n) rfl rfl ((B.fl h6).fl h7).up h5 (KPs.rf K)
set_option maxHeartbeats 4000000 in
theorem lc_at {I : Nat → Wd → Prop} (hm : LMath I) {K : KT} {b L n : Nat} {xs : Nat → Int32} {w : Wd} (B : LB K b L xs n w) (hn : 6 * n + 6 ≤ L) (hi : I n w) (kk : ∀ (K' : KT) (w' : Wd) (lv : List (Option Value)), lv.take 5 = LV5 n → lv.length = 8 → LB K' b L xs (n + 1) w' → I (n + 1) w' → KPs K K' → XW K' 2201 lv [] w') : XW K 2036 (LV n) [] w := by
  have hL := B.2.2.2.1.2.2.2.2.2
  have hn5 : n < 512 := by omega
  have hr := B.room hn5
  have G := B.1.1
  have M := B.1.2.1
  obtain ⟨hst, hb170, hX, hbl, hbA, -⟩ := B.2.2.2.1
  obtain ⟨o, r, w2, h1, h2, h3, h4, h5, h6⟩ := lm_at hm n w (xs (Int32.toNatClampNeg (iN (6 * n) + (1 : Int32)))) (xs (Int32.toNatClampNeg (iN (6 * n) + (2 : Int32)))) hn5 hi
  refine x_aload_n G dL_law_2036 rfl rfl ?_
  refine x_aload_n G dL_law_2037 rfl rfl ?_
  refine x_iload G dL_law_2038 rfl ?_
  refine x_iconst G (v := 1) dL_law_2040 (by decide) ?_
  refine x_iadd G dL_law_2041 ?_
  refine x_sld G hb170 hX hbl hbA (lv_at6 (k := 1) hn hL (by omega) rfl) dL_law_2042 ?_
  refine x_aload_n G dL_law_2043 rfl rfl ?_
  refine x_iload G dL_law_2044 rfl ?_
  refine x_iconst G (v := 2) dL_law_2046 (by decide) ?_
  refine x_iadd G dL_law_2047 ?_
  refine x_sld G hb170 hX hbl hbA (lv_at6 (k := 2) hn hL (by omega) rfl) dL_law_2048 ?_
  refine x_aload_n G dL_law_2049 rfl rfl ?_
  refine xh_sta G (As := [.ref 0, .int (xs (Int32.toNatClampNeg (iN (6 * n) + (1 : Int32)))), .int (xs (Int32.toNatClampNeg (iN (6 * n) + (2 : Int32)))), .ref 169]) (r := oJ o) (mL_at hst G.2.2.2.2.2.2.1 M B.1.2.2.1 h1) mh_RL_223 rfl rfl rfl rfl rfl dL_law_2050 (by omega) (by omega) ?_
  have G2 := G.kn (by omega) (by omega)
  refine x_istore G2 (lv' := LV5 n ++ [some (.int (oJ o).1), none, none]) dL_law_2053 rfl rfl rfl ?_
  refine x_aload_n G2 dL_law_2055 rfl rfl ?_
  refine x_aload_n G2 dL_law_2056 rfl rfl ?_
  refine x_iload G2 dL_law_2057 rfl ?_
  refine x_iconst G2 (v := 1) dL_law_2059 (by decide) ?_
  refine x_iadd G2 dL_law_2060 ?_
  refine x_sld G2 hb170 hX hbl hbA (lv_at6 (k := 1) hn hL (by omega) rfl) dL_law_2061 ?_
  refine x_aload_n G2 dL_law_2062 rfl rfl ?_
  refine x_iload G2 dL_law_2063 rfl ?_
  refine x_iconst G2 (v := 2) dL_law_2065 (by decide) ?_
  refine x_iadd G2 dL_law_2066 ?_
  refine x_sld G2 hb170 hX hbl hbA (lv_at6 (k := 2) hn hL (by omega) rfl) dL_law_2067 ?_
  refine x_virJ G2 (As := [.int (xs (Int32.toNatClampNeg (iN (6 * n) + (1 : Int32)))), .int (xs (Int32.toNatClampNeg (iN (6 * n) + (2 : Int32))))]) (mX12_at G2.2.2.2.2.2.2.1 M h2) mv_L_225 (kd148 M) cl12 rfl rfl rfl rfl rfl dL_law_2068 ?_
  refine x_lstore G2 (lv' := LV5 n ++ [some (.int (oJ o).1), some (.long r), none]) dL_law_2071 rfl rfl rfl ?_
  refine x_aload_n G2 dL_law_2073 rfl rfl ?_
  refine x_virI G2 (r0 := w2.1 148 0) (As := []) (mX12_thrown G2.2.2.2.2.2.2.1 M rfl) mv_L_51 (kd148 M) cl12 rfl rfl rfl rfl rfl dL_law_2074 ?_
  refine x_iload G2 dL_law_2077 rfl ?_
  refine x_icmpeq (α := Unit) (A := some ()) (B := none) (r := ()) G2 dL_law_2079 (tgt := 2084) (by decide) (if_pos h3) (fun _ _ => ?_) (fun _ h => by cases h)
  refine x_iload G2 dL_law_2084 rfl ?_
  have fin : ∀ lv : List (Option Value), lv.take 5 = LV5 n → lv.length = 8 → XW (Kn K K.ks (K.cells + 1) (K.slots + 6)) 2201 lv [] w2 := fun lv e1 e2 => kk _ w2 lv e1 e2 (B.kn G2 hr h6) h5 (KPs.kn K)
  refine x_ifne (α := Unit) (A := some ()) (B := some ()) (r := ()) G2 dL_law_2086 (tgt := 2100) (by decide) (by split <;> rfl) (fun he _ => ?_) (fun _ _ => x_goto G2 (tgt := 2201) dL_law_2100 (by decide) (fin _ rfl rfl))
  obtain ⟨x, hx⟩ := oJ_inl he
  obtain ⟨e1, e2⟩ := h4 x hx
  refine x_aload_n G2 dL_law_2089 rfl rfl ?_
  refine x_iconst G2 (v := 0) dL_law_2090 (by decide) ?_
  refine x_lald0 G2 B.1.2.2.1 dL_law_2091 (by decide) ?_
  refine x_lload G2 dL_law_2092 rfl ?_
  refine x_lcmp G2 dL_law_2094 ?_
  refine x_ifeq (α := Unit) (A := some ()) (B := none) (r := ()) G2 dL_law_2095 (tgt := 2100) (by decide) (if_pos (by rw [show rl w2 169 (0 : Int32) = w2.2 169 0 from rfl, e1, e2]; exact cmp_self _)) (fun _ _ => ?_) (fun _ h => by cases h)
  exact x_goto G2 (tgt := 2201) dL_law_2100 (by decide) (fin _ rfl rfl)
set_option maxHeartbeats 4000000 in
theorem lc_copy {I : Nat → Wd → Prop} (hm : LMath I) {K : KT} {b L n : Nat} {xs : Nat → Int32} {w : Wd} (B : LB K b L xs n w) (hn : 6 * n + 6 ≤ L) (hi : I n w) (kk : ∀ (K' : KT) (w' : Wd) (lv : List (Option Value)), lv.take 5 = LV5 n → lv.length = 8 → LB K' b L xs (n + 1) w' → I (n + 1) w' → KPs K K' → XW K' 2201 lv [] w') : XW K 2103 (LV n) [] w := by
  have hL := B.2.2.2.1.2.2.2.2.2
  have hn5 : n < 512 := by omega
  have hr := B.room hn5
  have G := B.1.1
  have M := B.1.2.1
  obtain ⟨hst, hb170, hX, hbl, hbA, -⟩ := B.2.2.2.1
  obtain ⟨r, w1, w2, h1, h2, h5, h6, h7⟩ := lm_copy hm n w (xs (Int32.toNatClampNeg (iN (6 * n) + (1 : Int32)))) (xs (Int32.toNatClampNeg (iN (6 * n) + (2 : Int32)))) (xs (Int32.toNatClampNeg (iN (6 * n) + (3 : Int32)))) (xs (Int32.toNatClampNeg (iN (6 * n) + (4 : Int32)))) (xs (Int32.toNatClampNeg (iN (6 * n) + (5 : Int32)))) hn5 hi
  refine x_aload_n G dL_law_2103 rfl rfl ?_
  refine x_aload_n G dL_law_2104 rfl rfl ?_
  refine x_iload G dL_law_2105 rfl ?_
  refine x_iconst G (v := 1) dL_law_2107 (by decide) ?_
  refine x_iadd G dL_law_2108 ?_
  refine x_sld G hb170 hX hbl hbA (lv_at6 (k := 1) hn hL (by omega) rfl) dL_law_2109 ?_
  refine x_aload_n G dL_law_2110 rfl rfl ?_
  refine x_iload G dL_law_2111 rfl ?_
  refine x_iconst G (v := 2) dL_law_2113 (by decide) ?_
  refine x_iadd G dL_law_2114 ?_
  refine x_sld G hb170 hX hbl hbA (lv_at6 (k := 2) hn hL (by omega) rfl) dL_law_2115 ?_
  refine x_aload_n G dL_law_2116 rfl rfl ?_
  refine x_iload G dL_law_2117 rfl ?_
  refine x_iconst G (v := 3) dL_law_2119 (by decide) ?_
  refine x_iadd G dL_law_2120 ?_
  refine x_sld G hb170 hX hbl hbA (lv_at6 (k := 3) hn hL (by omega) rfl) dL_law_2121 ?_
  refine x_aload_n G dL_law_2122 rfl rfl ?_
  refine x_iload G dL_law_2123 rfl ?_
  refine x_iconst G (v := 4) dL_law_2125 (by decide) ?_
  refine x_iadd G dL_law_2126 ?_
  refine x_sld G hb170 hX hbl hbA (lv_at6 (k := 4) hn hL (by omega) rfl) dL_law_2127 ?_
  refine x_aload_n G dL_law_2128 rfl rfl ?_
  refine x_iload G dL_law_2129 rfl ?_
  refine x_iconst G (v := 5) dL_law_2131 (by decide) ?_
  refine x_iadd G dL_law_2132 ?_
  refine x_sld G hb170 hX hbl hbA (lv_at6 (k := 5) hn hL (by omega) rfl) dL_law_2133 ?_
  refine x_virI G (As := [.int (xs (Int32.toNatClampNeg (iN (6 * n) + (1 : Int32)))), .int (xs (Int32.toNatClampNeg (iN (6 * n) + (2 : Int32)))), .int (xs (Int32.toNatClampNeg (iN (6 * n) + (3 : Int32)))), .int (xs (Int32.toNatClampNeg (iN (6 * n) + (4 : Int32)))), .int (xs (Int32.toNatClampNeg (iN (6 * n) + (5 : Int32))))]) (mX11_copy G.2.2.2.2.2.2.1 M h1) mv_L_226 (kd0 M) cl11 rfl rfl rfl rfl rfl dL_law_2134 ?_
  refine x_aload_n G dL_law_2137 rfl rfl ?_
  refine x_aload_n G dL_law_2138 rfl rfl ?_
  refine x_iload G dL_law_2139 rfl ?_
  refine x_iconst G (v := 1) dL_law_2141 (by decide) ?_
  refine x_iadd G dL_law_2142 ?_
  refine x_sld G hb170 hX hbl hbA (lv_at6 (k := 1) hn hL (by omega) rfl) dL_law_2143 ?_
  refine x_aload_n G dL_law_2144 rfl rfl ?_
  refine x_iload G dL_law_2145 rfl ?_
  refine x_iconst G (v := 2) dL_law_2147 (by decide) ?_
  refine x_iadd G dL_law_2148 ?_
  refine x_sld G hb170 hX hbl hbA (lv_at6 (k := 2) hn hL (by omega) rfl) dL_law_2149 ?_
  refine x_aload_n G dL_law_2150 rfl rfl ?_
  refine x_iload G dL_law_2151 rfl ?_
  refine x_iconst G (v := 3) dL_law_2153 (by decide) ?_
  refine x_iadd G dL_law_2154 ?_
  refine x_sld G hb170 hX hbl hbA (lv_at6 (k := 3) hn hL (by omega) rfl) dL_law_2155 ?_
  refine x_aload_n G dL_law_2156 rfl rfl ?_
  refine x_iload G dL_law_2157 rfl ?_
  refine x_iconst G (v := 4) dL_law_2159 (by decide) ?_
  refine x_iadd G dL_law_2160 ?_
  refine x_sld G hb170 hX hbl hbA (lv_at6 (k := 4) hn hL (by omega) rfl) dL_law_2161 ?_
  refine x_aload_n G dL_law_2162 rfl rfl ?_
  refine x_iload G dL_law_2163 rfl ?_
  refine x_iconst G (v := 5) dL_law_2165 (by decide) ?_
  refine x_iadd G dL_law_2166 ?_
  refine x_sld G hb170 hX hbl hbA (lv_at6 (k := 5) hn hL (by omega) rfl) dL_law_2167 ?_
  refine x_virI G (As := [.int (xs (Int32.toNatClampNeg (iN (6 * n) + (1 : Int32)))), .int (xs (Int32.toNatClampNeg (iN (6 * n) + (2 : Int32)))), .int (xs (Int32.toNatClampNeg (iN (6 * n) + (3 : Int32)))), .int (xs (Int32.toNatClampNeg (iN (6 * n) + (4 : Int32)))), .int (xs (Int32.toNatClampNeg (iN (6 * n) + (5 : Int32))))]) (mX12_copy G.2.2.2.2.2.2.1 M h2) mv_L_230 (kd148 M) cl12 rfl rfl rfl rfl rfl dL_law_2168 ?_
  refine x_icmpeq (α := Unit) (A := some ()) (B := none) (r := ()) G dL_law_2171 (tgt := 2201) (by decide) (if_pos rfl) (fun _ _ => ?_) (fun _ h => by cases h)
  exact kk K w2 (LV n) rfl rfl ((B.fl h6).fl h7).up h5 (KPs.rf K)
set_option maxHeartbeats 4000000 in
theorem lc_count {I : Nat → Wd → Prop} (hm : LMath I) {K : KT} {b L n : Nat} {xs : Nat → Int32} {w : Wd} (B : LB K b L xs n w) (hn : 6 * n + 6 ≤ L) (hi : I n w) (kk : ∀ (K' : KT) (w' : Wd) (lv : List (Option Value)), lv.take 5 = LV5 n → lv.length = 8 → LB K' b L xs (n + 1) w' → I (n + 1) w' → KPs K K' → XW K' 2201 lv [] w') : XW K 2176 (LV n) [] w := by
  have hL := B.2.2.2.1.2.2.2.2.2
  have hn5 : n < 512 := by omega
  have hr := B.room hn5
  have G := B.1.1
  have M := B.1.2.1
  obtain ⟨hst, hb170, hX, hbl, hbA, -⟩ := B.2.2.2.1
  obtain ⟨r, w2, h1, h2, h5, h6⟩ := lm_count hm n w (xs (Int32.toNatClampNeg (iN (6 * n) + (1 : Int32)))) hn5 hi
  refine x_aload_n G dL_law_2176 rfl rfl ?_
  refine x_aload_n G dL_law_2177 rfl rfl ?_
  refine x_iload G dL_law_2178 rfl ?_
  refine x_iconst G (v := 1) dL_law_2180 (by decide) ?_
  refine x_iadd G dL_law_2181 ?_
  refine x_sld G hb170 hX hbl hbA (lv_at6 (k := 1) hn hL (by omega) rfl) dL_law_2182 ?_
  refine x_virI G (As := [.int (xs (Int32.toNatClampNeg (iN (6 * n) + (1 : Int32))))]) (mX11_count G.2.2.2.2.2.2.1 M h1) mv_L_231 (kd0 M) cl11 rfl rfl rfl rfl rfl dL_law_2183 ?_
  refine x_aload_n G dL_law_2186 rfl rfl ?_
  refine x_aload_n G dL_law_2187 rfl rfl ?_
  refine x_iload G dL_law_2188 rfl ?_
  refine x_iconst G (v := 1) dL_law_2190 (by decide) ?_
  refine x_iadd G dL_law_2191 ?_
  refine x_sld G hb170 hX hbl hbA (lv_at6 (k := 1) hn hL (by omega) rfl) dL_law_2192 ?_
  refine x_virI G (As := [.int (xs (Int32.toNatClampNeg (iN (6 * n) + (1 : Int32))))]) (mX12_count G.2.2.2.2.2.2.1 M h2) mv_L_234 (kd148 M) cl12 rfl rfl rfl rfl rfl dL_law_2193 ?_
  refine x_icmpeq (α := Unit) (A := some ()) (B := none) (r := ()) G dL_law_2196 (tgt := 2201) (by decide) (if_pos rfl) (fun _ _ => ?_) (fun _ h => by cases h)
  exact kk K w2 (LV n) rfl rfl (B.fl h6).up h5 (KPs.rf K)
