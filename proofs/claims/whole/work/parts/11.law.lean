set_option maxHeartbeats 4000000 in
set_option maxRecDepth 100000 in
theorem q_0 {K : zCx} {w : zWd} {l : Launch} (O : zOk K w code "SluiceStreamLaw" 7 10 376) (hl0 : kl K = l) (hfl : l.stackTraces = false) (hX : zXs K w) {b L : Nat} {xs : Nat → Int32} (hscr : zScr K b L xs) {i a1 a2 : Int32} (h1 : vp_in (i + 1) L ∧ xs (i + 1).toNatClampNeg = a1) (h2 : vp_in (i + 2) L ∧ xs (i + 2).toNatClampNeg = a2) (hroom : kce K + 1 ≤ (kR K).cells ∧ ksl K + 6 ≤ (kR K).slots) {σ : zSt} (ko : kq_0 σ a1 a2) (kk : Z (kup K) w (nx_0 σ a1 a2) [(0, .ref b), (1, .ref (zq w 0)), (2, .ref (zq w 13)), (3, .ref (zq w 25)), (4, .int i)] [] 1576) : Z K w σ [(0, .ref b), (1, .ref (zq w 0)), (2, .ref (zq w 13)), (3, .ref (zq w 25)), (4, .int i)] [] 224 := by
  unfold kq_0 at ko
  refine z_aload_n O zd_L_law_224 rfl 1 rfl ?_
  refine z_aload_n O zd_L_law_225 rfl 0 rfl ?_
  refine z_iload O zd_L_law_226 4 rfl ?_
  refine z_iconst O (v := 1) zd_L_law_228 (by decide) ?_
  refine z_iadd O zd_L_law_229 ?_
  refine z_sld O hscr h1.1 h1.2 zd_L_law_230 ?_
  refine z_aload_n O zd_L_law_231 rfl 0 rfl ?_
  refine z_iload O zd_L_law_232 4 rfl ?_
  refine z_iconst O (v := 2) zd_L_law_234 (by decide) ?_
  refine z_iadd O zd_L_law_235 ?_
  refine z_sld O hscr h2.1 h2.2 zd_L_law_236 ?_
  refine z_aload_n O zd_L_law_237 rfl 3 rfl ?_
  refine z_callw O hl0 hX (st := []) (c_L_write l hfl w σ a1 a2 ko.1) zlw_write rfl rfl (Nat.le_of_ble_eq_true rfl) (Nat.le_of_ble_eq_true rfl) (Nat.le_of_ble_eq_true rfl) hroom.1 hroom.2 zd_L_law_238 (fun k u e1 => ?_)
  have ko := ko.2 k u e1
  have O := zOk_up O hroom.1 hroom.2
  refine z_istore O (lv' := [(5, .int k), (0, .ref b), (1, .ref (zq w 0)), (2, .ref (zq w 13)), (3, .ref (zq w 25)), (4, .int i)]) zd_L_law_241 (Nat.le_of_ble_eq_true rfl) rfl ?_
  refine z_aload_n O zd_L_law_243 rfl 3 rfl ?_
  refine z_aload_n O zd_L_law_244 rfl 1 rfl ?_
  refine z_iload O zd_L_law_245 5 rfl ?_
  refine z_iconst O (v := 1) zd_L_law_247 (by decide) ?_
  refine z_iadd O zd_L_law_248 ?_
  refine z_sld O hscr h1.1 h1.2 zd_L_law_249 ?_
  refine z_aload_n O zd_L_law_250 rfl 1 rfl ?_
  refine z_iload O zd_L_law_251 5 rfl ?_
  refine z_iconst O (v := 2) zd_L_law_253 (by decide) ?_
  refine z_iadd O zd_L_law_254 ?_
  refine z_sld O hscr h2.1 h2.2 zd_L_law_255 ?_
  refine z_calli (K := kup K) O hl0 (st := []) 13 6 (fs := zo13 w u) rfl rfl (c_M_write l w u a1 a2 ko.1) zl_L_82 zm860 zm861 rfl rfl (Nat.le_of_ble_eq_true rfl) (Nat.le_of_ble_eq_true rfl) (Nat.le_of_ble_eq_true rfl) zd_L_law_256 (fun r u2 e2 => ?_)
  have ko := ko.2 r u2 e2
  refine z_istore O (lv' := [(6, .int r), (5, .int k), (0, .ref b), (1, .ref (zq w 0)), (2, .ref (zq w 13)), (3, .ref (zq w 25)), (4, .int i)]) zd_L_law_259 (Nat.le_of_ble_eq_true rfl) rfl ?_
  refine z_aload_n O zd_L_law_261 rfl 4 rfl ?_
  refine z_callri (K := kup K) O hl0 (st := []) 13 6 (fs := zo13 w u2) rfl rfl (c_M_thrown l w u2) zl_L_83 zm856 zm857 rfl rfl (Nat.le_of_ble_eq_true rfl) (Nat.le_of_ble_eq_true rfl) (Nat.le_of_ble_eq_true rfl) zd_L_law_262 (fun t e3 => ?_)
  refine z_iload O zd_L_law_265 1 rfl ?_
  have hu : u2 = nx_0 σ a1 a2 := by unfold nx_0; rw [← e1]; show u2 = (f_M_write u a1 a2).2; rw [← e2]
  refine z_icmp_eq O (tgt := 272) zd_L_law_267 (by decide) (fun _ => ?_) (fun c => absurd (e3.trans ko.1) c)
  refine z_iload O zd_L_law_272 1 rfl ?_
  refine z_if_ne O (tgt := 289) zd_L_law_274 (by decide) (fun c => ?_) (fun c => ?_)
  · refine z_goto O (tgt := 1576) zd_L_law_289 (by decide) ?_
    refine z_sub (lv' := [(0, .ref b), (1, .ref (zq w 0)), (2, .ref (zq w 13)), (3, .ref (zq w 25)), (4, .int i)]) [2, 3, 4, 5, 6] rfl ?_
    rw [hu]; exact kk
  · refine z_aload_n O zd_L_law_277 rfl 5 rfl ?_
    refine z_iconst O (v := 0) zd_L_law_278 (by decide) ?_
    refine z_lald O zd_L_law_279 ?_
    refine z_iload O zd_L_law_280 0 rfl ?_
    refine z_i2l O zd_L_law_282 ?_
    refine z_lcmp O (by rw [ko.2 c]) zd_L_law_283 ?_
    refine z_if_eq O (tgt := 289) zd_L_law_284 (by decide) (fun _ => ?_) (fun c => absurd rfl c)
    refine z_goto O (tgt := 1576) zd_L_law_289 (by decide) ?_
    refine z_sub (lv' := [(0, .ref b), (1, .ref (zq w 0)), (2, .ref (zq w 13)), (3, .ref (zq w 25)), (4, .int i)]) [2, 3, 4, 5, 6] rfl ?_
    rw [hu]; exact kk
set_option maxHeartbeats 4000000 in
set_option maxRecDepth 100000 in
theorem q_1 {K : zCx} {w : zWd} {l : Launch} (O : zOk K w code "SluiceStreamLaw" 7 10 376) (hl0 : kl K = l) (hfl : l.stackTraces = false) (hX : zXs K w) {b L : Nat} {xs : Nat → Int32} (hscr : zScr K b L xs) {i a1 a2 : Int32} (h1 : vp_in (i + 1) L ∧ xs (i + 1).toNatClampNeg = a1) (h2 : vp_in (i + 2) L ∧ xs (i + 2).toNatClampNeg = a2) (hroom : kce K + 1 ≤ (kR K).cells ∧ ksl K + 6 ≤ (kR K).slots) {σ : zSt} (ko : kq_1 σ a1 a2) (kk : Z (kup K) w (nx_1 σ a1 a2) [(0, .ref b), (1, .ref (zq w 0)), (2, .ref (zq w 13)), (3, .ref (zq w 25)), (4, .int i)] [] 1576) : Z K w σ [(0, .ref b), (1, .ref (zq w 0)), (2, .ref (zq w 13)), (3, .ref (zq w 25)), (4, .int i)] [] 292 := by
  unfold kq_1 at ko
  refine z_aload_n O zd_L_law_292 rfl 1 rfl ?_
  refine z_calli O hl0 (st := []) 0 5 (fs := zo0 w σ) rfl rfl (c_X_read l w σ ko.1) zl_L_86 zm194 zm195 rfl rfl (Nat.le_of_ble_eq_true rfl) (Nat.le_of_ble_eq_true rfl) (Nat.le_of_ble_eq_true rfl) zd_L_law_293 (fun r u e1 => ?_)
  have ko := ko.2 r u e1
  refine z_aload_n O zd_L_law_296 rfl 2 rfl ?_
  refine z_calli O hl0 (st := [.int r]) 13 6 (fs := zo13 w u) rfl rfl (c_M_read l w u ko.1) zl_L_89 zm871 zm872 rfl rfl (Nat.le_of_ble_eq_true rfl) (Nat.le_of_ble_eq_true rfl) (Nat.le_of_ble_eq_true rfl) zd_L_law_297 (fun r2 u2 e2 => ?_)
  have ko := ko.2
  have hv : r = r2 := by rw [ko, ← e2]
  have hu : u2 = nx_1 σ a1 a2 := by unfold nx_1; rw [← e1]; show u2 = (f_M_read u).2; rw [← e2]
  subst hu
  exact z_icmp_eq O (tgt := 1576) zd_L_law_300 (by decide) (fun _ => z_up kk) (fun c => absurd hv c)
set_option maxHeartbeats 4000000 in
set_option maxRecDepth 100000 in
theorem q_2 {K : zCx} {w : zWd} {l : Launch} (O : zOk K w code "SluiceStreamLaw" 7 10 376) (hl0 : kl K = l) (hfl : l.stackTraces = false) (hX : zXs K w) {b L : Nat} {xs : Nat → Int32} (hscr : zScr K b L xs) {i a1 a2 : Int32} (h1 : vp_in (i + 1) L ∧ xs (i + 1).toNatClampNeg = a1) (h2 : vp_in (i + 2) L ∧ xs (i + 2).toNatClampNeg = a2) (hroom : kce K + 1 ≤ (kR K).cells ∧ ksl K + 6 ≤ (kR K).slots) {σ : zSt} (ko : kq_2 σ a1 a2) (kk : Z (kup K) w (nx_2 σ a1 a2) [(0, .ref b), (1, .ref (zq w 0)), (2, .ref (zq w 13)), (3, .ref (zq w 25)), (4, .int i)] [] 1576) : Z K w σ [(0, .ref b), (1, .ref (zq w 0)), (2, .ref (zq w 13)), (3, .ref (zq w 25)), (4, .int i)] [] 305 := by
  unfold kq_2 at ko
  refine z_aload_n O zd_L_law_305 rfl 1 rfl ?_
  refine z_aload_n O zd_L_law_306 rfl 0 rfl ?_
  refine z_iload O zd_L_law_307 4 rfl ?_
  refine z_iconst O (v := 1) zd_L_law_309 (by decide) ?_
  refine z_iadd O zd_L_law_310 ?_
  refine z_sld O hscr h1.1 h1.2 zd_L_law_311 ?_
  refine z_aload_n O zd_L_law_312 rfl 3 rfl ?_
  refine z_callw O hl0 hX (st := []) (c_L_setLimit l hfl w σ a1) zlw_setLimit rfl rfl (Nat.le_of_ble_eq_true rfl) (Nat.le_of_ble_eq_true rfl) (Nat.le_of_ble_eq_true rfl) hroom.1 hroom.2 zd_L_law_313 (fun k u e1 => ?_)
  have ko := ko k u e1
  have O := zOk_up O hroom.1 hroom.2
  refine z_istore O (lv' := [(5, .int k), (0, .ref b), (1, .ref (zq w 0)), (2, .ref (zq w 13)), (3, .ref (zq w 25)), (4, .int i)]) zd_L_law_316 (Nat.le_of_ble_eq_true rfl) rfl ?_
  refine z_aload_n O zd_L_law_318 rfl 3 rfl ?_
  refine z_aload_n O zd_L_law_319 rfl 1 rfl ?_
  refine z_iload O zd_L_law_320 5 rfl ?_
  refine z_iconst O (v := 1) zd_L_law_322 (by decide) ?_
  refine z_iadd O zd_L_law_323 ?_
  refine z_sld O hscr h1.1 h1.2 zd_L_law_324 ?_
  refine z_calli (K := kup K) O hl0 (st := []) 13 6 (fs := zo13 w u) rfl rfl (c_M_setLimit l w u a1) zl_L_93 zm902 zm903 rfl rfl (Nat.le_of_ble_eq_true rfl) (Nat.le_of_ble_eq_true rfl) (Nat.le_of_ble_eq_true rfl) zd_L_law_325 (fun r u2 e2 => ?_)
  have ko := ko r u2 e2
  refine z_istore O (lv' := [(6, .int r), (5, .int k), (0, .ref b), (1, .ref (zq w 0)), (2, .ref (zq w 13)), (3, .ref (zq w 25)), (4, .int i)]) zd_L_law_328 (Nat.le_of_ble_eq_true rfl) rfl ?_
  refine z_aload_n O zd_L_law_330 rfl 4 rfl ?_
  refine z_callri (K := kup K) O hl0 (st := []) 13 6 (fs := zo13 w u2) rfl rfl (c_M_thrown l w u2) zl_L_83 zm856 zm857 rfl rfl (Nat.le_of_ble_eq_true rfl) (Nat.le_of_ble_eq_true rfl) (Nat.le_of_ble_eq_true rfl) zd_L_law_331 (fun t e3 => ?_)
  refine z_iload O zd_L_law_334 1 rfl ?_
  have hu : u2 = nx_2 σ a1 a2 := by unfold nx_2; rw [← e1]; show u2 = (f_M_setLimit u a1).2; rw [← e2]
  refine z_icmp_eq O (tgt := 341) zd_L_law_336 (by decide) (fun _ => ?_) (fun c => absurd (e3.trans ko.1) c)
  refine z_iload O zd_L_law_341 1 rfl ?_
  refine z_if_ne O (tgt := 358) zd_L_law_343 (by decide) (fun c => ?_) (fun c => ?_)
  · refine z_goto O (tgt := 1576) zd_L_law_358 (by decide) ?_
    refine z_sub (lv' := [(0, .ref b), (1, .ref (zq w 0)), (2, .ref (zq w 13)), (3, .ref (zq w 25)), (4, .int i)]) [2, 3, 4, 5, 6] rfl ?_
    rw [hu]; exact kk
  · refine z_aload_n O zd_L_law_346 rfl 5 rfl ?_
    refine z_iconst O (v := 0) zd_L_law_347 (by decide) ?_
    refine z_lald O zd_L_law_348 ?_
    refine z_iload O zd_L_law_349 0 rfl ?_
    refine z_i2l O zd_L_law_351 ?_
    refine z_lcmp O (by rw [ko.2 c]) zd_L_law_352 ?_
    refine z_if_eq O (tgt := 358) zd_L_law_353 (by decide) (fun _ => ?_) (fun c => absurd rfl c)
    refine z_goto O (tgt := 1576) zd_L_law_358 (by decide) ?_
    refine z_sub (lv' := [(0, .ref b), (1, .ref (zq w 0)), (2, .ref (zq w 13)), (3, .ref (zq w 25)), (4, .int i)]) [2, 3, 4, 5, 6] rfl ?_
    rw [hu]; exact kk
set_option maxHeartbeats 4000000 in
set_option maxRecDepth 100000 in
theorem q_3 {K : zCx} {w : zWd} {l : Launch} (O : zOk K w code "SluiceStreamLaw" 7 10 376) (hl0 : kl K = l) (hfl : l.stackTraces = false) (hX : zXs K w) {b L : Nat} {xs : Nat → Int32} (hscr : zScr K b L xs) {i a1 a2 : Int32} (h1 : vp_in (i + 1) L ∧ xs (i + 1).toNatClampNeg = a1) (h2 : vp_in (i + 2) L ∧ xs (i + 2).toNatClampNeg = a2) (hroom : kce K + 1 ≤ (kR K).cells ∧ ksl K + 6 ≤ (kR K).slots) {σ : zSt} (ko : kq_3 σ a1 a2) (kk : Z (kup K) w (nx_3 σ a1 a2) [(0, .ref b), (1, .ref (zq w 0)), (2, .ref (zq w 13)), (3, .ref (zq w 25)), (4, .int i)] [] 1576) : Z K w σ [(0, .ref b), (1, .ref (zq w 0)), (2, .ref (zq w 13)), (3, .ref (zq w 25)), (4, .int i)] [] 361 := by
  unfold kq_3 at ko
  refine z_aload_n O zd_L_law_361 rfl 1 rfl ?_
  refine z_aload_n O zd_L_law_362 rfl 3 rfl ?_
  refine z_callw O hl0 hX (st := []) (c_L_send l hfl w σ ko.1) zlw_send rfl rfl (Nat.le_of_ble_eq_true rfl) (Nat.le_of_ble_eq_true rfl) (Nat.le_of_ble_eq_true rfl) hroom.1 hroom.2 zd_L_law_363 (fun k u e1 => ?_)
  have ko := ko.2 k u e1
  have O := zOk_up O hroom.1 hroom.2
  refine z_istore O (lv' := [(5, .int k), (0, .ref b), (1, .ref (zq w 0)), (2, .ref (zq w 13)), (3, .ref (zq w 25)), (4, .int i)]) zd_L_law_366 (Nat.le_of_ble_eq_true rfl) rfl ?_
  refine z_aload_n O zd_L_law_368 rfl 3 rfl ?_
  refine z_calli (K := kup K) O hl0 (st := []) 13 6 (fs := zo13 w u) rfl rfl (c_M_send l w u ko.1) zl_L_97 zm906 zm907 rfl rfl (Nat.le_of_ble_eq_true rfl) (Nat.le_of_ble_eq_true rfl) (Nat.le_of_ble_eq_true rfl) zd_L_law_369 (fun r u2 e2 => ?_)
  have ko := ko.2 r u2 e2
  refine z_istore O (lv' := [(6, .int r), (5, .int k), (0, .ref b), (1, .ref (zq w 0)), (2, .ref (zq w 13)), (3, .ref (zq w 25)), (4, .int i)]) zd_L_law_372 (Nat.le_of_ble_eq_true rfl) rfl ?_
  refine z_aload_n O zd_L_law_374 rfl 4 rfl ?_
  refine z_callri (K := kup K) O hl0 (st := []) 13 6 (fs := zo13 w u2) rfl rfl (c_M_thrown l w u2) zl_L_83 zm856 zm857 rfl rfl (Nat.le_of_ble_eq_true rfl) (Nat.le_of_ble_eq_true rfl) (Nat.le_of_ble_eq_true rfl) zd_L_law_375 (fun t e3 => ?_)
  refine z_iload O zd_L_law_378 1 rfl ?_
  have hu : u2 = nx_3 σ a1 a2 := by unfold nx_3; rw [← e1]; show u2 = (f_M_send u).2; rw [← e2]
  refine z_icmp_eq O (tgt := 385) zd_L_law_380 (by decide) (fun _ => ?_) (fun c => absurd (e3.trans ko.1) c)
  refine z_iload O zd_L_law_385 1 rfl ?_
  refine z_if_ne O (tgt := 402) zd_L_law_387 (by decide) (fun c => ?_) (fun c => ?_)
  · refine z_goto O (tgt := 1576) zd_L_law_402 (by decide) ?_
    refine z_sub (lv' := [(0, .ref b), (1, .ref (zq w 0)), (2, .ref (zq w 13)), (3, .ref (zq w 25)), (4, .int i)]) [2, 3, 4, 5, 6] rfl ?_
    rw [hu]; exact kk
  · refine z_aload_n O zd_L_law_390 rfl 5 rfl ?_
    refine z_iconst O (v := 0) zd_L_law_391 (by decide) ?_
    refine z_lald O zd_L_law_392 ?_
    refine z_iload O zd_L_law_393 0 rfl ?_
    refine z_i2l O zd_L_law_395 ?_
    refine z_lcmp O (by rw [ko.2 c]) zd_L_law_396 ?_
    refine z_if_eq O (tgt := 402) zd_L_law_397 (by decide) (fun _ => ?_) (fun c => absurd rfl c)
    refine z_goto O (tgt := 1576) zd_L_law_402 (by decide) ?_
    refine z_sub (lv' := [(0, .ref b), (1, .ref (zq w 0)), (2, .ref (zq w 13)), (3, .ref (zq w 25)), (4, .int i)]) [2, 3, 4, 5, 6] rfl ?_
    rw [hu]; exact kk
set_option maxHeartbeats 4000000 in
set_option maxRecDepth 100000 in
theorem q_4 {K : zCx} {w : zWd} {l : Launch} (O : zOk K w code "SluiceStreamLaw" 7 10 376) (hl0 : kl K = l) (hfl : l.stackTraces = false) (hX : zXs K w) {b L : Nat} {xs : Nat → Int32} (hscr : zScr K b L xs) {i a1 a2 : Int32} (h1 : vp_in (i + 1) L ∧ xs (i + 1).toNatClampNeg = a1) (h2 : vp_in (i + 2) L ∧ xs (i + 2).toNatClampNeg = a2) (hroom : kce K + 1 ≤ (kR K).cells ∧ ksl K + 6 ≤ (kR K).slots) {σ : zSt} (ko : kq_4 σ a1 a2) (kk : Z (kup K) w (nx_4 σ a1 a2) [(0, .ref b), (1, .ref (zq w 0)), (2, .ref (zq w 13)), (3, .ref (zq w 25)), (4, .int i)] [] 1576) : Z K w σ [(0, .ref b), (1, .ref (zq w 0)), (2, .ref (zq w 13)), (3, .ref (zq w 25)), (4, .int i)] [] 405 := by
  unfold kq_4 at ko
  refine z_aload_n O zd_L_law_405 rfl 1 rfl ?_
  refine z_aload_n O zd_L_law_406 rfl 0 rfl ?_
  refine z_iload O zd_L_law_407 4 rfl ?_
  refine z_iconst O (v := 1) zd_L_law_409 (by decide) ?_
  refine z_iadd O zd_L_law_410 ?_
  refine z_sld O hscr h1.1 h1.2 zd_L_law_411 ?_
  refine z_aload_n O zd_L_law_412 rfl 3 rfl ?_
  refine z_callw O hl0 hX (st := []) (c_L_tick l hfl w σ a1 ko.1) zlw_tick rfl rfl (Nat.le_of_ble_eq_true rfl) (Nat.le_of_ble_eq_true rfl) (Nat.le_of_ble_eq_true rfl) hroom.1 hroom.2 zd_L_law_413 (fun k u e1 => ?_)
  have ko := ko.2 k u e1
  have O := zOk_up O hroom.1 hroom.2
  refine z_istore O (lv' := [(5, .int k), (0, .ref b), (1, .ref (zq w 0)), (2, .ref (zq w 13)), (3, .ref (zq w 25)), (4, .int i)]) zd_L_law_416 (Nat.le_of_ble_eq_true rfl) rfl ?_
  refine z_aload_n O zd_L_law_418 rfl 3 rfl ?_
  refine z_aload_n O zd_L_law_419 rfl 1 rfl ?_
  refine z_iload O zd_L_law_420 5 rfl ?_
  refine z_iconst O (v := 1) zd_L_law_422 (by decide) ?_
  refine z_iadd O zd_L_law_423 ?_
  refine z_sld O hscr h1.1 h1.2 zd_L_law_424 ?_
  refine z_calli (K := kup K) O hl0 (st := []) 13 6 (fs := zo13 w u) rfl rfl (c_M_tick l w u a1 ko.1) zl_L_100 zm933 zm934 rfl rfl (Nat.le_of_ble_eq_true rfl) (Nat.le_of_ble_eq_true rfl) (Nat.le_of_ble_eq_true rfl) zd_L_law_425 (fun r u2 e2 => ?_)
  have ko := ko.2 r u2 e2
  refine z_istore O (lv' := [(6, .int r), (5, .int k), (0, .ref b), (1, .ref (zq w 0)), (2, .ref (zq w 13)), (3, .ref (zq w 25)), (4, .int i)]) zd_L_law_428 (Nat.le_of_ble_eq_true rfl) rfl ?_
  refine z_aload_n O zd_L_law_430 rfl 4 rfl ?_
  refine z_callri (K := kup K) O hl0 (st := []) 13 6 (fs := zo13 w u2) rfl rfl (c_M_thrown l w u2) zl_L_83 zm856 zm857 rfl rfl (Nat.le_of_ble_eq_true rfl) (Nat.le_of_ble_eq_true rfl) (Nat.le_of_ble_eq_true rfl) zd_L_law_431 (fun t e3 => ?_)
  refine z_iload O zd_L_law_434 1 rfl ?_
  have hu : u2 = nx_4 σ a1 a2 := by unfold nx_4; rw [← e1]; show u2 = (f_M_tick u a1).2; rw [← e2]
  refine z_icmp_eq O (tgt := 441) zd_L_law_436 (by decide) (fun _ => ?_) (fun c => absurd (e3.trans ko.1) c)
  refine z_iload O zd_L_law_441 1 rfl ?_
  refine z_if_ne O (tgt := 458) zd_L_law_443 (by decide) (fun c => ?_) (fun c => ?_)
  · refine z_goto O (tgt := 1576) zd_L_law_458 (by decide) ?_
    refine z_sub (lv' := [(0, .ref b), (1, .ref (zq w 0)), (2, .ref (zq w 13)), (3, .ref (zq w 25)), (4, .int i)]) [2, 3, 4, 5, 6] rfl ?_
    rw [hu]; exact kk
  · refine z_aload_n O zd_L_law_446 rfl 5 rfl ?_
    refine z_iconst O (v := 0) zd_L_law_447 (by decide) ?_
    refine z_lald O zd_L_law_448 ?_
    refine z_iload O zd_L_law_449 0 rfl ?_
    refine z_i2l O zd_L_law_451 ?_
    refine z_lcmp O (by rw [ko.2 c]) zd_L_law_452 ?_
    refine z_if_eq O (tgt := 458) zd_L_law_453 (by decide) (fun _ => ?_) (fun c => absurd rfl c)
    refine z_goto O (tgt := 1576) zd_L_law_458 (by decide) ?_
    refine z_sub (lv' := [(0, .ref b), (1, .ref (zq w 0)), (2, .ref (zq w 13)), (3, .ref (zq w 25)), (4, .int i)]) [2, 3, 4, 5, 6] rfl ?_
    rw [hu]; exact kk
set_option maxHeartbeats 4000000 in
set_option maxRecDepth 100000 in
theorem q_5 {K : zCx} {w : zWd} {l : Launch} (O : zOk K w code "SluiceStreamLaw" 7 10 376) (hl0 : kl K = l) (hfl : l.stackTraces = false) (hX : zXs K w) {b L : Nat} {xs : Nat → Int32} (hscr : zScr K b L xs) {i a1 a2 : Int32} (h1 : vp_in (i + 1) L ∧ xs (i + 1).toNatClampNeg = a1) (h2 : vp_in (i + 2) L ∧ xs (i + 2).toNatClampNeg = a2) (hroom : kce K + 1 ≤ (kR K).cells ∧ ksl K + 6 ≤ (kR K).slots) {σ : zSt} (ko : kq_5 σ a1 a2) (kk : Z (kup K) w (nx_5 σ a1 a2) [(0, .ref b), (1, .ref (zq w 0)), (2, .ref (zq w 13)), (3, .ref (zq w 25)), (4, .int i)] [] 1576) : Z K w σ [(0, .ref b), (1, .ref (zq w 0)), (2, .ref (zq w 13)), (3, .ref (zq w 25)), (4, .int i)] [] 461 := by
  unfold kq_5 at ko
  refine z_aload_n O zd_L_law_461 rfl 1 rfl ?_
  refine z_aload_n O zd_L_law_462 rfl 0 rfl ?_
  refine z_iload O zd_L_law_463 4 rfl ?_
  refine z_iconst O (v := 1) zd_L_law_465 (by decide) ?_
  refine z_iadd O zd_L_law_466 ?_
  refine z_sld O hscr h1.1 h1.2 zd_L_law_467 ?_
  refine z_aload_n O zd_L_law_468 rfl 3 rfl ?_
  refine z_callw O hl0 hX (st := []) (c_L_deliver l hfl w σ a1 ko.1) zlw_deliver rfl rfl (Nat.le_of_ble_eq_true rfl) (Nat.le_of_ble_eq_true rfl) (Nat.le_of_ble_eq_true rfl) hroom.1 hroom.2 zd_L_law_469 (fun k u e1 => ?_)
  have ko := ko.2 k u e1
  have O := zOk_up O hroom.1 hroom.2
  refine z_istore O (lv' := [(5, .int k), (0, .ref b), (1, .ref (zq w 0)), (2, .ref (zq w 13)), (3, .ref (zq w 25)), (4, .int i)]) zd_L_law_472 (Nat.le_of_ble_eq_true rfl) rfl ?_
  refine z_aload_n O zd_L_law_474 rfl 3 rfl ?_
  refine z_aload_n O zd_L_law_475 rfl 1 rfl ?_
  refine z_iload O zd_L_law_476 5 rfl ?_
  refine z_iconst O (v := 1) zd_L_law_478 (by decide) ?_
  refine z_iadd O zd_L_law_479 ?_
  refine z_sld O hscr h1.1 h1.2 zd_L_law_480 ?_
  refine z_calli (K := kup K) O hl0 (st := []) 13 6 (fs := zo13 w u) rfl rfl (c_M_deliver l w u a1 ko.1) zl_L_103 zm941 zm942 rfl rfl (Nat.le_of_ble_eq_true rfl) (Nat.le_of_ble_eq_true rfl) (Nat.le_of_ble_eq_true rfl) zd_L_law_481 (fun r u2 e2 => ?_)
  have ko := ko.2 r u2 e2
  refine z_istore O (lv' := [(6, .int r), (5, .int k), (0, .ref b), (1, .ref (zq w 0)), (2, .ref (zq w 13)), (3, .ref (zq w 25)), (4, .int i)]) zd_L_law_484 (Nat.le_of_ble_eq_true rfl) rfl ?_
  refine z_aload_n O zd_L_law_486 rfl 4 rfl ?_
  refine z_callri (K := kup K) O hl0 (st := []) 13 6 (fs := zo13 w u2) rfl rfl (c_M_thrown l w u2) zl_L_83 zm856 zm857 rfl rfl (Nat.le_of_ble_eq_true rfl) (Nat.le_of_ble_eq_true rfl) (Nat.le_of_ble_eq_true rfl) zd_L_law_487 (fun t e3 => ?_)
  refine z_iload O zd_L_law_490 1 rfl ?_
  have hu : u2 = nx_5 σ a1 a2 := by unfold nx_5; rw [← e1]; show u2 = (f_M_deliver u a1).2; rw [← e2]
  refine z_icmp_eq O (tgt := 497) zd_L_law_492 (by decide) (fun _ => ?_) (fun c => absurd (e3.trans ko.1) c)
  refine z_iload O zd_L_law_497 1 rfl ?_
  refine z_if_ne O (tgt := 514) zd_L_law_499 (by decide) (fun c => ?_) (fun c => ?_)
  · refine z_goto O (tgt := 1576) zd_L_law_514 (by decide) ?_
    refine z_sub (lv' := [(0, .ref b), (1, .ref (zq w 0)), (2, .ref (zq w 13)), (3, .ref (zq w 25)), (4, .int i)]) [2, 3, 4, 5, 6] rfl ?_
    rw [hu]; exact kk
  · refine z_aload_n O zd_L_law_502 rfl 5 rfl ?_
    refine z_iconst O (v := 0) zd_L_law_503 (by decide) ?_
    refine z_lald O zd_L_law_504 ?_
    refine z_iload O zd_L_law_505 0 rfl ?_
    refine z_i2l O zd_L_law_507 ?_
    refine z_lcmp O (by rw [ko.2 c]) zd_L_law_508 ?_
    refine z_if_eq O (tgt := 514) zd_L_law_509 (by decide) (fun _ => ?_) (fun c => absurd rfl c)
    refine z_goto O (tgt := 1576) zd_L_law_514 (by decide) ?_
    refine z_sub (lv' := [(0, .ref b), (1, .ref (zq w 0)), (2, .ref (zq w 13)), (3, .ref (zq w 25)), (4, .int i)]) [2, 3, 4, 5, 6] rfl ?_
    rw [hu]; exact kk
set_option maxHeartbeats 4000000 in
set_option maxRecDepth 100000 in
theorem q_6 {K : zCx} {w : zWd} {l : Launch} (O : zOk K w code "SluiceStreamLaw" 7 10 376) (hl0 : kl K = l) (hfl : l.stackTraces = false) (hX : zXs K w) {b L : Nat} {xs : Nat → Int32} (hscr : zScr K b L xs) {i a1 a2 : Int32} (h1 : vp_in (i + 1) L ∧ xs (i + 1).toNatClampNeg = a1) (h2 : vp_in (i + 2) L ∧ xs (i + 2).toNatClampNeg = a2) (hroom : kce K + 1 ≤ (kR K).cells ∧ ksl K + 6 ≤ (kR K).slots) {σ : zSt} (ko : kq_6 σ a1 a2) (kk : Z (kup K) w (nx_6 σ a1 a2) [(0, .ref b), (1, .ref (zq w 0)), (2, .ref (zq w 13)), (3, .ref (zq w 25)), (4, .int i)] [] 1576) : Z K w σ [(0, .ref b), (1, .ref (zq w 0)), (2, .ref (zq w 13)), (3, .ref (zq w 25)), (4, .int i)] [] 517 := by
  unfold kq_6 at ko
  refine z_aload_n O zd_L_law_517 rfl 1 rfl ?_
  refine z_aload_n O zd_L_law_518 rfl 0 rfl ?_
  refine z_iload O zd_L_law_519 4 rfl ?_
  refine z_iconst O (v := 1) zd_L_law_521 (by decide) ?_
  refine z_iadd O zd_L_law_522 ?_
  refine z_sld O hscr h1.1 h1.2 zd_L_law_523 ?_
  refine z_aload_n O zd_L_law_524 rfl 3 rfl ?_
  refine z_callw O hl0 hX (st := []) (c_L_lose l hfl w σ a1 ko.1) zlw_lose rfl rfl (Nat.le_of_ble_eq_true rfl) (Nat.le_of_ble_eq_true rfl) (Nat.le_of_ble_eq_true rfl) hroom.1 hroom.2 zd_L_law_525 (fun k u e1 => ?_)
  have ko := ko.2 k u e1
  have O := zOk_up O hroom.1 hroom.2
  refine z_istore O (lv' := [(5, .int k), (0, .ref b), (1, .ref (zq w 0)), (2, .ref (zq w 13)), (3, .ref (zq w 25)), (4, .int i)]) zd_L_law_528 (Nat.le_of_ble_eq_true rfl) rfl ?_
  refine z_aload_n O zd_L_law_530 rfl 3 rfl ?_
  refine z_aload_n O zd_L_law_531 rfl 1 rfl ?_
  refine z_iload O zd_L_law_532 5 rfl ?_
  refine z_iconst O (v := 1) zd_L_law_534 (by decide) ?_
  refine z_iadd O zd_L_law_535 ?_
  refine z_sld O hscr h1.1 h1.2 zd_L_law_536 ?_
  refine z_calli (K := kup K) O hl0 (st := []) 13 6 (fs := zo13 w u) rfl rfl (c_M_lose l w u a1 ko.1) zl_L_106 zm953 zm954 rfl rfl (Nat.le_of_ble_eq_true rfl) (Nat.le_of_ble_eq_true rfl) (Nat.le_of_ble_eq_true rfl) zd_L_law_537 (fun r u2 e2 => ?_)
  have ko := ko.2 r u2 e2
  refine z_istore O (lv' := [(6, .int r), (5, .int k), (0, .ref b), (1, .ref (zq w 0)), (2, .ref (zq w 13)), (3, .ref (zq w 25)), (4, .int i)]) zd_L_law_540 (Nat.le_of_ble_eq_true rfl) rfl ?_
  refine z_aload_n O zd_L_law_542 rfl 4 rfl ?_
  refine z_callri (K := kup K) O hl0 (st := []) 13 6 (fs := zo13 w u2) rfl rfl (c_M_thrown l w u2) zl_L_83 zm856 zm857 rfl rfl (Nat.le_of_ble_eq_true rfl) (Nat.le_of_ble_eq_true rfl) (Nat.le_of_ble_eq_true rfl) zd_L_law_543 (fun t e3 => ?_)
  refine z_iload O zd_L_law_546 1 rfl ?_
  have hu : u2 = nx_6 σ a1 a2 := by unfold nx_6; rw [← e1]; show u2 = (f_M_lose u a1).2; rw [← e2]
  refine z_icmp_eq O (tgt := 553) zd_L_law_548 (by decide) (fun _ => ?_) (fun c => absurd (e3.trans ko.1) c)
  refine z_iload O zd_L_law_553 1 rfl ?_
  refine z_if_ne O (tgt := 570) zd_L_law_555 (by decide) (fun c => ?_) (fun c => ?_)
  · refine z_goto O (tgt := 1576) zd_L_law_570 (by decide) ?_
    refine z_sub (lv' := [(0, .ref b), (1, .ref (zq w 0)), (2, .ref (zq w 13)), (3, .ref (zq w 25)), (4, .int i)]) [2, 3, 4, 5, 6] rfl ?_
    rw [hu]; exact kk
  · refine z_aload_n O zd_L_law_558 rfl 5 rfl ?_
    refine z_iconst O (v := 0) zd_L_law_559 (by decide) ?_
    refine z_lald O zd_L_law_560 ?_
    refine z_iload O zd_L_law_561 0 rfl ?_
    refine z_i2l O zd_L_law_563 ?_
    refine z_lcmp O (by rw [ko.2 c]) zd_L_law_564 ?_
    refine z_if_eq O (tgt := 570) zd_L_law_565 (by decide) (fun _ => ?_) (fun c => absurd rfl c)
    refine z_goto O (tgt := 1576) zd_L_law_570 (by decide) ?_
    refine z_sub (lv' := [(0, .ref b), (1, .ref (zq w 0)), (2, .ref (zq w 13)), (3, .ref (zq w 25)), (4, .int i)]) [2, 3, 4, 5, 6] rfl ?_
    rw [hu]; exact kk
set_option maxHeartbeats 4000000 in
set_option maxRecDepth 100000 in
theorem q_7 {K : zCx} {w : zWd} {l : Launch} (O : zOk K w code "SluiceStreamLaw" 7 10 376) (hl0 : kl K = l) (hfl : l.stackTraces = false) (hX : zXs K w) {b L : Nat} {xs : Nat → Int32} (hscr : zScr K b L xs) {i a1 a2 : Int32} (h1 : vp_in (i + 1) L ∧ xs (i + 1).toNatClampNeg = a1) (h2 : vp_in (i + 2) L ∧ xs (i + 2).toNatClampNeg = a2) (hroom : kce K + 1 ≤ (kR K).cells ∧ ksl K + 6 ≤ (kR K).slots) {σ : zSt} (ko : kq_7 σ a1 a2) (kk : Z (kup K) w (nx_7 σ a1 a2) [(0, .ref b), (1, .ref (zq w 0)), (2, .ref (zq w 13)), (3, .ref (zq w 25)), (4, .int i)] [] 1576) : Z K w σ [(0, .ref b), (1, .ref (zq w 0)), (2, .ref (zq w 13)), (3, .ref (zq w 25)), (4, .int i)] [] 573 := by
  unfold kq_7 at ko
  refine z_aload_n O zd_L_law_573 rfl 1 rfl ?_
  refine z_aload_n O zd_L_law_574 rfl 0 rfl ?_
  refine z_iload O zd_L_law_575 4 rfl ?_
  refine z_iconst O (v := 1) zd_L_law_577 (by decide) ?_
  refine z_iadd O zd_L_law_578 ?_
  refine z_sld O hscr h1.1 h1.2 zd_L_law_579 ?_
  refine z_aload_n O zd_L_law_580 rfl 3 rfl ?_
  refine z_callw O hl0 hX (st := []) (c_L_duplicate l hfl w σ a1 ko.1) zlw_duplicate rfl rfl (Nat.le_of_ble_eq_true rfl) (Nat.le_of_ble_eq_true rfl) (Nat.le_of_ble_eq_true rfl) hroom.1 hroom.2 zd_L_law_581 (fun k u e1 => ?_)
  have ko := ko.2 k u e1
  have O := zOk_up O hroom.1 hroom.2
  refine z_istore O (lv' := [(5, .int k), (0, .ref b), (1, .ref (zq w 0)), (2, .ref (zq w 13)), (3, .ref (zq w 25)), (4, .int i)]) zd_L_law_584 (Nat.le_of_ble_eq_true rfl) rfl ?_
  refine z_aload_n O zd_L_law_586 rfl 3 rfl ?_
  refine z_aload_n O zd_L_law_587 rfl 1 rfl ?_
  refine z_iload O zd_L_law_588 5 rfl ?_
  refine z_iconst O (v := 1) zd_L_law_590 (by decide) ?_
  refine z_iadd O zd_L_law_591 ?_
  refine z_sld O hscr h1.1 h1.2 zd_L_law_592 ?_
  refine z_calli (K := kup K) O hl0 (st := []) 13 6 (fs := zo13 w u) rfl rfl (c_M_duplicate l w u a1 ko.1) zl_L_109 zm957 zm958 rfl rfl (Nat.le_of_ble_eq_true rfl) (Nat.le_of_ble_eq_true rfl) (Nat.le_of_ble_eq_true rfl) zd_L_law_593 (fun r u2 e2 => ?_)
  have ko := ko.2 r u2 e2
  refine z_istore O (lv' := [(6, .int r), (5, .int k), (0, .ref b), (1, .ref (zq w 0)), (2, .ref (zq w 13)), (3, .ref (zq w 25)), (4, .int i)]) zd_L_law_596 (Nat.le_of_ble_eq_true rfl) rfl ?_
  refine z_aload_n O zd_L_law_598 rfl 4 rfl ?_
  refine z_callri (K := kup K) O hl0 (st := []) 13 6 (fs := zo13 w u2) rfl rfl (c_M_thrown l w u2) zl_L_83 zm856 zm857 rfl rfl (Nat.le_of_ble_eq_true rfl) (Nat.le_of_ble_eq_true rfl) (Nat.le_of_ble_eq_true rfl) zd_L_law_599 (fun t e3 => ?_)
  refine z_iload O zd_L_law_602 1 rfl ?_
  have hu : u2 = nx_7 σ a1 a2 := by unfold nx_7; rw [← e1]; show u2 = (f_M_duplicate u a1).2; rw [← e2]
  refine z_icmp_eq O (tgt := 609) zd_L_law_604 (by decide) (fun _ => ?_) (fun c => absurd (e3.trans ko.1) c)
  refine z_iload O zd_L_law_609 1 rfl ?_
  refine z_if_ne O (tgt := 626) zd_L_law_611 (by decide) (fun c => ?_) (fun c => ?_)
  · refine z_goto O (tgt := 1576) zd_L_law_626 (by decide) ?_
    refine z_sub (lv' := [(0, .ref b), (1, .ref (zq w 0)), (2, .ref (zq w 13)), (3, .ref (zq w 25)), (4, .int i)]) [2, 3, 4, 5, 6] rfl ?_
    rw [hu]; exact kk
  · refine z_aload_n O zd_L_law_614 rfl 5 rfl ?_
    refine z_iconst O (v := 0) zd_L_law_615 (by decide) ?_
    refine z_lald O zd_L_law_616 ?_
    refine z_iload O zd_L_law_617 0 rfl ?_
    refine z_i2l O zd_L_law_619 ?_
    refine z_lcmp O (by rw [ko.2 c]) zd_L_law_620 ?_
    refine z_if_eq O (tgt := 626) zd_L_law_621 (by decide) (fun _ => ?_) (fun c => absurd rfl c)
    refine z_goto O (tgt := 1576) zd_L_law_626 (by decide) ?_
    refine z_sub (lv' := [(0, .ref b), (1, .ref (zq w 0)), (2, .ref (zq w 13)), (3, .ref (zq w 25)), (4, .int i)]) [2, 3, 4, 5, 6] rfl ?_
    rw [hu]; exact kk
set_option maxHeartbeats 4000000 in
set_option maxRecDepth 100000 in
theorem q_8 {K : zCx} {w : zWd} {l : Launch} (O : zOk K w code "SluiceStreamLaw" 7 10 376) (hl0 : kl K = l) (hfl : l.stackTraces = false) (hX : zXs K w) {b L : Nat} {xs : Nat → Int32} (hscr : zScr K b L xs) {i a1 a2 : Int32} (h1 : vp_in (i + 1) L ∧ xs (i + 1).toNatClampNeg = a1) (h2 : vp_in (i + 2) L ∧ xs (i + 2).toNatClampNeg = a2) (hroom : kce K + 1 ≤ (kR K).cells ∧ ksl K + 6 ≤ (kR K).slots) {σ : zSt} (ko : kq_8 σ a1 a2) (kk : Z (kup K) w (nx_8 σ a1 a2) [(0, .ref b), (1, .ref (zq w 0)), (2, .ref (zq w 13)), (3, .ref (zq w 25)), (4, .int i)] [] 1576) : Z K w σ [(0, .ref b), (1, .ref (zq w 0)), (2, .ref (zq w 13)), (3, .ref (zq w 25)), (4, .int i)] [] 629 := by
  unfold kq_8 at ko
  refine z_aload_n O zd_L_law_629 rfl 1 rfl ?_
  refine z_aload_n O zd_L_law_630 rfl 0 rfl ?_
  refine z_iload O zd_L_law_631 4 rfl ?_
  refine z_iconst O (v := 1) zd_L_law_633 (by decide) ?_
  refine z_iadd O zd_L_law_634 ?_
  refine z_sld O hscr h1.1 h1.2 zd_L_law_635 ?_
  refine z_aload_n O zd_L_law_636 rfl 3 rfl ?_
  refine z_callw O hl0 hX (st := []) (c_L_deliverAck l hfl w σ a1 ko.1) zlw_deliverAck rfl rfl (Nat.le_of_ble_eq_true rfl) (Nat.le_of_ble_eq_true rfl) (Nat.le_of_ble_eq_true rfl) hroom.1 hroom.2 zd_L_law_637 (fun k u e1 => ?_)
  have ko := ko.2 k u e1
  have O := zOk_up O hroom.1 hroom.2
  refine z_istore O (lv' := [(5, .int k), (0, .ref b), (1, .ref (zq w 0)), (2, .ref (zq w 13)), (3, .ref (zq w 25)), (4, .int i)]) zd_L_law_640 (Nat.le_of_ble_eq_true rfl) rfl ?_
  refine z_aload_n O zd_L_law_642 rfl 3 rfl ?_
  refine z_aload_n O zd_L_law_643 rfl 1 rfl ?_
  refine z_iload O zd_L_law_644 5 rfl ?_
  refine z_iconst O (v := 1) zd_L_law_646 (by decide) ?_
  refine z_iadd O zd_L_law_647 ?_
  refine z_sld O hscr h1.1 h1.2 zd_L_law_648 ?_
  refine z_calli (K := kup K) O hl0 (st := []) 13 6 (fs := zo13 w u) rfl rfl (c_M_deliverAck l w u a1 ko.1) zl_L_112 zm961 zm962 rfl rfl (Nat.le_of_ble_eq_true rfl) (Nat.le_of_ble_eq_true rfl) (Nat.le_of_ble_eq_true rfl) zd_L_law_649 (fun r u2 e2 => ?_)
  have ko := ko.2 r u2 e2
  refine z_istore O (lv' := [(6, .int r), (5, .int k), (0, .ref b), (1, .ref (zq w 0)), (2, .ref (zq w 13)), (3, .ref (zq w 25)), (4, .int i)]) zd_L_law_652 (Nat.le_of_ble_eq_true rfl) rfl ?_
  refine z_aload_n O zd_L_law_654 rfl 4 rfl ?_
  refine z_callri (K := kup K) O hl0 (st := []) 13 6 (fs := zo13 w u2) rfl rfl (c_M_thrown l w u2) zl_L_83 zm856 zm857 rfl rfl (Nat.le_of_ble_eq_true rfl) (Nat.le_of_ble_eq_true rfl) (Nat.le_of_ble_eq_true rfl) zd_L_law_655 (fun t e3 => ?_)
  refine z_iload O zd_L_law_658 1 rfl ?_
  have hu : u2 = nx_8 σ a1 a2 := by unfold nx_8; rw [← e1]; show u2 = (f_M_deliverAck u a1).2; rw [← e2]
  refine z_icmp_eq O (tgt := 665) zd_L_law_660 (by decide) (fun _ => ?_) (fun c => absurd (e3.trans ko.1) c)
  refine z_iload O zd_L_law_665 1 rfl ?_
  refine z_if_ne O (tgt := 682) zd_L_law_667 (by decide) (fun c => ?_) (fun c => ?_)
  · refine z_goto O (tgt := 1576) zd_L_law_682 (by decide) ?_
    refine z_sub (lv' := [(0, .ref b), (1, .ref (zq w 0)), (2, .ref (zq w 13)), (3, .ref (zq w 25)), (4, .int i)]) [2, 3, 4, 5, 6] rfl ?_
    rw [hu]; exact kk
  · refine z_aload_n O zd_L_law_670 rfl 5 rfl ?_
    refine z_iconst O (v := 0) zd_L_law_671 (by decide) ?_
    refine z_lald O zd_L_law_672 ?_
    refine z_iload O zd_L_law_673 0 rfl ?_
    refine z_i2l O zd_L_law_675 ?_
    refine z_lcmp O (by rw [ko.2 c]) zd_L_law_676 ?_
    refine z_if_eq O (tgt := 682) zd_L_law_677 (by decide) (fun _ => ?_) (fun c => absurd rfl c)
    refine z_goto O (tgt := 1576) zd_L_law_682 (by decide) ?_
    refine z_sub (lv' := [(0, .ref b), (1, .ref (zq w 0)), (2, .ref (zq w 13)), (3, .ref (zq w 25)), (4, .int i)]) [2, 3, 4, 5, 6] rfl ?_
    rw [hu]; exact kk
set_option maxHeartbeats 4000000 in
set_option maxRecDepth 100000 in
theorem q_9 {K : zCx} {w : zWd} {l : Launch} (O : zOk K w code "SluiceStreamLaw" 7 10 376) (hl0 : kl K = l) (hfl : l.stackTraces = false) (hX : zXs K w) {b L : Nat} {xs : Nat → Int32} (hscr : zScr K b L xs) {i a1 a2 : Int32} (h1 : vp_in (i + 1) L ∧ xs (i + 1).toNatClampNeg = a1) (h2 : vp_in (i + 2) L ∧ xs (i + 2).toNatClampNeg = a2) (hroom : kce K + 1 ≤ (kR K).cells ∧ ksl K + 6 ≤ (kR K).slots) {σ : zSt} (ko : kq_9 σ a1 a2) (kk : Z (kup K) w (nx_9 σ a1 a2) [(0, .ref b), (1, .ref (zq w 0)), (2, .ref (zq w 13)), (3, .ref (zq w 25)), (4, .int i)] [] 1576) : Z K w σ [(0, .ref b), (1, .ref (zq w 0)), (2, .ref (zq w 13)), (3, .ref (zq w 25)), (4, .int i)] [] 685 := by
  unfold kq_9 at ko
  refine z_aload_n O zd_L_law_685 rfl 1 rfl ?_
  refine z_aload_n O zd_L_law_686 rfl 0 rfl ?_
  refine z_iload O zd_L_law_687 4 rfl ?_
  refine z_iconst O (v := 1) zd_L_law_689 (by decide) ?_
  refine z_iadd O zd_L_law_690 ?_
  refine z_sld O hscr h1.1 h1.2 zd_L_law_691 ?_
  refine z_aload_n O zd_L_law_692 rfl 3 rfl ?_
  refine z_callw O hl0 hX (st := []) (c_L_loseAck l hfl w σ a1 ko.1) zlw_loseAck rfl rfl (Nat.le_of_ble_eq_true rfl) (Nat.le_of_ble_eq_true rfl) (Nat.le_of_ble_eq_true rfl) hroom.1 hroom.2 zd_L_law_693 (fun k u e1 => ?_)
  have ko := ko.2 k u e1
  have O := zOk_up O hroom.1 hroom.2
  refine z_istore O (lv' := [(5, .int k), (0, .ref b), (1, .ref (zq w 0)), (2, .ref (zq w 13)), (3, .ref (zq w 25)), (4, .int i)]) zd_L_law_696 (Nat.le_of_ble_eq_true rfl) rfl ?_
  refine z_aload_n O zd_L_law_698 rfl 3 rfl ?_
  refine z_aload_n O zd_L_law_699 rfl 1 rfl ?_
  refine z_iload O zd_L_law_700 5 rfl ?_
  refine z_iconst O (v := 1) zd_L_law_702 (by decide) ?_
  refine z_iadd O zd_L_law_703 ?_
  refine z_sld O hscr h1.1 h1.2 zd_L_law_704 ?_
  refine z_calli (K := kup K) O hl0 (st := []) 13 6 (fs := zo13 w u) rfl rfl (c_M_loseAck l w u a1 ko.1) zl_L_115 zm985 zm986 rfl rfl (Nat.le_of_ble_eq_true rfl) (Nat.le_of_ble_eq_true rfl) (Nat.le_of_ble_eq_true rfl) zd_L_law_705 (fun r u2 e2 => ?_)
  have ko := ko.2 r u2 e2
  refine z_istore O (lv' := [(6, .int r), (5, .int k), (0, .ref b), (1, .ref (zq w 0)), (2, .ref (zq w 13)), (3, .ref (zq w 25)), (4, .int i)]) zd_L_law_708 (Nat.le_of_ble_eq_true rfl) rfl ?_
  refine z_aload_n O zd_L_law_710 rfl 4 rfl ?_
  refine z_callri (K := kup K) O hl0 (st := []) 13 6 (fs := zo13 w u2) rfl rfl (c_M_thrown l w u2) zl_L_83 zm856 zm857 rfl rfl (Nat.le_of_ble_eq_true rfl) (Nat.le_of_ble_eq_true rfl) (Nat.le_of_ble_eq_true rfl) zd_L_law_711 (fun t e3 => ?_)
  refine z_iload O zd_L_law_714 1 rfl ?_
  have hu : u2 = nx_9 σ a1 a2 := by unfold nx_9; rw [← e1]; show u2 = (f_M_loseAck u a1).2; rw [← e2]
  refine z_icmp_eq O (tgt := 721) zd_L_law_716 (by decide) (fun _ => ?_) (fun c => absurd (e3.trans ko.1) c)
  refine z_iload O zd_L_law_721 1 rfl ?_
  refine z_if_ne O (tgt := 738) zd_L_law_723 (by decide) (fun c => ?_) (fun c => ?_)
  · refine z_goto O (tgt := 1576) zd_L_law_738 (by decide) ?_
    refine z_sub (lv' := [(0, .ref b), (1, .ref (zq w 0)), (2, .ref (zq w 13)), (3, .ref (zq w 25)), (4, .int i)]) [2, 3, 4, 5, 6] rfl ?_
    rw [hu]; exact kk
  · refine z_aload_n O zd_L_law_726 rfl 5 rfl ?_
    refine z_iconst O (v := 0) zd_L_law_727 (by decide) ?_
    refine z_lald O zd_L_law_728 ?_
    refine z_iload O zd_L_law_729 0 rfl ?_
    refine z_i2l O zd_L_law_731 ?_
    refine z_lcmp O (by rw [ko.2 c]) zd_L_law_732 ?_
    refine z_if_eq O (tgt := 738) zd_L_law_733 (by decide) (fun _ => ?_) (fun c => absurd rfl c)
    refine z_goto O (tgt := 1576) zd_L_law_738 (by decide) ?_
    refine z_sub (lv' := [(0, .ref b), (1, .ref (zq w 0)), (2, .ref (zq w 13)), (3, .ref (zq w 25)), (4, .int i)]) [2, 3, 4, 5, 6] rfl ?_
    rw [hu]; exact kk
set_option maxHeartbeats 4000000 in
set_option maxRecDepth 100000 in
theorem q_10 {K : zCx} {w : zWd} {l : Launch} (O : zOk K w code "SluiceStreamLaw" 7 10 376) (hl0 : kl K = l) (hfl : l.stackTraces = false) (hX : zXs K w) {b L : Nat} {xs : Nat → Int32} (hscr : zScr K b L xs) {i a1 a2 : Int32} (h1 : vp_in (i + 1) L ∧ xs (i + 1).toNatClampNeg = a1) (h2 : vp_in (i + 2) L ∧ xs (i + 2).toNatClampNeg = a2) (hroom : kce K + 1 ≤ (kR K).cells ∧ ksl K + 6 ≤ (kR K).slots) {σ : zSt} (ko : kq_10 σ a1 a2) (kk : Z (kup K) w (nx_10 σ a1 a2) [(0, .ref b), (1, .ref (zq w 0)), (2, .ref (zq w 13)), (3, .ref (zq w 25)), (4, .int i)] [] 1576) : Z K w σ [(0, .ref b), (1, .ref (zq w 0)), (2, .ref (zq w 13)), (3, .ref (zq w 25)), (4, .int i)] [] 741 := by
  unfold kq_10 at ko
  refine z_aload_n O zd_L_law_741 rfl 1 rfl ?_
  refine z_callri O hl0 (st := []) 0 5 (fs := zo0 w σ) rfl rfl (c_X_segments l w σ) zl_L_116 zm265 zm266 rfl rfl (Nat.le_of_ble_eq_true rfl) (Nat.le_of_ble_eq_true rfl) (Nat.le_of_ble_eq_true rfl) zd_L_law_742 (fun r e1 => ?_)
  have ko := ko
  refine z_aload_n O zd_L_law_745 rfl 2 rfl ?_
  refine z_calli O hl0 (st := [.int r]) 13 6 (fs := zo13 w σ) rfl rfl (c_M_segments l w σ) zl_L_119 zm989 zm990 rfl rfl (Nat.le_of_ble_eq_true rfl) (Nat.le_of_ble_eq_true rfl) (Nat.le_of_ble_eq_true rfl) zd_L_law_746 (fun r2 u2 e2 => ?_)
  have hv : r = r2 := by rw [e1, ko, ← e2]
  have hu : u2 = nx_10 σ a1 a2 := by unfold nx_10; rw [← e2]
  subst hu
  exact z_icmp_eq O (tgt := 1576) zd_L_law_749 (by decide) (fun _ => z_up kk) (fun c => absurd hv c)
set_option maxHeartbeats 4000000 in
set_option maxRecDepth 100000 in
theorem q_11 {K : zCx} {w : zWd} {l : Launch} (O : zOk K w code "SluiceStreamLaw" 7 10 376) (hl0 : kl K = l) (hfl : l.stackTraces = false) (hX : zXs K w) {b L : Nat} {xs : Nat → Int32} (hscr : zScr K b L xs) {i a1 a2 : Int32} (h1 : vp_in (i + 1) L ∧ xs (i + 1).toNatClampNeg = a1) (h2 : vp_in (i + 2) L ∧ xs (i + 2).toNatClampNeg = a2) (hroom : kce K + 1 ≤ (kR K).cells ∧ ksl K + 6 ≤ (kR K).slots) {σ : zSt} (ko : kq_11 σ a1 a2) (kk : Z (kup K) w (nx_11 σ a1 a2) [(0, .ref b), (1, .ref (zq w 0)), (2, .ref (zq w 13)), (3, .ref (zq w 25)), (4, .int i)] [] 1576) : Z K w σ [(0, .ref b), (1, .ref (zq w 0)), (2, .ref (zq w 13)), (3, .ref (zq w 25)), (4, .int i)] [] 754 := by
  unfold kq_11 at ko
  refine z_aload_n O zd_L_law_754 rfl 1 rfl ?_
  refine z_aload_n O zd_L_law_755 rfl 0 rfl ?_
  refine z_iload O zd_L_law_756 4 rfl ?_
  refine z_iconst O (v := 1) zd_L_law_758 (by decide) ?_
  refine z_iadd O zd_L_law_759 ?_
  refine z_sld O hscr h1.1 h1.2 zd_L_law_760 ?_
  refine z_aload_n O zd_L_law_761 rfl 3 rfl ?_
  refine z_callw O hl0 hX (st := []) (c_L_startOf l hfl w σ a1 ko.1) zlw_startOf rfl rfl (Nat.le_of_ble_eq_true rfl) (Nat.le_of_ble_eq_true rfl) (Nat.le_of_ble_eq_true rfl) hroom.1 hroom.2 zd_L_law_762 (fun k u e1 => ?_)
  have ko := ko.2 k u e1
  have O := zOk_up O hroom.1 hroom.2
  refine z_istore O (lv' := [(5, .int k), (0, .ref b), (1, .ref (zq w 0)), (2, .ref (zq w 13)), (3, .ref (zq w 25)), (4, .int i)]) zd_L_law_765 (Nat.le_of_ble_eq_true rfl) rfl ?_
  refine z_aload_n O zd_L_law_767 rfl 3 rfl ?_
  refine z_aload_n O zd_L_law_768 rfl 1 rfl ?_
  refine z_iload O zd_L_law_769 5 rfl ?_
  refine z_iconst O (v := 1) zd_L_law_771 (by decide) ?_
  refine z_iadd O zd_L_law_772 ?_
  refine z_sld O hscr h1.1 h1.2 zd_L_law_773 ?_
  refine z_calli (K := kup K) O hl0 (st := []) 13 6 (fs := zo13 w u) rfl rfl (c_M_startOf l w u a1 ko.1) zl_L_122 zm993 zm994 rfl rfl (Nat.le_of_ble_eq_true rfl) (Nat.le_of_ble_eq_true rfl) (Nat.le_of_ble_eq_true rfl) zd_L_law_774 (fun r u2 e2 => ?_)
  have ko := ko.2 r u2 e2
  refine z_istore O (lv' := [(6, .int r), (5, .int k), (0, .ref b), (1, .ref (zq w 0)), (2, .ref (zq w 13)), (3, .ref (zq w 25)), (4, .int i)]) zd_L_law_777 (Nat.le_of_ble_eq_true rfl) rfl ?_
  refine z_aload_n O zd_L_law_779 rfl 4 rfl ?_
  refine z_callri (K := kup K) O hl0 (st := []) 13 6 (fs := zo13 w u2) rfl rfl (c_M_thrown l w u2) zl_L_83 zm856 zm857 rfl rfl (Nat.le_of_ble_eq_true rfl) (Nat.le_of_ble_eq_true rfl) (Nat.le_of_ble_eq_true rfl) zd_L_law_780 (fun t e3 => ?_)
  refine z_iload O zd_L_law_783 1 rfl ?_
  have hu : u2 = nx_11 σ a1 a2 := by unfold nx_11; rw [← e1]; show u2 = (f_M_startOf u a1).2; rw [← e2]
  refine z_icmp_eq O (tgt := 790) zd_L_law_785 (by decide) (fun _ => ?_) (fun c => absurd (e3.trans ko.1) c)
  refine z_iload O zd_L_law_790 1 rfl ?_
  refine z_if_ne O (tgt := 807) zd_L_law_792 (by decide) (fun c => ?_) (fun c => ?_)
  · refine z_goto O (tgt := 1576) zd_L_law_807 (by decide) ?_
    refine z_sub (lv' := [(0, .ref b), (1, .ref (zq w 0)), (2, .ref (zq w 13)), (3, .ref (zq w 25)), (4, .int i)]) [2, 3, 4, 5, 6] rfl ?_
    rw [hu]; exact kk
  · refine z_aload_n O zd_L_law_795 rfl 5 rfl ?_
    refine z_iconst O (v := 0) zd_L_law_796 (by decide) ?_
    refine z_lald O zd_L_law_797 ?_
    refine z_iload O zd_L_law_798 0 rfl ?_
    refine z_i2l O zd_L_law_800 ?_
    refine z_lcmp O (by rw [ko.2 c]) zd_L_law_801 ?_
    refine z_if_eq O (tgt := 807) zd_L_law_802 (by decide) (fun _ => ?_) (fun c => absurd rfl c)
    refine z_goto O (tgt := 1576) zd_L_law_807 (by decide) ?_
    refine z_sub (lv' := [(0, .ref b), (1, .ref (zq w 0)), (2, .ref (zq w 13)), (3, .ref (zq w 25)), (4, .int i)]) [2, 3, 4, 5, 6] rfl ?_
    rw [hu]; exact kk
set_option maxHeartbeats 4000000 in
set_option maxRecDepth 100000 in
theorem q_12 {K : zCx} {w : zWd} {l : Launch} (O : zOk K w code "SluiceStreamLaw" 7 10 376) (hl0 : kl K = l) (hfl : l.stackTraces = false) (hX : zXs K w) {b L : Nat} {xs : Nat → Int32} (hscr : zScr K b L xs) {i a1 a2 : Int32} (h1 : vp_in (i + 1) L ∧ xs (i + 1).toNatClampNeg = a1) (h2 : vp_in (i + 2) L ∧ xs (i + 2).toNatClampNeg = a2) (hroom : kce K + 1 ≤ (kR K).cells ∧ ksl K + 6 ≤ (kR K).slots) {σ : zSt} (ko : kq_12 σ a1 a2) (kk : Z (kup K) w (nx_12 σ a1 a2) [(0, .ref b), (1, .ref (zq w 0)), (2, .ref (zq w 13)), (3, .ref (zq w 25)), (4, .int i)] [] 1576) : Z K w σ [(0, .ref b), (1, .ref (zq w 0)), (2, .ref (zq w 13)), (3, .ref (zq w 25)), (4, .int i)] [] 810 := by
  unfold kq_12 at ko
  refine z_aload_n O zd_L_law_810 rfl 1 rfl ?_
  refine z_aload_n O zd_L_law_811 rfl 0 rfl ?_
  refine z_iload O zd_L_law_812 4 rfl ?_
  refine z_iconst O (v := 1) zd_L_law_814 (by decide) ?_
  refine z_iadd O zd_L_law_815 ?_
  refine z_sld O hscr h1.1 h1.2 zd_L_law_816 ?_
  refine z_aload_n O zd_L_law_817 rfl 3 rfl ?_
  refine z_callw O hl0 hX (st := []) (c_L_endOf l hfl w σ a1 ko.1) zlw_endOf rfl rfl (Nat.le_of_ble_eq_true rfl) (Nat.le_of_ble_eq_true rfl) (Nat.le_of_ble_eq_true rfl) hroom.1 hroom.2 zd_L_law_818 (fun k u e1 => ?_)
  have ko := ko.2 k u e1
  have O := zOk_up O hroom.1 hroom.2
  refine z_istore O (lv' := [(5, .int k), (0, .ref b), (1, .ref (zq w 0)), (2, .ref (zq w 13)), (3, .ref (zq w 25)), (4, .int i)]) zd_L_law_821 (Nat.le_of_ble_eq_true rfl) rfl ?_
  refine z_aload_n O zd_L_law_823 rfl 3 rfl ?_
  refine z_aload_n O zd_L_law_824 rfl 1 rfl ?_
  refine z_iload O zd_L_law_825 5 rfl ?_
  refine z_iconst O (v := 1) zd_L_law_827 (by decide) ?_
  refine z_iadd O zd_L_law_828 ?_
  refine z_sld O hscr h1.1 h1.2 zd_L_law_829 ?_
  refine z_calli (K := kup K) O hl0 (st := []) 13 6 (fs := zo13 w u) rfl rfl (c_M_endOf l w u a1 ko.1) zl_L_125 zm997 zm998 rfl rfl (Nat.le_of_ble_eq_true rfl) (Nat.le_of_ble_eq_true rfl) (Nat.le_of_ble_eq_true rfl) zd_L_law_830 (fun r u2 e2 => ?_)
  have ko := ko.2 r u2 e2
  refine z_istore O (lv' := [(6, .int r), (5, .int k), (0, .ref b), (1, .ref (zq w 0)), (2, .ref (zq w 13)), (3, .ref (zq w 25)), (4, .int i)]) zd_L_law_833 (Nat.le_of_ble_eq_true rfl) rfl ?_
  refine z_aload_n O zd_L_law_835 rfl 4 rfl ?_
  refine z_callri (K := kup K) O hl0 (st := []) 13 6 (fs := zo13 w u2) rfl rfl (c_M_thrown l w u2) zl_L_83 zm856 zm857 rfl rfl (Nat.le_of_ble_eq_true rfl) (Nat.le_of_ble_eq_true rfl) (Nat.le_of_ble_eq_true rfl) zd_L_law_836 (fun t e3 => ?_)
  refine z_iload O zd_L_law_839 1 rfl ?_
  have hu : u2 = nx_12 σ a1 a2 := by unfold nx_12; rw [← e1]; show u2 = (f_M_endOf u a1).2; rw [← e2]
  refine z_icmp_eq O (tgt := 846) zd_L_law_841 (by decide) (fun _ => ?_) (fun c => absurd (e3.trans ko.1) c)
  refine z_iload O zd_L_law_846 1 rfl ?_
  refine z_if_ne O (tgt := 863) zd_L_law_848 (by decide) (fun c => ?_) (fun c => ?_)
  · refine z_goto O (tgt := 1576) zd_L_law_863 (by decide) ?_
    refine z_sub (lv' := [(0, .ref b), (1, .ref (zq w 0)), (2, .ref (zq w 13)), (3, .ref (zq w 25)), (4, .int i)]) [2, 3, 4, 5, 6] rfl ?_
    rw [hu]; exact kk
  · refine z_aload_n O zd_L_law_851 rfl 5 rfl ?_
    refine z_iconst O (v := 0) zd_L_law_852 (by decide) ?_
    refine z_lald O zd_L_law_853 ?_
    refine z_iload O zd_L_law_854 0 rfl ?_
    refine z_i2l O zd_L_law_856 ?_
    refine z_lcmp O (by rw [ko.2 c]) zd_L_law_857 ?_
    refine z_if_eq O (tgt := 863) zd_L_law_858 (by decide) (fun _ => ?_) (fun c => absurd rfl c)
    refine z_goto O (tgt := 1576) zd_L_law_863 (by decide) ?_
    refine z_sub (lv' := [(0, .ref b), (1, .ref (zq w 0)), (2, .ref (zq w 13)), (3, .ref (zq w 25)), (4, .int i)]) [2, 3, 4, 5, 6] rfl ?_
    rw [hu]; exact kk
set_option maxHeartbeats 4000000 in
set_option maxRecDepth 100000 in
theorem q_13 {K : zCx} {w : zWd} {l : Launch} (O : zOk K w code "SluiceStreamLaw" 7 10 376) (hl0 : kl K = l) (hfl : l.stackTraces = false) (hX : zXs K w) {b L : Nat} {xs : Nat → Int32} (hscr : zScr K b L xs) {i a1 a2 : Int32} (h1 : vp_in (i + 1) L ∧ xs (i + 1).toNatClampNeg = a1) (h2 : vp_in (i + 2) L ∧ xs (i + 2).toNatClampNeg = a2) (hroom : kce K + 1 ≤ (kR K).cells ∧ ksl K + 6 ≤ (kR K).slots) {σ : zSt} (ko : kq_13 σ a1 a2) (kk : Z (kup K) w (nx_13 σ a1 a2) [(0, .ref b), (1, .ref (zq w 0)), (2, .ref (zq w 13)), (3, .ref (zq w 25)), (4, .int i)] [] 1576) : Z K w σ [(0, .ref b), (1, .ref (zq w 0)), (2, .ref (zq w 13)), (3, .ref (zq w 25)), (4, .int i)] [] 866 := by
  unfold kq_13 at ko
  refine z_aload_n O zd_L_law_866 rfl 1 rfl ?_
  refine z_callri O hl0 (st := []) 0 5 (fs := zo0 w σ) rfl rfl (c_X_acks l w σ) zl_L_126 zm269 zm270 rfl rfl (Nat.le_of_ble_eq_true rfl) (Nat.le_of_ble_eq_true rfl) (Nat.le_of_ble_eq_true rfl) zd_L_law_867 (fun r e1 => ?_)
  have ko := ko
  refine z_aload_n O zd_L_law_870 rfl 2 rfl ?_
  refine z_calli O hl0 (st := [.int r]) 13 6 (fs := zo13 w σ) rfl rfl (c_M_acks l w σ) zl_L_129 zm1001 zm1002 rfl rfl (Nat.le_of_ble_eq_true rfl) (Nat.le_of_ble_eq_true rfl) (Nat.le_of_ble_eq_true rfl) zd_L_law_871 (fun r2 u2 e2 => ?_)
  have hv : r = r2 := by rw [e1, ko, ← e2]
  have hu : u2 = nx_13 σ a1 a2 := by unfold nx_13; rw [← e2]
  subst hu
  exact z_icmp_eq O (tgt := 1576) zd_L_law_874 (by decide) (fun _ => z_up kk) (fun c => absurd hv c)
set_option maxHeartbeats 4000000 in
set_option maxRecDepth 100000 in
theorem q_14 {K : zCx} {w : zWd} {l : Launch} (O : zOk K w code "SluiceStreamLaw" 7 10 376) (hl0 : kl K = l) (hfl : l.stackTraces = false) (hX : zXs K w) {b L : Nat} {xs : Nat → Int32} (hscr : zScr K b L xs) {i a1 a2 : Int32} (h1 : vp_in (i + 1) L ∧ xs (i + 1).toNatClampNeg = a1) (h2 : vp_in (i + 2) L ∧ xs (i + 2).toNatClampNeg = a2) (hroom : kce K + 1 ≤ (kR K).cells ∧ ksl K + 6 ≤ (kR K).slots) {σ : zSt} (ko : kq_14 σ a1 a2) (kk : Z (kup K) w (nx_14 σ a1 a2) [(0, .ref b), (1, .ref (zq w 0)), (2, .ref (zq w 13)), (3, .ref (zq w 25)), (4, .int i)] [] 1576) : Z K w σ [(0, .ref b), (1, .ref (zq w 0)), (2, .ref (zq w 13)), (3, .ref (zq w 25)), (4, .int i)] [] 879 := by
  unfold kq_14 at ko
  refine z_aload_n O zd_L_law_879 rfl 1 rfl ?_
  refine z_aload_n O zd_L_law_880 rfl 0 rfl ?_
  refine z_iload O zd_L_law_881 4 rfl ?_
  refine z_iconst O (v := 1) zd_L_law_883 (by decide) ?_
  refine z_iadd O zd_L_law_884 ?_
  refine z_sld O hscr h1.1 h1.2 zd_L_law_885 ?_
  refine z_aload_n O zd_L_law_886 rfl 3 rfl ?_
  refine z_callw O hl0 hX (st := []) (c_L_ackNumber l hfl w σ a1 ko.1) zlw_ackNumber rfl rfl (Nat.le_of_ble_eq_true rfl) (Nat.le_of_ble_eq_true rfl) (Nat.le_of_ble_eq_true rfl) hroom.1 hroom.2 zd_L_law_887 (fun k u e1 => ?_)
  have ko := ko.2 k u e1
  have O := zOk_up O hroom.1 hroom.2
  refine z_istore O (lv' := [(5, .int k), (0, .ref b), (1, .ref (zq w 0)), (2, .ref (zq w 13)), (3, .ref (zq w 25)), (4, .int i)]) zd_L_law_890 (Nat.le_of_ble_eq_true rfl) rfl ?_
  refine z_aload_n O zd_L_law_892 rfl 3 rfl ?_
  refine z_aload_n O zd_L_law_893 rfl 1 rfl ?_
  refine z_iload O zd_L_law_894 5 rfl ?_
  refine z_iconst O (v := 1) zd_L_law_896 (by decide) ?_
  refine z_iadd O zd_L_law_897 ?_
  refine z_sld O hscr h1.1 h1.2 zd_L_law_898 ?_
  refine z_calli (K := kup K) O hl0 (st := []) 13 6 (fs := zo13 w u) rfl rfl (c_M_ackNumber l w u a1 ko.1) zl_L_132 zm1005 zm1006 rfl rfl (Nat.le_of_ble_eq_true rfl) (Nat.le_of_ble_eq_true rfl) (Nat.le_of_ble_eq_true rfl) zd_L_law_899 (fun r u2 e2 => ?_)
  have ko := ko.2 r u2 e2
  refine z_istore O (lv' := [(6, .int r), (5, .int k), (0, .ref b), (1, .ref (zq w 0)), (2, .ref (zq w 13)), (3, .ref (zq w 25)), (4, .int i)]) zd_L_law_902 (Nat.le_of_ble_eq_true rfl) rfl ?_
  refine z_aload_n O zd_L_law_904 rfl 4 rfl ?_
  refine z_callri (K := kup K) O hl0 (st := []) 13 6 (fs := zo13 w u2) rfl rfl (c_M_thrown l w u2) zl_L_83 zm856 zm857 rfl rfl (Nat.le_of_ble_eq_true rfl) (Nat.le_of_ble_eq_true rfl) (Nat.le_of_ble_eq_true rfl) zd_L_law_905 (fun t e3 => ?_)
  refine z_iload O zd_L_law_908 1 rfl ?_
  have hu : u2 = nx_14 σ a1 a2 := by unfold nx_14; rw [← e1]; show u2 = (f_M_ackNumber u a1).2; rw [← e2]
  refine z_icmp_eq O (tgt := 915) zd_L_law_910 (by decide) (fun _ => ?_) (fun c => absurd (e3.trans ko.1) c)
  refine z_iload O zd_L_law_915 1 rfl ?_
  refine z_if_ne O (tgt := 932) zd_L_law_917 (by decide) (fun c => ?_) (fun c => ?_)
  · refine z_goto O (tgt := 1576) zd_L_law_932 (by decide) ?_
    refine z_sub (lv' := [(0, .ref b), (1, .ref (zq w 0)), (2, .ref (zq w 13)), (3, .ref (zq w 25)), (4, .int i)]) [2, 3, 4, 5, 6] rfl ?_
    rw [hu]; exact kk
  · refine z_aload_n O zd_L_law_920 rfl 5 rfl ?_
    refine z_iconst O (v := 0) zd_L_law_921 (by decide) ?_
    refine z_lald O zd_L_law_922 ?_
    refine z_iload O zd_L_law_923 0 rfl ?_
    refine z_i2l O zd_L_law_925 ?_
    refine z_lcmp O (by rw [ko.2 c]) zd_L_law_926 ?_
    refine z_if_eq O (tgt := 932) zd_L_law_927 (by decide) (fun _ => ?_) (fun c => absurd rfl c)
    refine z_goto O (tgt := 1576) zd_L_law_932 (by decide) ?_
    refine z_sub (lv' := [(0, .ref b), (1, .ref (zq w 0)), (2, .ref (zq w 13)), (3, .ref (zq w 25)), (4, .int i)]) [2, 3, 4, 5, 6] rfl ?_
    rw [hu]; exact kk
set_option maxHeartbeats 4000000 in
set_option maxRecDepth 100000 in
theorem q_15 {K : zCx} {w : zWd} {l : Launch} (O : zOk K w code "SluiceStreamLaw" 7 10 376) (hl0 : kl K = l) (hfl : l.stackTraces = false) (hX : zXs K w) {b L : Nat} {xs : Nat → Int32} (hscr : zScr K b L xs) {i a1 a2 : Int32} (h1 : vp_in (i + 1) L ∧ xs (i + 1).toNatClampNeg = a1) (h2 : vp_in (i + 2) L ∧ xs (i + 2).toNatClampNeg = a2) (hroom : kce K + 1 ≤ (kR K).cells ∧ ksl K + 6 ≤ (kR K).slots) {σ : zSt} (ko : kq_15 σ a1 a2) (kk : Z (kup K) w (nx_15 σ a1 a2) [(0, .ref b), (1, .ref (zq w 0)), (2, .ref (zq w 13)), (3, .ref (zq w 25)), (4, .int i)] [] 1576) : Z K w σ [(0, .ref b), (1, .ref (zq w 0)), (2, .ref (zq w 13)), (3, .ref (zq w 25)), (4, .int i)] [] 935 := by
  unfold kq_15 at ko
  refine z_aload_n O zd_L_law_935 rfl 1 rfl ?_
  refine z_aload_n O zd_L_law_936 rfl 0 rfl ?_
  refine z_iload O zd_L_law_937 4 rfl ?_
  refine z_iconst O (v := 1) zd_L_law_939 (by decide) ?_
  refine z_iadd O zd_L_law_940 ?_
  refine z_sld O hscr h1.1 h1.2 zd_L_law_941 ?_
  refine z_aload_n O zd_L_law_942 rfl 3 rfl ?_
  refine z_callw O hl0 hX (st := []) (c_L_ackWindow l hfl w σ a1 ko.1) zlw_ackWindow rfl rfl (Nat.le_of_ble_eq_true rfl) (Nat.le_of_ble_eq_true rfl) (Nat.le_of_ble_eq_true rfl) hroom.1 hroom.2 zd_L_law_943 (fun k u e1 => ?_)
  have ko := ko.2 k u e1
  have O := zOk_up O hroom.1 hroom.2
  refine z_istore O (lv' := [(5, .int k), (0, .ref b), (1, .ref (zq w 0)), (2, .ref (zq w 13)), (3, .ref (zq w 25)), (4, .int i)]) zd_L_law_946 (Nat.le_of_ble_eq_true rfl) rfl ?_
  refine z_aload_n O zd_L_law_948 rfl 3 rfl ?_
  refine z_aload_n O zd_L_law_949 rfl 1 rfl ?_
  refine z_iload O zd_L_law_950 5 rfl ?_
  refine z_iconst O (v := 1) zd_L_law_952 (by decide) ?_
  refine z_iadd O zd_L_law_953 ?_
  refine z_sld O hscr h1.1 h1.2 zd_L_law_954 ?_
  refine z_calli (K := kup K) O hl0 (st := []) 13 6 (fs := zo13 w u) rfl rfl (c_M_ackWindow l w u a1 ko.1) zl_L_135 zm1009 zm1010 rfl rfl (Nat.le_of_ble_eq_true rfl) (Nat.le_of_ble_eq_true rfl) (Nat.le_of_ble_eq_true rfl) zd_L_law_955 (fun r u2 e2 => ?_)
  have ko := ko.2 r u2 e2
  refine z_istore O (lv' := [(6, .int r), (5, .int k), (0, .ref b), (1, .ref (zq w 0)), (2, .ref (zq w 13)), (3, .ref (zq w 25)), (4, .int i)]) zd_L_law_958 (Nat.le_of_ble_eq_true rfl) rfl ?_
  refine z_aload_n O zd_L_law_960 rfl 4 rfl ?_
  refine z_callri (K := kup K) O hl0 (st := []) 13 6 (fs := zo13 w u2) rfl rfl (c_M_thrown l w u2) zl_L_83 zm856 zm857 rfl rfl (Nat.le_of_ble_eq_true rfl) (Nat.le_of_ble_eq_true rfl) (Nat.le_of_ble_eq_true rfl) zd_L_law_961 (fun t e3 => ?_)
  refine z_iload O zd_L_law_964 1 rfl ?_
  have hu : u2 = nx_15 σ a1 a2 := by unfold nx_15; rw [← e1]; show u2 = (f_M_ackWindow u a1).2; rw [← e2]
  refine z_icmp_eq O (tgt := 971) zd_L_law_966 (by decide) (fun _ => ?_) (fun c => absurd (e3.trans ko.1) c)
  refine z_iload O zd_L_law_971 1 rfl ?_
  refine z_if_ne O (tgt := 988) zd_L_law_973 (by decide) (fun c => ?_) (fun c => ?_)
  · refine z_goto O (tgt := 1576) zd_L_law_988 (by decide) ?_
    refine z_sub (lv' := [(0, .ref b), (1, .ref (zq w 0)), (2, .ref (zq w 13)), (3, .ref (zq w 25)), (4, .int i)]) [2, 3, 4, 5, 6] rfl ?_
    rw [hu]; exact kk
  · refine z_aload_n O zd_L_law_976 rfl 5 rfl ?_
    refine z_iconst O (v := 0) zd_L_law_977 (by decide) ?_
    refine z_lald O zd_L_law_978 ?_
    refine z_iload O zd_L_law_979 0 rfl ?_
    refine z_i2l O zd_L_law_981 ?_
    refine z_lcmp O (by rw [ko.2 c]) zd_L_law_982 ?_
    refine z_if_eq O (tgt := 988) zd_L_law_983 (by decide) (fun _ => ?_) (fun c => absurd rfl c)
    refine z_goto O (tgt := 1576) zd_L_law_988 (by decide) ?_
    refine z_sub (lv' := [(0, .ref b), (1, .ref (zq w 0)), (2, .ref (zq w 13)), (3, .ref (zq w 25)), (4, .int i)]) [2, 3, 4, 5, 6] rfl ?_
    rw [hu]; exact kk
set_option maxHeartbeats 4000000 in
set_option maxRecDepth 100000 in
theorem q_16 {K : zCx} {w : zWd} {l : Launch} (O : zOk K w code "SluiceStreamLaw" 7 10 376) (hl0 : kl K = l) (hfl : l.stackTraces = false) (hX : zXs K w) {b L : Nat} {xs : Nat → Int32} (hscr : zScr K b L xs) {i a1 a2 : Int32} (h1 : vp_in (i + 1) L ∧ xs (i + 1).toNatClampNeg = a1) (h2 : vp_in (i + 2) L ∧ xs (i + 2).toNatClampNeg = a2) (hroom : kce K + 1 ≤ (kR K).cells ∧ ksl K + 6 ≤ (kR K).slots) {σ : zSt} (ko : kq_16 σ a1 a2) (kk : Z (kup K) w (nx_16 σ a1 a2) [(0, .ref b), (1, .ref (zq w 0)), (2, .ref (zq w 13)), (3, .ref (zq w 25)), (4, .int i)] [] 1576) : Z K w σ [(0, .ref b), (1, .ref (zq w 0)), (2, .ref (zq w 13)), (3, .ref (zq w 25)), (4, .int i)] [] 991 := by
  unfold kq_16 at ko
  refine z_aload_n O zd_L_law_991 rfl 1 rfl ?_
  refine z_aload_n O zd_L_law_992 rfl 0 rfl ?_
  refine z_iload O zd_L_law_993 4 rfl ?_
  refine z_iconst O (v := 1) zd_L_law_995 (by decide) ?_
  refine z_iadd O zd_L_law_996 ?_
  refine z_sld O hscr h1.1 h1.2 zd_L_law_997 ?_
  refine z_aload_n O zd_L_law_998 rfl 3 rfl ?_
  refine z_callw O hl0 hX (st := []) (c_L_ackBlocks l hfl w σ a1 ko.1) zlw_ackBlocks rfl rfl (Nat.le_of_ble_eq_true rfl) (Nat.le_of_ble_eq_true rfl) (Nat.le_of_ble_eq_true rfl) hroom.1 hroom.2 zd_L_law_999 (fun k u e1 => ?_)
  have ko := ko.2 k u e1
  have O := zOk_up O hroom.1 hroom.2
  refine z_istore O (lv' := [(5, .int k), (0, .ref b), (1, .ref (zq w 0)), (2, .ref (zq w 13)), (3, .ref (zq w 25)), (4, .int i)]) zd_L_law_1002 (Nat.le_of_ble_eq_true rfl) rfl ?_
  refine z_aload_n O zd_L_law_1004 rfl 3 rfl ?_
  refine z_aload_n O zd_L_law_1005 rfl 1 rfl ?_
  refine z_iload O zd_L_law_1006 5 rfl ?_
  refine z_iconst O (v := 1) zd_L_law_1008 (by decide) ?_
  refine z_iadd O zd_L_law_1009 ?_
  refine z_sld O hscr h1.1 h1.2 zd_L_law_1010 ?_
  refine z_calli (K := kup K) O hl0 (st := []) 13 6 (fs := zo13 w u) rfl rfl (c_M_ackBlocks l w u a1 ko.1) zl_L_138 zm1013 zm1014 rfl rfl (Nat.le_of_ble_eq_true rfl) (Nat.le_of_ble_eq_true rfl) (Nat.le_of_ble_eq_true rfl) zd_L_law_1011 (fun r u2 e2 => ?_)
  have ko := ko.2 r u2 e2
  refine z_istore O (lv' := [(6, .int r), (5, .int k), (0, .ref b), (1, .ref (zq w 0)), (2, .ref (zq w 13)), (3, .ref (zq w 25)), (4, .int i)]) zd_L_law_1014 (Nat.le_of_ble_eq_true rfl) rfl ?_
  refine z_aload_n O zd_L_law_1016 rfl 4 rfl ?_
  refine z_callri (K := kup K) O hl0 (st := []) 13 6 (fs := zo13 w u2) rfl rfl (c_M_thrown l w u2) zl_L_83 zm856 zm857 rfl rfl (Nat.le_of_ble_eq_true rfl) (Nat.le_of_ble_eq_true rfl) (Nat.le_of_ble_eq_true rfl) zd_L_law_1017 (fun t e3 => ?_)
  refine z_iload O zd_L_law_1020 1 rfl ?_
  have hu : u2 = nx_16 σ a1 a2 := by unfold nx_16; rw [← e1]; show u2 = (f_M_ackBlocks u a1).2; rw [← e2]
  refine z_icmp_eq O (tgt := 1027) zd_L_law_1022 (by decide) (fun _ => ?_) (fun c => absurd (e3.trans ko.1) c)
  refine z_iload O zd_L_law_1027 1 rfl ?_
  refine z_if_ne O (tgt := 1044) zd_L_law_1029 (by decide) (fun c => ?_) (fun c => ?_)
  · refine z_goto O (tgt := 1576) zd_L_law_1044 (by decide) ?_
    refine z_sub (lv' := [(0, .ref b), (1, .ref (zq w 0)), (2, .ref (zq w 13)), (3, .ref (zq w 25)), (4, .int i)]) [2, 3, 4, 5, 6] rfl ?_
    rw [hu]; exact kk
  · refine z_aload_n O zd_L_law_1032 rfl 5 rfl ?_
    refine z_iconst O (v := 0) zd_L_law_1033 (by decide) ?_
    refine z_lald O zd_L_law_1034 ?_
    refine z_iload O zd_L_law_1035 0 rfl ?_
    refine z_i2l O zd_L_law_1037 ?_
    refine z_lcmp O (by rw [ko.2 c]) zd_L_law_1038 ?_
    refine z_if_eq O (tgt := 1044) zd_L_law_1039 (by decide) (fun _ => ?_) (fun c => absurd rfl c)
    refine z_goto O (tgt := 1576) zd_L_law_1044 (by decide) ?_
    refine z_sub (lv' := [(0, .ref b), (1, .ref (zq w 0)), (2, .ref (zq w 13)), (3, .ref (zq w 25)), (4, .int i)]) [2, 3, 4, 5, 6] rfl ?_
    rw [hu]; exact kk
set_option maxHeartbeats 4000000 in
set_option maxRecDepth 100000 in
theorem q_17 {K : zCx} {w : zWd} {l : Launch} (O : zOk K w code "SluiceStreamLaw" 7 10 376) (hl0 : kl K = l) (hfl : l.stackTraces = false) (hX : zXs K w) {b L : Nat} {xs : Nat → Int32} (hscr : zScr K b L xs) {i a1 a2 : Int32} (h1 : vp_in (i + 1) L ∧ xs (i + 1).toNatClampNeg = a1) (h2 : vp_in (i + 2) L ∧ xs (i + 2).toNatClampNeg = a2) (hroom : kce K + 1 ≤ (kR K).cells ∧ ksl K + 6 ≤ (kR K).slots) {σ : zSt} (ko : kq_17 σ a1 a2) (kk : Z (kup K) w (nx_17 σ a1 a2) [(0, .ref b), (1, .ref (zq w 0)), (2, .ref (zq w 13)), (3, .ref (zq w 25)), (4, .int i)] [] 1576) : Z K w σ [(0, .ref b), (1, .ref (zq w 0)), (2, .ref (zq w 13)), (3, .ref (zq w 25)), (4, .int i)] [] 1047 := by
  unfold kq_17 at ko
  refine z_aload_n O zd_L_law_1047 rfl 1 rfl ?_
  refine z_aload_n O zd_L_law_1048 rfl 0 rfl ?_
  refine z_iload O zd_L_law_1049 4 rfl ?_
  refine z_iconst O (v := 1) zd_L_law_1051 (by decide) ?_
  refine z_iadd O zd_L_law_1052 ?_
  refine z_sld O hscr h1.1 h1.2 zd_L_law_1053 ?_
  refine z_aload_n O zd_L_law_1054 rfl 0 rfl ?_
  refine z_iload O zd_L_law_1055 4 rfl ?_
  refine z_iconst O (v := 2) zd_L_law_1057 (by decide) ?_
  refine z_iadd O zd_L_law_1058 ?_
  refine z_sld O hscr h2.1 h2.2 zd_L_law_1059 ?_
  refine z_aload_n O zd_L_law_1060 rfl 3 rfl ?_
  refine z_callw O hl0 hX (st := []) (c_L_ackBlock l hfl w σ a1 a2 ko.1) zlw_ackBlock rfl rfl (Nat.le_of_ble_eq_true rfl) (Nat.le_of_ble_eq_true rfl) (Nat.le_of_ble_eq_true rfl) hroom.1 hroom.2 zd_L_law_1061 (fun k u e1 => ?_)
  have ko := ko.2 k u e1
  have O := zOk_up O hroom.1 hroom.2
  refine z_istore O (lv' := [(5, .int k), (0, .ref b), (1, .ref (zq w 0)), (2, .ref (zq w 13)), (3, .ref (zq w 25)), (4, .int i)]) zd_L_law_1064 (Nat.le_of_ble_eq_true rfl) rfl ?_
  refine z_aload_n O zd_L_law_1066 rfl 3 rfl ?_
  refine z_aload_n O zd_L_law_1067 rfl 1 rfl ?_
  refine z_iload O zd_L_law_1068 5 rfl ?_
  refine z_iconst O (v := 1) zd_L_law_1070 (by decide) ?_
  refine z_iadd O zd_L_law_1071 ?_
  refine z_sld O hscr h1.1 h1.2 zd_L_law_1072 ?_
  refine z_aload_n O zd_L_law_1073 rfl 1 rfl ?_
  refine z_iload O zd_L_law_1074 5 rfl ?_
  refine z_iconst O (v := 2) zd_L_law_1076 (by decide) ?_
  refine z_iadd O zd_L_law_1077 ?_
  refine z_sld O hscr h2.1 h2.2 zd_L_law_1078 ?_
  refine z_calli (K := kup K) O hl0 (st := []) 13 6 (fs := zo13 w u) rfl rfl (c_M_ackBlock l w u a1 a2 ko.1) zl_L_141 zm1017 zm1018 rfl rfl (Nat.le_of_ble_eq_true rfl) (Nat.le_of_ble_eq_true rfl) (Nat.le_of_ble_eq_true rfl) zd_L_law_1079 (fun r u2 e2 => ?_)
  have ko := ko.2 r u2 e2
  refine z_istore O (lv' := [(6, .int r), (5, .int k), (0, .ref b), (1, .ref (zq w 0)), (2, .ref (zq w 13)), (3, .ref (zq w 25)), (4, .int i)]) zd_L_law_1082 (Nat.le_of_ble_eq_true rfl) rfl ?_
  refine z_aload_n O zd_L_law_1084 rfl 4 rfl ?_
  refine z_callri (K := kup K) O hl0 (st := []) 13 6 (fs := zo13 w u2) rfl rfl (c_M_thrown l w u2) zl_L_83 zm856 zm857 rfl rfl (Nat.le_of_ble_eq_true rfl) (Nat.le_of_ble_eq_true rfl) (Nat.le_of_ble_eq_true rfl) zd_L_law_1085 (fun t e3 => ?_)
  refine z_iload O zd_L_law_1088 1 rfl ?_
  have hu : u2 = nx_17 σ a1 a2 := by unfold nx_17; rw [← e1]; show u2 = (f_M_ackBlock u a1 a2).2; rw [← e2]
  refine z_icmp_eq O (tgt := 1095) zd_L_law_1090 (by decide) (fun _ => ?_) (fun c => absurd (e3.trans ko.1) c)
  refine z_iload O zd_L_law_1095 1 rfl ?_
  refine z_if_ne O (tgt := 1112) zd_L_law_1097 (by decide) (fun c => ?_) (fun c => ?_)
  · refine z_goto O (tgt := 1576) zd_L_law_1112 (by decide) ?_
    refine z_sub (lv' := [(0, .ref b), (1, .ref (zq w 0)), (2, .ref (zq w 13)), (3, .ref (zq w 25)), (4, .int i)]) [2, 3, 4, 5, 6] rfl ?_
    rw [hu]; exact kk
  · refine z_aload_n O zd_L_law_1100 rfl 5 rfl ?_
    refine z_iconst O (v := 0) zd_L_law_1101 (by decide) ?_
    refine z_lald O zd_L_law_1102 ?_
    refine z_iload O zd_L_law_1103 0 rfl ?_
    refine z_i2l O zd_L_law_1105 ?_
    refine z_lcmp O (by rw [ko.2 c]) zd_L_law_1106 ?_
    refine z_if_eq O (tgt := 1112) zd_L_law_1107 (by decide) (fun _ => ?_) (fun c => absurd rfl c)
    refine z_goto O (tgt := 1576) zd_L_law_1112 (by decide) ?_
    refine z_sub (lv' := [(0, .ref b), (1, .ref (zq w 0)), (2, .ref (zq w 13)), (3, .ref (zq w 25)), (4, .int i)]) [2, 3, 4, 5, 6] rfl ?_
    rw [hu]; exact kk
set_option maxHeartbeats 4000000 in
set_option maxRecDepth 100000 in
theorem q_18 {K : zCx} {w : zWd} {l : Launch} (O : zOk K w code "SluiceStreamLaw" 7 10 376) (hl0 : kl K = l) (hfl : l.stackTraces = false) (hX : zXs K w) {b L : Nat} {xs : Nat → Int32} (hscr : zScr K b L xs) {i a1 a2 : Int32} (h1 : vp_in (i + 1) L ∧ xs (i + 1).toNatClampNeg = a1) (h2 : vp_in (i + 2) L ∧ xs (i + 2).toNatClampNeg = a2) (hroom : kce K + 1 ≤ (kR K).cells ∧ ksl K + 6 ≤ (kR K).slots) {σ : zSt} (ko : kq_18 σ a1 a2) (kk : Z (kup K) w (nx_18 σ a1 a2) [(0, .ref b), (1, .ref (zq w 0)), (2, .ref (zq w 13)), (3, .ref (zq w 25)), (4, .int i)] [] 1576) : Z K w σ [(0, .ref b), (1, .ref (zq w 0)), (2, .ref (zq w 13)), (3, .ref (zq w 25)), (4, .int i)] [] 1115 := by
  unfold kq_18 at ko
  refine z_aload_n O zd_L_law_1115 rfl 1 rfl ?_
  refine z_callri O hl0 (st := []) 0 5 (fs := zo0 w σ) rfl rfl (c_X_time l w σ) zl_L_142 zm273 zm274 rfl rfl (Nat.le_of_ble_eq_true rfl) (Nat.le_of_ble_eq_true rfl) (Nat.le_of_ble_eq_true rfl) zd_L_law_1116 (fun r e1 => ?_)
  have ko := ko
  refine z_aload_n O zd_L_law_1119 rfl 2 rfl ?_
  refine z_calli O hl0 (st := [.int r]) 13 6 (fs := zo13 w σ) rfl rfl (c_M_time l w σ) zl_L_145 zm1021 zm1022 rfl rfl (Nat.le_of_ble_eq_true rfl) (Nat.le_of_ble_eq_true rfl) (Nat.le_of_ble_eq_true rfl) zd_L_law_1120 (fun r2 u2 e2 => ?_)
  have hv : r = r2 := by rw [e1, ko, ← e2]
  have hu : u2 = nx_18 σ a1 a2 := by unfold nx_18; rw [← e2]
  subst hu
  exact z_icmp_eq O (tgt := 1576) zd_L_law_1123 (by decide) (fun _ => z_up kk) (fun c => absurd hv c)
set_option maxHeartbeats 4000000 in
set_option maxRecDepth 100000 in
theorem q_19 {K : zCx} {w : zWd} {l : Launch} (O : zOk K w code "SluiceStreamLaw" 7 10 376) (hl0 : kl K = l) (hfl : l.stackTraces = false) (hX : zXs K w) {b L : Nat} {xs : Nat → Int32} (hscr : zScr K b L xs) {i a1 a2 : Int32} (h1 : vp_in (i + 1) L ∧ xs (i + 1).toNatClampNeg = a1) (h2 : vp_in (i + 2) L ∧ xs (i + 2).toNatClampNeg = a2) (hroom : kce K + 1 ≤ (kR K).cells ∧ ksl K + 6 ≤ (kR K).slots) {σ : zSt} (ko : kq_19 σ a1 a2) (kk : Z (kup K) w (nx_19 σ a1 a2) [(0, .ref b), (1, .ref (zq w 0)), (2, .ref (zq w 13)), (3, .ref (zq w 25)), (4, .int i)] [] 1576) : Z K w σ [(0, .ref b), (1, .ref (zq w 0)), (2, .ref (zq w 13)), (3, .ref (zq w 25)), (4, .int i)] [] 1128 := by
  unfold kq_19 at ko
  refine z_aload_n O zd_L_law_1128 rfl 1 rfl ?_
  refine z_callri O hl0 (st := []) 0 5 (fs := zo0 w σ) rfl rfl (c_X_acknowledged l w σ) zl_L_146 zm277 zm278 rfl rfl (Nat.le_of_ble_eq_true rfl) (Nat.le_of_ble_eq_true rfl) (Nat.le_of_ble_eq_true rfl) zd_L_law_1129 (fun r e1 => ?_)
  have ko := ko
  refine z_aload_n O zd_L_law_1132 rfl 2 rfl ?_
  refine z_calli O hl0 (st := [.int r]) 13 6 (fs := zo13 w σ) rfl rfl (c_M_acknowledged l w σ) zl_L_149 zm1025 zm1026 rfl rfl (Nat.le_of_ble_eq_true rfl) (Nat.le_of_ble_eq_true rfl) (Nat.le_of_ble_eq_true rfl) zd_L_law_1133 (fun r2 u2 e2 => ?_)
  have hv : r = r2 := by rw [e1, ko, ← e2]
  have hu : u2 = nx_19 σ a1 a2 := by unfold nx_19; rw [← e2]
  subst hu
  exact z_icmp_eq O (tgt := 1576) zd_L_law_1136 (by decide) (fun _ => z_up kk) (fun c => absurd hv c)
set_option maxHeartbeats 4000000 in
set_option maxRecDepth 100000 in
theorem q_20 {K : zCx} {w : zWd} {l : Launch} (O : zOk K w code "SluiceStreamLaw" 7 10 376) (hl0 : kl K = l) (hfl : l.stackTraces = false) (hX : zXs K w) {b L : Nat} {xs : Nat → Int32} (hscr : zScr K b L xs) {i a1 a2 : Int32} (h1 : vp_in (i + 1) L ∧ xs (i + 1).toNatClampNeg = a1) (h2 : vp_in (i + 2) L ∧ xs (i + 2).toNatClampNeg = a2) (hroom : kce K + 1 ≤ (kR K).cells ∧ ksl K + 6 ≤ (kR K).slots) {σ : zSt} (ko : kq_20 σ a1 a2) (kk : Z (kup K) w (nx_20 σ a1 a2) [(0, .ref b), (1, .ref (zq w 0)), (2, .ref (zq w 13)), (3, .ref (zq w 25)), (4, .int i)] [] 1576) : Z K w σ [(0, .ref b), (1, .ref (zq w 0)), (2, .ref (zq w 13)), (3, .ref (zq w 25)), (4, .int i)] [] 1141 := by
  unfold kq_20 at ko
  refine z_aload_n O zd_L_law_1141 rfl 1 rfl ?_
  refine z_callri O hl0 (st := []) 0 5 (fs := zo0 w σ) rfl rfl (c_X_next l w σ) zl_L_150 zm281 zm282 rfl rfl (Nat.le_of_ble_eq_true rfl) (Nat.le_of_ble_eq_true rfl) (Nat.le_of_ble_eq_true rfl) zd_L_law_1142 (fun r e1 => ?_)
  have ko := ko
  refine z_aload_n O zd_L_law_1145 rfl 2 rfl ?_
  refine z_calli O hl0 (st := [.int r]) 13 6 (fs := zo13 w σ) rfl rfl (c_M_next l w σ) zl_L_153 zm1029 zm1030 rfl rfl (Nat.le_of_ble_eq_true rfl) (Nat.le_of_ble_eq_true rfl) (Nat.le_of_ble_eq_true rfl) zd_L_law_1146 (fun r2 u2 e2 => ?_)
  have hv : r = r2 := by rw [e1, ko, ← e2]
  have hu : u2 = nx_20 σ a1 a2 := by unfold nx_20; rw [← e2]
  subst hu
  exact z_icmp_eq O (tgt := 1576) zd_L_law_1149 (by decide) (fun _ => z_up kk) (fun c => absurd hv c)
set_option maxHeartbeats 4000000 in
set_option maxRecDepth 100000 in
theorem q_21 {K : zCx} {w : zWd} {l : Launch} (O : zOk K w code "SluiceStreamLaw" 7 10 376) (hl0 : kl K = l) (hfl : l.stackTraces = false) (hX : zXs K w) {b L : Nat} {xs : Nat → Int32} (hscr : zScr K b L xs) {i a1 a2 : Int32} (h1 : vp_in (i + 1) L ∧ xs (i + 1).toNatClampNeg = a1) (h2 : vp_in (i + 2) L ∧ xs (i + 2).toNatClampNeg = a2) (hroom : kce K + 1 ≤ (kR K).cells ∧ ksl K + 6 ≤ (kR K).slots) {σ : zSt} (ko : kq_21 σ a1 a2) (kk : Z (kup K) w (nx_21 σ a1 a2) [(0, .ref b), (1, .ref (zq w 0)), (2, .ref (zq w 13)), (3, .ref (zq w 25)), (4, .int i)] [] 1576) : Z K w σ [(0, .ref b), (1, .ref (zq w 0)), (2, .ref (zq w 13)), (3, .ref (zq w 25)), (4, .int i)] [] 1154 := by
  unfold kq_21 at ko
  refine z_aload_n O zd_L_law_1154 rfl 1 rfl ?_
  refine z_callri O hl0 (st := []) 0 5 (fs := zo0 w σ) rfl rfl (c_X_highest l w σ) zl_L_154 zm285 zm286 rfl rfl (Nat.le_of_ble_eq_true rfl) (Nat.le_of_ble_eq_true rfl) (Nat.le_of_ble_eq_true rfl) zd_L_law_1155 (fun r e1 => ?_)
  have ko := ko
  refine z_aload_n O zd_L_law_1158 rfl 2 rfl ?_
  refine z_calli O hl0 (st := [.int r]) 13 6 (fs := zo13 w σ) rfl rfl (c_M_highest l w σ) zl_L_157 zm1033 zm1034 rfl rfl (Nat.le_of_ble_eq_true rfl) (Nat.le_of_ble_eq_true rfl) (Nat.le_of_ble_eq_true rfl) zd_L_law_1159 (fun r2 u2 e2 => ?_)
  have hv : r = r2 := by rw [e1, ko, ← e2]
  have hu : u2 = nx_21 σ a1 a2 := by unfold nx_21; rw [← e2]
  subst hu
  exact z_icmp_eq O (tgt := 1576) zd_L_law_1162 (by decide) (fun _ => z_up kk) (fun c => absurd hv c)
set_option maxHeartbeats 4000000 in
set_option maxRecDepth 100000 in
theorem q_22 {K : zCx} {w : zWd} {l : Launch} (O : zOk K w code "SluiceStreamLaw" 7 10 376) (hl0 : kl K = l) (hfl : l.stackTraces = false) (hX : zXs K w) {b L : Nat} {xs : Nat → Int32} (hscr : zScr K b L xs) {i a1 a2 : Int32} (h1 : vp_in (i + 1) L ∧ xs (i + 1).toNatClampNeg = a1) (h2 : vp_in (i + 2) L ∧ xs (i + 2).toNatClampNeg = a2) (hroom : kce K + 1 ≤ (kR K).cells ∧ ksl K + 6 ≤ (kR K).slots) {σ : zSt} (ko : kq_22 σ a1 a2) (kk : Z (kup K) w (nx_22 σ a1 a2) [(0, .ref b), (1, .ref (zq w 0)), (2, .ref (zq w 13)), (3, .ref (zq w 25)), (4, .int i)] [] 1576) : Z K w σ [(0, .ref b), (1, .ref (zq w 0)), (2, .ref (zq w 13)), (3, .ref (zq w 25)), (4, .int i)] [] 1167 := by
  unfold kq_22 at ko
  refine z_aload_n O zd_L_law_1167 rfl 1 rfl ?_
  refine z_callri O hl0 (st := []) 0 5 (fs := zo0 w σ) rfl rfl (c_X_written l w σ) zl_L_158 zm289 zm290 rfl rfl (Nat.le_of_ble_eq_true rfl) (Nat.le_of_ble_eq_true rfl) (Nat.le_of_ble_eq_true rfl) zd_L_law_1168 (fun r e1 => ?_)
  have ko := ko
  refine z_aload_n O zd_L_law_1171 rfl 2 rfl ?_
  refine z_calli O hl0 (st := [.int r]) 13 6 (fs := zo13 w σ) rfl rfl (c_M_written l w σ) zl_L_161 zm1037 zm1038 rfl rfl (Nat.le_of_ble_eq_true rfl) (Nat.le_of_ble_eq_true rfl) (Nat.le_of_ble_eq_true rfl) zd_L_law_1172 (fun r2 u2 e2 => ?_)
  have hv : r = r2 := by rw [e1, ko, ← e2]
  have hu : u2 = nx_22 σ a1 a2 := by unfold nx_22; rw [← e2]
  subst hu
  exact z_icmp_eq O (tgt := 1576) zd_L_law_1175 (by decide) (fun _ => z_up kk) (fun c => absurd hv c)
set_option maxHeartbeats 4000000 in
set_option maxRecDepth 100000 in
theorem q_23 {K : zCx} {w : zWd} {l : Launch} (O : zOk K w code "SluiceStreamLaw" 7 10 376) (hl0 : kl K = l) (hfl : l.stackTraces = false) (hX : zXs K w) {b L : Nat} {xs : Nat → Int32} (hscr : zScr K b L xs) {i a1 a2 : Int32} (h1 : vp_in (i + 1) L ∧ xs (i + 1).toNatClampNeg = a1) (h2 : vp_in (i + 2) L ∧ xs (i + 2).toNatClampNeg = a2) (hroom : kce K + 1 ≤ (kR K).cells ∧ ksl K + 6 ≤ (kR K).slots) {σ : zSt} (ko : kq_23 σ a1 a2) (kk : Z (kup K) w (nx_23 σ a1 a2) [(0, .ref b), (1, .ref (zq w 0)), (2, .ref (zq w 13)), (3, .ref (zq w 25)), (4, .int i)] [] 1576) : Z K w σ [(0, .ref b), (1, .ref (zq w 0)), (2, .ref (zq w 13)), (3, .ref (zq w 25)), (4, .int i)] [] 1180 := by
  unfold kq_23 at ko
  refine z_aload_n O zd_L_law_1180 rfl 1 rfl ?_
  refine z_callri O hl0 (st := []) 0 5 (fs := zo0 w σ) rfl rfl (c_X_edge l w σ) zl_L_162 zm293 zm294 rfl rfl (Nat.le_of_ble_eq_true rfl) (Nat.le_of_ble_eq_true rfl) (Nat.le_of_ble_eq_true rfl) zd_L_law_1181 (fun r e1 => ?_)
  have ko := ko
  refine z_aload_n O zd_L_law_1184 rfl 2 rfl ?_
  refine z_calli O hl0 (st := [.int r]) 13 6 (fs := zo13 w σ) rfl rfl (c_M_edge l w σ) zl_L_165 zm1041 zm1042 rfl rfl (Nat.le_of_ble_eq_true rfl) (Nat.le_of_ble_eq_true rfl) (Nat.le_of_ble_eq_true rfl) zd_L_law_1185 (fun r2 u2 e2 => ?_)
  have hv : r = r2 := by rw [e1, ko, ← e2]
  have hu : u2 = nx_23 σ a1 a2 := by unfold nx_23; rw [← e2]
  subst hu
  exact z_icmp_eq O (tgt := 1576) zd_L_law_1188 (by decide) (fun _ => z_up kk) (fun c => absurd hv c)
set_option maxHeartbeats 4000000 in
set_option maxRecDepth 100000 in
theorem q_24 {K : zCx} {w : zWd} {l : Launch} (O : zOk K w code "SluiceStreamLaw" 7 10 376) (hl0 : kl K = l) (hfl : l.stackTraces = false) (hX : zXs K w) {b L : Nat} {xs : Nat → Int32} (hscr : zScr K b L xs) {i a1 a2 : Int32} (h1 : vp_in (i + 1) L ∧ xs (i + 1).toNatClampNeg = a1) (h2 : vp_in (i + 2) L ∧ xs (i + 2).toNatClampNeg = a2) (hroom : kce K + 1 ≤ (kR K).cells ∧ ksl K + 6 ≤ (kR K).slots) {σ : zSt} (ko : kq_24 σ a1 a2) (kk : Z (kup K) w (nx_24 σ a1 a2) [(0, .ref b), (1, .ref (zq w 0)), (2, .ref (zq w 13)), (3, .ref (zq w 25)), (4, .int i)] [] 1576) : Z K w σ [(0, .ref b), (1, .ref (zq w 0)), (2, .ref (zq w 13)), (3, .ref (zq w 25)), (4, .int i)] [] 1193 := by
  unfold kq_24 at ko
  refine z_aload_n O zd_L_law_1193 rfl 1 rfl ?_
  refine z_callri O hl0 (st := []) 0 5 (fs := zo0 w σ) rfl rfl (c_X_inFlight l w σ ko.1) zl_L_166 zm297 zm298 rfl rfl (Nat.le_of_ble_eq_true rfl) (Nat.le_of_ble_eq_true rfl) (Nat.le_of_ble_eq_true rfl) zd_L_law_1194 (fun r e1 => ?_)
  have ko := ko.2
  refine z_aload_n O zd_L_law_1197 rfl 2 rfl ?_
  refine z_calli O hl0 (st := [.int r]) 13 6 (fs := zo13 w σ) rfl rfl (c_M_inFlight l w σ ko.1) zl_L_169 zm1045 zm1046 rfl rfl (Nat.le_of_ble_eq_true rfl) (Nat.le_of_ble_eq_true rfl) (Nat.le_of_ble_eq_true rfl) zd_L_law_1198 (fun r2 u2 e2 => ?_)
  have ko := ko.2
  have hv : r = r2 := by rw [e1, ko, ← e2]
  have hu : u2 = nx_24 σ a1 a2 := by unfold nx_24; rw [← e2]
  subst hu
  exact z_icmp_eq O (tgt := 1576) zd_L_law_1201 (by decide) (fun _ => z_up kk) (fun c => absurd hv c)
set_option maxHeartbeats 4000000 in
set_option maxRecDepth 100000 in
theorem q_25 {K : zCx} {w : zWd} {l : Launch} (O : zOk K w code "SluiceStreamLaw" 7 10 376) (hl0 : kl K = l) (hfl : l.stackTraces = false) (hX : zXs K w) {b L : Nat} {xs : Nat → Int32} (hscr : zScr K b L xs) {i a1 a2 : Int32} (h1 : vp_in (i + 1) L ∧ xs (i + 1).toNatClampNeg = a1) (h2 : vp_in (i + 2) L ∧ xs (i + 2).toNatClampNeg = a2) (hroom : kce K + 1 ≤ (kR K).cells ∧ ksl K + 6 ≤ (kR K).slots) {σ : zSt} (ko : kq_25 σ a1 a2) (kk : Z (kup K) w (nx_25 σ a1 a2) [(0, .ref b), (1, .ref (zq w 0)), (2, .ref (zq w 13)), (3, .ref (zq w 25)), (4, .int i)] [] 1576) : Z K w σ [(0, .ref b), (1, .ref (zq w 0)), (2, .ref (zq w 13)), (3, .ref (zq w 25)), (4, .int i)] [] 1206 := by
  unfold kq_25 at ko
  refine z_aload_n O zd_L_law_1206 rfl 1 rfl ?_
  refine z_aload_n O zd_L_law_1207 rfl 0 rfl ?_
  refine z_iload O zd_L_law_1208 4 rfl ?_
  refine z_iconst O (v := 1) zd_L_law_1210 (by decide) ?_
  refine z_iadd O zd_L_law_1211 ?_
  refine z_sld O hscr h1.1 h1.2 zd_L_law_1212 ?_
  refine z_aload_n O zd_L_law_1213 rfl 3 rfl ?_
  refine z_callw O hl0 hX (st := []) (c_L_isMarked l hfl w σ a1 ko.1) zlw_isMarked rfl rfl (Nat.le_of_ble_eq_true rfl) (Nat.le_of_ble_eq_true rfl) (Nat.le_of_ble_eq_true rfl) hroom.1 hroom.2 zd_L_law_1214 (fun k u e1 => ?_)
  have ko := ko.2 k u e1
  have O := zOk_up O hroom.1 hroom.2
  refine z_istore O (lv' := [(5, .int k), (0, .ref b), (1, .ref (zq w 0)), (2, .ref (zq w 13)), (3, .ref (zq w 25)), (4, .int i)]) zd_L_law_1217 (Nat.le_of_ble_eq_true rfl) rfl ?_
  refine z_aload_n O zd_L_law_1219 rfl 3 rfl ?_
  refine z_aload_n O zd_L_law_1220 rfl 1 rfl ?_
  refine z_iload O zd_L_law_1221 5 rfl ?_
  refine z_iconst O (v := 1) zd_L_law_1223 (by decide) ?_
  refine z_iadd O zd_L_law_1224 ?_
  refine z_sld O hscr h1.1 h1.2 zd_L_law_1225 ?_
  refine z_calli (K := kup K) O hl0 (st := []) 13 6 (fs := zo13 w u) rfl rfl (c_M_isMarked l w u a1 ko.1) zl_L_172 zm1049 zm1050 rfl rfl (Nat.le_of_ble_eq_true rfl) (Nat.le_of_ble_eq_true rfl) (Nat.le_of_ble_eq_true rfl) zd_L_law_1226 (fun r u2 e2 => ?_)
  have ko := ko.2 r u2 e2
  refine z_istore O (lv' := [(6, .int r), (5, .int k), (0, .ref b), (1, .ref (zq w 0)), (2, .ref (zq w 13)), (3, .ref (zq w 25)), (4, .int i)]) zd_L_law_1229 (Nat.le_of_ble_eq_true rfl) rfl ?_
  refine z_aload_n O zd_L_law_1231 rfl 4 rfl ?_
  refine z_callri (K := kup K) O hl0 (st := []) 13 6 (fs := zo13 w u2) rfl rfl (c_M_thrown l w u2) zl_L_83 zm856 zm857 rfl rfl (Nat.le_of_ble_eq_true rfl) (Nat.le_of_ble_eq_true rfl) (Nat.le_of_ble_eq_true rfl) zd_L_law_1232 (fun t e3 => ?_)
  refine z_iload O zd_L_law_1235 1 rfl ?_
  have hu : u2 = nx_25 σ a1 a2 := by unfold nx_25; rw [← e1]; show u2 = (f_M_isMarked u a1).2; rw [← e2]
  refine z_icmp_eq O (tgt := 1242) zd_L_law_1237 (by decide) (fun _ => ?_) (fun c => absurd (e3.trans ko.1) c)
  refine z_iload O zd_L_law_1242 1 rfl ?_
  refine z_if_ne O (tgt := 1266) zd_L_law_1244 (by decide) (fun c => ?_) (fun c => ?_)
  · refine z_goto O (tgt := 1576) zd_L_law_1266 (by decide) ?_
    refine z_sub (lv' := [(0, .ref b), (1, .ref (zq w 0)), (2, .ref (zq w 13)), (3, .ref (zq w 25)), (4, .int i)]) [2, 3, 4, 5, 6] rfl ?_
    rw [hu]; exact kk
  · refine z_aload_n O zd_L_law_1247 rfl 5 rfl ?_
    refine z_iconst O (v := 0) zd_L_law_1248 (by decide) ?_
    refine z_lald O zd_L_law_1249 ?_
    refine z_iload O zd_L_law_1250 0 rfl ?_
    refine z_if_eq O (tgt := 1259) zd_L_law_1252 (by decide) (fun c2 => ?_) (fun c2 => ?_)
    · refine z_lconst O (v := 0) zd_L_law_1259 (by decide) ?_
      refine z_lcmp O (by rw [ko.2 c, if_pos c2]; decide) zd_L_law_1260 ?_
      refine z_if_eq O (tgt := 1266) zd_L_law_1261 (by decide) (fun _ => ?_) (fun c => absurd rfl c)
      refine z_goto O (tgt := 1576) zd_L_law_1266 (by decide) ?_
      refine z_sub (lv' := [(0, .ref b), (1, .ref (zq w 0)), (2, .ref (zq w 13)), (3, .ref (zq w 25)), (4, .int i)]) [2, 3, 4, 5, 6] rfl ?_
      rw [hu]; exact kk
    · refine z_lconst O (v := 1) zd_L_law_1255 (by decide) ?_
      refine z_goto O (tgt := 1260) zd_L_law_1256 (by decide) ?_
      refine z_lcmp O (by rw [ko.2 c, if_neg c2]; decide) zd_L_law_1260 ?_
      refine z_if_eq O (tgt := 1266) zd_L_law_1261 (by decide) (fun _ => ?_) (fun c => absurd rfl c)
      refine z_goto O (tgt := 1576) zd_L_law_1266 (by decide) ?_
      refine z_sub (lv' := [(0, .ref b), (1, .ref (zq w 0)), (2, .ref (zq w 13)), (3, .ref (zq w 25)), (4, .int i)]) [2, 3, 4, 5, 6] rfl ?_
      rw [hu]; exact kk
set_option maxHeartbeats 4000000 in
set_option maxRecDepth 100000 in
theorem q_26 {K : zCx} {w : zWd} {l : Launch} (O : zOk K w code "SluiceStreamLaw" 7 10 376) (hl0 : kl K = l) (hfl : l.stackTraces = false) (hX : zXs K w) {b L : Nat} {xs : Nat → Int32} (hscr : zScr K b L xs) {i a1 a2 : Int32} (h1 : vp_in (i + 1) L ∧ xs (i + 1).toNatClampNeg = a1) (h2 : vp_in (i + 2) L ∧ xs (i + 2).toNatClampNeg = a2) (hroom : kce K + 1 ≤ (kR K).cells ∧ ksl K + 6 ≤ (kR K).slots) {σ : zSt} (ko : kq_26 σ a1 a2) (kk : Z (kup K) w (nx_26 σ a1 a2) [(0, .ref b), (1, .ref (zq w 0)), (2, .ref (zq w 13)), (3, .ref (zq w 25)), (4, .int i)] [] 1576) : Z K w σ [(0, .ref b), (1, .ref (zq w 0)), (2, .ref (zq w 13)), (3, .ref (zq w 25)), (4, .int i)] [] 1269 := by
  unfold kq_26 at ko
  refine z_aload_n O zd_L_law_1269 rfl 1 rfl ?_
  refine z_callri O hl0 (st := []) 0 5 (fs := zo0 w σ) rfl rfl (c_X_congestionWindow l w σ) zl_L_173 zm309 zm310 rfl rfl (Nat.le_of_ble_eq_true rfl) (Nat.le_of_ble_eq_true rfl) (Nat.le_of_ble_eq_true rfl) zd_L_law_1270 (fun r e1 => ?_)
  have ko := ko
  refine z_aload_n O zd_L_law_1273 rfl 2 rfl ?_
  refine z_calli O hl0 (st := [.int r]) 13 6 (fs := zo13 w σ) rfl rfl (c_M_congestionWindow l w σ) zl_L_176 zm1053 zm1054 rfl rfl (Nat.le_of_ble_eq_true rfl) (Nat.le_of_ble_eq_true rfl) (Nat.le_of_ble_eq_true rfl) zd_L_law_1274 (fun r2 u2 e2 => ?_)
  have hv : r = r2 := by rw [e1, ko, ← e2]
  have hu : u2 = nx_26 σ a1 a2 := by unfold nx_26; rw [← e2]
  subst hu
  exact z_icmp_eq O (tgt := 1576) zd_L_law_1277 (by decide) (fun _ => z_up kk) (fun c => absurd hv c)
set_option maxHeartbeats 4000000 in
set_option maxRecDepth 100000 in
theorem q_27 {K : zCx} {w : zWd} {l : Launch} (O : zOk K w code "SluiceStreamLaw" 7 10 376) (hl0 : kl K = l) (hfl : l.stackTraces = false) (hX : zXs K w) {b L : Nat} {xs : Nat → Int32} (hscr : zScr K b L xs) {i a1 a2 : Int32} (h1 : vp_in (i + 1) L ∧ xs (i + 1).toNatClampNeg = a1) (h2 : vp_in (i + 2) L ∧ xs (i + 2).toNatClampNeg = a2) (hroom : kce K + 1 ≤ (kR K).cells ∧ ksl K + 6 ≤ (kR K).slots) {σ : zSt} (ko : kq_27 σ a1 a2) (kk : Z (kup K) w (nx_27 σ a1 a2) [(0, .ref b), (1, .ref (zq w 0)), (2, .ref (zq w 13)), (3, .ref (zq w 25)), (4, .int i)] [] 1576) : Z K w σ [(0, .ref b), (1, .ref (zq w 0)), (2, .ref (zq w 13)), (3, .ref (zq w 25)), (4, .int i)] [] 1282 := by
  unfold kq_27 at ko
  refine z_aload_n O zd_L_law_1282 rfl 1 rfl ?_
  refine z_callri O hl0 (st := []) 0 5 (fs := zo0 w σ) rfl rfl (c_X_threshold l w σ) zl_L_177 zm313 zm314 rfl rfl (Nat.le_of_ble_eq_true rfl) (Nat.le_of_ble_eq_true rfl) (Nat.le_of_ble_eq_true rfl) zd_L_law_1283 (fun r e1 => ?_)
  have ko := ko
  refine z_aload_n O zd_L_law_1286 rfl 2 rfl ?_
  refine z_calli O hl0 (st := [.int r]) 13 6 (fs := zo13 w σ) rfl rfl (c_M_threshold l w σ) zl_L_180 zm1057 zm1058 rfl rfl (Nat.le_of_ble_eq_true rfl) (Nat.le_of_ble_eq_true rfl) (Nat.le_of_ble_eq_true rfl) zd_L_law_1287 (fun r2 u2 e2 => ?_)
  have hv : r = r2 := by rw [e1, ko, ← e2]
  have hu : u2 = nx_27 σ a1 a2 := by unfold nx_27; rw [← e2]
  subst hu
  exact z_icmp_eq O (tgt := 1576) zd_L_law_1290 (by decide) (fun _ => z_up kk) (fun c => absurd hv c)
set_option maxHeartbeats 4000000 in
set_option maxRecDepth 100000 in
theorem q_28 {K : zCx} {w : zWd} {l : Launch} (O : zOk K w code "SluiceStreamLaw" 7 10 376) (hl0 : kl K = l) (hfl : l.stackTraces = false) (hX : zXs K w) {b L : Nat} {xs : Nat → Int32} (hscr : zScr K b L xs) {i a1 a2 : Int32} (h1 : vp_in (i + 1) L ∧ xs (i + 1).toNatClampNeg = a1) (h2 : vp_in (i + 2) L ∧ xs (i + 2).toNatClampNeg = a2) (hroom : kce K + 1 ≤ (kR K).cells ∧ ksl K + 6 ≤ (kR K).slots) {σ : zSt} (ko : kq_28 σ a1 a2) (kk : Z (kup K) w (nx_28 σ a1 a2) [(0, .ref b), (1, .ref (zq w 0)), (2, .ref (zq w 13)), (3, .ref (zq w 25)), (4, .int i)] [] 1576) : Z K w σ [(0, .ref b), (1, .ref (zq w 0)), (2, .ref (zq w 13)), (3, .ref (zq w 25)), (4, .int i)] [] 1295 := by
  unfold kq_28 at ko
  refine z_aload_n O zd_L_law_1295 rfl 1 rfl ?_
  refine z_callri O hl0 (st := []) 0 5 (fs := zo0 w σ) rfl rfl (c_X_duplicates l w σ) zl_L_181 zm317 zm318 rfl rfl (Nat.le_of_ble_eq_true rfl) (Nat.le_of_ble_eq_true rfl) (Nat.le_of_ble_eq_true rfl) zd_L_law_1296 (fun r e1 => ?_)
  have ko := ko
  refine z_aload_n O zd_L_law_1299 rfl 2 rfl ?_
  refine z_calli O hl0 (st := [.int r]) 13 6 (fs := zo13 w σ) rfl rfl (c_M_duplicates l w σ) zl_L_184 zm1061 zm1062 rfl rfl (Nat.le_of_ble_eq_true rfl) (Nat.le_of_ble_eq_true rfl) (Nat.le_of_ble_eq_true rfl) zd_L_law_1300 (fun r2 u2 e2 => ?_)
  have hv : r = r2 := by rw [e1, ko, ← e2]
  have hu : u2 = nx_28 σ a1 a2 := by unfold nx_28; rw [← e2]
  subst hu
  exact z_icmp_eq O (tgt := 1576) zd_L_law_1303 (by decide) (fun _ => z_up kk) (fun c => absurd hv c)
set_option maxHeartbeats 4000000 in
set_option maxRecDepth 100000 in
theorem q_29 {K : zCx} {w : zWd} {l : Launch} (O : zOk K w code "SluiceStreamLaw" 7 10 376) (hl0 : kl K = l) (hfl : l.stackTraces = false) (hX : zXs K w) {b L : Nat} {xs : Nat → Int32} (hscr : zScr K b L xs) {i a1 a2 : Int32} (h1 : vp_in (i + 1) L ∧ xs (i + 1).toNatClampNeg = a1) (h2 : vp_in (i + 2) L ∧ xs (i + 2).toNatClampNeg = a2) (hroom : kce K + 1 ≤ (kR K).cells ∧ ksl K + 6 ≤ (kR K).slots) {σ : zSt} (ko : kq_29 σ a1 a2) (kk : Z (kup K) w (nx_29 σ a1 a2) [(0, .ref b), (1, .ref (zq w 0)), (2, .ref (zq w 13)), (3, .ref (zq w 25)), (4, .int i)] [] 1576) : Z K w σ [(0, .ref b), (1, .ref (zq w 0)), (2, .ref (zq w 13)), (3, .ref (zq w 25)), (4, .int i)] [] 1308 := by
  unfold kq_29 at ko
  refine z_aload_n O zd_L_law_1308 rfl 1 rfl ?_
  refine z_callri O hl0 (st := []) 0 5 (fs := zo0 w σ) rfl rfl (c_X_recoveryEnd l w σ) zl_L_185 zm321 zm322 rfl rfl (Nat.le_of_ble_eq_true rfl) (Nat.le_of_ble_eq_true rfl) (Nat.le_of_ble_eq_true rfl) zd_L_law_1309 (fun r e1 => ?_)
  have ko := ko
  refine z_aload_n O zd_L_law_1312 rfl 2 rfl ?_
  refine z_calli O hl0 (st := [.int r]) 13 6 (fs := zo13 w σ) rfl rfl (c_M_recoveryEnd l w σ) zl_L_188 zm1065 zm1066 rfl rfl (Nat.le_of_ble_eq_true rfl) (Nat.le_of_ble_eq_true rfl) (Nat.le_of_ble_eq_true rfl) zd_L_law_1313 (fun r2 u2 e2 => ?_)
  have hv : r = r2 := by rw [e1, ko, ← e2]
  have hu : u2 = nx_29 σ a1 a2 := by unfold nx_29; rw [← e2]
  subst hu
  exact z_icmp_eq O (tgt := 1576) zd_L_law_1316 (by decide) (fun _ => z_up kk) (fun c => absurd hv c)
set_option maxHeartbeats 4000000 in
set_option maxRecDepth 100000 in
theorem q_30 {K : zCx} {w : zWd} {l : Launch} (O : zOk K w code "SluiceStreamLaw" 7 10 376) (hl0 : kl K = l) (hfl : l.stackTraces = false) (hX : zXs K w) {b L : Nat} {xs : Nat → Int32} (hscr : zScr K b L xs) {i a1 a2 : Int32} (h1 : vp_in (i + 1) L ∧ xs (i + 1).toNatClampNeg = a1) (h2 : vp_in (i + 2) L ∧ xs (i + 2).toNatClampNeg = a2) (hroom : kce K + 1 ≤ (kR K).cells ∧ ksl K + 6 ≤ (kR K).slots) {σ : zSt} (ko : kq_30 σ a1 a2) (kk : Z (kup K) w (nx_30 σ a1 a2) [(0, .ref b), (1, .ref (zq w 0)), (2, .ref (zq w 13)), (3, .ref (zq w 25)), (4, .int i)] [] 1576) : Z K w σ [(0, .ref b), (1, .ref (zq w 0)), (2, .ref (zq w 13)), (3, .ref (zq w 25)), (4, .int i)] [] 1321 := by
  unfold kq_30 at ko
  refine z_aload_n O zd_L_law_1321 rfl 1 rfl ?_
  refine z_callri O hl0 (st := []) 0 5 (fs := zo0 w σ) rfl rfl (c_X_timeout l w σ) zl_L_189 zm325 zm326 rfl rfl (Nat.le_of_ble_eq_true rfl) (Nat.le_of_ble_eq_true rfl) (Nat.le_of_ble_eq_true rfl) zd_L_law_1322 (fun r e1 => ?_)
  have ko := ko
  refine z_aload_n O zd_L_law_1325 rfl 2 rfl ?_
  refine z_calli O hl0 (st := [.int r]) 13 6 (fs := zo13 w σ) rfl rfl (c_M_timeout l w σ) zl_L_192 zm1069 zm1070 rfl rfl (Nat.le_of_ble_eq_true rfl) (Nat.le_of_ble_eq_true rfl) (Nat.le_of_ble_eq_true rfl) zd_L_law_1326 (fun r2 u2 e2 => ?_)
  have hv : r = r2 := by rw [e1, ko, ← e2]
  have hu : u2 = nx_30 σ a1 a2 := by unfold nx_30; rw [← e2]
  subst hu
  exact z_icmp_eq O (tgt := 1576) zd_L_law_1329 (by decide) (fun _ => z_up kk) (fun c => absurd hv c)
set_option maxHeartbeats 4000000 in
set_option maxRecDepth 100000 in
theorem q_31 {K : zCx} {w : zWd} {l : Launch} (O : zOk K w code "SluiceStreamLaw" 7 10 376) (hl0 : kl K = l) (hfl : l.stackTraces = false) (hX : zXs K w) {b L : Nat} {xs : Nat → Int32} (hscr : zScr K b L xs) {i a1 a2 : Int32} (h1 : vp_in (i + 1) L ∧ xs (i + 1).toNatClampNeg = a1) (h2 : vp_in (i + 2) L ∧ xs (i + 2).toNatClampNeg = a2) (hroom : kce K + 1 ≤ (kR K).cells ∧ ksl K + 6 ≤ (kR K).slots) {σ : zSt} (ko : kq_31 σ a1 a2) (kk : Z (kup K) w (nx_31 σ a1 a2) [(0, .ref b), (1, .ref (zq w 0)), (2, .ref (zq w 13)), (3, .ref (zq w 25)), (4, .int i)] [] 1576) : Z K w σ [(0, .ref b), (1, .ref (zq w 0)), (2, .ref (zq w 13)), (3, .ref (zq w 25)), (4, .int i)] [] 1334 := by
  unfold kq_31 at ko
  refine z_aload_n O zd_L_law_1334 rfl 1 rfl ?_
  refine z_callri O hl0 (st := []) 0 5 (fs := zo0 w σ) rfl rfl (c_X_timerEnd l w σ) zl_L_193 zm329 zm330 rfl rfl (Nat.le_of_ble_eq_true rfl) (Nat.le_of_ble_eq_true rfl) (Nat.le_of_ble_eq_true rfl) zd_L_law_1335 (fun r e1 => ?_)
  have ko := ko
  refine z_aload_n O zd_L_law_1338 rfl 2 rfl ?_
  refine z_calli O hl0 (st := [.int r]) 13 6 (fs := zo13 w σ) rfl rfl (c_M_timerEnd l w σ) zl_L_196 zm1073 zm1074 rfl rfl (Nat.le_of_ble_eq_true rfl) (Nat.le_of_ble_eq_true rfl) (Nat.le_of_ble_eq_true rfl) zd_L_law_1339 (fun r2 u2 e2 => ?_)
  have hv : r = r2 := by rw [e1, ko, ← e2]
  have hu : u2 = nx_31 σ a1 a2 := by unfold nx_31; rw [← e2]
  subst hu
  exact z_icmp_eq O (tgt := 1576) zd_L_law_1342 (by decide) (fun _ => z_up kk) (fun c => absurd hv c)
set_option maxHeartbeats 4000000 in
set_option maxRecDepth 100000 in
theorem q_32 {K : zCx} {w : zWd} {l : Launch} (O : zOk K w code "SluiceStreamLaw" 7 10 376) (hl0 : kl K = l) (hfl : l.stackTraces = false) (hX : zXs K w) {b L : Nat} {xs : Nat → Int32} (hscr : zScr K b L xs) {i a1 a2 : Int32} (h1 : vp_in (i + 1) L ∧ xs (i + 1).toNatClampNeg = a1) (h2 : vp_in (i + 2) L ∧ xs (i + 2).toNatClampNeg = a2) (hroom : kce K + 1 ≤ (kR K).cells ∧ ksl K + 6 ≤ (kR K).slots) {σ : zSt} (ko : kq_32 σ a1 a2) (kk : Z (kup K) w (nx_32 σ a1 a2) [(0, .ref b), (1, .ref (zq w 0)), (2, .ref (zq w 13)), (3, .ref (zq w 25)), (4, .int i)] [] 1576) : Z K w σ [(0, .ref b), (1, .ref (zq w 0)), (2, .ref (zq w 13)), (3, .ref (zq w 25)), (4, .int i)] [] 1347 := by
  unfold kq_32 at ko
  refine z_aload_n O zd_L_law_1347 rfl 1 rfl ?_
  refine z_callri O hl0 (st := []) 0 5 (fs := zo0 w σ) rfl rfl (c_X_roundTrip l w σ) zl_L_197 zm333 zm334 rfl rfl (Nat.le_of_ble_eq_true rfl) (Nat.le_of_ble_eq_true rfl) (Nat.le_of_ble_eq_true rfl) zd_L_law_1348 (fun r e1 => ?_)
  have ko := ko
  refine z_aload_n O zd_L_law_1351 rfl 2 rfl ?_
  refine z_calli O hl0 (st := [.int r]) 13 6 (fs := zo13 w σ) rfl rfl (c_M_roundTrip l w σ) zl_L_200 zm1077 zm1078 rfl rfl (Nat.le_of_ble_eq_true rfl) (Nat.le_of_ble_eq_true rfl) (Nat.le_of_ble_eq_true rfl) zd_L_law_1352 (fun r2 u2 e2 => ?_)
  have hv : r = r2 := by rw [e1, ko, ← e2]
  have hu : u2 = nx_32 σ a1 a2 := by unfold nx_32; rw [← e2]
  subst hu
  exact z_icmp_eq O (tgt := 1576) zd_L_law_1355 (by decide) (fun _ => z_up kk) (fun c => absurd hv c)
set_option maxHeartbeats 4000000 in
set_option maxRecDepth 100000 in
theorem q_33 {K : zCx} {w : zWd} {l : Launch} (O : zOk K w code "SluiceStreamLaw" 7 10 376) (hl0 : kl K = l) (hfl : l.stackTraces = false) (hX : zXs K w) {b L : Nat} {xs : Nat → Int32} (hscr : zScr K b L xs) {i a1 a2 : Int32} (h1 : vp_in (i + 1) L ∧ xs (i + 1).toNatClampNeg = a1) (h2 : vp_in (i + 2) L ∧ xs (i + 2).toNatClampNeg = a2) (hroom : kce K + 1 ≤ (kR K).cells ∧ ksl K + 6 ≤ (kR K).slots) {σ : zSt} (ko : kq_33 σ a1 a2) (kk : Z (kup K) w (nx_33 σ a1 a2) [(0, .ref b), (1, .ref (zq w 0)), (2, .ref (zq w 13)), (3, .ref (zq w 25)), (4, .int i)] [] 1576) : Z K w σ [(0, .ref b), (1, .ref (zq w 0)), (2, .ref (zq w 13)), (3, .ref (zq w 25)), (4, .int i)] [] 1360 := by
  unfold kq_33 at ko
  refine z_aload_n O zd_L_law_1360 rfl 1 rfl ?_
  refine z_callri O hl0 (st := []) 0 5 (fs := zo0 w σ) rfl rfl (c_X_variation l w σ) zl_L_201 zm337 zm338 rfl rfl (Nat.le_of_ble_eq_true rfl) (Nat.le_of_ble_eq_true rfl) (Nat.le_of_ble_eq_true rfl) zd_L_law_1361 (fun r e1 => ?_)
  have ko := ko
  refine z_aload_n O zd_L_law_1364 rfl 2 rfl ?_
  refine z_calli O hl0 (st := [.int r]) 13 6 (fs := zo13 w σ) rfl rfl (c_M_variation l w σ) zl_L_204 zm1081 zm1082 rfl rfl (Nat.le_of_ble_eq_true rfl) (Nat.le_of_ble_eq_true rfl) (Nat.le_of_ble_eq_true rfl) zd_L_law_1365 (fun r2 u2 e2 => ?_)
  have hv : r = r2 := by rw [e1, ko, ← e2]
  have hu : u2 = nx_33 σ a1 a2 := by unfold nx_33; rw [← e2]
  subst hu
  exact z_icmp_eq O (tgt := 1576) zd_L_law_1368 (by decide) (fun _ => z_up kk) (fun c => absurd hv c)
set_option maxHeartbeats 4000000 in
set_option maxRecDepth 100000 in
theorem q_34 {K : zCx} {w : zWd} {l : Launch} (O : zOk K w code "SluiceStreamLaw" 7 10 376) (hl0 : kl K = l) (hfl : l.stackTraces = false) (hX : zXs K w) {b L : Nat} {xs : Nat → Int32} (hscr : zScr K b L xs) {i a1 a2 : Int32} (h1 : vp_in (i + 1) L ∧ xs (i + 1).toNatClampNeg = a1) (h2 : vp_in (i + 2) L ∧ xs (i + 2).toNatClampNeg = a2) (hroom : kce K + 1 ≤ (kR K).cells ∧ ksl K + 6 ≤ (kR K).slots) {σ : zSt} (ko : kq_34 σ a1 a2) (kk : Z (kup K) w (nx_34 σ a1 a2) [(0, .ref b), (1, .ref (zq w 0)), (2, .ref (zq w 13)), (3, .ref (zq w 25)), (4, .int i)] [] 1576) : Z K w σ [(0, .ref b), (1, .ref (zq w 0)), (2, .ref (zq w 13)), (3, .ref (zq w 25)), (4, .int i)] [] 1373 := by
  unfold kq_34 at ko
  refine z_aload_n O zd_L_law_1373 rfl 1 rfl ?_
  refine z_callri O hl0 (st := []) 0 5 (fs := zo0 w σ) rfl rfl (c_X_timedEnd l w σ) zl_L_205 zm341 zm342 rfl rfl (Nat.le_of_ble_eq_true rfl) (Nat.le_of_ble_eq_true rfl) (Nat.le_of_ble_eq_true rfl) zd_L_law_1374 (fun r e1 => ?_)
  have ko := ko
  refine z_aload_n O zd_L_law_1377 rfl 2 rfl ?_
  refine z_calli O hl0 (st := [.int r]) 13 6 (fs := zo13 w σ) rfl rfl (c_M_timedEnd l w σ) zl_L_208 zm1085 zm1086 rfl rfl (Nat.le_of_ble_eq_true rfl) (Nat.le_of_ble_eq_true rfl) (Nat.le_of_ble_eq_true rfl) zd_L_law_1378 (fun r2 u2 e2 => ?_)
  have hv : r = r2 := by rw [e1, ko, ← e2]
  have hu : u2 = nx_34 σ a1 a2 := by unfold nx_34; rw [← e2]
  subst hu
  exact z_icmp_eq O (tgt := 1576) zd_L_law_1381 (by decide) (fun _ => z_up kk) (fun c => absurd hv c)
set_option maxHeartbeats 4000000 in
set_option maxRecDepth 100000 in
theorem q_35 {K : zCx} {w : zWd} {l : Launch} (O : zOk K w code "SluiceStreamLaw" 7 10 376) (hl0 : kl K = l) (hfl : l.stackTraces = false) (hX : zXs K w) {b L : Nat} {xs : Nat → Int32} (hscr : zScr K b L xs) {i a1 a2 : Int32} (h1 : vp_in (i + 1) L ∧ xs (i + 1).toNatClampNeg = a1) (h2 : vp_in (i + 2) L ∧ xs (i + 2).toNatClampNeg = a2) (hroom : kce K + 1 ≤ (kR K).cells ∧ ksl K + 6 ≤ (kR K).slots) {σ : zSt} (ko : kq_35 σ a1 a2) (kk : Z (kup K) w (nx_35 σ a1 a2) [(0, .ref b), (1, .ref (zq w 0)), (2, .ref (zq w 13)), (3, .ref (zq w 25)), (4, .int i)] [] 1576) : Z K w σ [(0, .ref b), (1, .ref (zq w 0)), (2, .ref (zq w 13)), (3, .ref (zq w 25)), (4, .int i)] [] 1386 := by
  unfold kq_35 at ko
  refine z_aload_n O zd_L_law_1386 rfl 1 rfl ?_
  refine z_callri O hl0 (st := []) 0 5 (fs := zo0 w σ) rfl rfl (c_X_sent l w σ) zl_L_209 zm345 zm346 rfl rfl (Nat.le_of_ble_eq_true rfl) (Nat.le_of_ble_eq_true rfl) (Nat.le_of_ble_eq_true rfl) zd_L_law_1387 (fun r e1 => ?_)
  have ko := ko
  refine z_aload_n O zd_L_law_1390 rfl 2 rfl ?_
  refine z_calli O hl0 (st := [.int r]) 13 6 (fs := zo13 w σ) rfl rfl (c_M_sent l w σ) zl_L_212 zm1089 zm1090 rfl rfl (Nat.le_of_ble_eq_true rfl) (Nat.le_of_ble_eq_true rfl) (Nat.le_of_ble_eq_true rfl) zd_L_law_1391 (fun r2 u2 e2 => ?_)
  have hv : r = r2 := by rw [e1, ko, ← e2]
  have hu : u2 = nx_35 σ a1 a2 := by unfold nx_35; rw [← e2]
  subst hu
  exact z_icmp_eq O (tgt := 1576) zd_L_law_1394 (by decide) (fun _ => z_up kk) (fun c => absurd hv c)
set_option maxHeartbeats 4000000 in
set_option maxRecDepth 100000 in
theorem q_36 {K : zCx} {w : zWd} {l : Launch} (O : zOk K w code "SluiceStreamLaw" 7 10 376) (hl0 : kl K = l) (hfl : l.stackTraces = false) (hX : zXs K w) {b L : Nat} {xs : Nat → Int32} (hscr : zScr K b L xs) {i a1 a2 : Int32} (h1 : vp_in (i + 1) L ∧ xs (i + 1).toNatClampNeg = a1) (h2 : vp_in (i + 2) L ∧ xs (i + 2).toNatClampNeg = a2) (hroom : kce K + 1 ≤ (kR K).cells ∧ ksl K + 6 ≤ (kR K).slots) {σ : zSt} (ko : kq_36 σ a1 a2) (kk : Z (kup K) w (nx_36 σ a1 a2) [(0, .ref b), (1, .ref (zq w 0)), (2, .ref (zq w 13)), (3, .ref (zq w 25)), (4, .int i)] [] 1576) : Z K w σ [(0, .ref b), (1, .ref (zq w 0)), (2, .ref (zq w 13)), (3, .ref (zq w 25)), (4, .int i)] [] 1399 := by
  unfold kq_36 at ko
  refine z_aload_n O zd_L_law_1399 rfl 1 rfl ?_
  refine z_callri O hl0 (st := []) 0 5 (fs := zo0 w σ) rfl rfl (c_X_sentAgain l w σ) zl_L_213 zm349 zm350 rfl rfl (Nat.le_of_ble_eq_true rfl) (Nat.le_of_ble_eq_true rfl) (Nat.le_of_ble_eq_true rfl) zd_L_law_1400 (fun r e1 => ?_)
  have ko := ko
  refine z_aload_n O zd_L_law_1403 rfl 2 rfl ?_
  refine z_calli O hl0 (st := [.int r]) 13 6 (fs := zo13 w σ) rfl rfl (c_M_sentAgain l w σ) zl_L_216 zm1093 zm1094 rfl rfl (Nat.le_of_ble_eq_true rfl) (Nat.le_of_ble_eq_true rfl) (Nat.le_of_ble_eq_true rfl) zd_L_law_1404 (fun r2 u2 e2 => ?_)
  have hv : r = r2 := by rw [e1, ko, ← e2]
  have hu : u2 = nx_36 σ a1 a2 := by unfold nx_36; rw [← e2]
  subst hu
  exact z_icmp_eq O (tgt := 1576) zd_L_law_1407 (by decide) (fun _ => z_up kk) (fun c => absurd hv c)
set_option maxHeartbeats 4000000 in
set_option maxRecDepth 100000 in
theorem q_37 {K : zCx} {w : zWd} {l : Launch} (O : zOk K w code "SluiceStreamLaw" 7 10 376) (hl0 : kl K = l) (hfl : l.stackTraces = false) (hX : zXs K w) {b L : Nat} {xs : Nat → Int32} (hscr : zScr K b L xs) {i a1 a2 : Int32} (h1 : vp_in (i + 1) L ∧ xs (i + 1).toNatClampNeg = a1) (h2 : vp_in (i + 2) L ∧ xs (i + 2).toNatClampNeg = a2) (hroom : kce K + 1 ≤ (kR K).cells ∧ ksl K + 6 ≤ (kR K).slots) {σ : zSt} (ko : kq_37 σ a1 a2) (kk : Z (kup K) w (nx_37 σ a1 a2) [(0, .ref b), (1, .ref (zq w 0)), (2, .ref (zq w 13)), (3, .ref (zq w 25)), (4, .int i)] [] 1576) : Z K w σ [(0, .ref b), (1, .ref (zq w 0)), (2, .ref (zq w 13)), (3, .ref (zq w 25)), (4, .int i)] [] 1412 := by
  unfold kq_37 at ko
  refine z_aload_n O zd_L_law_1412 rfl 1 rfl ?_
  refine z_callri O hl0 (st := []) 0 5 (fs := zo0 w σ) rfl rfl (c_X_inOrder l w σ) zl_L_217 zm353 zm354 rfl rfl (Nat.le_of_ble_eq_true rfl) (Nat.le_of_ble_eq_true rfl) (Nat.le_of_ble_eq_true rfl) zd_L_law_1413 (fun r e1 => ?_)
  have ko := ko
  refine z_aload_n O zd_L_law_1416 rfl 2 rfl ?_
  refine z_calli O hl0 (st := [.int r]) 13 6 (fs := zo13 w σ) rfl rfl (c_M_inOrder l w σ) zl_L_220 zm1097 zm1098 rfl rfl (Nat.le_of_ble_eq_true rfl) (Nat.le_of_ble_eq_true rfl) (Nat.le_of_ble_eq_true rfl) zd_L_law_1417 (fun r2 u2 e2 => ?_)
  have hv : r = r2 := by rw [e1, ko, ← e2]
  have hu : u2 = nx_37 σ a1 a2 := by unfold nx_37; rw [← e2]
  subst hu
  exact z_icmp_eq O (tgt := 1576) zd_L_law_1420 (by decide) (fun _ => z_up kk) (fun c => absurd hv c)
set_option maxHeartbeats 4000000 in
set_option maxRecDepth 100000 in
theorem q_38 {K : zCx} {w : zWd} {l : Launch} (O : zOk K w code "SluiceStreamLaw" 7 10 376) (hl0 : kl K = l) (hfl : l.stackTraces = false) (hX : zXs K w) {b L : Nat} {xs : Nat → Int32} (hscr : zScr K b L xs) {i a1 a2 : Int32} (h1 : vp_in (i + 1) L ∧ xs (i + 1).toNatClampNeg = a1) (h2 : vp_in (i + 2) L ∧ xs (i + 2).toNatClampNeg = a2) (hroom : kce K + 1 ≤ (kR K).cells ∧ ksl K + 6 ≤ (kR K).slots) {σ : zSt} (ko : kq_38 σ a1 a2) (kk : Z (kup K) w (nx_38 σ a1 a2) [(0, .ref b), (1, .ref (zq w 0)), (2, .ref (zq w 13)), (3, .ref (zq w 25)), (4, .int i)] [] 1576) : Z K w σ [(0, .ref b), (1, .ref (zq w 0)), (2, .ref (zq w 13)), (3, .ref (zq w 25)), (4, .int i)] [] 1425 := by
  unfold kq_38 at ko
  refine z_aload_n O zd_L_law_1425 rfl 1 rfl ?_
  refine z_callri O hl0 (st := []) 0 5 (fs := zo0 w σ) rfl rfl (c_X_readPosition l w σ) zl_L_221 zm357 zm358 rfl rfl (Nat.le_of_ble_eq_true rfl) (Nat.le_of_ble_eq_true rfl) (Nat.le_of_ble_eq_true rfl) zd_L_law_1426 (fun r e1 => ?_)
  have ko := ko
  refine z_aload_n O zd_L_law_1429 rfl 2 rfl ?_
  refine z_calli O hl0 (st := [.int r]) 13 6 (fs := zo13 w σ) rfl rfl (c_M_readPosition l w σ) zl_L_224 zm1101 zm1102 rfl rfl (Nat.le_of_ble_eq_true rfl) (Nat.le_of_ble_eq_true rfl) (Nat.le_of_ble_eq_true rfl) zd_L_law_1430 (fun r2 u2 e2 => ?_)
  have hv : r = r2 := by rw [e1, ko, ← e2]
  have hu : u2 = nx_38 σ a1 a2 := by unfold nx_38; rw [← e2]
  subst hu
  exact z_icmp_eq O (tgt := 1576) zd_L_law_1433 (by decide) (fun _ => z_up kk) (fun c => absurd hv c)
set_option maxHeartbeats 4000000 in
set_option maxRecDepth 100000 in
theorem q_39 {K : zCx} {w : zWd} {l : Launch} (O : zOk K w code "SluiceStreamLaw" 7 10 376) (hl0 : kl K = l) (hfl : l.stackTraces = false) (hX : zXs K w) {b L : Nat} {xs : Nat → Int32} (hscr : zScr K b L xs) {i a1 a2 : Int32} (h1 : vp_in (i + 1) L ∧ xs (i + 1).toNatClampNeg = a1) (h2 : vp_in (i + 2) L ∧ xs (i + 2).toNatClampNeg = a2) (hroom : kce K + 1 ≤ (kR K).cells ∧ ksl K + 6 ≤ (kR K).slots) {σ : zSt} (ko : kq_39 σ a1 a2) (kk : Z (kup K) w (nx_39 σ a1 a2) [(0, .ref b), (1, .ref (zq w 0)), (2, .ref (zq w 13)), (3, .ref (zq w 25)), (4, .int i)] [] 1576) : Z K w σ [(0, .ref b), (1, .ref (zq w 0)), (2, .ref (zq w 13)), (3, .ref (zq w 25)), (4, .int i)] [] 1438 := by
  unfold kq_39 at ko
  refine z_aload_n O zd_L_law_1438 rfl 1 rfl ?_
  refine z_callri O hl0 (st := []) 0 5 (fs := zo0 w σ) rfl rfl (c_X_window l w σ) zl_L_225 zm361 zm362 rfl rfl (Nat.le_of_ble_eq_true rfl) (Nat.le_of_ble_eq_true rfl) (Nat.le_of_ble_eq_true rfl) zd_L_law_1439 (fun r e1 => ?_)
  have ko := ko
  refine z_aload_n O zd_L_law_1442 rfl 2 rfl ?_
  refine z_calli O hl0 (st := [.int r]) 13 6 (fs := zo13 w σ) rfl rfl (c_M_window l w σ) zl_L_228 zm1105 zm1106 rfl rfl (Nat.le_of_ble_eq_true rfl) (Nat.le_of_ble_eq_true rfl) (Nat.le_of_ble_eq_true rfl) zd_L_law_1443 (fun r2 u2 e2 => ?_)
  have hv : r = r2 := by rw [e1, ko, ← e2]
  have hu : u2 = nx_39 σ a1 a2 := by unfold nx_39; rw [← e2]
  subst hu
  exact z_icmp_eq O (tgt := 1576) zd_L_law_1446 (by decide) (fun _ => z_up kk) (fun c => absurd hv c)
set_option maxHeartbeats 4000000 in
set_option maxRecDepth 100000 in
theorem q_40 {K : zCx} {w : zWd} {l : Launch} (O : zOk K w code "SluiceStreamLaw" 7 10 376) (hl0 : kl K = l) (hfl : l.stackTraces = false) (hX : zXs K w) {b L : Nat} {xs : Nat → Int32} (hscr : zScr K b L xs) {i a1 a2 : Int32} (h1 : vp_in (i + 1) L ∧ xs (i + 1).toNatClampNeg = a1) (h2 : vp_in (i + 2) L ∧ xs (i + 2).toNatClampNeg = a2) (hroom : kce K + 1 ≤ (kR K).cells ∧ ksl K + 6 ≤ (kR K).slots) {σ : zSt} (ko : kq_40 σ a1 a2) (kk : Z (kup K) w (nx_40 σ a1 a2) [(0, .ref b), (1, .ref (zq w 0)), (2, .ref (zq w 13)), (3, .ref (zq w 25)), (4, .int i)] [] 1576) : Z K w σ [(0, .ref b), (1, .ref (zq w 0)), (2, .ref (zq w 13)), (3, .ref (zq w 25)), (4, .int i)] [] 1451 := by
  unfold kq_40 at ko
  refine z_aload_n O zd_L_law_1451 rfl 1 rfl ?_
  refine z_callri O hl0 (st := []) 0 5 (fs := zo0 w σ) rfl rfl (c_X_blocks l w σ ko.1) zl_L_229 zm366 zm367 rfl rfl (Nat.le_of_ble_eq_true rfl) (Nat.le_of_ble_eq_true rfl) (Nat.le_of_ble_eq_true rfl) zd_L_law_1452 (fun r e1 => ?_)
  have ko := ko.2
  refine z_aload_n O zd_L_law_1455 rfl 2 rfl ?_
  refine z_calli O hl0 (st := [.int r]) 13 6 (fs := zo13 w σ) rfl rfl (c_M_blocks l w σ ko.1) zl_L_232 zm1109 zm1110 rfl rfl (Nat.le_of_ble_eq_true rfl) (Nat.le_of_ble_eq_true rfl) (Nat.le_of_ble_eq_true rfl) zd_L_law_1456 (fun r2 u2 e2 => ?_)
  have ko := ko.2
  have hv : r = r2 := by rw [e1, ko, ← e2]
  have hu : u2 = nx_40 σ a1 a2 := by unfold nx_40; rw [← e2]
  subst hu
  exact z_icmp_eq O (tgt := 1576) zd_L_law_1459 (by decide) (fun _ => z_up kk) (fun c => absurd hv c)
set_option maxHeartbeats 4000000 in
set_option maxRecDepth 100000 in
theorem q_41 {K : zCx} {w : zWd} {l : Launch} (O : zOk K w code "SluiceStreamLaw" 7 10 376) (hl0 : kl K = l) (hfl : l.stackTraces = false) (hX : zXs K w) {b L : Nat} {xs : Nat → Int32} (hscr : zScr K b L xs) {i a1 a2 : Int32} (h1 : vp_in (i + 1) L ∧ xs (i + 1).toNatClampNeg = a1) (h2 : vp_in (i + 2) L ∧ xs (i + 2).toNatClampNeg = a2) (hroom : kce K + 1 ≤ (kR K).cells ∧ ksl K + 6 ≤ (kR K).slots) {σ : zSt} (ko : kq_41 σ a1 a2) (kk : Z (kup K) w (nx_41 σ a1 a2) [(0, .ref b), (1, .ref (zq w 0)), (2, .ref (zq w 13)), (3, .ref (zq w 25)), (4, .int i)] [] 1576) : Z K w σ [(0, .ref b), (1, .ref (zq w 0)), (2, .ref (zq w 13)), (3, .ref (zq w 25)), (4, .int i)] [] 1464 := by
  unfold kq_41 at ko
  refine z_aload_n O zd_L_law_1464 rfl 1 rfl ?_
  refine z_aload_n O zd_L_law_1465 rfl 0 rfl ?_
  refine z_iload O zd_L_law_1466 4 rfl ?_
  refine z_iconst O (v := 1) zd_L_law_1468 (by decide) ?_
  refine z_iadd O zd_L_law_1469 ?_
  refine z_sld O hscr h1.1 h1.2 zd_L_law_1470 ?_
  refine z_aload_n O zd_L_law_1471 rfl 3 rfl ?_
  refine z_callw O hl0 hX (st := []) (c_L_blockStart l hfl w σ a1 ko.1) zlw_blockStart rfl rfl (Nat.le_of_ble_eq_true rfl) (Nat.le_of_ble_eq_true rfl) (Nat.le_of_ble_eq_true rfl) hroom.1 hroom.2 zd_L_law_1472 (fun k u e1 => ?_)
  have ko := ko.2 k u e1
  have O := zOk_up O hroom.1 hroom.2
  refine z_istore O (lv' := [(5, .int k), (0, .ref b), (1, .ref (zq w 0)), (2, .ref (zq w 13)), (3, .ref (zq w 25)), (4, .int i)]) zd_L_law_1475 (Nat.le_of_ble_eq_true rfl) rfl ?_
  refine z_aload_n O zd_L_law_1477 rfl 3 rfl ?_
  refine z_aload_n O zd_L_law_1478 rfl 1 rfl ?_
  refine z_iload O zd_L_law_1479 5 rfl ?_
  refine z_iconst O (v := 1) zd_L_law_1481 (by decide) ?_
  refine z_iadd O zd_L_law_1482 ?_
  refine z_sld O hscr h1.1 h1.2 zd_L_law_1483 ?_
  refine z_calli (K := kup K) O hl0 (st := []) 13 6 (fs := zo13 w u) rfl rfl (c_M_blockStart l w u a1 ko.1) zl_L_235 zm1113 zm1114 rfl rfl (Nat.le_of_ble_eq_true rfl) (Nat.le_of_ble_eq_true rfl) (Nat.le_of_ble_eq_true rfl) zd_L_law_1484 (fun r u2 e2 => ?_)
  have ko := ko.2 r u2 e2
  refine z_istore O (lv' := [(6, .int r), (5, .int k), (0, .ref b), (1, .ref (zq w 0)), (2, .ref (zq w 13)), (3, .ref (zq w 25)), (4, .int i)]) zd_L_law_1487 (Nat.le_of_ble_eq_true rfl) rfl ?_
  refine z_aload_n O zd_L_law_1489 rfl 4 rfl ?_
  refine z_callri (K := kup K) O hl0 (st := []) 13 6 (fs := zo13 w u2) rfl rfl (c_M_thrown l w u2) zl_L_83 zm856 zm857 rfl rfl (Nat.le_of_ble_eq_true rfl) (Nat.le_of_ble_eq_true rfl) (Nat.le_of_ble_eq_true rfl) zd_L_law_1490 (fun t e3 => ?_)
  refine z_iload O zd_L_law_1493 1 rfl ?_
  have hu : u2 = nx_41 σ a1 a2 := by unfold nx_41; rw [← e1]; show u2 = (f_M_blockStart u a1).2; rw [← e2]
  refine z_icmp_eq O (tgt := 1500) zd_L_law_1495 (by decide) (fun _ => ?_) (fun c => absurd (e3.trans ko.1) c)
  refine z_iload O zd_L_law_1500 1 rfl ?_
  refine z_if_ne O (tgt := 1517) zd_L_law_1502 (by decide) (fun c => ?_) (fun c => ?_)
  · refine z_goto O (tgt := 1576) zd_L_law_1517 (by decide) ?_
    refine z_sub (lv' := [(0, .ref b), (1, .ref (zq w 0)), (2, .ref (zq w 13)), (3, .ref (zq w 25)), (4, .int i)]) [2, 3, 4, 5, 6] rfl ?_
    rw [hu]; exact kk
  · refine z_aload_n O zd_L_law_1505 rfl 5 rfl ?_
    refine z_iconst O (v := 0) zd_L_law_1506 (by decide) ?_
    refine z_lald O zd_L_law_1507 ?_
    refine z_iload O zd_L_law_1508 0 rfl ?_
    refine z_i2l O zd_L_law_1510 ?_
    refine z_lcmp O (by rw [ko.2 c]) zd_L_law_1511 ?_
    refine z_if_eq O (tgt := 1517) zd_L_law_1512 (by decide) (fun _ => ?_) (fun c => absurd rfl c)
    refine z_goto O (tgt := 1576) zd_L_law_1517 (by decide) ?_
    refine z_sub (lv' := [(0, .ref b), (1, .ref (zq w 0)), (2, .ref (zq w 13)), (3, .ref (zq w 25)), (4, .int i)]) [2, 3, 4, 5, 6] rfl ?_
    rw [hu]; exact kk
set_option maxHeartbeats 4000000 in
set_option maxRecDepth 100000 in
theorem q_42 {K : zCx} {w : zWd} {l : Launch} (O : zOk K w code "SluiceStreamLaw" 7 10 376) (hl0 : kl K = l) (hfl : l.stackTraces = false) (hX : zXs K w) {b L : Nat} {xs : Nat → Int32} (hscr : zScr K b L xs) {i a1 a2 : Int32} (h1 : vp_in (i + 1) L ∧ xs (i + 1).toNatClampNeg = a1) (h2 : vp_in (i + 2) L ∧ xs (i + 2).toNatClampNeg = a2) (hroom : kce K + 1 ≤ (kR K).cells ∧ ksl K + 6 ≤ (kR K).slots) {σ : zSt} (ko : kq_42 σ a1 a2) (kk : Z (kup K) w (nx_42 σ a1 a2) [(0, .ref b), (1, .ref (zq w 0)), (2, .ref (zq w 13)), (3, .ref (zq w 25)), (4, .int i)] [] 1576) : Z K w σ [(0, .ref b), (1, .ref (zq w 0)), (2, .ref (zq w 13)), (3, .ref (zq w 25)), (4, .int i)] [] 1520 := by
  unfold kq_42 at ko
  refine z_aload_n O zd_L_law_1520 rfl 1 rfl ?_
  refine z_aload_n O zd_L_law_1521 rfl 0 rfl ?_
  refine z_iload O zd_L_law_1522 4 rfl ?_
  refine z_iconst O (v := 1) zd_L_law_1524 (by decide) ?_
  refine z_iadd O zd_L_law_1525 ?_
  refine z_sld O hscr h1.1 h1.2 zd_L_law_1526 ?_
  refine z_aload_n O zd_L_law_1527 rfl 3 rfl ?_
  refine z_callw O hl0 hX (st := []) (c_L_blockEnd l hfl w σ a1 ko.1) zlw_blockEnd rfl rfl (Nat.le_of_ble_eq_true rfl) (Nat.le_of_ble_eq_true rfl) (Nat.le_of_ble_eq_true rfl) hroom.1 hroom.2 zd_L_law_1528 (fun k u e1 => ?_)
  have ko := ko.2 k u e1
  have O := zOk_up O hroom.1 hroom.2
  refine z_istore O (lv' := [(5, .int k), (0, .ref b), (1, .ref (zq w 0)), (2, .ref (zq w 13)), (3, .ref (zq w 25)), (4, .int i)]) zd_L_law_1531 (Nat.le_of_ble_eq_true rfl) rfl ?_
  refine z_aload_n O zd_L_law_1533 rfl 3 rfl ?_
  refine z_aload_n O zd_L_law_1534 rfl 1 rfl ?_
  refine z_iload O zd_L_law_1535 5 rfl ?_
  refine z_iconst O (v := 1) zd_L_law_1537 (by decide) ?_
  refine z_iadd O zd_L_law_1538 ?_
  refine z_sld O hscr h1.1 h1.2 zd_L_law_1539 ?_
  refine z_calli (K := kup K) O hl0 (st := []) 13 6 (fs := zo13 w u) rfl rfl (c_M_blockEnd l w u a1 ko.1) zl_L_238 zm1121 zm1122 rfl rfl (Nat.le_of_ble_eq_true rfl) (Nat.le_of_ble_eq_true rfl) (Nat.le_of_ble_eq_true rfl) zd_L_law_1540 (fun r u2 e2 => ?_)
  have ko := ko.2 r u2 e2
  refine z_istore O (lv' := [(6, .int r), (5, .int k), (0, .ref b), (1, .ref (zq w 0)), (2, .ref (zq w 13)), (3, .ref (zq w 25)), (4, .int i)]) zd_L_law_1543 (Nat.le_of_ble_eq_true rfl) rfl ?_
  refine z_aload_n O zd_L_law_1545 rfl 4 rfl ?_
  refine z_callri (K := kup K) O hl0 (st := []) 13 6 (fs := zo13 w u2) rfl rfl (c_M_thrown l w u2) zl_L_83 zm856 zm857 rfl rfl (Nat.le_of_ble_eq_true rfl) (Nat.le_of_ble_eq_true rfl) (Nat.le_of_ble_eq_true rfl) zd_L_law_1546 (fun t e3 => ?_)
  refine z_iload O zd_L_law_1549 1 rfl ?_
  have hu : u2 = nx_42 σ a1 a2 := by unfold nx_42; rw [← e1]; show u2 = (f_M_blockEnd u a1).2; rw [← e2]
  refine z_icmp_eq O (tgt := 1556) zd_L_law_1551 (by decide) (fun _ => ?_) (fun c => absurd (e3.trans ko.1) c)
  refine z_iload O zd_L_law_1556 1 rfl ?_
  refine z_if_ne O (tgt := 1573) zd_L_law_1558 (by decide) (fun c => ?_) (fun c => ?_)
  · refine z_goto O (tgt := 1576) zd_L_law_1573 (by decide) ?_
    refine z_sub (lv' := [(0, .ref b), (1, .ref (zq w 0)), (2, .ref (zq w 13)), (3, .ref (zq w 25)), (4, .int i)]) [2, 3, 4, 5, 6] rfl ?_
    rw [hu]; exact kk
  · refine z_aload_n O zd_L_law_1561 rfl 5 rfl ?_
    refine z_iconst O (v := 0) zd_L_law_1562 (by decide) ?_
    refine z_lald O zd_L_law_1563 ?_
    refine z_iload O zd_L_law_1564 0 rfl ?_
    refine z_i2l O zd_L_law_1566 ?_
    refine z_lcmp O (by rw [ko.2 c]) zd_L_law_1567 ?_
    refine z_if_eq O (tgt := 1573) zd_L_law_1568 (by decide) (fun _ => ?_) (fun c => absurd rfl c)
    refine z_goto O (tgt := 1576) zd_L_law_1573 (by decide) ?_
    refine z_sub (lv' := [(0, .ref b), (1, .ref (zq w 0)), (2, .ref (zq w 13)), (3, .ref (zq w 25)), (4, .int i)]) [2, 3, 4, 5, 6] rfl ?_
    rw [hu]; exact kk
def kups : Nat → zCx → zCx
  | 0, K => K
  | j + 1, K => kups j (kup K)
theorem kups_eq : ∀ (j : Nat) (K : zCx), kups j K = (kp K, kl K, ke K, kR K, ks K, km K, ka K, kb K, kmt K, kc K, kn K, kce K + j, ksl K + 6 * j, kQ K, kA K) := by
  intro j
  induction j with
  | zero => intro K; rfl
  | succ j ih =>
    intro K
    show kups j (kup K) = _
    rw [ih (kup K)]
    show (kp K, kl K, ke K, kR K, ks K, km K, ka K, kb K, kmt K, kc K, kn K, kce K + 1 + j, ksl K + 6 + 6 * j, kQ K, kA K) = _
    rw [show kce K + 1 + j = kce K + (j + 1) by omega, show ksl K + 6 + 6 * j = ksl K + 6 * (j + 1) by omega]
theorem znI2 (p : Nat) : nI p + 2 = nI (p + 2) := by rw [show (2 : Int32) = nI 2 from rfl, nI_add]
theorem znI3 (p : Nat) : nI p + Int32.ofInt 3 = nI (p + 3) := by rw [show (Int32.ofInt 3 : Int32) = nI 3 from rfl, nI_add]
theorem zlen3 {L : Nat} (hL : L ≤ 1536) : (Int32.ofNat L - 3).toInt = (L : Int) - 3 := by
  have h := pk_sub_toInt (a := L) (b := 3) (by omega) (by omega)
  exact h
theorem zlen_gt {L p : Nat} (hL : L ≤ 1536) (h : L < p + 3) (hp : p ≤ 1536 := by omega) : Int32.ofNat L - 3 < nI p := by
  rw [Int32.lt_iff_toInt_lt, zlen3 hL, nI_toInt (by omega)]
  omega
theorem zlen_le {L p : Nat} (hL : L ≤ 1536) (h : p + 3 ≤ L) : ¬ Int32.ofNat L - 3 < nI p := by
  rw [Int32.lt_iff_toInt_lt, zlen3 hL, nI_toInt (by omega)]
  omega

set_option maxHeartbeats 4000000 in
set_option maxRecDepth 100000 in
theorem z_case {K : zCx} {w : zWd} {l : Launch} (O : zOk K w code "SluiceStreamLaw" 7 10 376) (hl0 : kl K = l) (hfl : l.stackTraces = false) (hX : zXs K w) {b L : Nat} {xs : Nat → Int32} (hscr : zScr K b L xs) {i a1 a2 x : Int32} (h1 : vp_in (i + 1) L ∧ xs (i + 1).toNatClampNeg = a1) (h2 : vp_in (i + 2) L ∧ xs (i + 2).toNatClampNeg = a2) (hroom : kce K + 1 ≤ (kR K).cells ∧ ksl K + 6 ≤ (kR K).slots) {σ : zSt} (j : Nat) (hj : x.toInt = (j : Int)) (ko : zStepOk j σ a1 a2) (kk : Z (kup K) w (zStep j σ a1 a2) [(0, .ref b), (1, .ref (zq w 0)), (2, .ref (zq w 13)), (3, .ref (zq w 25)), (4, .int i)] [] 1576) : Z K w σ [(0, .ref b), (1, .ref (zq w 0)), (2, .ref (zq w 13)), (3, .ref (zq w 25)), (4, .int i)] [.int x] 39 := by
  by_cases hd : j < 43
  · revert hj ko kk
    match j, hd with
    | 0, _ => intro hj hc kk; exact z_swIn O zd_L_law_39 0 hj (by decide) rfl (by decide) (q_0 O hl0 hfl hX hscr h1 h2 hroom hc kk)
    | 1, _ => intro hj hc kk; exact z_swIn O zd_L_law_39 1 hj (by decide) rfl (by decide) (q_1 O hl0 hfl hX hscr h1 h2 hroom hc kk)
    | 2, _ => intro hj hc kk; exact z_swIn O zd_L_law_39 2 hj (by decide) rfl (by decide) (q_2 O hl0 hfl hX hscr h1 h2 hroom hc kk)
    | 3, _ => intro hj hc kk; exact z_swIn O zd_L_law_39 3 hj (by decide) rfl (by decide) (q_3 O hl0 hfl hX hscr h1 h2 hroom hc kk)
    | 4, _ => intro hj hc kk; exact z_swIn O zd_L_law_39 4 hj (by decide) rfl (by decide) (q_4 O hl0 hfl hX hscr h1 h2 hroom hc kk)
    | 5, _ => intro hj hc kk; exact z_swIn O zd_L_law_39 5 hj (by decide) rfl (by decide) (q_5 O hl0 hfl hX hscr h1 h2 hroom hc kk)
    | 6, _ => intro hj hc kk; exact z_swIn O zd_L_law_39 6 hj (by decide) rfl (by decide) (q_6 O hl0 hfl hX hscr h1 h2 hroom hc kk)
    | 7, _ => intro hj hc kk; exact z_swIn O zd_L_law_39 7 hj (by decide) rfl (by decide) (q_7 O hl0 hfl hX hscr h1 h2 hroom hc kk)
    | 8, _ => intro hj hc kk; exact z_swIn O zd_L_law_39 8 hj (by decide) rfl (by decide) (q_8 O hl0 hfl hX hscr h1 h2 hroom hc kk)
    | 9, _ => intro hj hc kk; exact z_swIn O zd_L_law_39 9 hj (by decide) rfl (by decide) (q_9 O hl0 hfl hX hscr h1 h2 hroom hc kk)
    | 10, _ => intro hj hc kk; exact z_swIn O zd_L_law_39 10 hj (by decide) rfl (by decide) (q_10 O hl0 hfl hX hscr h1 h2 hroom hc kk)
    | 11, _ => intro hj hc kk; exact z_swIn O zd_L_law_39 11 hj (by decide) rfl (by decide) (q_11 O hl0 hfl hX hscr h1 h2 hroom hc kk)
    | 12, _ => intro hj hc kk; exact z_swIn O zd_L_law_39 12 hj (by decide) rfl (by decide) (q_12 O hl0 hfl hX hscr h1 h2 hroom hc kk)
    | 13, _ => intro hj hc kk; exact z_swIn O zd_L_law_39 13 hj (by decide) rfl (by decide) (q_13 O hl0 hfl hX hscr h1 h2 hroom hc kk)
    | 14, _ => intro hj hc kk; exact z_swIn O zd_L_law_39 14 hj (by decide) rfl (by decide) (q_14 O hl0 hfl hX hscr h1 h2 hroom hc kk)
    | 15, _ => intro hj hc kk; exact z_swIn O zd_L_law_39 15 hj (by decide) rfl (by decide) (q_15 O hl0 hfl hX hscr h1 h2 hroom hc kk)
    | 16, _ => intro hj hc kk; exact z_swIn O zd_L_law_39 16 hj (by decide) rfl (by decide) (q_16 O hl0 hfl hX hscr h1 h2 hroom hc kk)
    | 17, _ => intro hj hc kk; exact z_swIn O zd_L_law_39 17 hj (by decide) rfl (by decide) (q_17 O hl0 hfl hX hscr h1 h2 hroom hc kk)
    | 18, _ => intro hj hc kk; exact z_swIn O zd_L_law_39 18 hj (by decide) rfl (by decide) (q_18 O hl0 hfl hX hscr h1 h2 hroom hc kk)
    | 19, _ => intro hj hc kk; exact z_swIn O zd_L_law_39 19 hj (by decide) rfl (by decide) (q_19 O hl0 hfl hX hscr h1 h2 hroom hc kk)
    | 20, _ => intro hj hc kk; exact z_swIn O zd_L_law_39 20 hj (by decide) rfl (by decide) (q_20 O hl0 hfl hX hscr h1 h2 hroom hc kk)
    | 21, _ => intro hj hc kk; exact z_swIn O zd_L_law_39 21 hj (by decide) rfl (by decide) (q_21 O hl0 hfl hX hscr h1 h2 hroom hc kk)
    | 22, _ => intro hj hc kk; exact z_swIn O zd_L_law_39 22 hj (by decide) rfl (by decide) (q_22 O hl0 hfl hX hscr h1 h2 hroom hc kk)
    | 23, _ => intro hj hc kk; exact z_swIn O zd_L_law_39 23 hj (by decide) rfl (by decide) (q_23 O hl0 hfl hX hscr h1 h2 hroom hc kk)
    | 24, _ => intro hj hc kk; exact z_swIn O zd_L_law_39 24 hj (by decide) rfl (by decide) (q_24 O hl0 hfl hX hscr h1 h2 hroom hc kk)
    | 25, _ => intro hj hc kk; exact z_swIn O zd_L_law_39 25 hj (by decide) rfl (by decide) (q_25 O hl0 hfl hX hscr h1 h2 hroom hc kk)
    | 26, _ => intro hj hc kk; exact z_swIn O zd_L_law_39 26 hj (by decide) rfl (by decide) (q_26 O hl0 hfl hX hscr h1 h2 hroom hc kk)
    | 27, _ => intro hj hc kk; exact z_swIn O zd_L_law_39 27 hj (by decide) rfl (by decide) (q_27 O hl0 hfl hX hscr h1 h2 hroom hc kk)
    | 28, _ => intro hj hc kk; exact z_swIn O zd_L_law_39 28 hj (by decide) rfl (by decide) (q_28 O hl0 hfl hX hscr h1 h2 hroom hc kk)
    | 29, _ => intro hj hc kk; exact z_swIn O zd_L_law_39 29 hj (by decide) rfl (by decide) (q_29 O hl0 hfl hX hscr h1 h2 hroom hc kk)
    | 30, _ => intro hj hc kk; exact z_swIn O zd_L_law_39 30 hj (by decide) rfl (by decide) (q_30 O hl0 hfl hX hscr h1 h2 hroom hc kk)
    | 31, _ => intro hj hc kk; exact z_swIn O zd_L_law_39 31 hj (by decide) rfl (by decide) (q_31 O hl0 hfl hX hscr h1 h2 hroom hc kk)
    | 32, _ => intro hj hc kk; exact z_swIn O zd_L_law_39 32 hj (by decide) rfl (by decide) (q_32 O hl0 hfl hX hscr h1 h2 hroom hc kk)
    | 33, _ => intro hj hc kk; exact z_swIn O zd_L_law_39 33 hj (by decide) rfl (by decide) (q_33 O hl0 hfl hX hscr h1 h2 hroom hc kk)
    | 34, _ => intro hj hc kk; exact z_swIn O zd_L_law_39 34 hj (by decide) rfl (by decide) (q_34 O hl0 hfl hX hscr h1 h2 hroom hc kk)
    | 35, _ => intro hj hc kk; exact z_swIn O zd_L_law_39 35 hj (by decide) rfl (by decide) (q_35 O hl0 hfl hX hscr h1 h2 hroom hc kk)
    | 36, _ => intro hj hc kk; exact z_swIn O zd_L_law_39 36 hj (by decide) rfl (by decide) (q_36 O hl0 hfl hX hscr h1 h2 hroom hc kk)
    | 37, _ => intro hj hc kk; exact z_swIn O zd_L_law_39 37 hj (by decide) rfl (by decide) (q_37 O hl0 hfl hX hscr h1 h2 hroom hc kk)
    | 38, _ => intro hj hc kk; exact z_swIn O zd_L_law_39 38 hj (by decide) rfl (by decide) (q_38 O hl0 hfl hX hscr h1 h2 hroom hc kk)
    | 39, _ => intro hj hc kk; exact z_swIn O zd_L_law_39 39 hj (by decide) rfl (by decide) (q_39 O hl0 hfl hX hscr h1 h2 hroom hc kk)
    | 40, _ => intro hj hc kk; exact z_swIn O zd_L_law_39 40 hj (by decide) rfl (by decide) (q_40 O hl0 hfl hX hscr h1 h2 hroom hc kk)
    | 41, _ => intro hj hc kk; exact z_swIn O zd_L_law_39 41 hj (by decide) rfl (by decide) (q_41 O hl0 hfl hX hscr h1 h2 hroom hc kk)
    | 42, _ => intro hj hc kk; exact z_swIn O zd_L_law_39 42 hj (by decide) rfl (by decide) (q_42 O hl0 hfl hX hscr h1 h2 hroom hc kk)
    | k + 43, hd => exact absurd hd (by omega)
  · refine z_swOut O (tgt := 1576) zd_L_law_39 (by omega) (by decide) ?_
    refine z_up ?_
    have h : zStep j σ a1 a2 = σ := by
      obtain ⟨k, rfl⟩ : ∃ k, j = k + 43 := ⟨j - 43, by omega⟩
      rfl
    rw [h] at kk
    exact kk
theorem z_loop {w : zWd} {l : Launch} (hfl : l.stackTraces = false) {b L : Nat} {xs : Nat → Int32} (hL : L ≤ 1536) :
    ∀ (t : Nat) (K : zCx) (p : Nat) (σ : zSt), zOk K w code "SluiceStreamLaw" 7 10 376 → kl K = l → zXs K w → zScr K b L xs → p + 3 * t ≤ L → L < p + 3 * t + 3 → kce K + t ≤ (kR K).cells ∧ ksl K + 6 * t ≤ (kR K).slots → zRunOk xs t p σ → (∀ (K' : zCx) (u : zSt), (∃ j, j ≤ t ∧ K' = kups j K) → Z K' w u [] [.int 1] 1583) → Z K w σ [(0, .ref b), (1, .ref (zq w 0)), (2, .ref (zq w 13)), (3, .ref (zq w 25)), (4, .int (nI p))] [] 23 := by
  intro t
  induction t with
  | zero =>
    intro K p σ O hl0 hX hscr hp hp2 hroom ko kk
    refine z_iload O zd_L_law_23 4 rfl ?_
    refine z_aload_n O zd_L_law_25 rfl 0 rfl ?_
    refine z_slen O hscr zd_L_law_26 ?_
    refine z_iconst O (v := 3) zd_L_law_27 (by decide) ?_
    refine z_isub O zd_L_law_28 ?_
    refine z_icmp_gt O (tgt := 1582) zd_L_law_29 (by decide) (fun _ => ?_) (fun c => absurd (zlen_gt hL (by omega)) c)
    refine z_iconst O (v := 1) zd_L_law_1582 (by decide) ?_
    refine z_sub (lv' := []) [] rfl ?_
    exact kk K σ ⟨0, Nat.le_refl _, rfl⟩
  | succ t ih =>
    intro K p σ O hl0 hX hscr hp hp2 hroom ko kk
    obtain ⟨ko1, ko2⟩ := ko
    refine z_iload O zd_L_law_23 4 rfl ?_
    refine z_aload_n O zd_L_law_25 rfl 0 rfl ?_
    refine z_slen O hscr zd_L_law_26 ?_
    refine z_iconst O (v := 3) zd_L_law_27 (by decide) ?_
    refine z_isub O zd_L_law_28 ?_
    refine z_icmp_gt O (tgt := 1582) zd_L_law_29 (by decide) (fun c => absurd c (zlen_le hL (by omega))) (fun _ => ?_)
    refine z_aload_n O zd_L_law_32 rfl 0 rfl ?_
    refine z_iload O zd_L_law_33 4 rfl ?_
    refine z_sld O hscr (v := xs p) (vp_in_nI (by omega) (by omega)) (by rw [nI_clamp (by omega)]) zd_L_law_35 ?_
    refine z_bipush O (v := 63) zd_L_law_36 (by decide) ?_
    refine z_iand O zd_L_law_38 ?_
    have hx := z63 (xs p)
    refine z_case O hl0 hfl hX hscr (a1 := xs (p + 1)) (a2 := xs (p + 2)) ⟨by rw [nI_1]; exact vp_in_nI (by omega) (by omega), by rw [nI_1, nI_clamp (by omega)]⟩ ⟨by rw [znI2]; exact vp_in_nI (by omega) (by omega), by rw [znI2, nI_clamp (by omega)]⟩ (by omega) (xs p &&& 63).toInt.toNat (by omega) ko1 ?_
    have O' := zOk_up O (by omega) (by omega)
    refine z_iinc O' (v := nI (p + 3)) (lv' := [(4, .int (nI (p + 3))), (0, .ref b), (1, .ref (zq w 0)), (2, .ref (zq w 13)), (3, .ref (zq w 25))]) zd_L_law_1576 4 rfl (znI3 p) (Nat.le_of_ble_eq_true rfl) rfl ?_
    refine z_goto O' (tgt := 23) zd_L_law_1579 (by decide) ?_
    refine z_sub (lv' := [(0, .ref b), (1, .ref (zq w 0)), (2, .ref (zq w 13)), (3, .ref (zq w 25)), (4, .int (nI (p + 3)))]) [1, 2, 3, 4, 0] rfl ?_
    refine ih (kup K) (p + 3) _ O' hl0 hX hscr (by omega) (by omega) ?_ ko2 (fun K' u h => ?_)
    · obtain ⟨h1, h2⟩ := hroom
      exact ⟨by show kce K + 1 + t ≤ (kR K).cells; omega, by show ksl K + 6 + 6 * t ≤ (kR K).slots; omega⟩
    · obtain ⟨j, hj, rfl⟩ := h
      exact kk _ u ⟨j + 1, by omega, rfl⟩
