/-! 09: the law's walk -/
set_option maxHeartbeats 4000000 in
set_option maxRecDepth 100000 in
theorem law_c_296 {w : wT} {p : Program} {l : Launch} {e : Env} {R : Room} {s : State} {m : MethodId} {args : Array Value} {below : List Frame} {meth : Method} {c : Code} {b L k n : Nat} {xs : Nat → Int32} {Q : State → Prop} {x5 : Int32} {d dE : Dt} {y1 : (Int32 × Dt) ⊕ (Int32 × Dt)} (C : gC w p s m args c cL_law 9 RL) (hl9 : l.stackTraces = false) (hX : va_X b L xs s s.heap) (hb : ¬ A_W w b) (hR : R = gRmX 2048 603072 7194730) (hk : k + 8 ≤ 603072) (hn : n + 60 ≤ 7194730) (hE : ∀ (d : Dt) (lv : List (Nat × Value)), gG w p l e R s m args below meth c 9 603072 7194730 Q d lv 2927 [.int 1]) (hl1 : ∀ s1 : Int32 × Dt, y1 = .inl s1 → gG w p l e R s m args below meth c 9 (k + 8) (n + 60) Q s1.2 [(0, .ref b), (1, .ref (w_r w 0)), (2, .ref (w_r w 292)), (3, .ref (w_r w 300)), (4, .ref (w_r w 301)), (5, .int s1.1)] 28 []) (hx1 : ∀ z, y1 = .inr z → z = (1, dE)) (h : f_W_law_296 L xs x5 d = some y1) : gG w p l e R s m args below meth c 9 k n Q d [(0, .ref b), (1, .ref (w_r w 0)), (2, .ref (w_r w 292)), (3, .ref (w_r w 300)), (4, .ref (w_r w 301)), (5, .int x5)] 296 [] := by
  unfold f_W_law_296 at h
  refine g_aload_n C dL_law_296 1 rfl ?_
  refine g_aload_n C dL_law_297 3 rfl ?_
  obtain ⟨r268, d269, hc270, h⟩ := ob2_1 h
  refine g_callSW C (k + 8) (n + 60) hk_W_156 hR rfl (m_W_addLantern C.2.2.2.2.2.2.1 hl9 hc270) rfl rfl rfl dL_law_298 rfl rfl (by omega) (by omega) ?_
  refine g_istore C (lv' := [(6, .int r268), (0, .ref b), (1, .ref (w_r w 0)), (2, .ref (w_r w 292)), (3, .ref (w_r w 300)), (4, .ref (w_r w 301)), (5, .int x5)]) dL_law_301 (by decide) rfl ?_
  refine g_aload_n C dL_law_303 3 rfl ?_
  obtain ⟨r271, d272, hc273, h⟩ := ob2_1 h
  refine g_callVi C 292 q_292 vk_W_161 hR rfl (m_M_addLantern C.2.2.2.2.2.2.1 hc273) rfl rfl rfl dL_law_304 (bleL (by omega)) (bleL (by omega)) ?_
  refine g_istore C (lv' := [(7, .int r271), (6, .int r268), (0, .ref b), (1, .ref (w_r w 0)), (2, .ref (w_r w 292)), (3, .ref (w_r w 300)), (4, .ref (w_r w 301)), (5, .int x5)]) dL_law_307 (by decide) rfl ?_
  refine g_aload_n C dL_law_309 4 rfl ?_
  obtain ⟨r274, hc275, h⟩ := ob1_1 h
  refine g_callVi C 292 q_292 vk_W_162 hR rfl (m_M_thrown C.2.2.2.2.2.2.1 hc275) rfl rfl rfl dL_law_310 (bleL (by omega)) (bleL (by omega)) ?_
  refine g_iload C dL_law_313 1 rfl ?_
  refine g_icmp_eq C dL_law_315 (tgt := 320) rfl (fun q => ?_) (fun q => ?_)
  · replace h := it_t q h
    refine g_iload C dL_law_320 1 rfl ?_
    refine g_if_ne C dL_law_322 (tgt := 337) rfl (fun q => ?_) (fun q => ?_)
    · replace h := it_f q h
      refine g_goto C dL_law_337 (tgt := 2920) rfl ?_
      refine g_iinc C (lv' := [(5, .int (x5 + 5)), (7, .int r271), (6, .int r268), (0, .ref b), (1, .ref (w_r w 0)), (2, .ref (w_r w 292)), (3, .ref (w_r w 300)), (4, .ref (w_r w 301))]) (v := (x5 + 5)) dL_law_2920 7 rfl rfl (by decide) rfl ?_
      refine g_goto C dL_law_2923 (tgt := 28) rfl ?_
      refine g_sub [3, 4, 5, 6, 7, 0] (lv' := [(0, .ref b), (1, .ref (w_r w 0)), (2, .ref (w_r w 292)), (3, .ref (w_r w 300)), (4, .ref (w_r w 301)), (5, .int (x5 + 5))]) rfl ?_
      exact hl1 ((x5 + 5), d272) (Option.some.inj h).symm
    · replace h := it_t q h
      refine g_aload_n C dL_law_325 5 rfl ?_
      refine g_iconst C dL_law_326 (v := 0) rfl ?_
      refine g_lald C 300 q_300 (by decide) 0 (by decide) dL_law_327 ?_
      refine g_iload C dL_law_328 0 rfl ?_
      refine g_i2l C dL_law_330  ?_
      refine g_lcmpeq C dL_law_331 dL_law_332 (tgt := 337) rfl (fun q => ?_) (fun q => ?_)
      · replace h := it_t q h
        refine g_goto C dL_law_337 (tgt := 2920) rfl ?_
        refine g_iinc C (lv' := [(5, .int (x5 + 5)), (7, .int r271), (6, .int r268), (0, .ref b), (1, .ref (w_r w 0)), (2, .ref (w_r w 292)), (3, .ref (w_r w 300)), (4, .ref (w_r w 301))]) (v := (x5 + 5)) dL_law_2920 7 rfl rfl (by decide) rfl ?_
        refine g_goto C dL_law_2923 (tgt := 28) rfl ?_
        refine g_sub [3, 4, 5, 6, 7, 0] (lv' := [(0, .ref b), (1, .ref (w_r w 0)), (2, .ref (w_r w 292)), (3, .ref (w_r w 300)), (4, .ref (w_r w 301)), (5, .int (x5 + 5))]) rfl ?_
        exact hl1 ((x5 + 5), d272) (Option.some.inj h).symm
      · replace h := it_f q h
        replace h := ir_2 h hx1
        refine g_iconst C dL_law_335 (v := 0) rfl ?_
        exact (law_no h).elim
  · replace h := it_f q h
    replace h := ir_2 h hx1
    refine g_iconst C dL_law_318 (v := 0) rfl ?_
    exact (law_no h).elim
set_option maxHeartbeats 4000000 in
set_option maxRecDepth 100000 in
theorem law_c_340 {w : wT} {p : Program} {l : Launch} {e : Env} {R : Room} {s : State} {m : MethodId} {args : Array Value} {below : List Frame} {meth : Method} {c : Code} {b L k n : Nat} {xs : Nat → Int32} {Q : State → Prop} {x5 : Int32} {d dE : Dt} {y1 : (Int32 × Dt) ⊕ (Int32 × Dt)} (C : gC w p s m args c cL_law 9 RL) (hl9 : l.stackTraces = false) (hX : va_X b L xs s s.heap) (hb : ¬ A_W w b) (hR : R = gRmX 2048 603072 7194730) (hk : k + 8 ≤ 603072) (hn : n + 60 ≤ 7194730) (hE : ∀ (d : Dt) (lv : List (Nat × Value)), gG w p l e R s m args below meth c 9 603072 7194730 Q d lv 2927 [.int 1]) (hl1 : ∀ s1 : Int32 × Dt, y1 = .inl s1 → gG w p l e R s m args below meth c 9 (k + 8) (n + 60) Q s1.2 [(0, .ref b), (1, .ref (w_r w 0)), (2, .ref (w_r w 292)), (3, .ref (w_r w 300)), (4, .ref (w_r w 301)), (5, .int s1.1)] 28 []) (hx1 : ∀ z, y1 = .inr z → z = (1, dE)) (h : f_W_law_340 L xs x5 d = some y1) : gG w p l e R s m args below meth c 9 k n Q d [(0, .ref b), (1, .ref (w_r w 0)), (2, .ref (w_r w 292)), (3, .ref (w_r w 300)), (4, .ref (w_r w 301)), (5, .int x5)] 340 [] := by
  unfold f_W_law_340 at h
  refine g_aload_n C dL_law_340 1 rfl ?_
  refine g_aload_n C dL_law_341 0 rfl ?_
  refine g_iload C dL_law_342 5 rfl ?_
  refine g_iconst C dL_law_344 (v := 1) rfl ?_
  refine g_iadd C dL_law_345  ?_
  have hg276 := gd_1 h
  replace h := gd_2 h
  refine g_xald C hX hb hg276 dL_law_346 ?_
  refine g_aload_n C dL_law_347 0 rfl ?_
  refine g_iload C dL_law_348 5 rfl ?_
  refine g_iconst C dL_law_350 (v := 2) rfl ?_
  refine g_iadd C dL_law_351  ?_
  have hg277 := gd_1 h
  replace h := gd_2 h
  refine g_xald C hX hb hg277 dL_law_352 ?_
  refine g_aload_n C dL_law_353 0 rfl ?_
  refine g_iload C dL_law_354 5 rfl ?_
  refine g_iconst C dL_law_356 (v := 3) rfl ?_
  refine g_iadd C dL_law_357  ?_
  have hg278 := gd_1 h
  replace h := gd_2 h
  refine g_xald C hX hb hg278 dL_law_358 ?_
  refine g_aload_n C dL_law_359 0 rfl ?_
  refine g_iload C dL_law_360 5 rfl ?_
  refine g_iconst C dL_law_362 (v := 4) rfl ?_
  refine g_iadd C dL_law_363  ?_
  have hg279 := gd_1 h
  replace h := gd_2 h
  refine g_xald C hX hb hg279 dL_law_364 ?_
  refine g_aload_n C dL_law_365 3 rfl ?_
  obtain ⟨r280, d281, hc282, h⟩ := ob2_1 h
  refine g_callSW C (k + 8) (n + 60) hk_W_165 hR rfl (m_W_file C.2.2.2.2.2.2.1 hl9 hc282) rfl rfl rfl dL_law_366 rfl rfl (by omega) (by omega) ?_
  refine g_istore C (lv' := [(6, .int r280), (0, .ref b), (1, .ref (w_r w 0)), (2, .ref (w_r w 292)), (3, .ref (w_r w 300)), (4, .ref (w_r w 301)), (5, .int x5)]) dL_law_369 (by decide) rfl ?_
  refine g_aload_n C dL_law_371 3 rfl ?_
  refine g_aload_n C dL_law_372 1 rfl ?_
  refine g_iload C dL_law_373 6 rfl ?_
  refine g_iconst C dL_law_375 (v := 1) rfl ?_
  refine g_iadd C dL_law_376  ?_
  have hg283 := gd_1 h
  replace h := gd_2 h
  refine g_xald C hX hb hg283 dL_law_377 ?_
  refine g_aload_n C dL_law_378 1 rfl ?_
  refine g_iload C dL_law_379 6 rfl ?_
  refine g_iconst C dL_law_381 (v := 2) rfl ?_
  refine g_iadd C dL_law_382  ?_
  have hg284 := gd_1 h
  replace h := gd_2 h
  refine g_xald C hX hb hg284 dL_law_383 ?_
  refine g_aload_n C dL_law_384 1 rfl ?_
  refine g_iload C dL_law_385 6 rfl ?_
  refine g_iconst C dL_law_387 (v := 3) rfl ?_
  refine g_iadd C dL_law_388  ?_
  have hg285 := gd_1 h
  replace h := gd_2 h
  refine g_xald C hX hb hg285 dL_law_389 ?_
  refine g_aload_n C dL_law_390 1 rfl ?_
  refine g_iload C dL_law_391 6 rfl ?_
  refine g_iconst C dL_law_393 (v := 4) rfl ?_
  refine g_iadd C dL_law_394  ?_
  have hg286 := gd_1 h
  replace h := gd_2 h
  refine g_xald C hX hb hg286 dL_law_395 ?_
  obtain ⟨r287, d288, hc289, h⟩ := ob2_1 h
  refine g_callVi C 292 q_292 vk_W_168 hR rfl (m_M_file C.2.2.2.2.2.2.1 hc289) rfl rfl rfl dL_law_396 (bleL (by omega)) (bleL (by omega)) ?_
  refine g_istore C (lv' := [(7, .int r287), (6, .int r280), (0, .ref b), (1, .ref (w_r w 0)), (2, .ref (w_r w 292)), (3, .ref (w_r w 300)), (4, .ref (w_r w 301)), (5, .int x5)]) dL_law_399 (by decide) rfl ?_
  refine g_aload_n C dL_law_401 4 rfl ?_
  obtain ⟨r290, hc291, h⟩ := ob1_1 h
  refine g_callVi C 292 q_292 vk_W_162 hR rfl (m_M_thrown C.2.2.2.2.2.2.1 hc291) rfl rfl rfl dL_law_402 (bleL (by omega)) (bleL (by omega)) ?_
  refine g_iload C dL_law_405 1 rfl ?_
  refine g_icmp_eq C dL_law_407 (tgt := 412) rfl (fun q => ?_) (fun q => ?_)
  · replace h := it_t q h
    refine g_iload C dL_law_412 1 rfl ?_
    refine g_if_ne C dL_law_414 (tgt := 429) rfl (fun q => ?_) (fun q => ?_)
    · replace h := it_f q h
      refine g_goto C dL_law_429 (tgt := 2920) rfl ?_
      refine g_iinc C (lv' := [(5, .int (x5 + 5)), (7, .int r287), (6, .int r280), (0, .ref b), (1, .ref (w_r w 0)), (2, .ref (w_r w 292)), (3, .ref (w_r w 300)), (4, .ref (w_r w 301))]) (v := (x5 + 5)) dL_law_2920 7 rfl rfl (by decide) rfl ?_
      refine g_goto C dL_law_2923 (tgt := 28) rfl ?_
      refine g_sub [3, 4, 5, 6, 7, 0] (lv' := [(0, .ref b), (1, .ref (w_r w 0)), (2, .ref (w_r w 292)), (3, .ref (w_r w 300)), (4, .ref (w_r w 301)), (5, .int (x5 + 5))]) rfl ?_
      exact hl1 ((x5 + 5), d288) (Option.some.inj h).symm
    · replace h := it_t q h
      refine g_aload_n C dL_law_417 5 rfl ?_
      refine g_iconst C dL_law_418 (v := 0) rfl ?_
      refine g_lald C 300 q_300 (by decide) 0 (by decide) dL_law_419 ?_
      refine g_iload C dL_law_420 0 rfl ?_
      refine g_i2l C dL_law_422  ?_
      refine g_lcmpeq C dL_law_423 dL_law_424 (tgt := 429) rfl (fun q => ?_) (fun q => ?_)
      · replace h := it_t q h
        refine g_goto C dL_law_429 (tgt := 2920) rfl ?_
        refine g_iinc C (lv' := [(5, .int (x5 + 5)), (7, .int r287), (6, .int r280), (0, .ref b), (1, .ref (w_r w 0)), (2, .ref (w_r w 292)), (3, .ref (w_r w 300)), (4, .ref (w_r w 301))]) (v := (x5 + 5)) dL_law_2920 7 rfl rfl (by decide) rfl ?_
        refine g_goto C dL_law_2923 (tgt := 28) rfl ?_
        refine g_sub [3, 4, 5, 6, 7, 0] (lv' := [(0, .ref b), (1, .ref (w_r w 0)), (2, .ref (w_r w 292)), (3, .ref (w_r w 300)), (4, .ref (w_r w 301)), (5, .int (x5 + 5))]) rfl ?_
        exact hl1 ((x5 + 5), d288) (Option.some.inj h).symm
      · replace h := it_f q h
        replace h := ir_2 h hx1
        refine g_iconst C dL_law_427 (v := 0) rfl ?_
        exact (law_no h).elim
  · replace h := it_f q h
    replace h := ir_2 h hx1
    refine g_iconst C dL_law_410 (v := 0) rfl ?_
    exact (law_no h).elim
set_option maxHeartbeats 4000000 in
set_option maxRecDepth 100000 in
theorem law_c_432 {w : wT} {p : Program} {l : Launch} {e : Env} {R : Room} {s : State} {m : MethodId} {args : Array Value} {below : List Frame} {meth : Method} {c : Code} {b L k n : Nat} {xs : Nat → Int32} {Q : State → Prop} {x5 : Int32} {d dE : Dt} {y1 : (Int32 × Dt) ⊕ (Int32 × Dt)} (C : gC w p s m args c cL_law 9 RL) (hl9 : l.stackTraces = false) (hX : va_X b L xs s s.heap) (hb : ¬ A_W w b) (hR : R = gRmX 2048 603072 7194730) (hk : k + 8 ≤ 603072) (hn : n + 60 ≤ 7194730) (hE : ∀ (d : Dt) (lv : List (Nat × Value)), gG w p l e R s m args below meth c 9 603072 7194730 Q d lv 2927 [.int 1]) (hl1 : ∀ s1 : Int32 × Dt, y1 = .inl s1 → gG w p l e R s m args below meth c 9 (k + 8) (n + 60) Q s1.2 [(0, .ref b), (1, .ref (w_r w 0)), (2, .ref (w_r w 292)), (3, .ref (w_r w 300)), (4, .ref (w_r w 301)), (5, .int s1.1)] 28 []) (hx1 : ∀ z, y1 = .inr z → z = (1, dE)) (h : f_W_law_432 L xs x5 d = some y1) : gG w p l e R s m args below meth c 9 k n Q d [(0, .ref b), (1, .ref (w_r w 0)), (2, .ref (w_r w 292)), (3, .ref (w_r w 300)), (4, .ref (w_r w 301)), (5, .int x5)] 432 [] := by
  unfold f_W_law_432 at h
  refine g_aload_n C dL_law_432 1 rfl ?_
  refine g_aload_n C dL_law_433 0 rfl ?_
  refine g_iload C dL_law_434 5 rfl ?_
  refine g_iconst C dL_law_436 (v := 1) rfl ?_
  refine g_iadd C dL_law_437  ?_
  have hg292 := gd_1 h
  replace h := gd_2 h
  refine g_xald C hX hb hg292 dL_law_438 ?_
  refine g_aload_n C dL_law_439 3 rfl ?_
  obtain ⟨r293, d294, hc295, h⟩ := ob2_1 h
  refine g_callSW C (k + 8) (n + 60) hk_W_169 hR rfl (m_W_withdraw C.2.2.2.2.2.2.1 hl9 hc295) rfl rfl rfl dL_law_440 rfl rfl (by omega) (by omega) ?_
  refine g_istore C (lv' := [(6, .int r293), (0, .ref b), (1, .ref (w_r w 0)), (2, .ref (w_r w 292)), (3, .ref (w_r w 300)), (4, .ref (w_r w 301)), (5, .int x5)]) dL_law_443 (by decide) rfl ?_
  refine g_aload_n C dL_law_445 3 rfl ?_
  refine g_aload_n C dL_law_446 1 rfl ?_
  refine g_iload C dL_law_447 6 rfl ?_
  refine g_iconst C dL_law_449 (v := 1) rfl ?_
  refine g_iadd C dL_law_450  ?_
  have hg296 := gd_1 h
  replace h := gd_2 h
  refine g_xald C hX hb hg296 dL_law_451 ?_
  obtain ⟨r297, d298, hc299, h⟩ := ob2_1 h
  refine g_callVi C 292 q_292 vk_W_172 hR rfl (m_M_withdraw C.2.2.2.2.2.2.1 hc299) rfl rfl rfl dL_law_452 (bleL (by omega)) (bleL (by omega)) ?_
  refine g_istore C (lv' := [(7, .int r297), (6, .int r293), (0, .ref b), (1, .ref (w_r w 0)), (2, .ref (w_r w 292)), (3, .ref (w_r w 300)), (4, .ref (w_r w 301)), (5, .int x5)]) dL_law_455 (by decide) rfl ?_
  refine g_aload_n C dL_law_457 4 rfl ?_
  obtain ⟨r300, hc301, h⟩ := ob1_1 h
  refine g_callVi C 292 q_292 vk_W_162 hR rfl (m_M_thrown C.2.2.2.2.2.2.1 hc301) rfl rfl rfl dL_law_458 (bleL (by omega)) (bleL (by omega)) ?_
  refine g_iload C dL_law_461 1 rfl ?_
  refine g_icmp_eq C dL_law_463 (tgt := 468) rfl (fun q => ?_) (fun q => ?_)
  · replace h := it_t q h
    refine g_iload C dL_law_468 1 rfl ?_
    refine g_if_ne C dL_law_470 (tgt := 485) rfl (fun q => ?_) (fun q => ?_)
    · replace h := it_f q h
      refine g_goto C dL_law_485 (tgt := 2920) rfl ?_
      refine g_iinc C (lv' := [(5, .int (x5 + 5)), (7, .int r297), (6, .int r293), (0, .ref b), (1, .ref (w_r w 0)), (2, .ref (w_r w 292)), (3, .ref (w_r w 300)), (4, .ref (w_r w 301))]) (v := (x5 + 5)) dL_law_2920 7 rfl rfl (by decide) rfl ?_
      refine g_goto C dL_law_2923 (tgt := 28) rfl ?_
      refine g_sub [3, 4, 5, 6, 7, 0] (lv' := [(0, .ref b), (1, .ref (w_r w 0)), (2, .ref (w_r w 292)), (3, .ref (w_r w 300)), (4, .ref (w_r w 301)), (5, .int (x5 + 5))]) rfl ?_
      exact hl1 ((x5 + 5), d298) (Option.some.inj h).symm
    · replace h := it_t q h
      refine g_aload_n C dL_law_473 5 rfl ?_
      refine g_iconst C dL_law_474 (v := 0) rfl ?_
      refine g_lald C 300 q_300 (by decide) 0 (by decide) dL_law_475 ?_
      refine g_iload C dL_law_476 0 rfl ?_
      refine g_i2l C dL_law_478  ?_
      refine g_lcmpeq C dL_law_479 dL_law_480 (tgt := 485) rfl (fun q => ?_) (fun q => ?_)
      · replace h := it_t q h
        refine g_goto C dL_law_485 (tgt := 2920) rfl ?_
        refine g_iinc C (lv' := [(5, .int (x5 + 5)), (7, .int r297), (6, .int r293), (0, .ref b), (1, .ref (w_r w 0)), (2, .ref (w_r w 292)), (3, .ref (w_r w 300)), (4, .ref (w_r w 301))]) (v := (x5 + 5)) dL_law_2920 7 rfl rfl (by decide) rfl ?_
        refine g_goto C dL_law_2923 (tgt := 28) rfl ?_
        refine g_sub [3, 4, 5, 6, 7, 0] (lv' := [(0, .ref b), (1, .ref (w_r w 0)), (2, .ref (w_r w 292)), (3, .ref (w_r w 300)), (4, .ref (w_r w 301)), (5, .int (x5 + 5))]) rfl ?_
        exact hl1 ((x5 + 5), d298) (Option.some.inj h).symm
      · replace h := it_f q h
        replace h := ir_2 h hx1
        refine g_iconst C dL_law_483 (v := 0) rfl ?_
        exact (law_no h).elim
  · replace h := it_f q h
    replace h := ir_2 h hx1
    refine g_iconst C dL_law_466 (v := 0) rfl ?_
    exact (law_no h).elim
set_option maxHeartbeats 4000000 in
set_option maxRecDepth 100000 in
theorem law_c_488 {w : wT} {p : Program} {l : Launch} {e : Env} {R : Room} {s : State} {m : MethodId} {args : Array Value} {below : List Frame} {meth : Method} {c : Code} {b L k n : Nat} {xs : Nat → Int32} {Q : State → Prop} {x5 : Int32} {d dE : Dt} {y1 : (Int32 × Dt) ⊕ (Int32 × Dt)} (C : gC w p s m args c cL_law 9 RL) (hl9 : l.stackTraces = false) (hX : va_X b L xs s s.heap) (hb : ¬ A_W w b) (hR : R = gRmX 2048 603072 7194730) (hk : k + 8 ≤ 603072) (hn : n + 60 ≤ 7194730) (hE : ∀ (d : Dt) (lv : List (Nat × Value)), gG w p l e R s m args below meth c 9 603072 7194730 Q d lv 2927 [.int 1]) (hl1 : ∀ s1 : Int32 × Dt, y1 = .inl s1 → gG w p l e R s m args below meth c 9 (k + 8) (n + 60) Q s1.2 [(0, .ref b), (1, .ref (w_r w 0)), (2, .ref (w_r w 292)), (3, .ref (w_r w 300)), (4, .ref (w_r w 301)), (5, .int s1.1)] 28 []) (hx1 : ∀ z, y1 = .inr z → z = (1, dE)) (h : f_W_law_488 L xs x5 d = some y1) : gG w p l e R s m args below meth c 9 k n Q d [(0, .ref b), (1, .ref (w_r w 0)), (2, .ref (w_r w 292)), (3, .ref (w_r w 300)), (4, .ref (w_r w 301)), (5, .int x5)] 488 [] := by
  have R548 : ∀ (x5 : Int32) (x6 : Int32) (v1 : Int32) (v2 : Int32) (v3 : Int32) (d : Dt), f_W_law_548 L xs x5 x6 v1 v2 v3 d = some y1 → gG w p l e R s m args below meth c 9 (k + 8) (n + 60) Q d [(0, .ref b), (1, .ref (w_r w 0)), (2, .ref (w_r w 292)), (3, .ref (w_r w 300)), (4, .ref (w_r w 301)), (5, .int x5), (6, .int x6)] 548 [.int v3, .int v2, .int v1, .ref (w_r w 292)] := by
    intro x5 x6 v1 v2 v3 d  h
    unfold f_W_law_548 at h
    obtain ⟨r302, d303, hc304, h⟩ := ob2_1 h
    refine g_callVi C 292 q_292 vk_W_176 hR rfl (m_M_makeStatement C.2.2.2.2.2.2.1 hc304) rfl rfl rfl dL_law_548 (bleL (by omega)) (bleL (by omega)) ?_
    refine g_istore C (lv' := [(7, .int r302), (0, .ref b), (1, .ref (w_r w 0)), (2, .ref (w_r w 292)), (3, .ref (w_r w 300)), (4, .ref (w_r w 301)), (5, .int x5), (6, .int x6)]) dL_law_551 (by decide) rfl ?_
    refine g_aload_n C dL_law_553 3 rfl ?_
    obtain ⟨r305, hc306, h⟩ := ob1_1 h
    refine g_callVi C 292 q_292 vk_W_162 hR rfl (m_M_thrown C.2.2.2.2.2.2.1 hc306) rfl rfl rfl dL_law_554 (bleL (by omega)) (bleL (by omega)) ?_
    refine g_iload C dL_law_557 7 rfl ?_
    refine g_icmp_eq C dL_law_559 (tgt := 564) rfl (fun q => ?_) (fun q => ?_)
    · replace h := it_t q h
      refine g_iload C dL_law_564 7 rfl ?_
      refine g_if_ne C dL_law_566 (tgt := 581) rfl (fun q => ?_) (fun q => ?_)
      · replace h := it_f q h
        refine g_goto C dL_law_581 (tgt := 2920) rfl ?_
        refine g_iinc C (lv' := [(5, .int (x5 + 5)), (7, .int r302), (0, .ref b), (1, .ref (w_r w 0)), (2, .ref (w_r w 292)), (3, .ref (w_r w 300)), (4, .ref (w_r w 301)), (6, .int x6)]) (v := (x5 + 5)) dL_law_2920 6 rfl rfl (by decide) rfl ?_
        refine g_goto C dL_law_2923 (tgt := 28) rfl ?_
        refine g_sub [2, 3, 4, 5, 6, 0] (lv' := [(0, .ref b), (1, .ref (w_r w 0)), (2, .ref (w_r w 292)), (3, .ref (w_r w 300)), (4, .ref (w_r w 301)), (5, .int (x5 + 5))]) rfl ?_
        refine g_widP (k + 8) (n + 60) (by omega) (by omega) ?_
        exact hl1 ((x5 + 5), d303) (Option.some.inj h).symm
      · replace h := it_t q h
        refine g_aload_n C dL_law_569 4 rfl ?_
        refine g_iconst C dL_law_570 (v := 0) rfl ?_
        refine g_lald C 300 q_300 (by decide) 0 (by decide) dL_law_571 ?_
        refine g_iload C dL_law_572 0 rfl ?_
        refine g_i2l C dL_law_574  ?_
        refine g_lcmpeq C dL_law_575 dL_law_576 (tgt := 581) rfl (fun q => ?_) (fun q => ?_)
        · replace h := it_t q h
          refine g_goto C dL_law_581 (tgt := 2920) rfl ?_
          refine g_iinc C (lv' := [(5, .int (x5 + 5)), (7, .int r302), (0, .ref b), (1, .ref (w_r w 0)), (2, .ref (w_r w 292)), (3, .ref (w_r w 300)), (4, .ref (w_r w 301)), (6, .int x6)]) (v := (x5 + 5)) dL_law_2920 6 rfl rfl (by decide) rfl ?_
          refine g_goto C dL_law_2923 (tgt := 28) rfl ?_
          refine g_sub [2, 3, 4, 5, 6, 0] (lv' := [(0, .ref b), (1, .ref (w_r w 0)), (2, .ref (w_r w 292)), (3, .ref (w_r w 300)), (4, .ref (w_r w 301)), (5, .int (x5 + 5))]) rfl ?_
          refine g_widP (k + 8) (n + 60) (by omega) (by omega) ?_
          exact hl1 ((x5 + 5), d303) (Option.some.inj h).symm
        · replace h := it_f q h
          replace h := ir_2 h hx1
          refine g_iconst C dL_law_579 (v := 0) rfl ?_
          exact (law_no h).elim
    · replace h := it_f q h
      replace h := ir_2 h hx1
      refine g_iconst C dL_law_562 (v := 0) rfl ?_
      exact (law_no h).elim
  have R515 : ∀ (x5 : Int32) (v1 : Int32) (v2 : Int32) (v3 : Int32) (d : Dt), f_W_law_515 L xs x5 v1 v2 v3 d = some y1 → gG w p l e R s m args below meth c 9 (k + 0) (n + 0) Q d [(0, .ref b), (1, .ref (w_r w 0)), (2, .ref (w_r w 292)), (3, .ref (w_r w 300)), (4, .ref (w_r w 301)), (5, .int x5)] 515 [.int v3, .int v2, .int v1, .ref (w_r w 0)] := by
    intro x5 v1 v2 v3 d  h
    unfold f_W_law_515 at h
    refine g_aload_n C dL_law_515 3 rfl ?_
    obtain ⟨r307, d308, hc309, h⟩ := ob2_1 h
    refine g_callSW C (k + 8) (n + 60) hk_W_173 hR rfl (m_W_makeStatement C.2.2.2.2.2.2.1 hl9 hc309) rfl rfl rfl dL_law_516 rfl rfl (by omega) (by omega) ?_
    refine g_istore C (lv' := [(6, .int r307), (0, .ref b), (1, .ref (w_r w 0)), (2, .ref (w_r w 292)), (3, .ref (w_r w 300)), (4, .ref (w_r w 301)), (5, .int x5)]) dL_law_519 (by decide) rfl ?_
    refine g_aload_n C dL_law_521 3 rfl ?_
    refine g_aload_n C dL_law_522 1 rfl ?_
    refine g_iload C dL_law_523 6 rfl ?_
    refine g_iconst C dL_law_525 (v := 1) rfl ?_
    refine g_iadd C dL_law_526  ?_
    have hg310 := gd_1 h
    replace h := gd_2 h
    refine g_xald C hX hb hg310 dL_law_527 ?_
    refine g_aload_n C dL_law_528 1 rfl ?_
    refine g_iload C dL_law_529 6 rfl ?_
    refine g_iconst C dL_law_531 (v := 2) rfl ?_
    refine g_iadd C dL_law_532  ?_
    have hg311 := gd_1 h
    replace h := gd_2 h
    refine g_xald C hX hb hg311 dL_law_533 ?_
    refine g_aload_n C dL_law_534 1 rfl ?_
    refine g_iload C dL_law_535 6 rfl ?_
    refine g_iconst C dL_law_537 (v := 3) rfl ?_
    refine g_iadd C dL_law_538  ?_
    have hg312 := gd_1 h
    replace h := gd_2 h
    refine g_xald C hX hb hg312 dL_law_539 ?_
    refine g_if_eq C dL_law_540 (tgt := 547) rfl (fun q => ?_) (fun q => ?_)
    · replace h := it_t q h
      refine g_iconst C dL_law_547 (v := 0) rfl ?_
      refine g_sub [1, 2, 3, 4, 5, 6, 0] (lv' := [(0, .ref b), (1, .ref (w_r w 0)), (2, .ref (w_r w 292)), (3, .ref (w_r w 300)), (4, .ref (w_r w 301)), (5, .int x5), (6, .int r307)]) rfl ?_
      exact R548 x5 r307 (xs (x5 + 1).toNatClampNeg) (xs (x5 + 2).toNatClampNeg) 0 d308 h
    · replace h := it_f q h
      refine g_iconst C dL_law_543 (v := 1) rfl ?_
      refine g_goto C dL_law_544 (tgt := 548) rfl ?_
      refine g_sub [1, 2, 3, 4, 5, 6, 0] (lv' := [(0, .ref b), (1, .ref (w_r w 0)), (2, .ref (w_r w 292)), (3, .ref (w_r w 300)), (4, .ref (w_r w 301)), (5, .int x5), (6, .int r307)]) rfl ?_
      exact R548 x5 r307 (xs (x5 + 1).toNatClampNeg) (xs (x5 + 2).toNatClampNeg) 1 d308 h
  unfold f_W_law_488 at h
  refine g_aload_n C dL_law_488 1 rfl ?_
  refine g_aload_n C dL_law_489 0 rfl ?_
  refine g_iload C dL_law_490 5 rfl ?_
  refine g_iconst C dL_law_492 (v := 1) rfl ?_
  refine g_iadd C dL_law_493  ?_
  have hg313 := gd_1 h
  replace h := gd_2 h
  refine g_xald C hX hb hg313 dL_law_494 ?_
  refine g_aload_n C dL_law_495 0 rfl ?_
  refine g_iload C dL_law_496 5 rfl ?_
  refine g_iconst C dL_law_498 (v := 2) rfl ?_
  refine g_iadd C dL_law_499  ?_
  have hg314 := gd_1 h
  replace h := gd_2 h
  refine g_xald C hX hb hg314 dL_law_500 ?_
  refine g_aload_n C dL_law_501 0 rfl ?_
  refine g_iload C dL_law_502 5 rfl ?_
  refine g_iconst C dL_law_504 (v := 3) rfl ?_
  refine g_iadd C dL_law_505  ?_
  have hg315 := gd_1 h
  replace h := gd_2 h
  refine g_xald C hX hb hg315 dL_law_506 ?_
  refine g_if_eq C dL_law_507 (tgt := 514) rfl (fun q => ?_) (fun q => ?_)
  · replace h := it_t q h
    refine g_iconst C dL_law_514 (v := 0) rfl ?_
    exact R515 x5 (xs (x5 + 1).toNatClampNeg) (xs (x5 + 2).toNatClampNeg) 0 d h
  · replace h := it_f q h
    refine g_iconst C dL_law_510 (v := 1) rfl ?_
    refine g_goto C dL_law_511 (tgt := 515) rfl ?_
    exact R515 x5 (xs (x5 + 1).toNatClampNeg) (xs (x5 + 2).toNatClampNeg) 1 d h
set_option maxHeartbeats 4000000 in
set_option maxRecDepth 100000 in
theorem law_c_584 {w : wT} {p : Program} {l : Launch} {e : Env} {R : Room} {s : State} {m : MethodId} {args : Array Value} {below : List Frame} {meth : Method} {c : Code} {b L k n : Nat} {xs : Nat → Int32} {Q : State → Prop} {x5 : Int32} {d dE : Dt} {y1 : (Int32 × Dt) ⊕ (Int32 × Dt)} (C : gC w p s m args c cL_law 9 RL) (hl9 : l.stackTraces = false) (hX : va_X b L xs s s.heap) (hb : ¬ A_W w b) (hR : R = gRmX 2048 603072 7194730) (hk : k + 8 ≤ 603072) (hn : n + 60 ≤ 7194730) (hE : ∀ (d : Dt) (lv : List (Nat × Value)), gG w p l e R s m args below meth c 9 603072 7194730 Q d lv 2927 [.int 1]) (hl1 : ∀ s1 : Int32 × Dt, y1 = .inl s1 → gG w p l e R s m args below meth c 9 (k + 8) (n + 60) Q s1.2 [(0, .ref b), (1, .ref (w_r w 0)), (2, .ref (w_r w 292)), (3, .ref (w_r w 300)), (4, .ref (w_r w 301)), (5, .int s1.1)] 28 []) (hx1 : ∀ z, y1 = .inr z → z = (1, dE)) (h : f_W_law_584 L xs x5 d = some y1) : gG w p l e R s m args below meth c 9 k n Q d [(0, .ref b), (1, .ref (w_r w 0)), (2, .ref (w_r w 292)), (3, .ref (w_r w 300)), (4, .ref (w_r w 301)), (5, .int x5)] 584 [] := by
  unfold f_W_law_584 at h
  refine g_aload_n C dL_law_584 1 rfl ?_
  refine g_aload_n C dL_law_585 0 rfl ?_
  refine g_iload C dL_law_586 5 rfl ?_
  refine g_iconst C dL_law_588 (v := 1) rfl ?_
  refine g_iadd C dL_law_589  ?_
  have hg316 := gd_1 h
  replace h := gd_2 h
  refine g_xald C hX hb hg316 dL_law_590 ?_
  refine g_aload_n C dL_law_591 3 rfl ?_
  obtain ⟨r317, d318, hc319, h⟩ := ob2_1 h
  refine g_callSW C (k + 8) (n + 60) hk_W_177 hR rfl (m_W_dropStatement C.2.2.2.2.2.2.1 hl9 hc319) rfl rfl rfl dL_law_592 rfl rfl (by omega) (by omega) ?_
  refine g_istore C (lv' := [(6, .int r317), (0, .ref b), (1, .ref (w_r w 0)), (2, .ref (w_r w 292)), (3, .ref (w_r w 300)), (4, .ref (w_r w 301)), (5, .int x5)]) dL_law_595 (by decide) rfl ?_
  refine g_aload_n C dL_law_597 3 rfl ?_
  refine g_aload_n C dL_law_598 1 rfl ?_
  refine g_iload C dL_law_599 6 rfl ?_
  refine g_iconst C dL_law_601 (v := 1) rfl ?_
  refine g_iadd C dL_law_602  ?_
  have hg320 := gd_1 h
  replace h := gd_2 h
  refine g_xald C hX hb hg320 dL_law_603 ?_
  obtain ⟨r321, d322, hc323, h⟩ := ob2_1 h
  refine g_callVi C 292 q_292 vk_W_179 hR rfl (m_M_dropStatement C.2.2.2.2.2.2.1 hc323) rfl rfl rfl dL_law_604 (bleL (by omega)) (bleL (by omega)) ?_
  refine g_istore C (lv' := [(7, .int r321), (6, .int r317), (0, .ref b), (1, .ref (w_r w 0)), (2, .ref (w_r w 292)), (3, .ref (w_r w 300)), (4, .ref (w_r w 301)), (5, .int x5)]) dL_law_607 (by decide) rfl ?_
  refine g_aload_n C dL_law_609 4 rfl ?_
  obtain ⟨r324, hc325, h⟩ := ob1_1 h
  refine g_callVi C 292 q_292 vk_W_162 hR rfl (m_M_thrown C.2.2.2.2.2.2.1 hc325) rfl rfl rfl dL_law_610 (bleL (by omega)) (bleL (by omega)) ?_
  refine g_iload C dL_law_613 1 rfl ?_
  refine g_icmp_eq C dL_law_615 (tgt := 620) rfl (fun q => ?_) (fun q => ?_)
  · replace h := it_t q h
    refine g_iload C dL_law_620 1 rfl ?_
    refine g_if_ne C dL_law_622 (tgt := 637) rfl (fun q => ?_) (fun q => ?_)
    · replace h := it_f q h
      refine g_goto C dL_law_637 (tgt := 2920) rfl ?_
      refine g_iinc C (lv' := [(5, .int (x5 + 5)), (7, .int r321), (6, .int r317), (0, .ref b), (1, .ref (w_r w 0)), (2, .ref (w_r w 292)), (3, .ref (w_r w 300)), (4, .ref (w_r w 301))]) (v := (x5 + 5)) dL_law_2920 7 rfl rfl (by decide) rfl ?_
      refine g_goto C dL_law_2923 (tgt := 28) rfl ?_
      refine g_sub [3, 4, 5, 6, 7, 0] (lv' := [(0, .ref b), (1, .ref (w_r w 0)), (2, .ref (w_r w 292)), (3, .ref (w_r w 300)), (4, .ref (w_r w 301)), (5, .int (x5 + 5))]) rfl ?_
      exact hl1 ((x5 + 5), d322) (Option.some.inj h).symm
    · replace h := it_t q h
      refine g_aload_n C dL_law_625 5 rfl ?_
      refine g_iconst C dL_law_626 (v := 0) rfl ?_
      refine g_lald C 300 q_300 (by decide) 0 (by decide) dL_law_627 ?_
      refine g_iload C dL_law_628 0 rfl ?_
      refine g_i2l C dL_law_630  ?_
      refine g_lcmpeq C dL_law_631 dL_law_632 (tgt := 637) rfl (fun q => ?_) (fun q => ?_)
      · replace h := it_t q h
        refine g_goto C dL_law_637 (tgt := 2920) rfl ?_
        refine g_iinc C (lv' := [(5, .int (x5 + 5)), (7, .int r321), (6, .int r317), (0, .ref b), (1, .ref (w_r w 0)), (2, .ref (w_r w 292)), (3, .ref (w_r w 300)), (4, .ref (w_r w 301))]) (v := (x5 + 5)) dL_law_2920 7 rfl rfl (by decide) rfl ?_
        refine g_goto C dL_law_2923 (tgt := 28) rfl ?_
        refine g_sub [3, 4, 5, 6, 7, 0] (lv' := [(0, .ref b), (1, .ref (w_r w 0)), (2, .ref (w_r w 292)), (3, .ref (w_r w 300)), (4, .ref (w_r w 301)), (5, .int (x5 + 5))]) rfl ?_
        exact hl1 ((x5 + 5), d322) (Option.some.inj h).symm
      · replace h := it_f q h
        replace h := ir_2 h hx1
        refine g_iconst C dL_law_635 (v := 0) rfl ?_
        exact (law_no h).elim
  · replace h := it_f q h
    replace h := ir_2 h hx1
    refine g_iconst C dL_law_618 (v := 0) rfl ?_
    exact (law_no h).elim
set_option maxHeartbeats 4000000 in
set_option maxRecDepth 100000 in
theorem law_c_640 {w : wT} {p : Program} {l : Launch} {e : Env} {R : Room} {s : State} {m : MethodId} {args : Array Value} {below : List Frame} {meth : Method} {c : Code} {b L k n : Nat} {xs : Nat → Int32} {Q : State → Prop} {x5 : Int32} {d dE : Dt} {y1 : (Int32 × Dt) ⊕ (Int32 × Dt)} (C : gC w p s m args c cL_law 9 RL) (hl9 : l.stackTraces = false) (hX : va_X b L xs s s.heap) (hb : ¬ A_W w b) (hR : R = gRmX 2048 603072 7194730) (hk : k + 8 ≤ 603072) (hn : n + 60 ≤ 7194730) (hE : ∀ (d : Dt) (lv : List (Nat × Value)), gG w p l e R s m args below meth c 9 603072 7194730 Q d lv 2927 [.int 1]) (hl1 : ∀ s1 : Int32 × Dt, y1 = .inl s1 → gG w p l e R s m args below meth c 9 (k + 8) (n + 60) Q s1.2 [(0, .ref b), (1, .ref (w_r w 0)), (2, .ref (w_r w 292)), (3, .ref (w_r w 300)), (4, .ref (w_r w 301)), (5, .int s1.1)] 28 []) (hx1 : ∀ z, y1 = .inr z → z = (1, dE)) (h : f_W_law_640 L xs x5 d = some y1) : gG w p l e R s m args below meth c 9 k n Q d [(0, .ref b), (1, .ref (w_r w 0)), (2, .ref (w_r w 292)), (3, .ref (w_r w 300)), (4, .ref (w_r w 301)), (5, .int x5)] 640 [] := by
  have R722 : ∀ (x5 : Int32) (v0 : Int32) (v1 : Int32) (d : Dt), f_W_law_722 L xs x5 v0 v1 d = some y1 → gG w p l e R s m args below meth c 9 (k + 8) (n + 60) Q d [(0, .ref b), (1, .ref (w_r w 0)), (2, .ref (w_r w 292)), (3, .ref (w_r w 300)), (4, .ref (w_r w 301)), (5, .int x5)] 722 [.long (v1).toInt64, .long (v0).toInt64] := by
    intro x5 v0 v1 d  h
    unfold f_W_law_722 at h
    refine g_lcmpeq C dL_law_722 dL_law_723 (tgt := 728) rfl (fun q => ?_) (fun q => ?_)
    · replace h := it_t q h
      refine g_goto C dL_law_728 (tgt := 2920) rfl ?_
      refine g_iinc C (lv' := [(5, .int (x5 + 5)), (0, .ref b), (1, .ref (w_r w 0)), (2, .ref (w_r w 292)), (3, .ref (w_r w 300)), (4, .ref (w_r w 301))]) (v := (x5 + 5)) dL_law_2920 5 rfl rfl (by decide) rfl ?_
      refine g_goto C dL_law_2923 (tgt := 28) rfl ?_
      refine g_sub [1, 2, 3, 4, 5, 0] (lv' := [(0, .ref b), (1, .ref (w_r w 0)), (2, .ref (w_r w 292)), (3, .ref (w_r w 300)), (4, .ref (w_r w 301)), (5, .int (x5 + 5))]) rfl ?_
      refine g_widP (k + 8) (n + 60) (by omega) (by omega) ?_
      exact hl1 ((x5 + 5), d) (Option.some.inj h).symm
    · replace h := it_f q h
      replace h := ir_2 h hx1
      refine g_iconst C dL_law_726 (v := 0) rfl ?_
      exact (law_no h).elim
  have R688 : ∀ (x5 : Int32) (x6 : Int32) (v1 : Int32) (v2 : Int32) (d : Dt), f_W_law_688 L xs x5 x6 v1 v2 d = some y1 → gG w p l e R s m args below meth c 9 (k + 8) (n + 60) Q d [(0, .ref b), (1, .ref (w_r w 0)), (2, .ref (w_r w 292)), (3, .ref (w_r w 300)), (4, .ref (w_r w 301)), (5, .int x5), (6, .int x6)] 688 [.int v2, .int v1, .ref (w_r w 292)] := by
    intro x5 x6 v1 v2 d  h
    unfold f_W_law_688 at h
    obtain ⟨r326, d327, hc328, h⟩ := ob2_1 h
    refine g_callVi C 292 q_292 vk_W_183 hR rfl (m_M_admit C.2.2.2.2.2.2.1 hc328) rfl rfl rfl dL_law_688 (bleL (by omega)) (bleL (by omega)) ?_
    refine g_istore C (lv' := [(7, .int r326), (0, .ref b), (1, .ref (w_r w 0)), (2, .ref (w_r w 292)), (3, .ref (w_r w 300)), (4, .ref (w_r w 301)), (5, .int x5), (6, .int x6)]) dL_law_691 (by decide) rfl ?_
    refine g_aload_n C dL_law_693 3 rfl ?_
    obtain ⟨r329, hc330, h⟩ := ob1_1 h
    refine g_callVi C 292 q_292 vk_W_162 hR rfl (m_M_thrown C.2.2.2.2.2.2.1 hc330) rfl rfl rfl dL_law_694 (bleL (by omega)) (bleL (by omega)) ?_
    refine g_iload C dL_law_697 7 rfl ?_
    refine g_icmp_eq C dL_law_699 (tgt := 704) rfl (fun q => ?_) (fun q => ?_)
    · replace h := it_t q h
      refine g_iload C dL_law_704 7 rfl ?_
      refine g_if_ne C dL_law_706 (tgt := 728) rfl (fun q => ?_) (fun q => ?_)
      · replace h := it_f q h
        refine g_goto C dL_law_728 (tgt := 2920) rfl ?_
        refine g_iinc C (lv' := [(5, .int (x5 + 5)), (7, .int r326), (0, .ref b), (1, .ref (w_r w 0)), (2, .ref (w_r w 292)), (3, .ref (w_r w 300)), (4, .ref (w_r w 301)), (6, .int x6)]) (v := (x5 + 5)) dL_law_2920 6 rfl rfl (by decide) rfl ?_
        refine g_goto C dL_law_2923 (tgt := 28) rfl ?_
        refine g_sub [2, 3, 4, 5, 6, 0] (lv' := [(0, .ref b), (1, .ref (w_r w 0)), (2, .ref (w_r w 292)), (3, .ref (w_r w 300)), (4, .ref (w_r w 301)), (5, .int (x5 + 5))]) rfl ?_
        refine g_widP (k + 8) (n + 60) (by omega) (by omega) ?_
        exact hl1 ((x5 + 5), d327) (Option.some.inj h).symm
      · replace h := it_t q h
        refine g_aload_n C dL_law_709 4 rfl ?_
        refine g_iconst C dL_law_710 (v := 0) rfl ?_
        refine g_lald C 300 q_300 (by decide) 0 (by decide) dL_law_711 ?_
        refine g_iload C dL_law_712 0 rfl ?_
        refine g_if_eq C dL_law_714 (tgt := 721) rfl (fun q => ?_) (fun q => ?_)
        · replace h := it_t q h
          refine g_lconst C dL_law_721 (v := 0) (by decide) ?_
          refine g_sub [1, 2, 3, 4, 5, 6] (lv' := [(0, .ref b), (1, .ref (w_r w 0)), (2, .ref (w_r w 292)), (3, .ref (w_r w 300)), (4, .ref (w_r w 301)), (5, .int x5)]) rfl ?_
          refine g_widP (k + 8) (n + 60) (by omega) (by omega) ?_
          exact R722 x5 (d327 300 0) 0 d327 h
        · replace h := it_f q h
          refine g_lconst C dL_law_717 (v := 1) (by decide) ?_
          refine g_goto C dL_law_718 (tgt := 722) rfl ?_
          refine g_sub [1, 2, 3, 4, 5, 6] (lv' := [(0, .ref b), (1, .ref (w_r w 0)), (2, .ref (w_r w 292)), (3, .ref (w_r w 300)), (4, .ref (w_r w 301)), (5, .int x5)]) rfl ?_
          refine g_widP (k + 8) (n + 60) (by omega) (by omega) ?_
          exact R722 x5 (d327 300 0) 1 d327 h
    · replace h := it_f q h
      replace h := ir_2 h hx1
      refine g_iconst C dL_law_702 (v := 0) rfl ?_
      exact (law_no h).elim
  have R661 : ∀ (x5 : Int32) (v1 : Int32) (v2 : Int32) (d : Dt), f_W_law_661 L xs x5 v1 v2 d = some y1 → gG w p l e R s m args below meth c 9 (k + 0) (n + 0) Q d [(0, .ref b), (1, .ref (w_r w 0)), (2, .ref (w_r w 292)), (3, .ref (w_r w 300)), (4, .ref (w_r w 301)), (5, .int x5)] 661 [.int v2, .int v1, .ref (w_r w 0)] := by
    intro x5 v1 v2 d  h
    unfold f_W_law_661 at h
    refine g_aload_n C dL_law_661 3 rfl ?_
    obtain ⟨r331, d332, hc333, h⟩ := ob2_1 h
    refine g_callSW C (k + 8) (n + 60) hk_W_180 hR rfl (m_W_admit C.2.2.2.2.2.2.1 hl9 hc333) rfl rfl rfl dL_law_662 rfl rfl (by omega) (by omega) ?_
    refine g_istore C (lv' := [(6, .int r331), (0, .ref b), (1, .ref (w_r w 0)), (2, .ref (w_r w 292)), (3, .ref (w_r w 300)), (4, .ref (w_r w 301)), (5, .int x5)]) dL_law_665 (by decide) rfl ?_
    refine g_aload_n C dL_law_667 3 rfl ?_
    refine g_aload_n C dL_law_668 1 rfl ?_
    refine g_iload C dL_law_669 6 rfl ?_
    refine g_iconst C dL_law_671 (v := 1) rfl ?_
    refine g_iadd C dL_law_672  ?_
    have hg334 := gd_1 h
    replace h := gd_2 h
    refine g_xald C hX hb hg334 dL_law_673 ?_
    refine g_aload_n C dL_law_674 1 rfl ?_
    refine g_iload C dL_law_675 6 rfl ?_
    refine g_iconst C dL_law_677 (v := 2) rfl ?_
    refine g_iadd C dL_law_678  ?_
    have hg335 := gd_1 h
    replace h := gd_2 h
    refine g_xald C hX hb hg335 dL_law_679 ?_
    refine g_if_eq C dL_law_680 (tgt := 687) rfl (fun q => ?_) (fun q => ?_)
    · replace h := it_t q h
      refine g_iconst C dL_law_687 (v := 0) rfl ?_
      refine g_sub [1, 2, 3, 4, 5, 6, 0] (lv' := [(0, .ref b), (1, .ref (w_r w 0)), (2, .ref (w_r w 292)), (3, .ref (w_r w 300)), (4, .ref (w_r w 301)), (5, .int x5), (6, .int r331)]) rfl ?_
      exact R688 x5 r331 (xs (x5 + 1).toNatClampNeg) 0 d332 h
    · replace h := it_f q h
      refine g_iconst C dL_law_683 (v := 1) rfl ?_
      refine g_goto C dL_law_684 (tgt := 688) rfl ?_
      refine g_sub [1, 2, 3, 4, 5, 6, 0] (lv' := [(0, .ref b), (1, .ref (w_r w 0)), (2, .ref (w_r w 292)), (3, .ref (w_r w 300)), (4, .ref (w_r w 301)), (5, .int x5), (6, .int r331)]) rfl ?_
      exact R688 x5 r331 (xs (x5 + 1).toNatClampNeg) 1 d332 h
  unfold f_W_law_640 at h
  refine g_aload_n C dL_law_640 1 rfl ?_
  refine g_aload_n C dL_law_641 0 rfl ?_
  refine g_iload C dL_law_642 5 rfl ?_
  refine g_iconst C dL_law_644 (v := 1) rfl ?_
  refine g_iadd C dL_law_645  ?_
  have hg336 := gd_1 h
  replace h := gd_2 h
  refine g_xald C hX hb hg336 dL_law_646 ?_
  refine g_aload_n C dL_law_647 0 rfl ?_
  refine g_iload C dL_law_648 5 rfl ?_
  refine g_iconst C dL_law_650 (v := 2) rfl ?_
  refine g_iadd C dL_law_651  ?_
  have hg337 := gd_1 h
  replace h := gd_2 h
  refine g_xald C hX hb hg337 dL_law_652 ?_
  refine g_if_eq C dL_law_653 (tgt := 660) rfl (fun q => ?_) (fun q => ?_)
  · replace h := it_t q h
    refine g_iconst C dL_law_660 (v := 0) rfl ?_
    exact R661 x5 (xs (x5 + 1).toNatClampNeg) 0 d h
  · replace h := it_f q h
    refine g_iconst C dL_law_656 (v := 1) rfl ?_
    refine g_goto C dL_law_657 (tgt := 661) rfl ?_
    exact R661 x5 (xs (x5 + 1).toNatClampNeg) 1 d h
set_option maxHeartbeats 4000000 in
set_option maxRecDepth 100000 in
theorem law_c_731 {w : wT} {p : Program} {l : Launch} {e : Env} {R : Room} {s : State} {m : MethodId} {args : Array Value} {below : List Frame} {meth : Method} {c : Code} {b L k n : Nat} {xs : Nat → Int32} {Q : State → Prop} {x5 : Int32} {d dE : Dt} {y1 : (Int32 × Dt) ⊕ (Int32 × Dt)} (C : gC w p s m args c cL_law 9 RL) (hl9 : l.stackTraces = false) (hX : va_X b L xs s s.heap) (hb : ¬ A_W w b) (hR : R = gRmX 2048 603072 7194730) (hk : k + 8 ≤ 603072) (hn : n + 60 ≤ 7194730) (hE : ∀ (d : Dt) (lv : List (Nat × Value)), gG w p l e R s m args below meth c 9 603072 7194730 Q d lv 2927 [.int 1]) (hl1 : ∀ s1 : Int32 × Dt, y1 = .inl s1 → gG w p l e R s m args below meth c 9 (k + 8) (n + 60) Q s1.2 [(0, .ref b), (1, .ref (w_r w 0)), (2, .ref (w_r w 292)), (3, .ref (w_r w 300)), (4, .ref (w_r w 301)), (5, .int s1.1)] 28 []) (hx1 : ∀ z, y1 = .inr z → z = (1, dE)) (h : f_W_law_731 L xs x5 d = some y1) : gG w p l e R s m args below meth c 9 k n Q d [(0, .ref b), (1, .ref (w_r w 0)), (2, .ref (w_r w 292)), (3, .ref (w_r w 300)), (4, .ref (w_r w 301)), (5, .int x5)] 731 [] := by
  have R785 : ∀ (x5 : Int32) (v0 : Int32) (v1 : Int32) (d : Dt), f_W_law_785 L xs x5 v0 v1 d = some y1 → gG w p l e R s m args below meth c 9 (k + 8) (n + 60) Q d [(0, .ref b), (1, .ref (w_r w 0)), (2, .ref (w_r w 292)), (3, .ref (w_r w 300)), (4, .ref (w_r w 301)), (5, .int x5)] 785 [.long (v1).toInt64, .long (v0).toInt64] := by
    intro x5 v0 v1 d  h
    unfold f_W_law_785 at h
    refine g_lcmpeq C dL_law_785 dL_law_786 (tgt := 791) rfl (fun q => ?_) (fun q => ?_)
    · replace h := it_t q h
      refine g_goto C dL_law_791 (tgt := 2920) rfl ?_
      refine g_iinc C (lv' := [(5, .int (x5 + 5)), (0, .ref b), (1, .ref (w_r w 0)), (2, .ref (w_r w 292)), (3, .ref (w_r w 300)), (4, .ref (w_r w 301))]) (v := (x5 + 5)) dL_law_2920 5 rfl rfl (by decide) rfl ?_
      refine g_goto C dL_law_2923 (tgt := 28) rfl ?_
      refine g_sub [1, 2, 3, 4, 5, 0] (lv' := [(0, .ref b), (1, .ref (w_r w 0)), (2, .ref (w_r w 292)), (3, .ref (w_r w 300)), (4, .ref (w_r w 301)), (5, .int (x5 + 5))]) rfl ?_
      refine g_widP (k + 8) (n + 60) (by omega) (by omega) ?_
      exact hl1 ((x5 + 5), d) (Option.some.inj h).symm
    · replace h := it_f q h
      replace h := ir_2 h hx1
      refine g_iconst C dL_law_789 (v := 0) rfl ?_
      exact (law_no h).elim
  unfold f_W_law_731 at h
  refine g_aload_n C dL_law_731 1 rfl ?_
  refine g_aload_n C dL_law_732 0 rfl ?_
  refine g_iload C dL_law_733 5 rfl ?_
  refine g_iconst C dL_law_735 (v := 1) rfl ?_
  refine g_iadd C dL_law_736  ?_
  have hg338 := gd_1 h
  replace h := gd_2 h
  refine g_xald C hX hb hg338 dL_law_737 ?_
  refine g_aload_n C dL_law_738 3 rfl ?_
  obtain ⟨r339, d340, hc341, h⟩ := ob2_1 h
  refine g_callSW C (k + 8) (n + 60) hk_W_184 hR rfl (m_W_retract C.2.2.2.2.2.2.1 hl9 hc341) rfl rfl rfl dL_law_739 rfl rfl (by omega) (by omega) ?_
  refine g_istore C (lv' := [(6, .int r339), (0, .ref b), (1, .ref (w_r w 0)), (2, .ref (w_r w 292)), (3, .ref (w_r w 300)), (4, .ref (w_r w 301)), (5, .int x5)]) dL_law_742 (by decide) rfl ?_
  refine g_aload_n C dL_law_744 3 rfl ?_
  refine g_aload_n C dL_law_745 1 rfl ?_
  refine g_iload C dL_law_746 6 rfl ?_
  refine g_iconst C dL_law_748 (v := 1) rfl ?_
  refine g_iadd C dL_law_749  ?_
  have hg342 := gd_1 h
  replace h := gd_2 h
  refine g_xald C hX hb hg342 dL_law_750 ?_
  obtain ⟨r343, d344, hc345, h⟩ := ob2_1 h
  refine g_callVi C 292 q_292 vk_W_186 hR rfl (m_M_retract C.2.2.2.2.2.2.1 hc345) rfl rfl rfl dL_law_751 (bleL (by omega)) (bleL (by omega)) ?_
  refine g_istore C (lv' := [(7, .int r343), (6, .int r339), (0, .ref b), (1, .ref (w_r w 0)), (2, .ref (w_r w 292)), (3, .ref (w_r w 300)), (4, .ref (w_r w 301)), (5, .int x5)]) dL_law_754 (by decide) rfl ?_
  refine g_aload_n C dL_law_756 4 rfl ?_
  obtain ⟨r346, hc347, h⟩ := ob1_1 h
  refine g_callVi C 292 q_292 vk_W_162 hR rfl (m_M_thrown C.2.2.2.2.2.2.1 hc347) rfl rfl rfl dL_law_757 (bleL (by omega)) (bleL (by omega)) ?_
  refine g_iload C dL_law_760 1 rfl ?_
  refine g_icmp_eq C dL_law_762 (tgt := 767) rfl (fun q => ?_) (fun q => ?_)
  · replace h := it_t q h
    refine g_iload C dL_law_767 1 rfl ?_
    refine g_if_ne C dL_law_769 (tgt := 791) rfl (fun q => ?_) (fun q => ?_)
    · replace h := it_f q h
      refine g_goto C dL_law_791 (tgt := 2920) rfl ?_
      refine g_iinc C (lv' := [(5, .int (x5 + 5)), (7, .int r343), (6, .int r339), (0, .ref b), (1, .ref (w_r w 0)), (2, .ref (w_r w 292)), (3, .ref (w_r w 300)), (4, .ref (w_r w 301))]) (v := (x5 + 5)) dL_law_2920 7 rfl rfl (by decide) rfl ?_
      refine g_goto C dL_law_2923 (tgt := 28) rfl ?_
      refine g_sub [3, 4, 5, 6, 7, 0] (lv' := [(0, .ref b), (1, .ref (w_r w 0)), (2, .ref (w_r w 292)), (3, .ref (w_r w 300)), (4, .ref (w_r w 301)), (5, .int (x5 + 5))]) rfl ?_
      exact hl1 ((x5 + 5), d344) (Option.some.inj h).symm
    · replace h := it_t q h
      refine g_aload_n C dL_law_772 5 rfl ?_
      refine g_iconst C dL_law_773 (v := 0) rfl ?_
      refine g_lald C 300 q_300 (by decide) 0 (by decide) dL_law_774 ?_
      refine g_iload C dL_law_775 0 rfl ?_
      refine g_if_eq C dL_law_777 (tgt := 784) rfl (fun q => ?_) (fun q => ?_)
      · replace h := it_t q h
        refine g_lconst C dL_law_784 (v := 0) (by decide) ?_
        refine g_sub [2, 3, 4, 5, 6, 7] (lv' := [(0, .ref b), (1, .ref (w_r w 0)), (2, .ref (w_r w 292)), (3, .ref (w_r w 300)), (4, .ref (w_r w 301)), (5, .int x5)]) rfl ?_
        exact R785 x5 (d344 300 0) 0 d344 h
      · replace h := it_f q h
        refine g_lconst C dL_law_780 (v := 1) (by decide) ?_
        refine g_goto C dL_law_781 (tgt := 785) rfl ?_
        refine g_sub [2, 3, 4, 5, 6, 7] (lv' := [(0, .ref b), (1, .ref (w_r w 0)), (2, .ref (w_r w 292)), (3, .ref (w_r w 300)), (4, .ref (w_r w 301)), (5, .int x5)]) rfl ?_
        exact R785 x5 (d344 300 0) 1 d344 h
  · replace h := it_f q h
    replace h := ir_2 h hx1
    refine g_iconst C dL_law_765 (v := 0) rfl ?_
    exact (law_no h).elim
set_option maxHeartbeats 4000000 in
set_option maxRecDepth 100000 in
theorem law_c_794 {w : wT} {p : Program} {l : Launch} {e : Env} {R : Room} {s : State} {m : MethodId} {args : Array Value} {below : List Frame} {meth : Method} {c : Code} {b L k n : Nat} {xs : Nat → Int32} {Q : State → Prop} {x5 : Int32} {d dE : Dt} {y1 : (Int32 × Dt) ⊕ (Int32 × Dt)} (C : gC w p s m args c cL_law 9 RL) (hl9 : l.stackTraces = false) (hX : va_X b L xs s s.heap) (hb : ¬ A_W w b) (hR : R = gRmX 2048 603072 7194730) (hk : k + 8 ≤ 603072) (hn : n + 60 ≤ 7194730) (hE : ∀ (d : Dt) (lv : List (Nat × Value)), gG w p l e R s m args below meth c 9 603072 7194730 Q d lv 2927 [.int 1]) (hl1 : ∀ s1 : Int32 × Dt, y1 = .inl s1 → gG w p l e R s m args below meth c 9 (k + 8) (n + 60) Q s1.2 [(0, .ref b), (1, .ref (w_r w 0)), (2, .ref (w_r w 292)), (3, .ref (w_r w 300)), (4, .ref (w_r w 301)), (5, .int s1.1)] 28 []) (hx1 : ∀ z, y1 = .inr z → z = (1, dE)) (h : f_W_law_794 L xs x5 d = some y1) : gG w p l e R s m args below meth c 9 k n Q d [(0, .ref b), (1, .ref (w_r w 0)), (2, .ref (w_r w 292)), (3, .ref (w_r w 300)), (4, .ref (w_r w 301)), (5, .int x5)] 794 [] := by
  unfold f_W_law_794 at h
  refine g_aload_n C dL_law_794 1 rfl ?_
  refine g_aload_n C dL_law_795 0 rfl ?_
  refine g_iload C dL_law_796 5 rfl ?_
  refine g_iconst C dL_law_798 (v := 1) rfl ?_
  refine g_iadd C dL_law_799  ?_
  have hg348 := gd_1 h
  replace h := gd_2 h
  refine g_xald C hX hb hg348 dL_law_800 ?_
  refine g_aload_n C dL_law_801 3 rfl ?_
  obtain ⟨r349, d350, hc351, h⟩ := ob2_1 h
  refine g_callSW C (k + 8) (n + 60) hk_W_187 hR rfl (m_W_passDays C.2.2.2.2.2.2.1 hl9 hc351) rfl rfl rfl dL_law_802 rfl rfl (by omega) (by omega) ?_
  refine g_istore C (lv' := [(6, .int r349), (0, .ref b), (1, .ref (w_r w 0)), (2, .ref (w_r w 292)), (3, .ref (w_r w 300)), (4, .ref (w_r w 301)), (5, .int x5)]) dL_law_805 (by decide) rfl ?_
  refine g_aload_n C dL_law_807 3 rfl ?_
  refine g_aload_n C dL_law_808 1 rfl ?_
  refine g_iload C dL_law_809 6 rfl ?_
  refine g_iconst C dL_law_811 (v := 1) rfl ?_
  refine g_iadd C dL_law_812  ?_
  have hg352 := gd_1 h
  replace h := gd_2 h
  refine g_xald C hX hb hg352 dL_law_813 ?_
  obtain ⟨r353, d354, hc355, h⟩ := ob2_1 h
  refine g_callVi C 292 q_292 vk_W_189 hR rfl (m_M_passDays C.2.2.2.2.2.2.1 hc355) rfl rfl rfl dL_law_814 (bleL (by omega)) (bleL (by omega)) ?_
  refine g_istore C (lv' := [(7, .int r353), (6, .int r349), (0, .ref b), (1, .ref (w_r w 0)), (2, .ref (w_r w 292)), (3, .ref (w_r w 300)), (4, .ref (w_r w 301)), (5, .int x5)]) dL_law_817 (by decide) rfl ?_
  refine g_aload_n C dL_law_819 4 rfl ?_
  obtain ⟨r356, hc357, h⟩ := ob1_1 h
  refine g_callVi C 292 q_292 vk_W_162 hR rfl (m_M_thrown C.2.2.2.2.2.2.1 hc357) rfl rfl rfl dL_law_820 (bleL (by omega)) (bleL (by omega)) ?_
  refine g_iload C dL_law_823 1 rfl ?_
  refine g_icmp_eq C dL_law_825 (tgt := 830) rfl (fun q => ?_) (fun q => ?_)
  · replace h := it_t q h
    refine g_iload C dL_law_830 1 rfl ?_
    refine g_if_ne C dL_law_832 (tgt := 847) rfl (fun q => ?_) (fun q => ?_)
    · replace h := it_f q h
      refine g_goto C dL_law_847 (tgt := 2920) rfl ?_
      refine g_iinc C (lv' := [(5, .int (x5 + 5)), (7, .int r353), (6, .int r349), (0, .ref b), (1, .ref (w_r w 0)), (2, .ref (w_r w 292)), (3, .ref (w_r w 300)), (4, .ref (w_r w 301))]) (v := (x5 + 5)) dL_law_2920 7 rfl rfl (by decide) rfl ?_
      refine g_goto C dL_law_2923 (tgt := 28) rfl ?_
      refine g_sub [3, 4, 5, 6, 7, 0] (lv' := [(0, .ref b), (1, .ref (w_r w 0)), (2, .ref (w_r w 292)), (3, .ref (w_r w 300)), (4, .ref (w_r w 301)), (5, .int (x5 + 5))]) rfl ?_
      exact hl1 ((x5 + 5), d354) (Option.some.inj h).symm
    · replace h := it_t q h
      refine g_aload_n C dL_law_835 5 rfl ?_
      refine g_iconst C dL_law_836 (v := 0) rfl ?_
      refine g_lald C 300 q_300 (by decide) 0 (by decide) dL_law_837 ?_
      refine g_iload C dL_law_838 0 rfl ?_
      refine g_i2l C dL_law_840  ?_
      refine g_lcmpeq C dL_law_841 dL_law_842 (tgt := 847) rfl (fun q => ?_) (fun q => ?_)
      · replace h := it_t q h
        refine g_goto C dL_law_847 (tgt := 2920) rfl ?_
        refine g_iinc C (lv' := [(5, .int (x5 + 5)), (7, .int r353), (6, .int r349), (0, .ref b), (1, .ref (w_r w 0)), (2, .ref (w_r w 292)), (3, .ref (w_r w 300)), (4, .ref (w_r w 301))]) (v := (x5 + 5)) dL_law_2920 7 rfl rfl (by decide) rfl ?_
        refine g_goto C dL_law_2923 (tgt := 28) rfl ?_
        refine g_sub [3, 4, 5, 6, 7, 0] (lv' := [(0, .ref b), (1, .ref (w_r w 0)), (2, .ref (w_r w 292)), (3, .ref (w_r w 300)), (4, .ref (w_r w 301)), (5, .int (x5 + 5))]) rfl ?_
        exact hl1 ((x5 + 5), d354) (Option.some.inj h).symm
      · replace h := it_f q h
        replace h := ir_2 h hx1
        refine g_iconst C dL_law_845 (v := 0) rfl ?_
        exact (law_no h).elim
  · replace h := it_f q h
    replace h := ir_2 h hx1
    refine g_iconst C dL_law_828 (v := 0) rfl ?_
    exact (law_no h).elim
set_option maxHeartbeats 4000000 in
set_option maxRecDepth 100000 in
theorem law_c_850 {w : wT} {p : Program} {l : Launch} {e : Env} {R : Room} {s : State} {m : MethodId} {args : Array Value} {below : List Frame} {meth : Method} {c : Code} {b L k n : Nat} {xs : Nat → Int32} {Q : State → Prop} {x5 : Int32} {d dE : Dt} {y1 : (Int32 × Dt) ⊕ (Int32 × Dt)} (C : gC w p s m args c cL_law 9 RL) (hl9 : l.stackTraces = false) (hX : va_X b L xs s s.heap) (hb : ¬ A_W w b) (hR : R = gRmX 2048 603072 7194730) (hk : k + 8 ≤ 603072) (hn : n + 60 ≤ 7194730) (hE : ∀ (d : Dt) (lv : List (Nat × Value)), gG w p l e R s m args below meth c 9 603072 7194730 Q d lv 2927 [.int 1]) (hl1 : ∀ s1 : Int32 × Dt, y1 = .inl s1 → gG w p l e R s m args below meth c 9 (k + 8) (n + 60) Q s1.2 [(0, .ref b), (1, .ref (w_r w 0)), (2, .ref (w_r w 292)), (3, .ref (w_r w 300)), (4, .ref (w_r w 301)), (5, .int s1.1)] 28 []) (hx1 : ∀ z, y1 = .inr z → z = (1, dE)) (h : f_W_law_850 L xs x5 d = some y1) : gG w p l e R s m args below meth c 9 k n Q d [(0, .ref b), (1, .ref (w_r w 0)), (2, .ref (w_r w 292)), (3, .ref (w_r w 300)), (4, .ref (w_r w 301)), (5, .int x5)] 850 [] := by
  unfold f_W_law_850 at h
  refine g_aload_n C dL_law_850 1 rfl ?_
  refine g_aload_n C dL_law_851 0 rfl ?_
  refine g_iload C dL_law_852 5 rfl ?_
  refine g_iconst C dL_law_854 (v := 1) rfl ?_
  refine g_iadd C dL_law_855  ?_
  have hg358 := gd_1 h
  replace h := gd_2 h
  refine g_xald C hX hb hg358 dL_law_856 ?_
  refine g_aload_n C dL_law_857 3 rfl ?_
  obtain ⟨r359, d360, hc361, h⟩ := ob2_1 h
  refine g_callSW C (k + 8) (n + 60) hk_W_190 hR rfl (m_W_pardon C.2.2.2.2.2.2.1 hl9 hc361) rfl rfl rfl dL_law_858 rfl rfl (by omega) (by omega) ?_
  refine g_istore C (lv' := [(6, .int r359), (0, .ref b), (1, .ref (w_r w 0)), (2, .ref (w_r w 292)), (3, .ref (w_r w 300)), (4, .ref (w_r w 301)), (5, .int x5)]) dL_law_861 (by decide) rfl ?_
  refine g_aload_n C dL_law_863 3 rfl ?_
  refine g_aload_n C dL_law_864 1 rfl ?_
  refine g_iload C dL_law_865 6 rfl ?_
  refine g_iconst C dL_law_867 (v := 1) rfl ?_
  refine g_iadd C dL_law_868  ?_
  have hg362 := gd_1 h
  replace h := gd_2 h
  refine g_xald C hX hb hg362 dL_law_869 ?_
  obtain ⟨r363, d364, hc365, h⟩ := ob2_1 h
  refine g_callVi C 292 q_292 vk_W_192 hR rfl (m_M_pardon C.2.2.2.2.2.2.1 hc365) rfl rfl rfl dL_law_870 (bleL (by omega)) (bleL (by omega)) ?_
  refine g_istore C (lv' := [(7, .int r363), (6, .int r359), (0, .ref b), (1, .ref (w_r w 0)), (2, .ref (w_r w 292)), (3, .ref (w_r w 300)), (4, .ref (w_r w 301)), (5, .int x5)]) dL_law_873 (by decide) rfl ?_
  refine g_aload_n C dL_law_875 4 rfl ?_
  obtain ⟨r366, hc367, h⟩ := ob1_1 h
  refine g_callVi C 292 q_292 vk_W_162 hR rfl (m_M_thrown C.2.2.2.2.2.2.1 hc367) rfl rfl rfl dL_law_876 (bleL (by omega)) (bleL (by omega)) ?_
  refine g_iload C dL_law_879 1 rfl ?_
  refine g_icmp_eq C dL_law_881 (tgt := 886) rfl (fun q => ?_) (fun q => ?_)
  · replace h := it_t q h
    refine g_iload C dL_law_886 1 rfl ?_
    refine g_if_ne C dL_law_888 (tgt := 903) rfl (fun q => ?_) (fun q => ?_)
    · replace h := it_f q h
      refine g_goto C dL_law_903 (tgt := 2920) rfl ?_
      refine g_iinc C (lv' := [(5, .int (x5 + 5)), (7, .int r363), (6, .int r359), (0, .ref b), (1, .ref (w_r w 0)), (2, .ref (w_r w 292)), (3, .ref (w_r w 300)), (4, .ref (w_r w 301))]) (v := (x5 + 5)) dL_law_2920 7 rfl rfl (by decide) rfl ?_
      refine g_goto C dL_law_2923 (tgt := 28) rfl ?_
      refine g_sub [3, 4, 5, 6, 7, 0] (lv' := [(0, .ref b), (1, .ref (w_r w 0)), (2, .ref (w_r w 292)), (3, .ref (w_r w 300)), (4, .ref (w_r w 301)), (5, .int (x5 + 5))]) rfl ?_
      exact hl1 ((x5 + 5), d364) (Option.some.inj h).symm
    · replace h := it_t q h
      refine g_aload_n C dL_law_891 5 rfl ?_
      refine g_iconst C dL_law_892 (v := 0) rfl ?_
      refine g_lald C 300 q_300 (by decide) 0 (by decide) dL_law_893 ?_
      refine g_iload C dL_law_894 0 rfl ?_
      refine g_i2l C dL_law_896  ?_
      refine g_lcmpeq C dL_law_897 dL_law_898 (tgt := 903) rfl (fun q => ?_) (fun q => ?_)
      · replace h := it_t q h
        refine g_goto C dL_law_903 (tgt := 2920) rfl ?_
        refine g_iinc C (lv' := [(5, .int (x5 + 5)), (7, .int r363), (6, .int r359), (0, .ref b), (1, .ref (w_r w 0)), (2, .ref (w_r w 292)), (3, .ref (w_r w 300)), (4, .ref (w_r w 301))]) (v := (x5 + 5)) dL_law_2920 7 rfl rfl (by decide) rfl ?_
        refine g_goto C dL_law_2923 (tgt := 28) rfl ?_
        refine g_sub [3, 4, 5, 6, 7, 0] (lv' := [(0, .ref b), (1, .ref (w_r w 0)), (2, .ref (w_r w 292)), (3, .ref (w_r w 300)), (4, .ref (w_r w 301)), (5, .int (x5 + 5))]) rfl ?_
        exact hl1 ((x5 + 5), d364) (Option.some.inj h).symm
      · replace h := it_f q h
        replace h := ir_2 h hx1
        refine g_iconst C dL_law_901 (v := 0) rfl ?_
        exact (law_no h).elim
  · replace h := it_f q h
    replace h := ir_2 h hx1
    refine g_iconst C dL_law_884 (v := 0) rfl ?_
    exact (law_no h).elim
set_option maxHeartbeats 4000000 in
set_option maxRecDepth 100000 in
theorem law_c_906 {w : wT} {p : Program} {l : Launch} {e : Env} {R : Room} {s : State} {m : MethodId} {args : Array Value} {below : List Frame} {meth : Method} {c : Code} {b L k n : Nat} {xs : Nat → Int32} {Q : State → Prop} {x5 : Int32} {d dE : Dt} {y1 : (Int32 × Dt) ⊕ (Int32 × Dt)} (C : gC w p s m args c cL_law 9 RL) (hl9 : l.stackTraces = false) (hX : va_X b L xs s s.heap) (hb : ¬ A_W w b) (hR : R = gRmX 2048 603072 7194730) (hk : k + 8 ≤ 603072) (hn : n + 60 ≤ 7194730) (hE : ∀ (d : Dt) (lv : List (Nat × Value)), gG w p l e R s m args below meth c 9 603072 7194730 Q d lv 2927 [.int 1]) (hl1 : ∀ s1 : Int32 × Dt, y1 = .inl s1 → gG w p l e R s m args below meth c 9 (k + 8) (n + 60) Q s1.2 [(0, .ref b), (1, .ref (w_r w 0)), (2, .ref (w_r w 292)), (3, .ref (w_r w 300)), (4, .ref (w_r w 301)), (5, .int s1.1)] 28 []) (hx1 : ∀ z, y1 = .inr z → z = (1, dE)) (h : f_W_law_906 L xs x5 d = some y1) : gG w p l e R s m args below meth c 9 k n Q d [(0, .ref b), (1, .ref (w_r w 0)), (2, .ref (w_r w 292)), (3, .ref (w_r w 300)), (4, .ref (w_r w 301)), (5, .int x5)] 906 [] := by
  unfold f_W_law_906 at h
  refine g_aload_n C dL_law_906 1 rfl ?_
  obtain ⟨r368, hc369, h⟩ := ob1_1 h
  refine g_callVi C 0 q_0 vk_W_193 hR rfl (m_C_day C.2.2.2.2.2.2.1 hc369) rfl rfl rfl dL_law_907 (bleL (by omega)) (bleL (by omega)) ?_
  refine g_aload_n C dL_law_910 2 rfl ?_
  obtain ⟨r370, d371, hc372, h⟩ := ob2_1 h
  refine g_callVi C 292 q_292 vk_W_196 hR rfl (m_M_day C.2.2.2.2.2.2.1 hc372) rfl rfl rfl dL_law_911 (bleL (by omega)) (bleL (by omega)) ?_
  refine g_icmp_eq C dL_law_914 (tgt := 2920) rfl (fun q => ?_) (fun q => ?_)
  · replace h := it_t q h
    refine g_iinc C (lv' := [(5, .int (x5 + 5)), (0, .ref b), (1, .ref (w_r w 0)), (2, .ref (w_r w 292)), (3, .ref (w_r w 300)), (4, .ref (w_r w 301))]) (v := (x5 + 5)) dL_law_2920 5 rfl rfl (by decide) rfl ?_
    refine g_goto C dL_law_2923 (tgt := 28) rfl ?_
    refine g_sub [1, 2, 3, 4, 5, 0] (lv' := [(0, .ref b), (1, .ref (w_r w 0)), (2, .ref (w_r w 292)), (3, .ref (w_r w 300)), (4, .ref (w_r w 301)), (5, .int (x5 + 5))]) rfl ?_
    refine g_widP (k + 8) (n + 60) (by omega) (by omega) ?_
    exact hl1 ((x5 + 5), d371) (Option.some.inj h).symm
  · replace h := it_f q h
    replace h := ir_2 h hx1
    refine g_iconst C dL_law_917 (v := 0) rfl ?_
    exact (law_no h).elim
set_option maxHeartbeats 4000000 in
set_option maxRecDepth 100000 in
theorem law_c_919 {w : wT} {p : Program} {l : Launch} {e : Env} {R : Room} {s : State} {m : MethodId} {args : Array Value} {below : List Frame} {meth : Method} {c : Code} {b L k n : Nat} {xs : Nat → Int32} {Q : State → Prop} {x5 : Int32} {d dE : Dt} {y1 : (Int32 × Dt) ⊕ (Int32 × Dt)} (C : gC w p s m args c cL_law 9 RL) (hl9 : l.stackTraces = false) (hX : va_X b L xs s s.heap) (hb : ¬ A_W w b) (hR : R = gRmX 2048 603072 7194730) (hk : k + 8 ≤ 603072) (hn : n + 60 ≤ 7194730) (hE : ∀ (d : Dt) (lv : List (Nat × Value)), gG w p l e R s m args below meth c 9 603072 7194730 Q d lv 2927 [.int 1]) (hl1 : ∀ s1 : Int32 × Dt, y1 = .inl s1 → gG w p l e R s m args below meth c 9 (k + 8) (n + 60) Q s1.2 [(0, .ref b), (1, .ref (w_r w 0)), (2, .ref (w_r w 292)), (3, .ref (w_r w 300)), (4, .ref (w_r w 301)), (5, .int s1.1)] 28 []) (hx1 : ∀ z, y1 = .inr z → z = (1, dE)) (h : f_W_law_919 L xs x5 d = some y1) : gG w p l e R s m args below meth c 9 k n Q d [(0, .ref b), (1, .ref (w_r w 0)), (2, .ref (w_r w 292)), (3, .ref (w_r w 300)), (4, .ref (w_r w 301)), (5, .int x5)] 919 [] := by
  unfold f_W_law_919 at h
  refine g_aload_n C dL_law_919 1 rfl ?_
  obtain ⟨r373, hc374, h⟩ := ob1_1 h
  refine g_callVi C 0 q_0 vk_W_197 hR rfl (m_C_lanternCount C.2.2.2.2.2.2.1 hc374) rfl rfl rfl dL_law_920 (bleL (by omega)) (bleL (by omega)) ?_
  refine g_aload_n C dL_law_923 2 rfl ?_
  obtain ⟨r375, d376, hc377, h⟩ := ob2_1 h
  refine g_callVi C 292 q_292 vk_W_200 hR rfl (m_M_lanternCount C.2.2.2.2.2.2.1 hc377) rfl rfl rfl dL_law_924 (bleL (by omega)) (bleL (by omega)) ?_
  refine g_icmp_eq C dL_law_927 (tgt := 2920) rfl (fun q => ?_) (fun q => ?_)
  · replace h := it_t q h
    refine g_iinc C (lv' := [(5, .int (x5 + 5)), (0, .ref b), (1, .ref (w_r w 0)), (2, .ref (w_r w 292)), (3, .ref (w_r w 300)), (4, .ref (w_r w 301))]) (v := (x5 + 5)) dL_law_2920 5 rfl rfl (by decide) rfl ?_
    refine g_goto C dL_law_2923 (tgt := 28) rfl ?_
    refine g_sub [1, 2, 3, 4, 5, 0] (lv' := [(0, .ref b), (1, .ref (w_r w 0)), (2, .ref (w_r w 292)), (3, .ref (w_r w 300)), (4, .ref (w_r w 301)), (5, .int (x5 + 5))]) rfl ?_
    refine g_widP (k + 8) (n + 60) (by omega) (by omega) ?_
    exact hl1 ((x5 + 5), d376) (Option.some.inj h).symm
  · replace h := it_f q h
    replace h := ir_2 h hx1
    refine g_iconst C dL_law_930 (v := 0) rfl ?_
    exact (law_no h).elim
set_option maxHeartbeats 4000000 in
set_option maxRecDepth 100000 in
theorem law_c_932 {w : wT} {p : Program} {l : Launch} {e : Env} {R : Room} {s : State} {m : MethodId} {args : Array Value} {below : List Frame} {meth : Method} {c : Code} {b L k n : Nat} {xs : Nat → Int32} {Q : State → Prop} {x5 : Int32} {d dE : Dt} {y1 : (Int32 × Dt) ⊕ (Int32 × Dt)} (C : gC w p s m args c cL_law 9 RL) (hl9 : l.stackTraces = false) (hX : va_X b L xs s s.heap) (hb : ¬ A_W w b) (hR : R = gRmX 2048 603072 7194730) (hk : k + 8 ≤ 603072) (hn : n + 60 ≤ 7194730) (hE : ∀ (d : Dt) (lv : List (Nat × Value)), gG w p l e R s m args below meth c 9 603072 7194730 Q d lv 2927 [.int 1]) (hl1 : ∀ s1 : Int32 × Dt, y1 = .inl s1 → gG w p l e R s m args below meth c 9 (k + 8) (n + 60) Q s1.2 [(0, .ref b), (1, .ref (w_r w 0)), (2, .ref (w_r w 292)), (3, .ref (w_r w 300)), (4, .ref (w_r w 301)), (5, .int s1.1)] 28 []) (hx1 : ∀ z, y1 = .inr z → z = (1, dE)) (h : f_W_law_932 L xs x5 d = some y1) : gG w p l e R s m args below meth c 9 k n Q d [(0, .ref b), (1, .ref (w_r w 0)), (2, .ref (w_r w 292)), (3, .ref (w_r w 300)), (4, .ref (w_r w 301)), (5, .int x5)] 932 [] := by
  unfold f_W_law_932 at h
  refine g_aload_n C dL_law_932 1 rfl ?_
  refine g_aload_n C dL_law_933 0 rfl ?_
  refine g_iload C dL_law_934 5 rfl ?_
  refine g_iconst C dL_law_936 (v := 1) rfl ?_
  refine g_iadd C dL_law_937  ?_
  have hg378 := gd_1 h
  replace h := gd_2 h
  refine g_xald C hX hb hg378 dL_law_938 ?_
  refine g_aload_n C dL_law_939 3 rfl ?_
  obtain ⟨r379, d380, hc381, h⟩ := ob2_1 h
  refine g_callSW C (k + 8) (n + 60) hk_W_201 hR rfl (m_W_brightness C.2.2.2.2.2.2.1 hl9 hc381) rfl rfl rfl dL_law_940 rfl rfl (by omega) (by omega) ?_
  refine g_istore C (lv' := [(6, .int r379), (0, .ref b), (1, .ref (w_r w 0)), (2, .ref (w_r w 292)), (3, .ref (w_r w 300)), (4, .ref (w_r w 301)), (5, .int x5)]) dL_law_943 (by decide) rfl ?_
  refine g_aload_n C dL_law_945 3 rfl ?_
  refine g_aload_n C dL_law_946 1 rfl ?_
  refine g_iload C dL_law_947 6 rfl ?_
  refine g_iconst C dL_law_949 (v := 1) rfl ?_
  refine g_iadd C dL_law_950  ?_
  have hg382 := gd_1 h
  replace h := gd_2 h
  refine g_xald C hX hb hg382 dL_law_951 ?_
  obtain ⟨r383, d384, hc385, h⟩ := ob2_1 h
  refine g_callVi C 292 q_292 vk_W_203 hR rfl (m_M_brightness C.2.2.2.2.2.2.1 hc385) rfl rfl rfl dL_law_952 (bleL (by omega)) (bleL (by omega)) ?_
  refine g_istore C (lv' := [(7, .int r383), (6, .int r379), (0, .ref b), (1, .ref (w_r w 0)), (2, .ref (w_r w 292)), (3, .ref (w_r w 300)), (4, .ref (w_r w 301)), (5, .int x5)]) dL_law_955 (by decide) rfl ?_
  refine g_aload_n C dL_law_957 4 rfl ?_
  obtain ⟨r386, hc387, h⟩ := ob1_1 h
  refine g_callVi C 292 q_292 vk_W_162 hR rfl (m_M_thrown C.2.2.2.2.2.2.1 hc387) rfl rfl rfl dL_law_958 (bleL (by omega)) (bleL (by omega)) ?_
  refine g_iload C dL_law_961 1 rfl ?_
  refine g_icmp_eq C dL_law_963 (tgt := 968) rfl (fun q => ?_) (fun q => ?_)
  · replace h := it_t q h
    refine g_iload C dL_law_968 1 rfl ?_
    refine g_if_ne C dL_law_970 (tgt := 985) rfl (fun q => ?_) (fun q => ?_)
    · replace h := it_f q h
      refine g_goto C dL_law_985 (tgt := 2920) rfl ?_
      refine g_iinc C (lv' := [(5, .int (x5 + 5)), (7, .int r383), (6, .int r379), (0, .ref b), (1, .ref (w_r w 0)), (2, .ref (w_r w 292)), (3, .ref (w_r w 300)), (4, .ref (w_r w 301))]) (v := (x5 + 5)) dL_law_2920 7 rfl rfl (by decide) rfl ?_
      refine g_goto C dL_law_2923 (tgt := 28) rfl ?_
      refine g_sub [3, 4, 5, 6, 7, 0] (lv' := [(0, .ref b), (1, .ref (w_r w 0)), (2, .ref (w_r w 292)), (3, .ref (w_r w 300)), (4, .ref (w_r w 301)), (5, .int (x5 + 5))]) rfl ?_
      exact hl1 ((x5 + 5), d384) (Option.some.inj h).symm
    · replace h := it_t q h
      refine g_aload_n C dL_law_973 5 rfl ?_
      refine g_iconst C dL_law_974 (v := 0) rfl ?_
      refine g_lald C 300 q_300 (by decide) 0 (by decide) dL_law_975 ?_
      refine g_iload C dL_law_976 0 rfl ?_
      refine g_i2l C dL_law_978  ?_
      refine g_lcmpeq C dL_law_979 dL_law_980 (tgt := 985) rfl (fun q => ?_) (fun q => ?_)
      · replace h := it_t q h
        refine g_goto C dL_law_985 (tgt := 2920) rfl ?_
        refine g_iinc C (lv' := [(5, .int (x5 + 5)), (7, .int r383), (6, .int r379), (0, .ref b), (1, .ref (w_r w 0)), (2, .ref (w_r w 292)), (3, .ref (w_r w 300)), (4, .ref (w_r w 301))]) (v := (x5 + 5)) dL_law_2920 7 rfl rfl (by decide) rfl ?_
        refine g_goto C dL_law_2923 (tgt := 28) rfl ?_
        refine g_sub [3, 4, 5, 6, 7, 0] (lv' := [(0, .ref b), (1, .ref (w_r w 0)), (2, .ref (w_r w 292)), (3, .ref (w_r w 300)), (4, .ref (w_r w 301)), (5, .int (x5 + 5))]) rfl ?_
        exact hl1 ((x5 + 5), d384) (Option.some.inj h).symm
      · replace h := it_f q h
        replace h := ir_2 h hx1
        refine g_iconst C dL_law_983 (v := 0) rfl ?_
        exact (law_no h).elim
  · replace h := it_f q h
    replace h := ir_2 h hx1
    refine g_iconst C dL_law_966 (v := 0) rfl ?_
    exact (law_no h).elim
set_option maxHeartbeats 4000000 in
set_option maxRecDepth 100000 in
theorem law_c_988 {w : wT} {p : Program} {l : Launch} {e : Env} {R : Room} {s : State} {m : MethodId} {args : Array Value} {below : List Frame} {meth : Method} {c : Code} {b L k n : Nat} {xs : Nat → Int32} {Q : State → Prop} {x5 : Int32} {d dE : Dt} {y1 : (Int32 × Dt) ⊕ (Int32 × Dt)} (C : gC w p s m args c cL_law 9 RL) (hl9 : l.stackTraces = false) (hX : va_X b L xs s s.heap) (hb : ¬ A_W w b) (hR : R = gRmX 2048 603072 7194730) (hk : k + 8 ≤ 603072) (hn : n + 60 ≤ 7194730) (hE : ∀ (d : Dt) (lv : List (Nat × Value)), gG w p l e R s m args below meth c 9 603072 7194730 Q d lv 2927 [.int 1]) (hl1 : ∀ s1 : Int32 × Dt, y1 = .inl s1 → gG w p l e R s m args below meth c 9 (k + 8) (n + 60) Q s1.2 [(0, .ref b), (1, .ref (w_r w 0)), (2, .ref (w_r w 292)), (3, .ref (w_r w 300)), (4, .ref (w_r w 301)), (5, .int s1.1)] 28 []) (hx1 : ∀ z, y1 = .inr z → z = (1, dE)) (h : f_W_law_988 L xs x5 d = some y1) : gG w p l e R s m args below meth c 9 k n Q d [(0, .ref b), (1, .ref (w_r w 0)), (2, .ref (w_r w 292)), (3, .ref (w_r w 300)), (4, .ref (w_r w 301)), (5, .int x5)] 988 [] := by
  have R1070 : ∀ (x5 : Int32) (v0 : Int32) (v1 : Int32) (d : Dt), f_W_law_1070 L xs x5 v0 v1 d = some y1 → gG w p l e R s m args below meth c 9 (k + 8) (n + 60) Q d [(0, .ref b), (1, .ref (w_r w 0)), (2, .ref (w_r w 292)), (3, .ref (w_r w 300)), (4, .ref (w_r w 301)), (5, .int x5)] 1070 [.long (v1).toInt64, .long (v0).toInt64] := by
    intro x5 v0 v1 d  h
    unfold f_W_law_1070 at h
    refine g_lcmpeq C dL_law_1070 dL_law_1071 (tgt := 1076) rfl (fun q => ?_) (fun q => ?_)
    · replace h := it_t q h
      refine g_goto C dL_law_1076 (tgt := 2920) rfl ?_
      refine g_iinc C (lv' := [(5, .int (x5 + 5)), (0, .ref b), (1, .ref (w_r w 0)), (2, .ref (w_r w 292)), (3, .ref (w_r w 300)), (4, .ref (w_r w 301))]) (v := (x5 + 5)) dL_law_2920 5 rfl rfl (by decide) rfl ?_
      refine g_goto C dL_law_2923 (tgt := 28) rfl ?_
      refine g_sub [1, 2, 3, 4, 5, 0] (lv' := [(0, .ref b), (1, .ref (w_r w 0)), (2, .ref (w_r w 292)), (3, .ref (w_r w 300)), (4, .ref (w_r w 301)), (5, .int (x5 + 5))]) rfl ?_
      refine g_widP (k + 8) (n + 60) (by omega) (by omega) ?_
      exact hl1 ((x5 + 5), d) (Option.some.inj h).symm
    · replace h := it_f q h
      replace h := ir_2 h hx1
      refine g_iconst C dL_law_1074 (v := 0) rfl ?_
      exact (law_no h).elim
  have R1036 : ∀ (x5 : Int32) (x6 : Int32) (v1 : Int32) (v2 : Int32) (d : Dt), f_W_law_1036 L xs x5 x6 v1 v2 d = some y1 → gG w p l e R s m args below meth c 9 (k + 8) (n + 60) Q d [(0, .ref b), (1, .ref (w_r w 0)), (2, .ref (w_r w 292)), (3, .ref (w_r w 300)), (4, .ref (w_r w 301)), (5, .int x5), (6, .int x6)] 1036 [.int v2, .int v1, .ref (w_r w 292)] := by
    intro x5 x6 v1 v2 d  h
    unfold f_W_law_1036 at h
    obtain ⟨r388, d389, hc390, h⟩ := ob2_1 h
    refine g_callVi C 292 q_292 vk_W_206 hR rfl (m_M_hasAdmitted C.2.2.2.2.2.2.1 hc390) rfl rfl rfl dL_law_1036 (bleL (by omega)) (bleL (by omega)) ?_
    refine g_istore C (lv' := [(7, .int r388), (0, .ref b), (1, .ref (w_r w 0)), (2, .ref (w_r w 292)), (3, .ref (w_r w 300)), (4, .ref (w_r w 301)), (5, .int x5), (6, .int x6)]) dL_law_1039 (by decide) rfl ?_
    refine g_aload_n C dL_law_1041 3 rfl ?_
    obtain ⟨r391, hc392, h⟩ := ob1_1 h
    refine g_callVi C 292 q_292 vk_W_162 hR rfl (m_M_thrown C.2.2.2.2.2.2.1 hc392) rfl rfl rfl dL_law_1042 (bleL (by omega)) (bleL (by omega)) ?_
    refine g_iload C dL_law_1045 7 rfl ?_
    refine g_icmp_eq C dL_law_1047 (tgt := 1052) rfl (fun q => ?_) (fun q => ?_)
    · replace h := it_t q h
      refine g_iload C dL_law_1052 7 rfl ?_
      refine g_if_ne C dL_law_1054 (tgt := 1076) rfl (fun q => ?_) (fun q => ?_)
      · replace h := it_f q h
        refine g_goto C dL_law_1076 (tgt := 2920) rfl ?_
        refine g_iinc C (lv' := [(5, .int (x5 + 5)), (7, .int r388), (0, .ref b), (1, .ref (w_r w 0)), (2, .ref (w_r w 292)), (3, .ref (w_r w 300)), (4, .ref (w_r w 301)), (6, .int x6)]) (v := (x5 + 5)) dL_law_2920 6 rfl rfl (by decide) rfl ?_
        refine g_goto C dL_law_2923 (tgt := 28) rfl ?_
        refine g_sub [2, 3, 4, 5, 6, 0] (lv' := [(0, .ref b), (1, .ref (w_r w 0)), (2, .ref (w_r w 292)), (3, .ref (w_r w 300)), (4, .ref (w_r w 301)), (5, .int (x5 + 5))]) rfl ?_
        refine g_widP (k + 8) (n + 60) (by omega) (by omega) ?_
        exact hl1 ((x5 + 5), d389) (Option.some.inj h).symm
      · replace h := it_t q h
        refine g_aload_n C dL_law_1057 4 rfl ?_
        refine g_iconst C dL_law_1058 (v := 0) rfl ?_
        refine g_lald C 300 q_300 (by decide) 0 (by decide) dL_law_1059 ?_
        refine g_iload C dL_law_1060 0 rfl ?_
        refine g_if_eq C dL_law_1062 (tgt := 1069) rfl (fun q => ?_) (fun q => ?_)
        · replace h := it_t q h
          refine g_lconst C dL_law_1069 (v := 0) (by decide) ?_
          refine g_sub [1, 2, 3, 4, 5, 6] (lv' := [(0, .ref b), (1, .ref (w_r w 0)), (2, .ref (w_r w 292)), (3, .ref (w_r w 300)), (4, .ref (w_r w 301)), (5, .int x5)]) rfl ?_
          refine g_widP (k + 8) (n + 60) (by omega) (by omega) ?_
          exact R1070 x5 (d389 300 0) 0 d389 h
        · replace h := it_f q h
          refine g_lconst C dL_law_1065 (v := 1) (by decide) ?_
          refine g_goto C dL_law_1066 (tgt := 1070) rfl ?_
          refine g_sub [1, 2, 3, 4, 5, 6] (lv' := [(0, .ref b), (1, .ref (w_r w 0)), (2, .ref (w_r w 292)), (3, .ref (w_r w 300)), (4, .ref (w_r w 301)), (5, .int x5)]) rfl ?_
          refine g_widP (k + 8) (n + 60) (by omega) (by omega) ?_
          exact R1070 x5 (d389 300 0) 1 d389 h
    · replace h := it_f q h
      replace h := ir_2 h hx1
      refine g_iconst C dL_law_1050 (v := 0) rfl ?_
      exact (law_no h).elim
  have R1009 : ∀ (x5 : Int32) (v1 : Int32) (v2 : Int32) (d : Dt), f_W_law_1009 L xs x5 v1 v2 d = some y1 → gG w p l e R s m args below meth c 9 (k + 0) (n + 0) Q d [(0, .ref b), (1, .ref (w_r w 0)), (2, .ref (w_r w 292)), (3, .ref (w_r w 300)), (4, .ref (w_r w 301)), (5, .int x5)] 1009 [.int v2, .int v1, .ref (w_r w 0)] := by
    intro x5 v1 v2 d  h
    unfold f_W_law_1009 at h
    refine g_aload_n C dL_law_1009 3 rfl ?_
    obtain ⟨r393, d394, hc395, h⟩ := ob2_1 h
    refine g_callSW C (k + 8) (n + 60) hk_W_204 hR rfl (m_W_hasAdmitted C.2.2.2.2.2.2.1 hl9 hc395) rfl rfl rfl dL_law_1010 rfl rfl (by omega) (by omega) ?_
    refine g_istore C (lv' := [(6, .int r393), (0, .ref b), (1, .ref (w_r w 0)), (2, .ref (w_r w 292)), (3, .ref (w_r w 300)), (4, .ref (w_r w 301)), (5, .int x5)]) dL_law_1013 (by decide) rfl ?_
    refine g_aload_n C dL_law_1015 3 rfl ?_
    refine g_aload_n C dL_law_1016 1 rfl ?_
    refine g_iload C dL_law_1017 6 rfl ?_
    refine g_iconst C dL_law_1019 (v := 1) rfl ?_
    refine g_iadd C dL_law_1020  ?_
    have hg396 := gd_1 h
    replace h := gd_2 h
    refine g_xald C hX hb hg396 dL_law_1021 ?_
    refine g_aload_n C dL_law_1022 1 rfl ?_
    refine g_iload C dL_law_1023 6 rfl ?_
    refine g_iconst C dL_law_1025 (v := 2) rfl ?_
    refine g_iadd C dL_law_1026  ?_
    have hg397 := gd_1 h
    replace h := gd_2 h
    refine g_xald C hX hb hg397 dL_law_1027 ?_
    refine g_if_eq C dL_law_1028 (tgt := 1035) rfl (fun q => ?_) (fun q => ?_)
    · replace h := it_t q h
      refine g_iconst C dL_law_1035 (v := 0) rfl ?_
      refine g_sub [1, 2, 3, 4, 5, 6, 0] (lv' := [(0, .ref b), (1, .ref (w_r w 0)), (2, .ref (w_r w 292)), (3, .ref (w_r w 300)), (4, .ref (w_r w 301)), (5, .int x5), (6, .int r393)]) rfl ?_
      exact R1036 x5 r393 (xs (x5 + 1).toNatClampNeg) 0 d394 h
    · replace h := it_f q h
      refine g_iconst C dL_law_1031 (v := 1) rfl ?_
      refine g_goto C dL_law_1032 (tgt := 1036) rfl ?_
      refine g_sub [1, 2, 3, 4, 5, 6, 0] (lv' := [(0, .ref b), (1, .ref (w_r w 0)), (2, .ref (w_r w 292)), (3, .ref (w_r w 300)), (4, .ref (w_r w 301)), (5, .int x5), (6, .int r393)]) rfl ?_
      exact R1036 x5 r393 (xs (x5 + 1).toNatClampNeg) 1 d394 h
  unfold f_W_law_988 at h
  refine g_aload_n C dL_law_988 1 rfl ?_
  refine g_aload_n C dL_law_989 0 rfl ?_
  refine g_iload C dL_law_990 5 rfl ?_
  refine g_iconst C dL_law_992 (v := 1) rfl ?_
  refine g_iadd C dL_law_993  ?_
  have hg398 := gd_1 h
  replace h := gd_2 h
  refine g_xald C hX hb hg398 dL_law_994 ?_
  refine g_aload_n C dL_law_995 0 rfl ?_
  refine g_iload C dL_law_996 5 rfl ?_
  refine g_iconst C dL_law_998 (v := 2) rfl ?_
  refine g_iadd C dL_law_999  ?_
  have hg399 := gd_1 h
  replace h := gd_2 h
  refine g_xald C hX hb hg399 dL_law_1000 ?_
  refine g_if_eq C dL_law_1001 (tgt := 1008) rfl (fun q => ?_) (fun q => ?_)
  · replace h := it_t q h
    refine g_iconst C dL_law_1008 (v := 0) rfl ?_
    exact R1009 x5 (xs (x5 + 1).toNatClampNeg) 0 d h
  · replace h := it_f q h
    refine g_iconst C dL_law_1004 (v := 1) rfl ?_
    refine g_goto C dL_law_1005 (tgt := 1009) rfl ?_
    exact R1009 x5 (xs (x5 + 1).toNatClampNeg) 1 d h
set_option maxHeartbeats 4000000 in
set_option maxRecDepth 100000 in
theorem law_c_1079 {w : wT} {p : Program} {l : Launch} {e : Env} {R : Room} {s : State} {m : MethodId} {args : Array Value} {below : List Frame} {meth : Method} {c : Code} {b L k n : Nat} {xs : Nat → Int32} {Q : State → Prop} {x5 : Int32} {d dE : Dt} {y1 : (Int32 × Dt) ⊕ (Int32 × Dt)} (C : gC w p s m args c cL_law 9 RL) (hl9 : l.stackTraces = false) (hX : va_X b L xs s s.heap) (hb : ¬ A_W w b) (hR : R = gRmX 2048 603072 7194730) (hk : k + 8 ≤ 603072) (hn : n + 60 ≤ 7194730) (hE : ∀ (d : Dt) (lv : List (Nat × Value)), gG w p l e R s m args below meth c 9 603072 7194730 Q d lv 2927 [.int 1]) (hl1 : ∀ s1 : Int32 × Dt, y1 = .inl s1 → gG w p l e R s m args below meth c 9 (k + 8) (n + 60) Q s1.2 [(0, .ref b), (1, .ref (w_r w 0)), (2, .ref (w_r w 292)), (3, .ref (w_r w 300)), (4, .ref (w_r w 301)), (5, .int s1.1)] 28 []) (hx1 : ∀ z, y1 = .inr z → z = (1, dE)) (h : f_W_law_1079 L xs x5 d = some y1) : gG w p l e R s m args below meth c 9 k n Q d [(0, .ref b), (1, .ref (w_r w 0)), (2, .ref (w_r w 292)), (3, .ref (w_r w 300)), (4, .ref (w_r w 301)), (5, .int x5)] 1079 [] := by
  unfold f_W_law_1079 at h
  refine g_aload_n C dL_law_1079 1 rfl ?_
  refine g_aload_n C dL_law_1080 0 rfl ?_
  refine g_iload C dL_law_1081 5 rfl ?_
  refine g_iconst C dL_law_1083 (v := 1) rfl ?_
  refine g_iadd C dL_law_1084  ?_
  have hg400 := gd_1 h
  replace h := gd_2 h
  refine g_xald C hX hb hg400 dL_law_1085 ?_
  refine g_aload_n C dL_law_1086 3 rfl ?_
  obtain ⟨r401, d402, hc403, h⟩ := ob2_1 h
  refine g_callSW C (k + 8) (n + 60) hk_W_207 hR rfl (m_W_sentenceCount C.2.2.2.2.2.2.1 hl9 hc403) rfl rfl rfl dL_law_1087 rfl rfl (by omega) (by omega) ?_
  refine g_istore C (lv' := [(6, .int r401), (0, .ref b), (1, .ref (w_r w 0)), (2, .ref (w_r w 292)), (3, .ref (w_r w 300)), (4, .ref (w_r w 301)), (5, .int x5)]) dL_law_1090 (by decide) rfl ?_
  refine g_aload_n C dL_law_1092 3 rfl ?_
  refine g_aload_n C dL_law_1093 1 rfl ?_
  refine g_iload C dL_law_1094 6 rfl ?_
  refine g_iconst C dL_law_1096 (v := 1) rfl ?_
  refine g_iadd C dL_law_1097  ?_
  have hg404 := gd_1 h
  replace h := gd_2 h
  refine g_xald C hX hb hg404 dL_law_1098 ?_
  obtain ⟨r405, d406, hc407, h⟩ := ob2_1 h
  refine g_callVi C 292 q_292 vk_W_209 hR rfl (m_M_sentenceCount C.2.2.2.2.2.2.1 hc407) rfl rfl rfl dL_law_1099 (bleL (by omega)) (bleL (by omega)) ?_
  refine g_istore C (lv' := [(7, .int r405), (6, .int r401), (0, .ref b), (1, .ref (w_r w 0)), (2, .ref (w_r w 292)), (3, .ref (w_r w 300)), (4, .ref (w_r w 301)), (5, .int x5)]) dL_law_1102 (by decide) rfl ?_
  refine g_aload_n C dL_law_1104 4 rfl ?_
  obtain ⟨r408, hc409, h⟩ := ob1_1 h
  refine g_callVi C 292 q_292 vk_W_162 hR rfl (m_M_thrown C.2.2.2.2.2.2.1 hc409) rfl rfl rfl dL_law_1105 (bleL (by omega)) (bleL (by omega)) ?_
  refine g_iload C dL_law_1108 1 rfl ?_
  refine g_icmp_eq C dL_law_1110 (tgt := 1115) rfl (fun q => ?_) (fun q => ?_)
  · replace h := it_t q h
    refine g_iload C dL_law_1115 1 rfl ?_
    refine g_if_ne C dL_law_1117 (tgt := 1132) rfl (fun q => ?_) (fun q => ?_)
    · replace h := it_f q h
      refine g_goto C dL_law_1132 (tgt := 2920) rfl ?_
      refine g_iinc C (lv' := [(5, .int (x5 + 5)), (7, .int r405), (6, .int r401), (0, .ref b), (1, .ref (w_r w 0)), (2, .ref (w_r w 292)), (3, .ref (w_r w 300)), (4, .ref (w_r w 301))]) (v := (x5 + 5)) dL_law_2920 7 rfl rfl (by decide) rfl ?_
      refine g_goto C dL_law_2923 (tgt := 28) rfl ?_
      refine g_sub [3, 4, 5, 6, 7, 0] (lv' := [(0, .ref b), (1, .ref (w_r w 0)), (2, .ref (w_r w 292)), (3, .ref (w_r w 300)), (4, .ref (w_r w 301)), (5, .int (x5 + 5))]) rfl ?_
      exact hl1 ((x5 + 5), d406) (Option.some.inj h).symm
    · replace h := it_t q h
      refine g_aload_n C dL_law_1120 5 rfl ?_
      refine g_iconst C dL_law_1121 (v := 0) rfl ?_
      refine g_lald C 300 q_300 (by decide) 0 (by decide) dL_law_1122 ?_
      refine g_iload C dL_law_1123 0 rfl ?_
      refine g_i2l C dL_law_1125  ?_
      refine g_lcmpeq C dL_law_1126 dL_law_1127 (tgt := 1132) rfl (fun q => ?_) (fun q => ?_)
      · replace h := it_t q h
        refine g_goto C dL_law_1132 (tgt := 2920) rfl ?_
        refine g_iinc C (lv' := [(5, .int (x5 + 5)), (7, .int r405), (6, .int r401), (0, .ref b), (1, .ref (w_r w 0)), (2, .ref (w_r w 292)), (3, .ref (w_r w 300)), (4, .ref (w_r w 301))]) (v := (x5 + 5)) dL_law_2920 7 rfl rfl (by decide) rfl ?_
        refine g_goto C dL_law_2923 (tgt := 28) rfl ?_
        refine g_sub [3, 4, 5, 6, 7, 0] (lv' := [(0, .ref b), (1, .ref (w_r w 0)), (2, .ref (w_r w 292)), (3, .ref (w_r w 300)), (4, .ref (w_r w 301)), (5, .int (x5 + 5))]) rfl ?_
        exact hl1 ((x5 + 5), d406) (Option.some.inj h).symm
      · replace h := it_f q h
        replace h := ir_2 h hx1
        refine g_iconst C dL_law_1130 (v := 0) rfl ?_
        exact (law_no h).elim
  · replace h := it_f q h
    replace h := ir_2 h hx1
    refine g_iconst C dL_law_1113 (v := 0) rfl ?_
    exact (law_no h).elim
set_option maxHeartbeats 4000000 in
set_option maxRecDepth 100000 in
theorem law_c_1135 {w : wT} {p : Program} {l : Launch} {e : Env} {R : Room} {s : State} {m : MethodId} {args : Array Value} {below : List Frame} {meth : Method} {c : Code} {b L k n : Nat} {xs : Nat → Int32} {Q : State → Prop} {x5 : Int32} {d dE : Dt} {y1 : (Int32 × Dt) ⊕ (Int32 × Dt)} (C : gC w p s m args c cL_law 9 RL) (hl9 : l.stackTraces = false) (hX : va_X b L xs s s.heap) (hb : ¬ A_W w b) (hR : R = gRmX 2048 603072 7194730) (hk : k + 8 ≤ 603072) (hn : n + 60 ≤ 7194730) (hE : ∀ (d : Dt) (lv : List (Nat × Value)), gG w p l e R s m args below meth c 9 603072 7194730 Q d lv 2927 [.int 1]) (hl1 : ∀ s1 : Int32 × Dt, y1 = .inl s1 → gG w p l e R s m args below meth c 9 (k + 8) (n + 60) Q s1.2 [(0, .ref b), (1, .ref (w_r w 0)), (2, .ref (w_r w 292)), (3, .ref (w_r w 300)), (4, .ref (w_r w 301)), (5, .int s1.1)] 28 []) (hx1 : ∀ z, y1 = .inr z → z = (1, dE)) (h : f_W_law_1135 L xs x5 d = some y1) : gG w p l e R s m args below meth c 9 k n Q d [(0, .ref b), (1, .ref (w_r w 0)), (2, .ref (w_r w 292)), (3, .ref (w_r w 300)), (4, .ref (w_r w 301)), (5, .int x5)] 1135 [] := by
  unfold f_W_law_1135 at h
  refine g_aload_n C dL_law_1135 1 rfl ?_
  refine g_aload_n C dL_law_1136 0 rfl ?_
  refine g_iload C dL_law_1137 5 rfl ?_
  refine g_iconst C dL_law_1139 (v := 1) rfl ?_
  refine g_iadd C dL_law_1140  ?_
  have hg410 := gd_1 h
  replace h := gd_2 h
  refine g_xald C hX hb hg410 dL_law_1141 ?_
  refine g_aload_n C dL_law_1142 3 rfl ?_
  obtain ⟨r411, d412, hc413, h⟩ := ob2_1 h
  refine g_callSW C (k + 8) (n + 60) hk_W_210 hR rfl (m_W_daysLeft C.2.2.2.2.2.2.1 hl9 hc413) rfl rfl rfl dL_law_1143 rfl rfl (by omega) (by omega) ?_
  refine g_istore C (lv' := [(6, .int r411), (0, .ref b), (1, .ref (w_r w 0)), (2, .ref (w_r w 292)), (3, .ref (w_r w 300)), (4, .ref (w_r w 301)), (5, .int x5)]) dL_law_1146 (by decide) rfl ?_
  refine g_aload_n C dL_law_1148 3 rfl ?_
  refine g_aload_n C dL_law_1149 1 rfl ?_
  refine g_iload C dL_law_1150 6 rfl ?_
  refine g_iconst C dL_law_1152 (v := 1) rfl ?_
  refine g_iadd C dL_law_1153  ?_
  have hg414 := gd_1 h
  replace h := gd_2 h
  refine g_xald C hX hb hg414 dL_law_1154 ?_
  obtain ⟨r415, d416, hc417, h⟩ := ob2_1 h
  refine g_callVi C 292 q_292 vk_W_212 hR rfl (m_M_daysLeft C.2.2.2.2.2.2.1 hc417) rfl rfl rfl dL_law_1155 (bleL (by omega)) (bleL (by omega)) ?_
  refine g_istore C (lv' := [(7, .int r415), (6, .int r411), (0, .ref b), (1, .ref (w_r w 0)), (2, .ref (w_r w 292)), (3, .ref (w_r w 300)), (4, .ref (w_r w 301)), (5, .int x5)]) dL_law_1158 (by decide) rfl ?_
  refine g_aload_n C dL_law_1160 4 rfl ?_
  obtain ⟨r418, hc419, h⟩ := ob1_1 h
  refine g_callVi C 292 q_292 vk_W_162 hR rfl (m_M_thrown C.2.2.2.2.2.2.1 hc419) rfl rfl rfl dL_law_1161 (bleL (by omega)) (bleL (by omega)) ?_
  refine g_iload C dL_law_1164 1 rfl ?_
  refine g_icmp_eq C dL_law_1166 (tgt := 1171) rfl (fun q => ?_) (fun q => ?_)
  · replace h := it_t q h
    refine g_iload C dL_law_1171 1 rfl ?_
    refine g_if_ne C dL_law_1173 (tgt := 1188) rfl (fun q => ?_) (fun q => ?_)
    · replace h := it_f q h
      refine g_goto C dL_law_1188 (tgt := 2920) rfl ?_
      refine g_iinc C (lv' := [(5, .int (x5 + 5)), (7, .int r415), (6, .int r411), (0, .ref b), (1, .ref (w_r w 0)), (2, .ref (w_r w 292)), (3, .ref (w_r w 300)), (4, .ref (w_r w 301))]) (v := (x5 + 5)) dL_law_2920 7 rfl rfl (by decide) rfl ?_
      refine g_goto C dL_law_2923 (tgt := 28) rfl ?_
      refine g_sub [3, 4, 5, 6, 7, 0] (lv' := [(0, .ref b), (1, .ref (w_r w 0)), (2, .ref (w_r w 292)), (3, .ref (w_r w 300)), (4, .ref (w_r w 301)), (5, .int (x5 + 5))]) rfl ?_
      exact hl1 ((x5 + 5), d416) (Option.some.inj h).symm
    · replace h := it_t q h
      refine g_aload_n C dL_law_1176 5 rfl ?_
      refine g_iconst C dL_law_1177 (v := 0) rfl ?_
      refine g_lald C 300 q_300 (by decide) 0 (by decide) dL_law_1178 ?_
      refine g_iload C dL_law_1179 0 rfl ?_
      refine g_i2l C dL_law_1181  ?_
      refine g_lcmpeq C dL_law_1182 dL_law_1183 (tgt := 1188) rfl (fun q => ?_) (fun q => ?_)
      · replace h := it_t q h
        refine g_goto C dL_law_1188 (tgt := 2920) rfl ?_
        refine g_iinc C (lv' := [(5, .int (x5 + 5)), (7, .int r415), (6, .int r411), (0, .ref b), (1, .ref (w_r w 0)), (2, .ref (w_r w 292)), (3, .ref (w_r w 300)), (4, .ref (w_r w 301))]) (v := (x5 + 5)) dL_law_2920 7 rfl rfl (by decide) rfl ?_
        refine g_goto C dL_law_2923 (tgt := 28) rfl ?_
        refine g_sub [3, 4, 5, 6, 7, 0] (lv' := [(0, .ref b), (1, .ref (w_r w 0)), (2, .ref (w_r w 292)), (3, .ref (w_r w 300)), (4, .ref (w_r w 301)), (5, .int (x5 + 5))]) rfl ?_
        exact hl1 ((x5 + 5), d416) (Option.some.inj h).symm
      · replace h := it_f q h
        replace h := ir_2 h hx1
        refine g_iconst C dL_law_1186 (v := 0) rfl ?_
        exact (law_no h).elim
  · replace h := it_f q h
    replace h := ir_2 h hx1
    refine g_iconst C dL_law_1169 (v := 0) rfl ?_
    exact (law_no h).elim
set_option maxHeartbeats 4000000 in
set_option maxRecDepth 100000 in
theorem law_c_1191 {w : wT} {p : Program} {l : Launch} {e : Env} {R : Room} {s : State} {m : MethodId} {args : Array Value} {below : List Frame} {meth : Method} {c : Code} {b L k n : Nat} {xs : Nat → Int32} {Q : State → Prop} {x5 : Int32} {d dE : Dt} {y1 : (Int32 × Dt) ⊕ (Int32 × Dt)} (C : gC w p s m args c cL_law 9 RL) (hl9 : l.stackTraces = false) (hX : va_X b L xs s s.heap) (hb : ¬ A_W w b) (hR : R = gRmX 2048 603072 7194730) (hk : k + 8 ≤ 603072) (hn : n + 60 ≤ 7194730) (hE : ∀ (d : Dt) (lv : List (Nat × Value)), gG w p l e R s m args below meth c 9 603072 7194730 Q d lv 2927 [.int 1]) (hl1 : ∀ s1 : Int32 × Dt, y1 = .inl s1 → gG w p l e R s m args below meth c 9 (k + 8) (n + 60) Q s1.2 [(0, .ref b), (1, .ref (w_r w 0)), (2, .ref (w_r w 292)), (3, .ref (w_r w 300)), (4, .ref (w_r w 301)), (5, .int s1.1)] 28 []) (hx1 : ∀ z, y1 = .inr z → z = (1, dE)) (h : f_W_law_1191 L xs x5 d = some y1) : gG w p l e R s m args below meth c 9 k n Q d [(0, .ref b), (1, .ref (w_r w 0)), (2, .ref (w_r w 292)), (3, .ref (w_r w 300)), (4, .ref (w_r w 301)), (5, .int x5)] 1191 [] := by
  unfold f_W_law_1191 at h
  refine g_aload_n C dL_law_1191 1 rfl ?_
  refine g_aload_n C dL_law_1192 0 rfl ?_
  refine g_iload C dL_law_1193 5 rfl ?_
  refine g_iconst C dL_law_1195 (v := 1) rfl ?_
  refine g_iadd C dL_law_1196  ?_
  have hg420 := gd_1 h
  replace h := gd_2 h
  refine g_xald C hX hb hg420 dL_law_1197 ?_
  refine g_aload_n C dL_law_1198 3 rfl ?_
  obtain ⟨r421, d422, hc423, h⟩ := ob2_1 h
  refine g_callSW C (k + 8) (n + 60) hk_W_213 hR rfl (m_W_daysUntilFree C.2.2.2.2.2.2.1 hl9 hc423) rfl rfl rfl dL_law_1199 rfl rfl (by omega) (by omega) ?_
  refine g_istore C (lv' := [(6, .int r421), (0, .ref b), (1, .ref (w_r w 0)), (2, .ref (w_r w 292)), (3, .ref (w_r w 300)), (4, .ref (w_r w 301)), (5, .int x5)]) dL_law_1202 (by decide) rfl ?_
  refine g_aload_n C dL_law_1204 3 rfl ?_
  refine g_aload_n C dL_law_1205 1 rfl ?_
  refine g_iload C dL_law_1206 6 rfl ?_
  refine g_iconst C dL_law_1208 (v := 1) rfl ?_
  refine g_iadd C dL_law_1209  ?_
  have hg424 := gd_1 h
  replace h := gd_2 h
  refine g_xald C hX hb hg424 dL_law_1210 ?_
  obtain ⟨r425, d426, hc427, h⟩ := ob2_1 h
  refine g_callVi C 292 q_292 vk_W_215 hR rfl (m_M_daysUntilFree C.2.2.2.2.2.2.1 hc427) rfl rfl rfl dL_law_1211 (bleL (by omega)) (bleL (by omega)) ?_
  refine g_istore C (lv' := [(7, .int r425), (6, .int r421), (0, .ref b), (1, .ref (w_r w 0)), (2, .ref (w_r w 292)), (3, .ref (w_r w 300)), (4, .ref (w_r w 301)), (5, .int x5)]) dL_law_1214 (by decide) rfl ?_
  refine g_aload_n C dL_law_1216 4 rfl ?_
  obtain ⟨r428, hc429, h⟩ := ob1_1 h
  refine g_callVi C 292 q_292 vk_W_162 hR rfl (m_M_thrown C.2.2.2.2.2.2.1 hc429) rfl rfl rfl dL_law_1217 (bleL (by omega)) (bleL (by omega)) ?_
  refine g_iload C dL_law_1220 1 rfl ?_
  refine g_icmp_eq C dL_law_1222 (tgt := 1227) rfl (fun q => ?_) (fun q => ?_)
  · replace h := it_t q h
    refine g_iload C dL_law_1227 1 rfl ?_
    refine g_if_ne C dL_law_1229 (tgt := 1244) rfl (fun q => ?_) (fun q => ?_)
    · replace h := it_f q h
      refine g_goto C dL_law_1244 (tgt := 2920) rfl ?_
      refine g_iinc C (lv' := [(5, .int (x5 + 5)), (7, .int r425), (6, .int r421), (0, .ref b), (1, .ref (w_r w 0)), (2, .ref (w_r w 292)), (3, .ref (w_r w 300)), (4, .ref (w_r w 301))]) (v := (x5 + 5)) dL_law_2920 7 rfl rfl (by decide) rfl ?_
      refine g_goto C dL_law_2923 (tgt := 28) rfl ?_
      refine g_sub [3, 4, 5, 6, 7, 0] (lv' := [(0, .ref b), (1, .ref (w_r w 0)), (2, .ref (w_r w 292)), (3, .ref (w_r w 300)), (4, .ref (w_r w 301)), (5, .int (x5 + 5))]) rfl ?_
      exact hl1 ((x5 + 5), d426) (Option.some.inj h).symm
    · replace h := it_t q h
      refine g_aload_n C dL_law_1232 5 rfl ?_
      refine g_iconst C dL_law_1233 (v := 0) rfl ?_
      refine g_lald C 300 q_300 (by decide) 0 (by decide) dL_law_1234 ?_
      refine g_iload C dL_law_1235 0 rfl ?_
      refine g_i2l C dL_law_1237  ?_
      refine g_lcmpeq C dL_law_1238 dL_law_1239 (tgt := 1244) rfl (fun q => ?_) (fun q => ?_)
      · replace h := it_t q h
        refine g_goto C dL_law_1244 (tgt := 2920) rfl ?_
        refine g_iinc C (lv' := [(5, .int (x5 + 5)), (7, .int r425), (6, .int r421), (0, .ref b), (1, .ref (w_r w 0)), (2, .ref (w_r w 292)), (3, .ref (w_r w 300)), (4, .ref (w_r w 301))]) (v := (x5 + 5)) dL_law_2920 7 rfl rfl (by decide) rfl ?_
        refine g_goto C dL_law_2923 (tgt := 28) rfl ?_
        refine g_sub [3, 4, 5, 6, 7, 0] (lv' := [(0, .ref b), (1, .ref (w_r w 0)), (2, .ref (w_r w 292)), (3, .ref (w_r w 300)), (4, .ref (w_r w 301)), (5, .int (x5 + 5))]) rfl ?_
        exact hl1 ((x5 + 5), d426) (Option.some.inj h).symm
      · replace h := it_f q h
        replace h := ir_2 h hx1
        refine g_iconst C dL_law_1242 (v := 0) rfl ?_
        exact (law_no h).elim
  · replace h := it_f q h
    replace h := ir_2 h hx1
    refine g_iconst C dL_law_1225 (v := 0) rfl ?_
    exact (law_no h).elim
set_option maxHeartbeats 4000000 in
set_option maxRecDepth 100000 in
theorem law_c_1247 {w : wT} {p : Program} {l : Launch} {e : Env} {R : Room} {s : State} {m : MethodId} {args : Array Value} {below : List Frame} {meth : Method} {c : Code} {b L k n : Nat} {xs : Nat → Int32} {Q : State → Prop} {x5 : Int32} {d dE : Dt} {y1 : (Int32 × Dt) ⊕ (Int32 × Dt)} (C : gC w p s m args c cL_law 9 RL) (hl9 : l.stackTraces = false) (hX : va_X b L xs s s.heap) (hb : ¬ A_W w b) (hR : R = gRmX 2048 603072 7194730) (hk : k + 8 ≤ 603072) (hn : n + 60 ≤ 7194730) (hE : ∀ (d : Dt) (lv : List (Nat × Value)), gG w p l e R s m args below meth c 9 603072 7194730 Q d lv 2927 [.int 1]) (hl1 : ∀ s1 : Int32 × Dt, y1 = .inl s1 → gG w p l e R s m args below meth c 9 (k + 8) (n + 60) Q s1.2 [(0, .ref b), (1, .ref (w_r w 0)), (2, .ref (w_r w 292)), (3, .ref (w_r w 300)), (4, .ref (w_r w 301)), (5, .int s1.1)] 28 []) (hx1 : ∀ z, y1 = .inr z → z = (1, dE)) (h : f_W_law_1247 L xs x5 d = some y1) : gG w p l e R s m args below meth c 9 k n Q d [(0, .ref b), (1, .ref (w_r w 0)), (2, .ref (w_r w 292)), (3, .ref (w_r w 300)), (4, .ref (w_r w 301)), (5, .int x5)] 1247 [] := by
  unfold f_W_law_1247 at h
  refine g_aload_n C dL_law_1247 1 rfl ?_
  obtain ⟨r430, hc431, h⟩ := ob1_1 h
  refine g_callVi C 0 q_0 vk_W_216 hR rfl (m_C_briefCount C.2.2.2.2.2.2.1 hc431) rfl rfl rfl dL_law_1248 (bleL (by omega)) (bleL (by omega)) ?_
  refine g_aload_n C dL_law_1251 2 rfl ?_
  obtain ⟨r432, d433, hc434, h⟩ := ob2_1 h
  refine g_callVi C 292 q_292 vk_W_219 hR rfl (m_M_briefCount C.2.2.2.2.2.2.1 hc434) rfl rfl rfl dL_law_1252 (bleL (by omega)) (bleL (by omega)) ?_
  refine g_icmp_eq C dL_law_1255 (tgt := 2920) rfl (fun q => ?_) (fun q => ?_)
  · replace h := it_t q h
    refine g_iinc C (lv' := [(5, .int (x5 + 5)), (0, .ref b), (1, .ref (w_r w 0)), (2, .ref (w_r w 292)), (3, .ref (w_r w 300)), (4, .ref (w_r w 301))]) (v := (x5 + 5)) dL_law_2920 5 rfl rfl (by decide) rfl ?_
    refine g_goto C dL_law_2923 (tgt := 28) rfl ?_
    refine g_sub [1, 2, 3, 4, 5, 0] (lv' := [(0, .ref b), (1, .ref (w_r w 0)), (2, .ref (w_r w 292)), (3, .ref (w_r w 300)), (4, .ref (w_r w 301)), (5, .int (x5 + 5))]) rfl ?_
    refine g_widP (k + 8) (n + 60) (by omega) (by omega) ?_
    exact hl1 ((x5 + 5), d433) (Option.some.inj h).symm
  · replace h := it_f q h
    replace h := ir_2 h hx1
    refine g_iconst C dL_law_1258 (v := 0) rfl ?_
    exact (law_no h).elim
set_option maxHeartbeats 4000000 in
set_option maxRecDepth 100000 in
theorem law_c_1260 {w : wT} {p : Program} {l : Launch} {e : Env} {R : Room} {s : State} {m : MethodId} {args : Array Value} {below : List Frame} {meth : Method} {c : Code} {b L k n : Nat} {xs : Nat → Int32} {Q : State → Prop} {x5 : Int32} {d dE : Dt} {y1 : (Int32 × Dt) ⊕ (Int32 × Dt)} (C : gC w p s m args c cL_law 9 RL) (hl9 : l.stackTraces = false) (hX : va_X b L xs s s.heap) (hb : ¬ A_W w b) (hR : R = gRmX 2048 603072 7194730) (hk : k + 8 ≤ 603072) (hn : n + 60 ≤ 7194730) (hE : ∀ (d : Dt) (lv : List (Nat × Value)), gG w p l e R s m args below meth c 9 603072 7194730 Q d lv 2927 [.int 1]) (hl1 : ∀ s1 : Int32 × Dt, y1 = .inl s1 → gG w p l e R s m args below meth c 9 (k + 8) (n + 60) Q s1.2 [(0, .ref b), (1, .ref (w_r w 0)), (2, .ref (w_r w 292)), (3, .ref (w_r w 300)), (4, .ref (w_r w 301)), (5, .int s1.1)] 28 []) (hx1 : ∀ z, y1 = .inr z → z = (1, dE)) (h : f_W_law_1260 L xs x5 d = some y1) : gG w p l e R s m args below meth c 9 k n Q d [(0, .ref b), (1, .ref (w_r w 0)), (2, .ref (w_r w 292)), (3, .ref (w_r w 300)), (4, .ref (w_r w 301)), (5, .int x5)] 1260 [] := by
  unfold f_W_law_1260 at h
  refine g_aload_n C dL_law_1260 1 rfl ?_
  refine g_aload_n C dL_law_1261 0 rfl ?_
  refine g_iload C dL_law_1262 5 rfl ?_
  refine g_iconst C dL_law_1264 (v := 1) rfl ?_
  refine g_iadd C dL_law_1265  ?_
  have hg435 := gd_1 h
  replace h := gd_2 h
  refine g_xald C hX hb hg435 dL_law_1266 ?_
  refine g_aload_n C dL_law_1267 3 rfl ?_
  obtain ⟨r436, d437, hc438, h⟩ := ob2_1 h
  refine g_callSW C (k + 8) (n + 60) hk_W_220 hR rfl (m_W_briefAt C.2.2.2.2.2.2.1 hl9 hc438) rfl rfl rfl dL_law_1268 rfl rfl (by omega) (by omega) ?_
  refine g_istore C (lv' := [(6, .int r436), (0, .ref b), (1, .ref (w_r w 0)), (2, .ref (w_r w 292)), (3, .ref (w_r w 300)), (4, .ref (w_r w 301)), (5, .int x5)]) dL_law_1271 (by decide) rfl ?_
  refine g_aload_n C dL_law_1273 3 rfl ?_
  refine g_aload_n C dL_law_1274 1 rfl ?_
  refine g_iload C dL_law_1275 6 rfl ?_
  refine g_iconst C dL_law_1277 (v := 1) rfl ?_
  refine g_iadd C dL_law_1278  ?_
  have hg439 := gd_1 h
  replace h := gd_2 h
  refine g_xald C hX hb hg439 dL_law_1279 ?_
  obtain ⟨r440, d441, hc442, h⟩ := ob2_1 h
  refine g_callVi C 292 q_292 vk_W_222 hR rfl (m_M_briefAt C.2.2.2.2.2.2.1 hc442) rfl rfl rfl dL_law_1280 (bleL (by omega)) (bleL (by omega)) ?_
  refine g_istore C (lv' := [(7, .int r440), (6, .int r436), (0, .ref b), (1, .ref (w_r w 0)), (2, .ref (w_r w 292)), (3, .ref (w_r w 300)), (4, .ref (w_r w 301)), (5, .int x5)]) dL_law_1283 (by decide) rfl ?_
  refine g_aload_n C dL_law_1285 4 rfl ?_
  obtain ⟨r443, hc444, h⟩ := ob1_1 h
  refine g_callVi C 292 q_292 vk_W_162 hR rfl (m_M_thrown C.2.2.2.2.2.2.1 hc444) rfl rfl rfl dL_law_1286 (bleL (by omega)) (bleL (by omega)) ?_
  refine g_iload C dL_law_1289 1 rfl ?_
  refine g_icmp_eq C dL_law_1291 (tgt := 1296) rfl (fun q => ?_) (fun q => ?_)
  · replace h := it_t q h
    refine g_iload C dL_law_1296 1 rfl ?_
    refine g_if_ne C dL_law_1298 (tgt := 1313) rfl (fun q => ?_) (fun q => ?_)
    · replace h := it_f q h
      refine g_goto C dL_law_1313 (tgt := 2920) rfl ?_
      refine g_iinc C (lv' := [(5, .int (x5 + 5)), (7, .int r440), (6, .int r436), (0, .ref b), (1, .ref (w_r w 0)), (2, .ref (w_r w 292)), (3, .ref (w_r w 300)), (4, .ref (w_r w 301))]) (v := (x5 + 5)) dL_law_2920 7 rfl rfl (by decide) rfl ?_
      refine g_goto C dL_law_2923 (tgt := 28) rfl ?_
      refine g_sub [3, 4, 5, 6, 7, 0] (lv' := [(0, .ref b), (1, .ref (w_r w 0)), (2, .ref (w_r w 292)), (3, .ref (w_r w 300)), (4, .ref (w_r w 301)), (5, .int (x5 + 5))]) rfl ?_
      exact hl1 ((x5 + 5), d441) (Option.some.inj h).symm
    · replace h := it_t q h
      refine g_aload_n C dL_law_1301 5 rfl ?_
      refine g_iconst C dL_law_1302 (v := 0) rfl ?_
      refine g_lald C 300 q_300 (by decide) 0 (by decide) dL_law_1303 ?_
      refine g_iload C dL_law_1304 0 rfl ?_
      refine g_i2l C dL_law_1306  ?_
      refine g_lcmpeq C dL_law_1307 dL_law_1308 (tgt := 1313) rfl (fun q => ?_) (fun q => ?_)
      · replace h := it_t q h
        refine g_goto C dL_law_1313 (tgt := 2920) rfl ?_
        refine g_iinc C (lv' := [(5, .int (x5 + 5)), (7, .int r440), (6, .int r436), (0, .ref b), (1, .ref (w_r w 0)), (2, .ref (w_r w 292)), (3, .ref (w_r w 300)), (4, .ref (w_r w 301))]) (v := (x5 + 5)) dL_law_2920 7 rfl rfl (by decide) rfl ?_
        refine g_goto C dL_law_2923 (tgt := 28) rfl ?_
        refine g_sub [3, 4, 5, 6, 7, 0] (lv' := [(0, .ref b), (1, .ref (w_r w 0)), (2, .ref (w_r w 292)), (3, .ref (w_r w 300)), (4, .ref (w_r w 301)), (5, .int (x5 + 5))]) rfl ?_
        exact hl1 ((x5 + 5), d441) (Option.some.inj h).symm
      · replace h := it_f q h
        replace h := ir_2 h hx1
        refine g_iconst C dL_law_1311 (v := 0) rfl ?_
        exact (law_no h).elim
  · replace h := it_f q h
    replace h := ir_2 h hx1
    refine g_iconst C dL_law_1294 (v := 0) rfl ?_
    exact (law_no h).elim
set_option maxHeartbeats 4000000 in
set_option maxRecDepth 100000 in
theorem law_c_1316 {w : wT} {p : Program} {l : Launch} {e : Env} {R : Room} {s : State} {m : MethodId} {args : Array Value} {below : List Frame} {meth : Method} {c : Code} {b L k n : Nat} {xs : Nat → Int32} {Q : State → Prop} {x5 : Int32} {d dE : Dt} {y1 : (Int32 × Dt) ⊕ (Int32 × Dt)} (C : gC w p s m args c cL_law 9 RL) (hl9 : l.stackTraces = false) (hX : va_X b L xs s s.heap) (hb : ¬ A_W w b) (hR : R = gRmX 2048 603072 7194730) (hk : k + 8 ≤ 603072) (hn : n + 60 ≤ 7194730) (hE : ∀ (d : Dt) (lv : List (Nat × Value)), gG w p l e R s m args below meth c 9 603072 7194730 Q d lv 2927 [.int 1]) (hl1 : ∀ s1 : Int32 × Dt, y1 = .inl s1 → gG w p l e R s m args below meth c 9 (k + 8) (n + 60) Q s1.2 [(0, .ref b), (1, .ref (w_r w 0)), (2, .ref (w_r w 292)), (3, .ref (w_r w 300)), (4, .ref (w_r w 301)), (5, .int s1.1)] 28 []) (hx1 : ∀ z, y1 = .inr z → z = (1, dE)) (h : f_W_law_1316 L xs x5 d = some y1) : gG w p l e R s m args below meth c 9 k n Q d [(0, .ref b), (1, .ref (w_r w 0)), (2, .ref (w_r w 292)), (3, .ref (w_r w 300)), (4, .ref (w_r w 301)), (5, .int x5)] 1316 [] := by
  unfold f_W_law_1316 at h
  refine g_aload_n C dL_law_1316 1 rfl ?_
  refine g_aload_n C dL_law_1317 0 rfl ?_
  refine g_iload C dL_law_1318 5 rfl ?_
  refine g_iconst C dL_law_1320 (v := 1) rfl ?_
  refine g_iadd C dL_law_1321  ?_
  have hg445 := gd_1 h
  replace h := gd_2 h
  refine g_xald C hX hb hg445 dL_law_1322 ?_
  refine g_aload_n C dL_law_1323 3 rfl ?_
  obtain ⟨r446, d447, hc448, h⟩ := ob2_1 h
  refine g_callSW C (k + 8) (n + 60) hk_W_223 hR rfl (m_W_lanternOf C.2.2.2.2.2.2.1 hl9 hc448) rfl rfl rfl dL_law_1324 rfl rfl (by omega) (by omega) ?_
  refine g_istore C (lv' := [(6, .int r446), (0, .ref b), (1, .ref (w_r w 0)), (2, .ref (w_r w 292)), (3, .ref (w_r w 300)), (4, .ref (w_r w 301)), (5, .int x5)]) dL_law_1327 (by decide) rfl ?_
  refine g_aload_n C dL_law_1329 3 rfl ?_
  refine g_aload_n C dL_law_1330 1 rfl ?_
  refine g_iload C dL_law_1331 6 rfl ?_
  refine g_iconst C dL_law_1333 (v := 1) rfl ?_
  refine g_iadd C dL_law_1334  ?_
  have hg449 := gd_1 h
  replace h := gd_2 h
  refine g_xald C hX hb hg449 dL_law_1335 ?_
  obtain ⟨r450, d451, hc452, h⟩ := ob2_1 h
  refine g_callVi C 292 q_292 vk_W_225 hR rfl (m_M_lanternOf C.2.2.2.2.2.2.1 hc452) rfl rfl rfl dL_law_1336 (bleL (by omega)) (bleL (by omega)) ?_
  refine g_istore C (lv' := [(7, .int r450), (6, .int r446), (0, .ref b), (1, .ref (w_r w 0)), (2, .ref (w_r w 292)), (3, .ref (w_r w 300)), (4, .ref (w_r w 301)), (5, .int x5)]) dL_law_1339 (by decide) rfl ?_
  refine g_aload_n C dL_law_1341 4 rfl ?_
  obtain ⟨r453, hc454, h⟩ := ob1_1 h
  refine g_callVi C 292 q_292 vk_W_162 hR rfl (m_M_thrown C.2.2.2.2.2.2.1 hc454) rfl rfl rfl dL_law_1342 (bleL (by omega)) (bleL (by omega)) ?_
  refine g_iload C dL_law_1345 1 rfl ?_
  refine g_icmp_eq C dL_law_1347 (tgt := 1352) rfl (fun q => ?_) (fun q => ?_)
  · replace h := it_t q h
    refine g_iload C dL_law_1352 1 rfl ?_
    refine g_if_ne C dL_law_1354 (tgt := 1369) rfl (fun q => ?_) (fun q => ?_)
    · replace h := it_f q h
      refine g_goto C dL_law_1369 (tgt := 2920) rfl ?_
      refine g_iinc C (lv' := [(5, .int (x5 + 5)), (7, .int r450), (6, .int r446), (0, .ref b), (1, .ref (w_r w 0)), (2, .ref (w_r w 292)), (3, .ref (w_r w 300)), (4, .ref (w_r w 301))]) (v := (x5 + 5)) dL_law_2920 7 rfl rfl (by decide) rfl ?_
      refine g_goto C dL_law_2923 (tgt := 28) rfl ?_
      refine g_sub [3, 4, 5, 6, 7, 0] (lv' := [(0, .ref b), (1, .ref (w_r w 0)), (2, .ref (w_r w 292)), (3, .ref (w_r w 300)), (4, .ref (w_r w 301)), (5, .int (x5 + 5))]) rfl ?_
      exact hl1 ((x5 + 5), d451) (Option.some.inj h).symm
    · replace h := it_t q h
      refine g_aload_n C dL_law_1357 5 rfl ?_
      refine g_iconst C dL_law_1358 (v := 0) rfl ?_
      refine g_lald C 300 q_300 (by decide) 0 (by decide) dL_law_1359 ?_
      refine g_iload C dL_law_1360 0 rfl ?_
      refine g_i2l C dL_law_1362  ?_
      refine g_lcmpeq C dL_law_1363 dL_law_1364 (tgt := 1369) rfl (fun q => ?_) (fun q => ?_)
      · replace h := it_t q h
        refine g_goto C dL_law_1369 (tgt := 2920) rfl ?_
        refine g_iinc C (lv' := [(5, .int (x5 + 5)), (7, .int r450), (6, .int r446), (0, .ref b), (1, .ref (w_r w 0)), (2, .ref (w_r w 292)), (3, .ref (w_r w 300)), (4, .ref (w_r w 301))]) (v := (x5 + 5)) dL_law_2920 7 rfl rfl (by decide) rfl ?_
        refine g_goto C dL_law_2923 (tgt := 28) rfl ?_
        refine g_sub [3, 4, 5, 6, 7, 0] (lv' := [(0, .ref b), (1, .ref (w_r w 0)), (2, .ref (w_r w 292)), (3, .ref (w_r w 300)), (4, .ref (w_r w 301)), (5, .int (x5 + 5))]) rfl ?_
        exact hl1 ((x5 + 5), d451) (Option.some.inj h).symm
      · replace h := it_f q h
        replace h := ir_2 h hx1
        refine g_iconst C dL_law_1367 (v := 0) rfl ?_
        exact (law_no h).elim
  · replace h := it_f q h
    replace h := ir_2 h hx1
    refine g_iconst C dL_law_1350 (v := 0) rfl ?_
    exact (law_no h).elim
set_option maxHeartbeats 4000000 in
set_option maxRecDepth 100000 in
theorem law_c_1372 {w : wT} {p : Program} {l : Launch} {e : Env} {R : Room} {s : State} {m : MethodId} {args : Array Value} {below : List Frame} {meth : Method} {c : Code} {b L k n : Nat} {xs : Nat → Int32} {Q : State → Prop} {x5 : Int32} {d dE : Dt} {y1 : (Int32 × Dt) ⊕ (Int32 × Dt)} (C : gC w p s m args c cL_law 9 RL) (hl9 : l.stackTraces = false) (hX : va_X b L xs s s.heap) (hb : ¬ A_W w b) (hR : R = gRmX 2048 603072 7194730) (hk : k + 8 ≤ 603072) (hn : n + 60 ≤ 7194730) (hE : ∀ (d : Dt) (lv : List (Nat × Value)), gG w p l e R s m args below meth c 9 603072 7194730 Q d lv 2927 [.int 1]) (hl1 : ∀ s1 : Int32 × Dt, y1 = .inl s1 → gG w p l e R s m args below meth c 9 (k + 8) (n + 60) Q s1.2 [(0, .ref b), (1, .ref (w_r w 0)), (2, .ref (w_r w 292)), (3, .ref (w_r w 300)), (4, .ref (w_r w 301)), (5, .int s1.1)] 28 []) (hx1 : ∀ z, y1 = .inr z → z = (1, dE)) (h : f_W_law_1372 L xs x5 d = some y1) : gG w p l e R s m args below meth c 9 k n Q d [(0, .ref b), (1, .ref (w_r w 0)), (2, .ref (w_r w 292)), (3, .ref (w_r w 300)), (4, .ref (w_r w 301)), (5, .int x5)] 1372 [] := by
  unfold f_W_law_1372 at h
  refine g_aload_n C dL_law_1372 1 rfl ?_
  refine g_aload_n C dL_law_1373 0 rfl ?_
  refine g_iload C dL_law_1374 5 rfl ?_
  refine g_iconst C dL_law_1376 (v := 1) rfl ?_
  refine g_iadd C dL_law_1377  ?_
  have hg455 := gd_1 h
  replace h := gd_2 h
  refine g_xald C hX hb hg455 dL_law_1378 ?_
  refine g_aload_n C dL_law_1379 3 rfl ?_
  obtain ⟨r456, d457, hc458, h⟩ := ob2_1 h
  refine g_callSW C (k + 8) (n + 60) hk_W_226 hR rfl (m_W_lastDay C.2.2.2.2.2.2.1 hl9 hc458) rfl rfl rfl dL_law_1380 rfl rfl (by omega) (by omega) ?_
  refine g_istore C (lv' := [(6, .int r456), (0, .ref b), (1, .ref (w_r w 0)), (2, .ref (w_r w 292)), (3, .ref (w_r w 300)), (4, .ref (w_r w 301)), (5, .int x5)]) dL_law_1383 (by decide) rfl ?_
  refine g_aload_n C dL_law_1385 3 rfl ?_
  refine g_aload_n C dL_law_1386 1 rfl ?_
  refine g_iload C dL_law_1387 6 rfl ?_
  refine g_iconst C dL_law_1389 (v := 1) rfl ?_
  refine g_iadd C dL_law_1390  ?_
  have hg459 := gd_1 h
  replace h := gd_2 h
  refine g_xald C hX hb hg459 dL_law_1391 ?_
  obtain ⟨r460, d461, hc462, h⟩ := ob2_1 h
  refine g_callVi C 292 q_292 vk_W_228 hR rfl (m_M_lastDay C.2.2.2.2.2.2.1 hc462) rfl rfl rfl dL_law_1392 (bleL (by omega)) (bleL (by omega)) ?_
  refine g_istore C (lv' := [(7, .int r460), (6, .int r456), (0, .ref b), (1, .ref (w_r w 0)), (2, .ref (w_r w 292)), (3, .ref (w_r w 300)), (4, .ref (w_r w 301)), (5, .int x5)]) dL_law_1395 (by decide) rfl ?_
  refine g_aload_n C dL_law_1397 4 rfl ?_
  obtain ⟨r463, hc464, h⟩ := ob1_1 h
  refine g_callVi C 292 q_292 vk_W_162 hR rfl (m_M_thrown C.2.2.2.2.2.2.1 hc464) rfl rfl rfl dL_law_1398 (bleL (by omega)) (bleL (by omega)) ?_
  refine g_iload C dL_law_1401 1 rfl ?_
  refine g_icmp_eq C dL_law_1403 (tgt := 1408) rfl (fun q => ?_) (fun q => ?_)
  · replace h := it_t q h
    refine g_iload C dL_law_1408 1 rfl ?_
    refine g_if_ne C dL_law_1410 (tgt := 1425) rfl (fun q => ?_) (fun q => ?_)
    · replace h := it_f q h
      refine g_goto C dL_law_1425 (tgt := 2920) rfl ?_
      refine g_iinc C (lv' := [(5, .int (x5 + 5)), (7, .int r460), (6, .int r456), (0, .ref b), (1, .ref (w_r w 0)), (2, .ref (w_r w 292)), (3, .ref (w_r w 300)), (4, .ref (w_r w 301))]) (v := (x5 + 5)) dL_law_2920 7 rfl rfl (by decide) rfl ?_
      refine g_goto C dL_law_2923 (tgt := 28) rfl ?_
      refine g_sub [3, 4, 5, 6, 7, 0] (lv' := [(0, .ref b), (1, .ref (w_r w 0)), (2, .ref (w_r w 292)), (3, .ref (w_r w 300)), (4, .ref (w_r w 301)), (5, .int (x5 + 5))]) rfl ?_
      exact hl1 ((x5 + 5), d461) (Option.some.inj h).symm
    · replace h := it_t q h
      refine g_aload_n C dL_law_1413 5 rfl ?_
      refine g_iconst C dL_law_1414 (v := 0) rfl ?_
      refine g_lald C 300 q_300 (by decide) 0 (by decide) dL_law_1415 ?_
      refine g_iload C dL_law_1416 0 rfl ?_
      refine g_i2l C dL_law_1418  ?_
      refine g_lcmpeq C dL_law_1419 dL_law_1420 (tgt := 1425) rfl (fun q => ?_) (fun q => ?_)
      · replace h := it_t q h
        refine g_goto C dL_law_1425 (tgt := 2920) rfl ?_
        refine g_iinc C (lv' := [(5, .int (x5 + 5)), (7, .int r460), (6, .int r456), (0, .ref b), (1, .ref (w_r w 0)), (2, .ref (w_r w 292)), (3, .ref (w_r w 300)), (4, .ref (w_r w 301))]) (v := (x5 + 5)) dL_law_2920 7 rfl rfl (by decide) rfl ?_
        refine g_goto C dL_law_2923 (tgt := 28) rfl ?_
        refine g_sub [3, 4, 5, 6, 7, 0] (lv' := [(0, .ref b), (1, .ref (w_r w 0)), (2, .ref (w_r w 292)), (3, .ref (w_r w 300)), (4, .ref (w_r w 301)), (5, .int (x5 + 5))]) rfl ?_
        exact hl1 ((x5 + 5), d461) (Option.some.inj h).symm
      · replace h := it_f q h
        replace h := ir_2 h hx1
        refine g_iconst C dL_law_1423 (v := 0) rfl ?_
        exact (law_no h).elim
  · replace h := it_f q h
    replace h := ir_2 h hx1
    refine g_iconst C dL_law_1406 (v := 0) rfl ?_
    exact (law_no h).elim
