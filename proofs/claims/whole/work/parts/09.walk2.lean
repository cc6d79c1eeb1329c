/-! 09: the law's walk -/
set_option maxHeartbeats 4000000 in
set_option maxRecDepth 100000 in
theorem law_c_1428 {w : wT} {p : Program} {l : Launch} {e : Env} {R : Room} {s : State} {m : MethodId} {args : Array Value} {below : List Frame} {meth : Method} {c : Code} {b L k n : Nat} {xs : Nat → Int32} {Q : State → Prop} {x5 : Int32} {d dE : Dt} {y1 : (Int32 × Dt) ⊕ (Int32 × Dt)} (C : gC w p s m args c cL_law 9 RL) (hl9 : l.stackTraces = false) (hX : va_X b L xs s s.heap) (hb : ¬ A_W w b) (hR : R = gRmX 2048 603072 7194730) (hk : k + 8 ≤ 603072) (hn : n + 60 ≤ 7194730) (hE : ∀ (d : Dt) (lv : List (Nat × Value)), gG w p l e R s m args below meth c 9 603072 7194730 Q d lv 2927 [.int 1]) (hl1 : ∀ s1 : Int32 × Dt, y1 = .inl s1 → gG w p l e R s m args below meth c 9 (k + 8) (n + 60) Q s1.2 [(0, .ref b), (1, .ref (w_r w 0)), (2, .ref (w_r w 292)), (3, .ref (w_r w 300)), (4, .ref (w_r w 301)), (5, .int s1.1)] 28 []) (hx1 : ∀ z, y1 = .inr z → z = (1, dE)) (h : f_W_law_1428 L xs x5 d = some y1) : gG w p l e R s m args below meth c 9 k n Q d [(0, .ref b), (1, .ref (w_r w 0)), (2, .ref (w_r w 292)), (3, .ref (w_r w 300)), (4, .ref (w_r w 301)), (5, .int x5)] 1428 [] := by
  unfold f_W_law_1428 at h
  refine g_aload_n C dL_law_1428 1 rfl ?_
  refine g_aload_n C dL_law_1429 0 rfl ?_
  refine g_iload C dL_law_1430 5 rfl ?_
  refine g_iconst C dL_law_1432 (v := 1) rfl ?_
  refine g_iadd C dL_law_1433  ?_
  have hg465 := gd_1 h
  replace h := gd_2 h
  refine g_xald C hX hb hg465 dL_law_1434 ?_
  refine g_aload_n C dL_law_1435 3 rfl ?_
  obtain ⟨r466, d467, hc468, h⟩ := ob2_1 h
  refine g_callSW C (k + 8) (n + 60) hk_W_229 hR rfl (m_W_fee C.2.2.2.2.2.2.1 hl9 hc468) rfl rfl rfl dL_law_1436 rfl rfl (by omega) (by omega) ?_
  refine g_istore C (lv' := [(6, .int r466), (0, .ref b), (1, .ref (w_r w 0)), (2, .ref (w_r w 292)), (3, .ref (w_r w 300)), (4, .ref (w_r w 301)), (5, .int x5)]) dL_law_1439 (by decide) rfl ?_
  refine g_aload_n C dL_law_1441 3 rfl ?_
  refine g_aload_n C dL_law_1442 1 rfl ?_
  refine g_iload C dL_law_1443 6 rfl ?_
  refine g_iconst C dL_law_1445 (v := 1) rfl ?_
  refine g_iadd C dL_law_1446  ?_
  have hg469 := gd_1 h
  replace h := gd_2 h
  refine g_xald C hX hb hg469 dL_law_1447 ?_
  obtain ⟨r470, d471, hc472, h⟩ := ob2_1 h
  refine g_callVi C 292 q_292 vk_W_231 hR rfl (m_M_fee C.2.2.2.2.2.2.1 hc472) rfl rfl rfl dL_law_1448 (bleL (by omega)) (bleL (by omega)) ?_
  refine g_istore C (lv' := [(7, .int r470), (6, .int r466), (0, .ref b), (1, .ref (w_r w 0)), (2, .ref (w_r w 292)), (3, .ref (w_r w 300)), (4, .ref (w_r w 301)), (5, .int x5)]) dL_law_1451 (by decide) rfl ?_
  refine g_aload_n C dL_law_1453 4 rfl ?_
  obtain ⟨r473, hc474, h⟩ := ob1_1 h
  refine g_callVi C 292 q_292 vk_W_162 hR rfl (m_M_thrown C.2.2.2.2.2.2.1 hc474) rfl rfl rfl dL_law_1454 (bleL (by omega)) (bleL (by omega)) ?_
  refine g_iload C dL_law_1457 1 rfl ?_
  refine g_icmp_eq C dL_law_1459 (tgt := 1464) rfl (fun q => ?_) (fun q => ?_)
  · replace h := it_t q h
    refine g_iload C dL_law_1464 1 rfl ?_
    refine g_if_ne C dL_law_1466 (tgt := 1481) rfl (fun q => ?_) (fun q => ?_)
    · replace h := it_f q h
      refine g_goto C dL_law_1481 (tgt := 2920) rfl ?_
      refine g_iinc C (lv' := [(5, .int (x5 + 5)), (7, .int r470), (6, .int r466), (0, .ref b), (1, .ref (w_r w 0)), (2, .ref (w_r w 292)), (3, .ref (w_r w 300)), (4, .ref (w_r w 301))]) (v := (x5 + 5)) dL_law_2920 7 rfl rfl (by decide) rfl ?_
      refine g_goto C dL_law_2923 (tgt := 28) rfl ?_
      refine g_sub [3, 4, 5, 6, 7, 0] (lv' := [(0, .ref b), (1, .ref (w_r w 0)), (2, .ref (w_r w 292)), (3, .ref (w_r w 300)), (4, .ref (w_r w 301)), (5, .int (x5 + 5))]) rfl ?_
      exact hl1 ((x5 + 5), d471) (Option.some.inj h).symm
    · replace h := it_t q h
      refine g_aload_n C dL_law_1469 5 rfl ?_
      refine g_iconst C dL_law_1470 (v := 0) rfl ?_
      refine g_lald C 300 q_300 (by decide) 0 (by decide) dL_law_1471 ?_
      refine g_iload C dL_law_1472 0 rfl ?_
      refine g_i2l C dL_law_1474  ?_
      refine g_lcmpeq C dL_law_1475 dL_law_1476 (tgt := 1481) rfl (fun q => ?_) (fun q => ?_)
      · replace h := it_t q h
        refine g_goto C dL_law_1481 (tgt := 2920) rfl ?_
        refine g_iinc C (lv' := [(5, .int (x5 + 5)), (7, .int r470), (6, .int r466), (0, .ref b), (1, .ref (w_r w 0)), (2, .ref (w_r w 292)), (3, .ref (w_r w 300)), (4, .ref (w_r w 301))]) (v := (x5 + 5)) dL_law_2920 7 rfl rfl (by decide) rfl ?_
        refine g_goto C dL_law_2923 (tgt := 28) rfl ?_
        refine g_sub [3, 4, 5, 6, 7, 0] (lv' := [(0, .ref b), (1, .ref (w_r w 0)), (2, .ref (w_r w 292)), (3, .ref (w_r w 300)), (4, .ref (w_r w 301)), (5, .int (x5 + 5))]) rfl ?_
        exact hl1 ((x5 + 5), d471) (Option.some.inj h).symm
      · replace h := it_f q h
        replace h := ir_2 h hx1
        refine g_iconst C dL_law_1479 (v := 0) rfl ?_
        exact (law_no h).elim
  · replace h := it_f q h
    replace h := ir_2 h hx1
    refine g_iconst C dL_law_1462 (v := 0) rfl ?_
    exact (law_no h).elim
set_option maxHeartbeats 4000000 in
set_option maxRecDepth 100000 in
theorem law_c_1484 {w : wT} {p : Program} {l : Launch} {e : Env} {R : Room} {s : State} {m : MethodId} {args : Array Value} {below : List Frame} {meth : Method} {c : Code} {b L k n : Nat} {xs : Nat → Int32} {Q : State → Prop} {x5 : Int32} {d dE : Dt} {y1 : (Int32 × Dt) ⊕ (Int32 × Dt)} (C : gC w p s m args c cL_law 9 RL) (hl9 : l.stackTraces = false) (hX : va_X b L xs s s.heap) (hb : ¬ A_W w b) (hR : R = gRmX 2048 603072 7194730) (hk : k + 8 ≤ 603072) (hn : n + 60 ≤ 7194730) (hE : ∀ (d : Dt) (lv : List (Nat × Value)), gG w p l e R s m args below meth c 9 603072 7194730 Q d lv 2927 [.int 1]) (hl1 : ∀ s1 : Int32 × Dt, y1 = .inl s1 → gG w p l e R s m args below meth c 9 (k + 8) (n + 60) Q s1.2 [(0, .ref b), (1, .ref (w_r w 0)), (2, .ref (w_r w 292)), (3, .ref (w_r w 300)), (4, .ref (w_r w 301)), (5, .int s1.1)] 28 []) (hx1 : ∀ z, y1 = .inr z → z = (1, dE)) (h : f_W_law_1484 L xs x5 d = some y1) : gG w p l e R s m args below meth c 9 k n Q d [(0, .ref b), (1, .ref (w_r w 0)), (2, .ref (w_r w 292)), (3, .ref (w_r w 300)), (4, .ref (w_r w 301)), (5, .int x5)] 1484 [] := by
  unfold f_W_law_1484 at h
  refine g_aload_n C dL_law_1484 1 rfl ?_
  refine g_aload_n C dL_law_1485 0 rfl ?_
  refine g_iload C dL_law_1486 5 rfl ?_
  refine g_iconst C dL_law_1488 (v := 1) rfl ?_
  refine g_iadd C dL_law_1489  ?_
  have hg475 := gd_1 h
  replace h := gd_2 h
  refine g_xald C hX hb hg475 dL_law_1490 ?_
  refine g_aload_n C dL_law_1491 3 rfl ?_
  obtain ⟨r476, d477, hc478, h⟩ := ob2_1 h
  refine g_callSW C (k + 8) (n + 60) hk_W_232 hR rfl (m_W_severity C.2.2.2.2.2.2.1 hl9 hc478) rfl rfl rfl dL_law_1492 rfl rfl (by omega) (by omega) ?_
  refine g_istore C (lv' := [(6, .int r476), (0, .ref b), (1, .ref (w_r w 0)), (2, .ref (w_r w 292)), (3, .ref (w_r w 300)), (4, .ref (w_r w 301)), (5, .int x5)]) dL_law_1495 (by decide) rfl ?_
  refine g_aload_n C dL_law_1497 3 rfl ?_
  refine g_aload_n C dL_law_1498 1 rfl ?_
  refine g_iload C dL_law_1499 6 rfl ?_
  refine g_iconst C dL_law_1501 (v := 1) rfl ?_
  refine g_iadd C dL_law_1502  ?_
  have hg479 := gd_1 h
  replace h := gd_2 h
  refine g_xald C hX hb hg479 dL_law_1503 ?_
  obtain ⟨r480, d481, hc482, h⟩ := ob2_1 h
  refine g_callVi C 292 q_292 vk_W_234 hR rfl (m_M_severity C.2.2.2.2.2.2.1 hc482) rfl rfl rfl dL_law_1504 (bleL (by omega)) (bleL (by omega)) ?_
  refine g_istore C (lv' := [(7, .int r480), (6, .int r476), (0, .ref b), (1, .ref (w_r w 0)), (2, .ref (w_r w 292)), (3, .ref (w_r w 300)), (4, .ref (w_r w 301)), (5, .int x5)]) dL_law_1507 (by decide) rfl ?_
  refine g_aload_n C dL_law_1509 4 rfl ?_
  obtain ⟨r483, hc484, h⟩ := ob1_1 h
  refine g_callVi C 292 q_292 vk_W_162 hR rfl (m_M_thrown C.2.2.2.2.2.2.1 hc484) rfl rfl rfl dL_law_1510 (bleL (by omega)) (bleL (by omega)) ?_
  refine g_iload C dL_law_1513 1 rfl ?_
  refine g_icmp_eq C dL_law_1515 (tgt := 1520) rfl (fun q => ?_) (fun q => ?_)
  · replace h := it_t q h
    refine g_iload C dL_law_1520 1 rfl ?_
    refine g_if_ne C dL_law_1522 (tgt := 1537) rfl (fun q => ?_) (fun q => ?_)
    · replace h := it_f q h
      refine g_goto C dL_law_1537 (tgt := 2920) rfl ?_
      refine g_iinc C (lv' := [(5, .int (x5 + 5)), (7, .int r480), (6, .int r476), (0, .ref b), (1, .ref (w_r w 0)), (2, .ref (w_r w 292)), (3, .ref (w_r w 300)), (4, .ref (w_r w 301))]) (v := (x5 + 5)) dL_law_2920 7 rfl rfl (by decide) rfl ?_
      refine g_goto C dL_law_2923 (tgt := 28) rfl ?_
      refine g_sub [3, 4, 5, 6, 7, 0] (lv' := [(0, .ref b), (1, .ref (w_r w 0)), (2, .ref (w_r w 292)), (3, .ref (w_r w 300)), (4, .ref (w_r w 301)), (5, .int (x5 + 5))]) rfl ?_
      exact hl1 ((x5 + 5), d481) (Option.some.inj h).symm
    · replace h := it_t q h
      refine g_aload_n C dL_law_1525 5 rfl ?_
      refine g_iconst C dL_law_1526 (v := 0) rfl ?_
      refine g_lald C 300 q_300 (by decide) 0 (by decide) dL_law_1527 ?_
      refine g_iload C dL_law_1528 0 rfl ?_
      refine g_i2l C dL_law_1530  ?_
      refine g_lcmpeq C dL_law_1531 dL_law_1532 (tgt := 1537) rfl (fun q => ?_) (fun q => ?_)
      · replace h := it_t q h
        refine g_goto C dL_law_1537 (tgt := 2920) rfl ?_
        refine g_iinc C (lv' := [(5, .int (x5 + 5)), (7, .int r480), (6, .int r476), (0, .ref b), (1, .ref (w_r w 0)), (2, .ref (w_r w 292)), (3, .ref (w_r w 300)), (4, .ref (w_r w 301))]) (v := (x5 + 5)) dL_law_2920 7 rfl rfl (by decide) rfl ?_
        refine g_goto C dL_law_2923 (tgt := 28) rfl ?_
        refine g_sub [3, 4, 5, 6, 7, 0] (lv' := [(0, .ref b), (1, .ref (w_r w 0)), (2, .ref (w_r w 292)), (3, .ref (w_r w 300)), (4, .ref (w_r w 301)), (5, .int (x5 + 5))]) rfl ?_
        exact hl1 ((x5 + 5), d481) (Option.some.inj h).symm
      · replace h := it_f q h
        replace h := ir_2 h hx1
        refine g_iconst C dL_law_1535 (v := 0) rfl ?_
        exact (law_no h).elim
  · replace h := it_f q h
    replace h := ir_2 h hx1
    refine g_iconst C dL_law_1518 (v := 0) rfl ?_
    exact (law_no h).elim
set_option maxHeartbeats 4000000 in
set_option maxRecDepth 100000 in
theorem law_c_1540 {w : wT} {p : Program} {l : Launch} {e : Env} {R : Room} {s : State} {m : MethodId} {args : Array Value} {below : List Frame} {meth : Method} {c : Code} {b L k n : Nat} {xs : Nat → Int32} {Q : State → Prop} {x5 : Int32} {d dE : Dt} {y1 : (Int32 × Dt) ⊕ (Int32 × Dt)} (C : gC w p s m args c cL_law 9 RL) (hl9 : l.stackTraces = false) (hX : va_X b L xs s s.heap) (hb : ¬ A_W w b) (hR : R = gRmX 2048 603072 7194730) (hk : k + 8 ≤ 603072) (hn : n + 60 ≤ 7194730) (hE : ∀ (d : Dt) (lv : List (Nat × Value)), gG w p l e R s m args below meth c 9 603072 7194730 Q d lv 2927 [.int 1]) (hl1 : ∀ s1 : Int32 × Dt, y1 = .inl s1 → gG w p l e R s m args below meth c 9 (k + 8) (n + 60) Q s1.2 [(0, .ref b), (1, .ref (w_r w 0)), (2, .ref (w_r w 292)), (3, .ref (w_r w 300)), (4, .ref (w_r w 301)), (5, .int s1.1)] 28 []) (hx1 : ∀ z, y1 = .inr z → z = (1, dE)) (h : f_W_law_1540 L xs x5 d = some y1) : gG w p l e R s m args below meth c 9 k n Q d [(0, .ref b), (1, .ref (w_r w 0)), (2, .ref (w_r w 292)), (3, .ref (w_r w 300)), (4, .ref (w_r w 301)), (5, .int x5)] 1540 [] := by
  have R1594 : ∀ (x5 : Int32) (v0 : Int32) (v1 : Int32) (d : Dt), f_W_law_1594 L xs x5 v0 v1 d = some y1 → gG w p l e R s m args below meth c 9 (k + 8) (n + 60) Q d [(0, .ref b), (1, .ref (w_r w 0)), (2, .ref (w_r w 292)), (3, .ref (w_r w 300)), (4, .ref (w_r w 301)), (5, .int x5)] 1594 [.long (v1).toInt64, .long (v0).toInt64] := by
    intro x5 v0 v1 d  h
    unfold f_W_law_1594 at h
    refine g_lcmpeq C dL_law_1594 dL_law_1595 (tgt := 1600) rfl (fun q => ?_) (fun q => ?_)
    · replace h := it_t q h
      refine g_goto C dL_law_1600 (tgt := 2920) rfl ?_
      refine g_iinc C (lv' := [(5, .int (x5 + 5)), (0, .ref b), (1, .ref (w_r w 0)), (2, .ref (w_r w 292)), (3, .ref (w_r w 300)), (4, .ref (w_r w 301))]) (v := (x5 + 5)) dL_law_2920 5 rfl rfl (by decide) rfl ?_
      refine g_goto C dL_law_2923 (tgt := 28) rfl ?_
      refine g_sub [1, 2, 3, 4, 5, 0] (lv' := [(0, .ref b), (1, .ref (w_r w 0)), (2, .ref (w_r w 292)), (3, .ref (w_r w 300)), (4, .ref (w_r w 301)), (5, .int (x5 + 5))]) rfl ?_
      refine g_widP (k + 8) (n + 60) (by omega) (by omega) ?_
      exact hl1 ((x5 + 5), d) (Option.some.inj h).symm
    · replace h := it_f q h
      replace h := ir_2 h hx1
      refine g_iconst C dL_law_1598 (v := 0) rfl ?_
      exact (law_no h).elim
  unfold f_W_law_1540 at h
  refine g_aload_n C dL_law_1540 1 rfl ?_
  refine g_aload_n C dL_law_1541 0 rfl ?_
  refine g_iload C dL_law_1542 5 rfl ?_
  refine g_iconst C dL_law_1544 (v := 1) rfl ?_
  refine g_iadd C dL_law_1545  ?_
  have hg485 := gd_1 h
  replace h := gd_2 h
  refine g_xald C hX hb hg485 dL_law_1546 ?_
  refine g_aload_n C dL_law_1547 3 rfl ?_
  obtain ⟨r486, d487, hc488, h⟩ := ob2_1 h
  refine g_callSW C (k + 8) (n + 60) hk_W_235 hR rfl (m_W_isInPlan C.2.2.2.2.2.2.1 hl9 hc488) rfl rfl rfl dL_law_1548 rfl rfl (by omega) (by omega) ?_
  refine g_istore C (lv' := [(6, .int r486), (0, .ref b), (1, .ref (w_r w 0)), (2, .ref (w_r w 292)), (3, .ref (w_r w 300)), (4, .ref (w_r w 301)), (5, .int x5)]) dL_law_1551 (by decide) rfl ?_
  refine g_aload_n C dL_law_1553 3 rfl ?_
  refine g_aload_n C dL_law_1554 1 rfl ?_
  refine g_iload C dL_law_1555 6 rfl ?_
  refine g_iconst C dL_law_1557 (v := 1) rfl ?_
  refine g_iadd C dL_law_1558  ?_
  have hg489 := gd_1 h
  replace h := gd_2 h
  refine g_xald C hX hb hg489 dL_law_1559 ?_
  obtain ⟨r490, d491, hc492, h⟩ := ob2_1 h
  refine g_callVi C 292 q_292 vk_W_237 hR rfl (m_M_isInPlan C.2.2.2.2.2.2.1 hc492) rfl rfl rfl dL_law_1560 (bleL (by omega)) (bleL (by omega)) ?_
  refine g_istore C (lv' := [(7, .int r490), (6, .int r486), (0, .ref b), (1, .ref (w_r w 0)), (2, .ref (w_r w 292)), (3, .ref (w_r w 300)), (4, .ref (w_r w 301)), (5, .int x5)]) dL_law_1563 (by decide) rfl ?_
  refine g_aload_n C dL_law_1565 4 rfl ?_
  obtain ⟨r493, hc494, h⟩ := ob1_1 h
  refine g_callVi C 292 q_292 vk_W_162 hR rfl (m_M_thrown C.2.2.2.2.2.2.1 hc494) rfl rfl rfl dL_law_1566 (bleL (by omega)) (bleL (by omega)) ?_
  refine g_iload C dL_law_1569 1 rfl ?_
  refine g_icmp_eq C dL_law_1571 (tgt := 1576) rfl (fun q => ?_) (fun q => ?_)
  · replace h := it_t q h
    refine g_iload C dL_law_1576 1 rfl ?_
    refine g_if_ne C dL_law_1578 (tgt := 1600) rfl (fun q => ?_) (fun q => ?_)
    · replace h := it_f q h
      refine g_goto C dL_law_1600 (tgt := 2920) rfl ?_
      refine g_iinc C (lv' := [(5, .int (x5 + 5)), (7, .int r490), (6, .int r486), (0, .ref b), (1, .ref (w_r w 0)), (2, .ref (w_r w 292)), (3, .ref (w_r w 300)), (4, .ref (w_r w 301))]) (v := (x5 + 5)) dL_law_2920 7 rfl rfl (by decide) rfl ?_
      refine g_goto C dL_law_2923 (tgt := 28) rfl ?_
      refine g_sub [3, 4, 5, 6, 7, 0] (lv' := [(0, .ref b), (1, .ref (w_r w 0)), (2, .ref (w_r w 292)), (3, .ref (w_r w 300)), (4, .ref (w_r w 301)), (5, .int (x5 + 5))]) rfl ?_
      exact hl1 ((x5 + 5), d491) (Option.some.inj h).symm
    · replace h := it_t q h
      refine g_aload_n C dL_law_1581 5 rfl ?_
      refine g_iconst C dL_law_1582 (v := 0) rfl ?_
      refine g_lald C 300 q_300 (by decide) 0 (by decide) dL_law_1583 ?_
      refine g_iload C dL_law_1584 0 rfl ?_
      refine g_if_eq C dL_law_1586 (tgt := 1593) rfl (fun q => ?_) (fun q => ?_)
      · replace h := it_t q h
        refine g_lconst C dL_law_1593 (v := 0) (by decide) ?_
        refine g_sub [2, 3, 4, 5, 6, 7] (lv' := [(0, .ref b), (1, .ref (w_r w 0)), (2, .ref (w_r w 292)), (3, .ref (w_r w 300)), (4, .ref (w_r w 301)), (5, .int x5)]) rfl ?_
        exact R1594 x5 (d491 300 0) 0 d491 h
      · replace h := it_f q h
        refine g_lconst C dL_law_1589 (v := 1) (by decide) ?_
        refine g_goto C dL_law_1590 (tgt := 1594) rfl ?_
        refine g_sub [2, 3, 4, 5, 6, 7] (lv' := [(0, .ref b), (1, .ref (w_r w 0)), (2, .ref (w_r w 292)), (3, .ref (w_r w 300)), (4, .ref (w_r w 301)), (5, .int x5)]) rfl ?_
        exact R1594 x5 (d491 300 0) 1 d491 h
  · replace h := it_f q h
    replace h := ir_2 h hx1
    refine g_iconst C dL_law_1574 (v := 0) rfl ?_
    exact (law_no h).elim
set_option maxHeartbeats 4000000 in
set_option maxRecDepth 100000 in
theorem law_c_1603 {w : wT} {p : Program} {l : Launch} {e : Env} {R : Room} {s : State} {m : MethodId} {args : Array Value} {below : List Frame} {meth : Method} {c : Code} {b L k n : Nat} {xs : Nat → Int32} {Q : State → Prop} {x5 : Int32} {d dE : Dt} {y1 : (Int32 × Dt) ⊕ (Int32 × Dt)} (C : gC w p s m args c cL_law 9 RL) (hl9 : l.stackTraces = false) (hX : va_X b L xs s s.heap) (hb : ¬ A_W w b) (hR : R = gRmX 2048 603072 7194730) (hk : k + 8 ≤ 603072) (hn : n + 60 ≤ 7194730) (hE : ∀ (d : Dt) (lv : List (Nat × Value)), gG w p l e R s m args below meth c 9 603072 7194730 Q d lv 2927 [.int 1]) (hl1 : ∀ s1 : Int32 × Dt, y1 = .inl s1 → gG w p l e R s m args below meth c 9 (k + 8) (n + 60) Q s1.2 [(0, .ref b), (1, .ref (w_r w 0)), (2, .ref (w_r w 292)), (3, .ref (w_r w 300)), (4, .ref (w_r w 301)), (5, .int s1.1)] 28 []) (hx1 : ∀ z, y1 = .inr z → z = (1, dE)) (h : f_W_law_1603 L xs x5 d = some y1) : gG w p l e R s m args below meth c 9 k n Q d [(0, .ref b), (1, .ref (w_r w 0)), (2, .ref (w_r w 292)), (3, .ref (w_r w 300)), (4, .ref (w_r w 301)), (5, .int x5)] 1603 [] := by
  unfold f_W_law_1603 at h
  refine g_aload_n C dL_law_1603 1 rfl ?_
  refine g_aload_n C dL_law_1604 0 rfl ?_
  refine g_iload C dL_law_1605 5 rfl ?_
  refine g_iconst C dL_law_1607 (v := 1) rfl ?_
  refine g_iadd C dL_law_1608  ?_
  have hg495 := gd_1 h
  replace h := gd_2 h
  refine g_xald C hX hb hg495 dL_law_1609 ?_
  refine g_aload_n C dL_law_1610 3 rfl ?_
  obtain ⟨r496, d497, hc498, h⟩ := ob2_1 h
  refine g_callSW C (k + 8) (n + 60) hk_W_238 hR rfl (m_W_hearingDay C.2.2.2.2.2.2.1 hl9 hc498) rfl rfl rfl dL_law_1611 rfl rfl (by omega) (by omega) ?_
  refine g_istore C (lv' := [(6, .int r496), (0, .ref b), (1, .ref (w_r w 0)), (2, .ref (w_r w 292)), (3, .ref (w_r w 300)), (4, .ref (w_r w 301)), (5, .int x5)]) dL_law_1614 (by decide) rfl ?_
  refine g_aload_n C dL_law_1616 3 rfl ?_
  refine g_aload_n C dL_law_1617 1 rfl ?_
  refine g_iload C dL_law_1618 6 rfl ?_
  refine g_iconst C dL_law_1620 (v := 1) rfl ?_
  refine g_iadd C dL_law_1621  ?_
  have hg499 := gd_1 h
  replace h := gd_2 h
  refine g_xald C hX hb hg499 dL_law_1622 ?_
  obtain ⟨r500, d501, hc502, h⟩ := ob2_1 h
  refine g_callVi C 292 q_292 vk_W_240 hR rfl (m_M_hearingDay C.2.2.2.2.2.2.1 hc502) rfl rfl rfl dL_law_1623 (bleL (by omega)) (bleL (by omega)) ?_
  refine g_istore C (lv' := [(7, .int r500), (6, .int r496), (0, .ref b), (1, .ref (w_r w 0)), (2, .ref (w_r w 292)), (3, .ref (w_r w 300)), (4, .ref (w_r w 301)), (5, .int x5)]) dL_law_1626 (by decide) rfl ?_
  refine g_aload_n C dL_law_1628 4 rfl ?_
  obtain ⟨r503, hc504, h⟩ := ob1_1 h
  refine g_callVi C 292 q_292 vk_W_162 hR rfl (m_M_thrown C.2.2.2.2.2.2.1 hc504) rfl rfl rfl dL_law_1629 (bleL (by omega)) (bleL (by omega)) ?_
  refine g_iload C dL_law_1632 1 rfl ?_
  refine g_icmp_eq C dL_law_1634 (tgt := 1639) rfl (fun q => ?_) (fun q => ?_)
  · replace h := it_t q h
    refine g_iload C dL_law_1639 1 rfl ?_
    refine g_if_ne C dL_law_1641 (tgt := 1656) rfl (fun q => ?_) (fun q => ?_)
    · replace h := it_f q h
      refine g_goto C dL_law_1656 (tgt := 2920) rfl ?_
      refine g_iinc C (lv' := [(5, .int (x5 + 5)), (7, .int r500), (6, .int r496), (0, .ref b), (1, .ref (w_r w 0)), (2, .ref (w_r w 292)), (3, .ref (w_r w 300)), (4, .ref (w_r w 301))]) (v := (x5 + 5)) dL_law_2920 7 rfl rfl (by decide) rfl ?_
      refine g_goto C dL_law_2923 (tgt := 28) rfl ?_
      refine g_sub [3, 4, 5, 6, 7, 0] (lv' := [(0, .ref b), (1, .ref (w_r w 0)), (2, .ref (w_r w 292)), (3, .ref (w_r w 300)), (4, .ref (w_r w 301)), (5, .int (x5 + 5))]) rfl ?_
      exact hl1 ((x5 + 5), d501) (Option.some.inj h).symm
    · replace h := it_t q h
      refine g_aload_n C dL_law_1644 5 rfl ?_
      refine g_iconst C dL_law_1645 (v := 0) rfl ?_
      refine g_lald C 300 q_300 (by decide) 0 (by decide) dL_law_1646 ?_
      refine g_iload C dL_law_1647 0 rfl ?_
      refine g_i2l C dL_law_1649  ?_
      refine g_lcmpeq C dL_law_1650 dL_law_1651 (tgt := 1656) rfl (fun q => ?_) (fun q => ?_)
      · replace h := it_t q h
        refine g_goto C dL_law_1656 (tgt := 2920) rfl ?_
        refine g_iinc C (lv' := [(5, .int (x5 + 5)), (7, .int r500), (6, .int r496), (0, .ref b), (1, .ref (w_r w 0)), (2, .ref (w_r w 292)), (3, .ref (w_r w 300)), (4, .ref (w_r w 301))]) (v := (x5 + 5)) dL_law_2920 7 rfl rfl (by decide) rfl ?_
        refine g_goto C dL_law_2923 (tgt := 28) rfl ?_
        refine g_sub [3, 4, 5, 6, 7, 0] (lv' := [(0, .ref b), (1, .ref (w_r w 0)), (2, .ref (w_r w 292)), (3, .ref (w_r w 300)), (4, .ref (w_r w 301)), (5, .int (x5 + 5))]) rfl ?_
        exact hl1 ((x5 + 5), d501) (Option.some.inj h).symm
      · replace h := it_f q h
        replace h := ir_2 h hx1
        refine g_iconst C dL_law_1654 (v := 0) rfl ?_
        exact (law_no h).elim
  · replace h := it_f q h
    replace h := ir_2 h hx1
    refine g_iconst C dL_law_1637 (v := 0) rfl ?_
    exact (law_no h).elim
set_option maxHeartbeats 4000000 in
set_option maxRecDepth 100000 in
theorem law_c_1659 {w : wT} {p : Program} {l : Launch} {e : Env} {R : Room} {s : State} {m : MethodId} {args : Array Value} {below : List Frame} {meth : Method} {c : Code} {b L k n : Nat} {xs : Nat → Int32} {Q : State → Prop} {x5 : Int32} {d dE : Dt} {y1 : (Int32 × Dt) ⊕ (Int32 × Dt)} (C : gC w p s m args c cL_law 9 RL) (hl9 : l.stackTraces = false) (hX : va_X b L xs s s.heap) (hb : ¬ A_W w b) (hR : R = gRmX 2048 603072 7194730) (hk : k + 8 ≤ 603072) (hn : n + 60 ≤ 7194730) (hE : ∀ (d : Dt) (lv : List (Nat × Value)), gG w p l e R s m args below meth c 9 603072 7194730 Q d lv 2927 [.int 1]) (hl1 : ∀ s1 : Int32 × Dt, y1 = .inl s1 → gG w p l e R s m args below meth c 9 (k + 8) (n + 60) Q s1.2 [(0, .ref b), (1, .ref (w_r w 0)), (2, .ref (w_r w 292)), (3, .ref (w_r w 300)), (4, .ref (w_r w 301)), (5, .int s1.1)] 28 []) (hx1 : ∀ z, y1 = .inr z → z = (1, dE)) (h : f_W_law_1659 L xs x5 d = some y1) : gG w p l e R s m args below meth c 9 k n Q d [(0, .ref b), (1, .ref (w_r w 0)), (2, .ref (w_r w 292)), (3, .ref (w_r w 300)), (4, .ref (w_r w 301)), (5, .int x5)] 1659 [] := by
  unfold f_W_law_1659 at h
  refine g_aload_n C dL_law_1659 1 rfl ?_
  obtain ⟨r505, d506, hc507, h⟩ := ob2_1 h
  refine g_callVi C 0 q_0 vk_W_241 hR rfl (m_C_planFee C.2.2.2.2.2.2.1 hc507) rfl rfl rfl dL_law_1660 (bleL (by omega)) (bleL (by omega)) ?_
  refine g_aload_n C dL_law_1663 2 rfl ?_
  obtain ⟨r508, d509, hc510, h⟩ := ob2_1 h
  refine g_callVi C 292 q_292 vk_W_244 hR rfl (m_M_planFee C.2.2.2.2.2.2.1 hc510) rfl rfl rfl dL_law_1664 (bleL (by omega)) (bleL (by omega)) ?_
  refine g_icmp_eq C dL_law_1667 (tgt := 2920) rfl (fun q => ?_) (fun q => ?_)
  · replace h := it_t q h
    refine g_iinc C (lv' := [(5, .int (x5 + 5)), (0, .ref b), (1, .ref (w_r w 0)), (2, .ref (w_r w 292)), (3, .ref (w_r w 300)), (4, .ref (w_r w 301))]) (v := (x5 + 5)) dL_law_2920 5 rfl rfl (by decide) rfl ?_
    refine g_goto C dL_law_2923 (tgt := 28) rfl ?_
    refine g_sub [1, 2, 3, 4, 5, 0] (lv' := [(0, .ref b), (1, .ref (w_r w 0)), (2, .ref (w_r w 292)), (3, .ref (w_r w 300)), (4, .ref (w_r w 301)), (5, .int (x5 + 5))]) rfl ?_
    refine g_widP (k + 8) (n + 60) (by omega) (by omega) ?_
    exact hl1 ((x5 + 5), d509) (Option.some.inj h).symm
  · replace h := it_f q h
    replace h := ir_2 h hx1
    refine g_iconst C dL_law_1670 (v := 0) rfl ?_
    exact (law_no h).elim
set_option maxHeartbeats 4000000 in
set_option maxRecDepth 100000 in
theorem law_c_1672 {w : wT} {p : Program} {l : Launch} {e : Env} {R : Room} {s : State} {m : MethodId} {args : Array Value} {below : List Frame} {meth : Method} {c : Code} {b L k n : Nat} {xs : Nat → Int32} {Q : State → Prop} {x5 : Int32} {d dE : Dt} {y1 : (Int32 × Dt) ⊕ (Int32 × Dt)} (C : gC w p s m args c cL_law 9 RL) (hl9 : l.stackTraces = false) (hX : va_X b L xs s s.heap) (hb : ¬ A_W w b) (hR : R = gRmX 2048 603072 7194730) (hk : k + 8 ≤ 603072) (hn : n + 60 ≤ 7194730) (hE : ∀ (d : Dt) (lv : List (Nat × Value)), gG w p l e R s m args below meth c 9 603072 7194730 Q d lv 2927 [.int 1]) (hl1 : ∀ s1 : Int32 × Dt, y1 = .inl s1 → gG w p l e R s m args below meth c 9 (k + 8) (n + 60) Q s1.2 [(0, .ref b), (1, .ref (w_r w 0)), (2, .ref (w_r w 292)), (3, .ref (w_r w 300)), (4, .ref (w_r w 301)), (5, .int s1.1)] 28 []) (hx1 : ∀ z, y1 = .inr z → z = (1, dE)) (h : f_W_law_1672 L xs x5 d = some y1) : gG w p l e R s m args below meth c 9 k n Q d [(0, .ref b), (1, .ref (w_r w 0)), (2, .ref (w_r w 292)), (3, .ref (w_r w 300)), (4, .ref (w_r w 301)), (5, .int x5)] 1672 [] := by
  unfold f_W_law_1672 at h
  refine g_aload_n C dL_law_1672 1 rfl ?_
  obtain ⟨r511, d512, hc513, h⟩ := ob2_1 h
  refine g_callVi C 0 q_0 vk_W_245 hR rfl (m_C_planFeeBySets C.2.2.2.2.2.2.1 hc513) rfl rfl rfl dL_law_1673 (bleL (by omega)) (bleL (by omega)) ?_
  refine g_aload_n C dL_law_1676 2 rfl ?_
  obtain ⟨r514, d515, hc516, h⟩ := ob2_1 h
  refine g_callVi C 292 q_292 vk_W_248 hR rfl (m_M_planFeeBySets C.2.2.2.2.2.2.1 hc516) rfl rfl rfl dL_law_1677 (bleL (by omega)) (bleL (by omega)) ?_
  refine g_icmp_eq C dL_law_1680 (tgt := 2920) rfl (fun q => ?_) (fun q => ?_)
  · replace h := it_t q h
    refine g_iinc C (lv' := [(5, .int (x5 + 5)), (0, .ref b), (1, .ref (w_r w 0)), (2, .ref (w_r w 292)), (3, .ref (w_r w 300)), (4, .ref (w_r w 301))]) (v := (x5 + 5)) dL_law_2920 5 rfl rfl (by decide) rfl ?_
    refine g_goto C dL_law_2923 (tgt := 28) rfl ?_
    refine g_sub [1, 2, 3, 4, 5, 0] (lv' := [(0, .ref b), (1, .ref (w_r w 0)), (2, .ref (w_r w 292)), (3, .ref (w_r w 300)), (4, .ref (w_r w 301)), (5, .int (x5 + 5))]) rfl ?_
    refine g_widP (k + 8) (n + 60) (by omega) (by omega) ?_
    exact hl1 ((x5 + 5), d515) (Option.some.inj h).symm
  · replace h := it_f q h
    replace h := ir_2 h hx1
    refine g_iconst C dL_law_1683 (v := 0) rfl ?_
    exact (law_no h).elim
set_option maxHeartbeats 4000000 in
set_option maxRecDepth 100000 in
theorem law_c_1685 {w : wT} {p : Program} {l : Launch} {e : Env} {R : Room} {s : State} {m : MethodId} {args : Array Value} {below : List Frame} {meth : Method} {c : Code} {b L k n : Nat} {xs : Nat → Int32} {Q : State → Prop} {x5 : Int32} {d dE : Dt} {y1 : (Int32 × Dt) ⊕ (Int32 × Dt)} (C : gC w p s m args c cL_law 9 RL) (hl9 : l.stackTraces = false) (hX : va_X b L xs s s.heap) (hb : ¬ A_W w b) (hR : R = gRmX 2048 603072 7194730) (hk : k + 8 ≤ 603072) (hn : n + 60 ≤ 7194730) (hE : ∀ (d : Dt) (lv : List (Nat × Value)), gG w p l e R s m args below meth c 9 603072 7194730 Q d lv 2927 [.int 1]) (hl1 : ∀ s1 : Int32 × Dt, y1 = .inl s1 → gG w p l e R s m args below meth c 9 (k + 8) (n + 60) Q s1.2 [(0, .ref b), (1, .ref (w_r w 0)), (2, .ref (w_r w 292)), (3, .ref (w_r w 300)), (4, .ref (w_r w 301)), (5, .int s1.1)] 28 []) (hx1 : ∀ z, y1 = .inr z → z = (1, dE)) (h : f_W_law_1685 L xs x5 d = some y1) : gG w p l e R s m args below meth c 9 k n Q d [(0, .ref b), (1, .ref (w_r w 0)), (2, .ref (w_r w 292)), (3, .ref (w_r w 300)), (4, .ref (w_r w 301)), (5, .int x5)] 1685 [] := by
  unfold f_W_law_1685 at h
  refine g_aload_n C dL_law_1685 1 rfl ?_
  obtain ⟨r517, hc518, h⟩ := ob1_1 h
  refine g_callVi C 0 q_0 vk_W_249 hR rfl (m_C_statementCount C.2.2.2.2.2.2.1 hc518) rfl rfl rfl dL_law_1686 (bleL (by omega)) (bleL (by omega)) ?_
  refine g_aload_n C dL_law_1689 2 rfl ?_
  obtain ⟨r519, d520, hc521, h⟩ := ob2_1 h
  refine g_callVi C 292 q_292 vk_W_252 hR rfl (m_M_statementCount C.2.2.2.2.2.2.1 hc521) rfl rfl rfl dL_law_1690 (bleL (by omega)) (bleL (by omega)) ?_
  refine g_icmp_eq C dL_law_1693 (tgt := 2920) rfl (fun q => ?_) (fun q => ?_)
  · replace h := it_t q h
    refine g_iinc C (lv' := [(5, .int (x5 + 5)), (0, .ref b), (1, .ref (w_r w 0)), (2, .ref (w_r w 292)), (3, .ref (w_r w 300)), (4, .ref (w_r w 301))]) (v := (x5 + 5)) dL_law_2920 5 rfl rfl (by decide) rfl ?_
    refine g_goto C dL_law_2923 (tgt := 28) rfl ?_
    refine g_sub [1, 2, 3, 4, 5, 0] (lv' := [(0, .ref b), (1, .ref (w_r w 0)), (2, .ref (w_r w 292)), (3, .ref (w_r w 300)), (4, .ref (w_r w 301)), (5, .int (x5 + 5))]) rfl ?_
    refine g_widP (k + 8) (n + 60) (by omega) (by omega) ?_
    exact hl1 ((x5 + 5), d520) (Option.some.inj h).symm
  · replace h := it_f q h
    replace h := ir_2 h hx1
    refine g_iconst C dL_law_1696 (v := 0) rfl ?_
    exact (law_no h).elim
set_option maxHeartbeats 4000000 in
set_option maxRecDepth 100000 in
theorem law_c_1698 {w : wT} {p : Program} {l : Launch} {e : Env} {R : Room} {s : State} {m : MethodId} {args : Array Value} {below : List Frame} {meth : Method} {c : Code} {b L k n : Nat} {xs : Nat → Int32} {Q : State → Prop} {x5 : Int32} {d dE : Dt} {y1 : (Int32 × Dt) ⊕ (Int32 × Dt)} (C : gC w p s m args c cL_law 9 RL) (hl9 : l.stackTraces = false) (hX : va_X b L xs s s.heap) (hb : ¬ A_W w b) (hR : R = gRmX 2048 603072 7194730) (hk : k + 8 ≤ 603072) (hn : n + 60 ≤ 7194730) (hE : ∀ (d : Dt) (lv : List (Nat × Value)), gG w p l e R s m args below meth c 9 603072 7194730 Q d lv 2927 [.int 1]) (hl1 : ∀ s1 : Int32 × Dt, y1 = .inl s1 → gG w p l e R s m args below meth c 9 (k + 8) (n + 60) Q s1.2 [(0, .ref b), (1, .ref (w_r w 0)), (2, .ref (w_r w 292)), (3, .ref (w_r w 300)), (4, .ref (w_r w 301)), (5, .int s1.1)] 28 []) (hx1 : ∀ z, y1 = .inr z → z = (1, dE)) (h : f_W_law_1698 L xs x5 d = some y1) : gG w p l e R s m args below meth c 9 k n Q d [(0, .ref b), (1, .ref (w_r w 0)), (2, .ref (w_r w 292)), (3, .ref (w_r w 300)), (4, .ref (w_r w 301)), (5, .int x5)] 1698 [] := by
  unfold f_W_law_1698 at h
  refine g_aload_n C dL_law_1698 1 rfl ?_
  refine g_aload_n C dL_law_1699 0 rfl ?_
  refine g_iload C dL_law_1700 5 rfl ?_
  refine g_iconst C dL_law_1702 (v := 1) rfl ?_
  refine g_iadd C dL_law_1703  ?_
  have hg522 := gd_1 h
  replace h := gd_2 h
  refine g_xald C hX hb hg522 dL_law_1704 ?_
  refine g_aload_n C dL_law_1705 3 rfl ?_
  obtain ⟨r523, d524, hc525, h⟩ := ob2_1 h
  refine g_callSW C (k + 8) (n + 60) hk_W_253 hR rfl (m_W_firstOf C.2.2.2.2.2.2.1 hl9 hc525) rfl rfl rfl dL_law_1706 rfl rfl (by omega) (by omega) ?_
  refine g_istore C (lv' := [(6, .int r523), (0, .ref b), (1, .ref (w_r w 0)), (2, .ref (w_r w 292)), (3, .ref (w_r w 300)), (4, .ref (w_r w 301)), (5, .int x5)]) dL_law_1709 (by decide) rfl ?_
  refine g_aload_n C dL_law_1711 3 rfl ?_
  refine g_aload_n C dL_law_1712 1 rfl ?_
  refine g_iload C dL_law_1713 6 rfl ?_
  refine g_iconst C dL_law_1715 (v := 1) rfl ?_
  refine g_iadd C dL_law_1716  ?_
  have hg526 := gd_1 h
  replace h := gd_2 h
  refine g_xald C hX hb hg526 dL_law_1717 ?_
  obtain ⟨r527, d528, hc529, h⟩ := ob2_1 h
  refine g_callVi C 292 q_292 vk_W_255 hR rfl (m_M_firstOf C.2.2.2.2.2.2.1 hc529) rfl rfl rfl dL_law_1718 (bleL (by omega)) (bleL (by omega)) ?_
  refine g_istore C (lv' := [(7, .int r527), (6, .int r523), (0, .ref b), (1, .ref (w_r w 0)), (2, .ref (w_r w 292)), (3, .ref (w_r w 300)), (4, .ref (w_r w 301)), (5, .int x5)]) dL_law_1721 (by decide) rfl ?_
  refine g_aload_n C dL_law_1723 4 rfl ?_
  obtain ⟨r530, hc531, h⟩ := ob1_1 h
  refine g_callVi C 292 q_292 vk_W_162 hR rfl (m_M_thrown C.2.2.2.2.2.2.1 hc531) rfl rfl rfl dL_law_1724 (bleL (by omega)) (bleL (by omega)) ?_
  refine g_iload C dL_law_1727 1 rfl ?_
  refine g_icmp_eq C dL_law_1729 (tgt := 1734) rfl (fun q => ?_) (fun q => ?_)
  · replace h := it_t q h
    refine g_iload C dL_law_1734 1 rfl ?_
    refine g_if_ne C dL_law_1736 (tgt := 1751) rfl (fun q => ?_) (fun q => ?_)
    · replace h := it_f q h
      refine g_goto C dL_law_1751 (tgt := 2920) rfl ?_
      refine g_iinc C (lv' := [(5, .int (x5 + 5)), (7, .int r527), (6, .int r523), (0, .ref b), (1, .ref (w_r w 0)), (2, .ref (w_r w 292)), (3, .ref (w_r w 300)), (4, .ref (w_r w 301))]) (v := (x5 + 5)) dL_law_2920 7 rfl rfl (by decide) rfl ?_
      refine g_goto C dL_law_2923 (tgt := 28) rfl ?_
      refine g_sub [3, 4, 5, 6, 7, 0] (lv' := [(0, .ref b), (1, .ref (w_r w 0)), (2, .ref (w_r w 292)), (3, .ref (w_r w 300)), (4, .ref (w_r w 301)), (5, .int (x5 + 5))]) rfl ?_
      exact hl1 ((x5 + 5), d528) (Option.some.inj h).symm
    · replace h := it_t q h
      refine g_aload_n C dL_law_1739 5 rfl ?_
      refine g_iconst C dL_law_1740 (v := 0) rfl ?_
      refine g_lald C 300 q_300 (by decide) 0 (by decide) dL_law_1741 ?_
      refine g_iload C dL_law_1742 0 rfl ?_
      refine g_i2l C dL_law_1744  ?_
      refine g_lcmpeq C dL_law_1745 dL_law_1746 (tgt := 1751) rfl (fun q => ?_) (fun q => ?_)
      · replace h := it_t q h
        refine g_goto C dL_law_1751 (tgt := 2920) rfl ?_
        refine g_iinc C (lv' := [(5, .int (x5 + 5)), (7, .int r527), (6, .int r523), (0, .ref b), (1, .ref (w_r w 0)), (2, .ref (w_r w 292)), (3, .ref (w_r w 300)), (4, .ref (w_r w 301))]) (v := (x5 + 5)) dL_law_2920 7 rfl rfl (by decide) rfl ?_
        refine g_goto C dL_law_2923 (tgt := 28) rfl ?_
        refine g_sub [3, 4, 5, 6, 7, 0] (lv' := [(0, .ref b), (1, .ref (w_r w 0)), (2, .ref (w_r w 292)), (3, .ref (w_r w 300)), (4, .ref (w_r w 301)), (5, .int (x5 + 5))]) rfl ?_
        exact hl1 ((x5 + 5), d528) (Option.some.inj h).symm
      · replace h := it_f q h
        replace h := ir_2 h hx1
        refine g_iconst C dL_law_1749 (v := 0) rfl ?_
        exact (law_no h).elim
  · replace h := it_f q h
    replace h := ir_2 h hx1
    refine g_iconst C dL_law_1732 (v := 0) rfl ?_
    exact (law_no h).elim
set_option maxHeartbeats 4000000 in
set_option maxRecDepth 100000 in
theorem law_c_1754 {w : wT} {p : Program} {l : Launch} {e : Env} {R : Room} {s : State} {m : MethodId} {args : Array Value} {below : List Frame} {meth : Method} {c : Code} {b L k n : Nat} {xs : Nat → Int32} {Q : State → Prop} {x5 : Int32} {d dE : Dt} {y1 : (Int32 × Dt) ⊕ (Int32 × Dt)} (C : gC w p s m args c cL_law 9 RL) (hl9 : l.stackTraces = false) (hX : va_X b L xs s s.heap) (hb : ¬ A_W w b) (hR : R = gRmX 2048 603072 7194730) (hk : k + 8 ≤ 603072) (hn : n + 60 ≤ 7194730) (hE : ∀ (d : Dt) (lv : List (Nat × Value)), gG w p l e R s m args below meth c 9 603072 7194730 Q d lv 2927 [.int 1]) (hl1 : ∀ s1 : Int32 × Dt, y1 = .inl s1 → gG w p l e R s m args below meth c 9 (k + 8) (n + 60) Q s1.2 [(0, .ref b), (1, .ref (w_r w 0)), (2, .ref (w_r w 292)), (3, .ref (w_r w 300)), (4, .ref (w_r w 301)), (5, .int s1.1)] 28 []) (hx1 : ∀ z, y1 = .inr z → z = (1, dE)) (h : f_W_law_1754 L xs x5 d = some y1) : gG w p l e R s m args below meth c 9 k n Q d [(0, .ref b), (1, .ref (w_r w 0)), (2, .ref (w_r w 292)), (3, .ref (w_r w 300)), (4, .ref (w_r w 301)), (5, .int x5)] 1754 [] := by
  unfold f_W_law_1754 at h
  refine g_aload_n C dL_law_1754 1 rfl ?_
  refine g_aload_n C dL_law_1755 0 rfl ?_
  refine g_iload C dL_law_1756 5 rfl ?_
  refine g_iconst C dL_law_1758 (v := 1) rfl ?_
  refine g_iadd C dL_law_1759  ?_
  have hg532 := gd_1 h
  replace h := gd_2 h
  refine g_xald C hX hb hg532 dL_law_1760 ?_
  refine g_aload_n C dL_law_1761 3 rfl ?_
  obtain ⟨r533, d534, hc535, h⟩ := ob2_1 h
  refine g_callSW C (k + 8) (n + 60) hk_W_256 hR rfl (m_W_secondOf C.2.2.2.2.2.2.1 hl9 hc535) rfl rfl rfl dL_law_1762 rfl rfl (by omega) (by omega) ?_
  refine g_istore C (lv' := [(6, .int r533), (0, .ref b), (1, .ref (w_r w 0)), (2, .ref (w_r w 292)), (3, .ref (w_r w 300)), (4, .ref (w_r w 301)), (5, .int x5)]) dL_law_1765 (by decide) rfl ?_
  refine g_aload_n C dL_law_1767 3 rfl ?_
  refine g_aload_n C dL_law_1768 1 rfl ?_
  refine g_iload C dL_law_1769 6 rfl ?_
  refine g_iconst C dL_law_1771 (v := 1) rfl ?_
  refine g_iadd C dL_law_1772  ?_
  have hg536 := gd_1 h
  replace h := gd_2 h
  refine g_xald C hX hb hg536 dL_law_1773 ?_
  obtain ⟨r537, d538, hc539, h⟩ := ob2_1 h
  refine g_callVi C 292 q_292 vk_W_258 hR rfl (m_M_secondOf C.2.2.2.2.2.2.1 hc539) rfl rfl rfl dL_law_1774 (bleL (by omega)) (bleL (by omega)) ?_
  refine g_istore C (lv' := [(7, .int r537), (6, .int r533), (0, .ref b), (1, .ref (w_r w 0)), (2, .ref (w_r w 292)), (3, .ref (w_r w 300)), (4, .ref (w_r w 301)), (5, .int x5)]) dL_law_1777 (by decide) rfl ?_
  refine g_aload_n C dL_law_1779 4 rfl ?_
  obtain ⟨r540, hc541, h⟩ := ob1_1 h
  refine g_callVi C 292 q_292 vk_W_162 hR rfl (m_M_thrown C.2.2.2.2.2.2.1 hc541) rfl rfl rfl dL_law_1780 (bleL (by omega)) (bleL (by omega)) ?_
  refine g_iload C dL_law_1783 1 rfl ?_
  refine g_icmp_eq C dL_law_1785 (tgt := 1790) rfl (fun q => ?_) (fun q => ?_)
  · replace h := it_t q h
    refine g_iload C dL_law_1790 1 rfl ?_
    refine g_if_ne C dL_law_1792 (tgt := 1807) rfl (fun q => ?_) (fun q => ?_)
    · replace h := it_f q h
      refine g_goto C dL_law_1807 (tgt := 2920) rfl ?_
      refine g_iinc C (lv' := [(5, .int (x5 + 5)), (7, .int r537), (6, .int r533), (0, .ref b), (1, .ref (w_r w 0)), (2, .ref (w_r w 292)), (3, .ref (w_r w 300)), (4, .ref (w_r w 301))]) (v := (x5 + 5)) dL_law_2920 7 rfl rfl (by decide) rfl ?_
      refine g_goto C dL_law_2923 (tgt := 28) rfl ?_
      refine g_sub [3, 4, 5, 6, 7, 0] (lv' := [(0, .ref b), (1, .ref (w_r w 0)), (2, .ref (w_r w 292)), (3, .ref (w_r w 300)), (4, .ref (w_r w 301)), (5, .int (x5 + 5))]) rfl ?_
      exact hl1 ((x5 + 5), d538) (Option.some.inj h).symm
    · replace h := it_t q h
      refine g_aload_n C dL_law_1795 5 rfl ?_
      refine g_iconst C dL_law_1796 (v := 0) rfl ?_
      refine g_lald C 300 q_300 (by decide) 0 (by decide) dL_law_1797 ?_
      refine g_iload C dL_law_1798 0 rfl ?_
      refine g_i2l C dL_law_1800  ?_
      refine g_lcmpeq C dL_law_1801 dL_law_1802 (tgt := 1807) rfl (fun q => ?_) (fun q => ?_)
      · replace h := it_t q h
        refine g_goto C dL_law_1807 (tgt := 2920) rfl ?_
        refine g_iinc C (lv' := [(5, .int (x5 + 5)), (7, .int r537), (6, .int r533), (0, .ref b), (1, .ref (w_r w 0)), (2, .ref (w_r w 292)), (3, .ref (w_r w 300)), (4, .ref (w_r w 301))]) (v := (x5 + 5)) dL_law_2920 7 rfl rfl (by decide) rfl ?_
        refine g_goto C dL_law_2923 (tgt := 28) rfl ?_
        refine g_sub [3, 4, 5, 6, 7, 0] (lv' := [(0, .ref b), (1, .ref (w_r w 0)), (2, .ref (w_r w 292)), (3, .ref (w_r w 300)), (4, .ref (w_r w 301)), (5, .int (x5 + 5))]) rfl ?_
        exact hl1 ((x5 + 5), d538) (Option.some.inj h).symm
      · replace h := it_f q h
        replace h := ir_2 h hx1
        refine g_iconst C dL_law_1805 (v := 0) rfl ?_
        exact (law_no h).elim
  · replace h := it_f q h
    replace h := ir_2 h hx1
    refine g_iconst C dL_law_1788 (v := 0) rfl ?_
    exact (law_no h).elim
set_option maxHeartbeats 4000000 in
set_option maxRecDepth 100000 in
theorem law_c_1810 {w : wT} {p : Program} {l : Launch} {e : Env} {R : Room} {s : State} {m : MethodId} {args : Array Value} {below : List Frame} {meth : Method} {c : Code} {b L k n : Nat} {xs : Nat → Int32} {Q : State → Prop} {x5 : Int32} {d dE : Dt} {y1 : (Int32 × Dt) ⊕ (Int32 × Dt)} (C : gC w p s m args c cL_law 9 RL) (hl9 : l.stackTraces = false) (hX : va_X b L xs s s.heap) (hb : ¬ A_W w b) (hR : R = gRmX 2048 603072 7194730) (hk : k + 8 ≤ 603072) (hn : n + 60 ≤ 7194730) (hE : ∀ (d : Dt) (lv : List (Nat × Value)), gG w p l e R s m args below meth c 9 603072 7194730 Q d lv 2927 [.int 1]) (hl1 : ∀ s1 : Int32 × Dt, y1 = .inl s1 → gG w p l e R s m args below meth c 9 (k + 8) (n + 60) Q s1.2 [(0, .ref b), (1, .ref (w_r w 0)), (2, .ref (w_r w 292)), (3, .ref (w_r w 300)), (4, .ref (w_r w 301)), (5, .int s1.1)] 28 []) (hx1 : ∀ z, y1 = .inr z → z = (1, dE)) (h : f_W_law_1810 L xs x5 d = some y1) : gG w p l e R s m args below meth c 9 k n Q d [(0, .ref b), (1, .ref (w_r w 0)), (2, .ref (w_r w 292)), (3, .ref (w_r w 300)), (4, .ref (w_r w 301)), (5, .int x5)] 1810 [] := by
  have R1864 : ∀ (x5 : Int32) (v0 : Int32) (v1 : Int32) (d : Dt), f_W_law_1864 L xs x5 v0 v1 d = some y1 → gG w p l e R s m args below meth c 9 (k + 8) (n + 60) Q d [(0, .ref b), (1, .ref (w_r w 0)), (2, .ref (w_r w 292)), (3, .ref (w_r w 300)), (4, .ref (w_r w 301)), (5, .int x5)] 1864 [.long (v1).toInt64, .long (v0).toInt64] := by
    intro x5 v0 v1 d  h
    unfold f_W_law_1864 at h
    refine g_lcmpeq C dL_law_1864 dL_law_1865 (tgt := 1870) rfl (fun q => ?_) (fun q => ?_)
    · replace h := it_t q h
      refine g_goto C dL_law_1870 (tgt := 2920) rfl ?_
      refine g_iinc C (lv' := [(5, .int (x5 + 5)), (0, .ref b), (1, .ref (w_r w 0)), (2, .ref (w_r w 292)), (3, .ref (w_r w 300)), (4, .ref (w_r w 301))]) (v := (x5 + 5)) dL_law_2920 5 rfl rfl (by decide) rfl ?_
      refine g_goto C dL_law_2923 (tgt := 28) rfl ?_
      refine g_sub [1, 2, 3, 4, 5, 0] (lv' := [(0, .ref b), (1, .ref (w_r w 0)), (2, .ref (w_r w 292)), (3, .ref (w_r w 300)), (4, .ref (w_r w 301)), (5, .int (x5 + 5))]) rfl ?_
      refine g_widP (k + 8) (n + 60) (by omega) (by omega) ?_
      exact hl1 ((x5 + 5), d) (Option.some.inj h).symm
    · replace h := it_f q h
      replace h := ir_2 h hx1
      refine g_iconst C dL_law_1868 (v := 0) rfl ?_
      exact (law_no h).elim
  unfold f_W_law_1810 at h
  refine g_aload_n C dL_law_1810 1 rfl ?_
  refine g_aload_n C dL_law_1811 0 rfl ?_
  refine g_iload C dL_law_1812 5 rfl ?_
  refine g_iconst C dL_law_1814 (v := 1) rfl ?_
  refine g_iadd C dL_law_1815  ?_
  have hg542 := gd_1 h
  replace h := gd_2 h
  refine g_xald C hX hb hg542 dL_law_1816 ?_
  refine g_aload_n C dL_law_1817 3 rfl ?_
  obtain ⟨r543, d544, hc545, h⟩ := ob2_1 h
  refine g_callSW C (k + 8) (n + 60) hk_W_259 hR rfl (m_W_isTogether C.2.2.2.2.2.2.1 hl9 hc545) rfl rfl rfl dL_law_1818 rfl rfl (by omega) (by omega) ?_
  refine g_istore C (lv' := [(6, .int r543), (0, .ref b), (1, .ref (w_r w 0)), (2, .ref (w_r w 292)), (3, .ref (w_r w 300)), (4, .ref (w_r w 301)), (5, .int x5)]) dL_law_1821 (by decide) rfl ?_
  refine g_aload_n C dL_law_1823 3 rfl ?_
  refine g_aload_n C dL_law_1824 1 rfl ?_
  refine g_iload C dL_law_1825 6 rfl ?_
  refine g_iconst C dL_law_1827 (v := 1) rfl ?_
  refine g_iadd C dL_law_1828  ?_
  have hg546 := gd_1 h
  replace h := gd_2 h
  refine g_xald C hX hb hg546 dL_law_1829 ?_
  obtain ⟨r547, d548, hc549, h⟩ := ob2_1 h
  refine g_callVi C 292 q_292 vk_W_261 hR rfl (m_M_isTogether C.2.2.2.2.2.2.1 hc549) rfl rfl rfl dL_law_1830 (bleL (by omega)) (bleL (by omega)) ?_
  refine g_istore C (lv' := [(7, .int r547), (6, .int r543), (0, .ref b), (1, .ref (w_r w 0)), (2, .ref (w_r w 292)), (3, .ref (w_r w 300)), (4, .ref (w_r w 301)), (5, .int x5)]) dL_law_1833 (by decide) rfl ?_
  refine g_aload_n C dL_law_1835 4 rfl ?_
  obtain ⟨r550, hc551, h⟩ := ob1_1 h
  refine g_callVi C 292 q_292 vk_W_162 hR rfl (m_M_thrown C.2.2.2.2.2.2.1 hc551) rfl rfl rfl dL_law_1836 (bleL (by omega)) (bleL (by omega)) ?_
  refine g_iload C dL_law_1839 1 rfl ?_
  refine g_icmp_eq C dL_law_1841 (tgt := 1846) rfl (fun q => ?_) (fun q => ?_)
  · replace h := it_t q h
    refine g_iload C dL_law_1846 1 rfl ?_
    refine g_if_ne C dL_law_1848 (tgt := 1870) rfl (fun q => ?_) (fun q => ?_)
    · replace h := it_f q h
      refine g_goto C dL_law_1870 (tgt := 2920) rfl ?_
      refine g_iinc C (lv' := [(5, .int (x5 + 5)), (7, .int r547), (6, .int r543), (0, .ref b), (1, .ref (w_r w 0)), (2, .ref (w_r w 292)), (3, .ref (w_r w 300)), (4, .ref (w_r w 301))]) (v := (x5 + 5)) dL_law_2920 7 rfl rfl (by decide) rfl ?_
      refine g_goto C dL_law_2923 (tgt := 28) rfl ?_
      refine g_sub [3, 4, 5, 6, 7, 0] (lv' := [(0, .ref b), (1, .ref (w_r w 0)), (2, .ref (w_r w 292)), (3, .ref (w_r w 300)), (4, .ref (w_r w 301)), (5, .int (x5 + 5))]) rfl ?_
      exact hl1 ((x5 + 5), d548) (Option.some.inj h).symm
    · replace h := it_t q h
      refine g_aload_n C dL_law_1851 5 rfl ?_
      refine g_iconst C dL_law_1852 (v := 0) rfl ?_
      refine g_lald C 300 q_300 (by decide) 0 (by decide) dL_law_1853 ?_
      refine g_iload C dL_law_1854 0 rfl ?_
      refine g_if_eq C dL_law_1856 (tgt := 1863) rfl (fun q => ?_) (fun q => ?_)
      · replace h := it_t q h
        refine g_lconst C dL_law_1863 (v := 0) (by decide) ?_
        refine g_sub [2, 3, 4, 5, 6, 7] (lv' := [(0, .ref b), (1, .ref (w_r w 0)), (2, .ref (w_r w 292)), (3, .ref (w_r w 300)), (4, .ref (w_r w 301)), (5, .int x5)]) rfl ?_
        exact R1864 x5 (d548 300 0) 0 d548 h
      · replace h := it_f q h
        refine g_lconst C dL_law_1859 (v := 1) (by decide) ?_
        refine g_goto C dL_law_1860 (tgt := 1864) rfl ?_
        refine g_sub [2, 3, 4, 5, 6, 7] (lv' := [(0, .ref b), (1, .ref (w_r w 0)), (2, .ref (w_r w 292)), (3, .ref (w_r w 300)), (4, .ref (w_r w 301)), (5, .int x5)]) rfl ?_
        exact R1864 x5 (d548 300 0) 1 d548 h
  · replace h := it_f q h
    replace h := ir_2 h hx1
    refine g_iconst C dL_law_1844 (v := 0) rfl ?_
    exact (law_no h).elim
set_option maxHeartbeats 4000000 in
set_option maxRecDepth 100000 in
theorem law_c_1873 {w : wT} {p : Program} {l : Launch} {e : Env} {R : Room} {s : State} {m : MethodId} {args : Array Value} {below : List Frame} {meth : Method} {c : Code} {b L k n : Nat} {xs : Nat → Int32} {Q : State → Prop} {x5 : Int32} {d dE : Dt} {y1 : (Int32 × Dt) ⊕ (Int32 × Dt)} (C : gC w p s m args c cL_law 9 RL) (hl9 : l.stackTraces = false) (hX : va_X b L xs s s.heap) (hb : ¬ A_W w b) (hR : R = gRmX 2048 603072 7194730) (hk : k + 8 ≤ 603072) (hn : n + 60 ≤ 7194730) (hE : ∀ (d : Dt) (lv : List (Nat × Value)), gG w p l e R s m args below meth c 9 603072 7194730 Q d lv 2927 [.int 1]) (hl1 : ∀ s1 : Int32 × Dt, y1 = .inl s1 → gG w p l e R s m args below meth c 9 (k + 8) (n + 60) Q s1.2 [(0, .ref b), (1, .ref (w_r w 0)), (2, .ref (w_r w 292)), (3, .ref (w_r w 300)), (4, .ref (w_r w 301)), (5, .int s1.1)] 28 []) (hx1 : ∀ z, y1 = .inr z → z = (1, dE)) (h : f_W_law_1873 L xs x5 d = some y1) : gG w p l e R s m args below meth c 9 k n Q d [(0, .ref b), (1, .ref (w_r w 0)), (2, .ref (w_r w 292)), (3, .ref (w_r w 300)), (4, .ref (w_r w 301)), (5, .int x5)] 1873 [] := by
  unfold f_W_law_1873 at h
  refine g_aload_n C dL_law_1873 1 rfl ?_
  obtain ⟨r552, d553, hc554, h⟩ := ob2_1 h
  refine g_callVi C 0 q_0 vk_W_262 hR rfl (m_C_groupCount C.2.2.2.2.2.2.1 hc554) rfl rfl rfl dL_law_1874 (bleL (by omega)) (bleL (by omega)) ?_
  refine g_aload_n C dL_law_1877 2 rfl ?_
  obtain ⟨r555, d556, hc557, h⟩ := ob2_1 h
  refine g_callVi C 292 q_292 vk_W_265 hR rfl (m_M_groupCount C.2.2.2.2.2.2.1 hc557) rfl rfl rfl dL_law_1878 (bleL (by omega)) (bleL (by omega)) ?_
  refine g_icmp_eq C dL_law_1881 (tgt := 2920) rfl (fun q => ?_) (fun q => ?_)
  · replace h := it_t q h
    refine g_iinc C (lv' := [(5, .int (x5 + 5)), (0, .ref b), (1, .ref (w_r w 0)), (2, .ref (w_r w 292)), (3, .ref (w_r w 300)), (4, .ref (w_r w 301))]) (v := (x5 + 5)) dL_law_2920 5 rfl rfl (by decide) rfl ?_
    refine g_goto C dL_law_2923 (tgt := 28) rfl ?_
    refine g_sub [1, 2, 3, 4, 5, 0] (lv' := [(0, .ref b), (1, .ref (w_r w 0)), (2, .ref (w_r w 292)), (3, .ref (w_r w 300)), (4, .ref (w_r w 301)), (5, .int (x5 + 5))]) rfl ?_
    refine g_widP (k + 8) (n + 60) (by omega) (by omega) ?_
    exact hl1 ((x5 + 5), d556) (Option.some.inj h).symm
  · replace h := it_f q h
    replace h := ir_2 h hx1
    refine g_iconst C dL_law_1884 (v := 0) rfl ?_
    exact (law_no h).elim
set_option maxHeartbeats 4000000 in
set_option maxRecDepth 100000 in
theorem law_c_1886 {w : wT} {p : Program} {l : Launch} {e : Env} {R : Room} {s : State} {m : MethodId} {args : Array Value} {below : List Frame} {meth : Method} {c : Code} {b L k n : Nat} {xs : Nat → Int32} {Q : State → Prop} {x5 : Int32} {d dE : Dt} {y1 : (Int32 × Dt) ⊕ (Int32 × Dt)} (C : gC w p s m args c cL_law 9 RL) (hl9 : l.stackTraces = false) (hX : va_X b L xs s s.heap) (hb : ¬ A_W w b) (hR : R = gRmX 2048 603072 7194730) (hk : k + 8 ≤ 603072) (hn : n + 60 ≤ 7194730) (hE : ∀ (d : Dt) (lv : List (Nat × Value)), gG w p l e R s m args below meth c 9 603072 7194730 Q d lv 2927 [.int 1]) (hl1 : ∀ s1 : Int32 × Dt, y1 = .inl s1 → gG w p l e R s m args below meth c 9 (k + 8) (n + 60) Q s1.2 [(0, .ref b), (1, .ref (w_r w 0)), (2, .ref (w_r w 292)), (3, .ref (w_r w 300)), (4, .ref (w_r w 301)), (5, .int s1.1)] 28 []) (hx1 : ∀ z, y1 = .inr z → z = (1, dE)) (h : f_W_law_1886 L xs x5 d = some y1) : gG w p l e R s m args below meth c 9 k n Q d [(0, .ref b), (1, .ref (w_r w 0)), (2, .ref (w_r w 292)), (3, .ref (w_r w 300)), (4, .ref (w_r w 301)), (5, .int x5)] 1886 [] := by
  have R1940 : ∀ (x5 : Int32) (v0 : Int32) (v1 : Int32) (d : Dt), f_W_law_1940 L xs x5 v0 v1 d = some y1 → gG w p l e R s m args below meth c 9 (k + 8) (n + 60) Q d [(0, .ref b), (1, .ref (w_r w 0)), (2, .ref (w_r w 292)), (3, .ref (w_r w 300)), (4, .ref (w_r w 301)), (5, .int x5)] 1940 [.long (v1).toInt64, .long (v0).toInt64] := by
    intro x5 v0 v1 d  h
    unfold f_W_law_1940 at h
    refine g_lcmpeq C dL_law_1940 dL_law_1941 (tgt := 1946) rfl (fun q => ?_) (fun q => ?_)
    · replace h := it_t q h
      refine g_goto C dL_law_1946 (tgt := 2920) rfl ?_
      refine g_iinc C (lv' := [(5, .int (x5 + 5)), (0, .ref b), (1, .ref (w_r w 0)), (2, .ref (w_r w 292)), (3, .ref (w_r w 300)), (4, .ref (w_r w 301))]) (v := (x5 + 5)) dL_law_2920 5 rfl rfl (by decide) rfl ?_
      refine g_goto C dL_law_2923 (tgt := 28) rfl ?_
      refine g_sub [1, 2, 3, 4, 5, 0] (lv' := [(0, .ref b), (1, .ref (w_r w 0)), (2, .ref (w_r w 292)), (3, .ref (w_r w 300)), (4, .ref (w_r w 301)), (5, .int (x5 + 5))]) rfl ?_
      refine g_widP (k + 8) (n + 60) (by omega) (by omega) ?_
      exact hl1 ((x5 + 5), d) (Option.some.inj h).symm
    · replace h := it_f q h
      replace h := ir_2 h hx1
      refine g_iconst C dL_law_1944 (v := 0) rfl ?_
      exact (law_no h).elim
  unfold f_W_law_1886 at h
  refine g_aload_n C dL_law_1886 1 rfl ?_
  refine g_aload_n C dL_law_1887 0 rfl ?_
  refine g_iload C dL_law_1888 5 rfl ?_
  refine g_iconst C dL_law_1890 (v := 1) rfl ?_
  refine g_iadd C dL_law_1891  ?_
  have hg558 := gd_1 h
  replace h := gd_2 h
  refine g_xald C hX hb hg558 dL_law_1892 ?_
  refine g_aload_n C dL_law_1893 3 rfl ?_
  obtain ⟨r559, d560, hc561, h⟩ := ob2_1 h
  refine g_callSW C (k + 8) (n + 60) hk_W_266 hR rfl (m_W_isContradictory C.2.2.2.2.2.2.1 hl9 hc561) rfl rfl rfl dL_law_1894 rfl rfl (by omega) (by omega) ?_
  refine g_istore C (lv' := [(6, .int r559), (0, .ref b), (1, .ref (w_r w 0)), (2, .ref (w_r w 292)), (3, .ref (w_r w 300)), (4, .ref (w_r w 301)), (5, .int x5)]) dL_law_1897 (by decide) rfl ?_
  refine g_aload_n C dL_law_1899 3 rfl ?_
  refine g_aload_n C dL_law_1900 1 rfl ?_
  refine g_iload C dL_law_1901 6 rfl ?_
  refine g_iconst C dL_law_1903 (v := 1) rfl ?_
  refine g_iadd C dL_law_1904  ?_
  have hg562 := gd_1 h
  replace h := gd_2 h
  refine g_xald C hX hb hg562 dL_law_1905 ?_
  obtain ⟨r563, d564, hc565, h⟩ := ob2_1 h
  refine g_callVi C 292 q_292 vk_W_268 hR rfl (m_M_isContradictory C.2.2.2.2.2.2.1 hc565) rfl rfl rfl dL_law_1906 (bleL (by omega)) (bleL (by omega)) ?_
  refine g_istore C (lv' := [(7, .int r563), (6, .int r559), (0, .ref b), (1, .ref (w_r w 0)), (2, .ref (w_r w 292)), (3, .ref (w_r w 300)), (4, .ref (w_r w 301)), (5, .int x5)]) dL_law_1909 (by decide) rfl ?_
  refine g_aload_n C dL_law_1911 4 rfl ?_
  obtain ⟨r566, hc567, h⟩ := ob1_1 h
  refine g_callVi C 292 q_292 vk_W_162 hR rfl (m_M_thrown C.2.2.2.2.2.2.1 hc567) rfl rfl rfl dL_law_1912 (bleL (by omega)) (bleL (by omega)) ?_
  refine g_iload C dL_law_1915 1 rfl ?_
  refine g_icmp_eq C dL_law_1917 (tgt := 1922) rfl (fun q => ?_) (fun q => ?_)
  · replace h := it_t q h
    refine g_iload C dL_law_1922 1 rfl ?_
    refine g_if_ne C dL_law_1924 (tgt := 1946) rfl (fun q => ?_) (fun q => ?_)
    · replace h := it_f q h
      refine g_goto C dL_law_1946 (tgt := 2920) rfl ?_
      refine g_iinc C (lv' := [(5, .int (x5 + 5)), (7, .int r563), (6, .int r559), (0, .ref b), (1, .ref (w_r w 0)), (2, .ref (w_r w 292)), (3, .ref (w_r w 300)), (4, .ref (w_r w 301))]) (v := (x5 + 5)) dL_law_2920 7 rfl rfl (by decide) rfl ?_
      refine g_goto C dL_law_2923 (tgt := 28) rfl ?_
      refine g_sub [3, 4, 5, 6, 7, 0] (lv' := [(0, .ref b), (1, .ref (w_r w 0)), (2, .ref (w_r w 292)), (3, .ref (w_r w 300)), (4, .ref (w_r w 301)), (5, .int (x5 + 5))]) rfl ?_
      exact hl1 ((x5 + 5), d564) (Option.some.inj h).symm
    · replace h := it_t q h
      refine g_aload_n C dL_law_1927 5 rfl ?_
      refine g_iconst C dL_law_1928 (v := 0) rfl ?_
      refine g_lald C 300 q_300 (by decide) 0 (by decide) dL_law_1929 ?_
      refine g_iload C dL_law_1930 0 rfl ?_
      refine g_if_eq C dL_law_1932 (tgt := 1939) rfl (fun q => ?_) (fun q => ?_)
      · replace h := it_t q h
        refine g_lconst C dL_law_1939 (v := 0) (by decide) ?_
        refine g_sub [2, 3, 4, 5, 6, 7] (lv' := [(0, .ref b), (1, .ref (w_r w 0)), (2, .ref (w_r w 292)), (3, .ref (w_r w 300)), (4, .ref (w_r w 301)), (5, .int x5)]) rfl ?_
        exact R1940 x5 (d564 300 0) 0 d564 h
      · replace h := it_f q h
        refine g_lconst C dL_law_1935 (v := 1) (by decide) ?_
        refine g_goto C dL_law_1936 (tgt := 1940) rfl ?_
        refine g_sub [2, 3, 4, 5, 6, 7] (lv' := [(0, .ref b), (1, .ref (w_r w 0)), (2, .ref (w_r w 292)), (3, .ref (w_r w 300)), (4, .ref (w_r w 301)), (5, .int x5)]) rfl ?_
        exact R1940 x5 (d564 300 0) 1 d564 h
  · replace h := it_f q h
    replace h := ir_2 h hx1
    refine g_iconst C dL_law_1920 (v := 0) rfl ?_
    exact (law_no h).elim
set_option maxHeartbeats 4000000 in
set_option maxRecDepth 100000 in
theorem law_c_1949 {w : wT} {p : Program} {l : Launch} {e : Env} {R : Room} {s : State} {m : MethodId} {args : Array Value} {below : List Frame} {meth : Method} {c : Code} {b L k n : Nat} {xs : Nat → Int32} {Q : State → Prop} {x5 : Int32} {d dE : Dt} {y1 : (Int32 × Dt) ⊕ (Int32 × Dt)} (C : gC w p s m args c cL_law 9 RL) (hl9 : l.stackTraces = false) (hX : va_X b L xs s s.heap) (hb : ¬ A_W w b) (hR : R = gRmX 2048 603072 7194730) (hk : k + 8 ≤ 603072) (hn : n + 60 ≤ 7194730) (hE : ∀ (d : Dt) (lv : List (Nat × Value)), gG w p l e R s m args below meth c 9 603072 7194730 Q d lv 2927 [.int 1]) (hl1 : ∀ s1 : Int32 × Dt, y1 = .inl s1 → gG w p l e R s m args below meth c 9 (k + 8) (n + 60) Q s1.2 [(0, .ref b), (1, .ref (w_r w 0)), (2, .ref (w_r w 292)), (3, .ref (w_r w 300)), (4, .ref (w_r w 301)), (5, .int s1.1)] 28 []) (hx1 : ∀ z, y1 = .inr z → z = (1, dE)) (h : f_W_law_1949 L xs x5 d = some y1) : gG w p l e R s m args below meth c 9 k n Q d [(0, .ref b), (1, .ref (w_r w 0)), (2, .ref (w_r w 292)), (3, .ref (w_r w 300)), (4, .ref (w_r w 301)), (5, .int x5)] 1949 [] := by
  unfold f_W_law_1949 at h
  refine g_aload_n C dL_law_1949 1 rfl ?_
  refine g_aload_n C dL_law_1950 0 rfl ?_
  refine g_iload C dL_law_1951 5 rfl ?_
  refine g_iconst C dL_law_1953 (v := 1) rfl ?_
  refine g_iadd C dL_law_1954  ?_
  have hg568 := gd_1 h
  replace h := gd_2 h
  refine g_xald C hX hb hg568 dL_law_1955 ?_
  refine g_aload_n C dL_law_1956 0 rfl ?_
  refine g_iload C dL_law_1957 5 rfl ?_
  refine g_iconst C dL_law_1959 (v := 2) rfl ?_
  refine g_iadd C dL_law_1960  ?_
  have hg569 := gd_1 h
  replace h := gd_2 h
  refine g_xald C hX hb hg569 dL_law_1961 ?_
  refine g_aload_n C dL_law_1962 3 rfl ?_
  obtain ⟨r570, d571, hc572, h⟩ := ob2_1 h
  refine g_callSW C (k + 8) (n + 60) hk_W_269 hR rfl (m_W_relation C.2.2.2.2.2.2.1 hl9 hc572) rfl rfl rfl dL_law_1963 rfl rfl (by omega) (by omega) ?_
  refine g_istore C (lv' := [(6, .int r570), (0, .ref b), (1, .ref (w_r w 0)), (2, .ref (w_r w 292)), (3, .ref (w_r w 300)), (4, .ref (w_r w 301)), (5, .int x5)]) dL_law_1966 (by decide) rfl ?_
  refine g_aload_n C dL_law_1968 3 rfl ?_
  refine g_aload_n C dL_law_1969 1 rfl ?_
  refine g_iload C dL_law_1970 6 rfl ?_
  refine g_iconst C dL_law_1972 (v := 1) rfl ?_
  refine g_iadd C dL_law_1973  ?_
  have hg573 := gd_1 h
  replace h := gd_2 h
  refine g_xald C hX hb hg573 dL_law_1974 ?_
  refine g_aload_n C dL_law_1975 1 rfl ?_
  refine g_iload C dL_law_1976 6 rfl ?_
  refine g_iconst C dL_law_1978 (v := 2) rfl ?_
  refine g_iadd C dL_law_1979  ?_
  have hg574 := gd_1 h
  replace h := gd_2 h
  refine g_xald C hX hb hg574 dL_law_1980 ?_
  obtain ⟨r575, d576, hc577, h⟩ := ob2_1 h
  refine g_callVi C 292 q_292 vk_W_272 hR rfl (m_M_relation C.2.2.2.2.2.2.1 hc577) rfl rfl rfl dL_law_1981 (bleL (by omega)) (bleL (by omega)) ?_
  refine g_istore C (lv' := [(7, .int r575), (6, .int r570), (0, .ref b), (1, .ref (w_r w 0)), (2, .ref (w_r w 292)), (3, .ref (w_r w 300)), (4, .ref (w_r w 301)), (5, .int x5)]) dL_law_1984 (by decide) rfl ?_
  refine g_aload_n C dL_law_1986 4 rfl ?_
  obtain ⟨r578, hc579, h⟩ := ob1_1 h
  refine g_callVi C 292 q_292 vk_W_162 hR rfl (m_M_thrown C.2.2.2.2.2.2.1 hc579) rfl rfl rfl dL_law_1987 (bleL (by omega)) (bleL (by omega)) ?_
  refine g_iload C dL_law_1990 1 rfl ?_
  refine g_icmp_eq C dL_law_1992 (tgt := 1997) rfl (fun q => ?_) (fun q => ?_)
  · replace h := it_t q h
    refine g_iload C dL_law_1997 1 rfl ?_
    refine g_if_ne C dL_law_1999 (tgt := 2014) rfl (fun q => ?_) (fun q => ?_)
    · replace h := it_f q h
      refine g_goto C dL_law_2014 (tgt := 2920) rfl ?_
      refine g_iinc C (lv' := [(5, .int (x5 + 5)), (7, .int r575), (6, .int r570), (0, .ref b), (1, .ref (w_r w 0)), (2, .ref (w_r w 292)), (3, .ref (w_r w 300)), (4, .ref (w_r w 301))]) (v := (x5 + 5)) dL_law_2920 7 rfl rfl (by decide) rfl ?_
      refine g_goto C dL_law_2923 (tgt := 28) rfl ?_
      refine g_sub [3, 4, 5, 6, 7, 0] (lv' := [(0, .ref b), (1, .ref (w_r w 0)), (2, .ref (w_r w 292)), (3, .ref (w_r w 300)), (4, .ref (w_r w 301)), (5, .int (x5 + 5))]) rfl ?_
      exact hl1 ((x5 + 5), d576) (Option.some.inj h).symm
    · replace h := it_t q h
      refine g_aload_n C dL_law_2002 5 rfl ?_
      refine g_iconst C dL_law_2003 (v := 0) rfl ?_
      refine g_lald C 300 q_300 (by decide) 0 (by decide) dL_law_2004 ?_
      refine g_iload C dL_law_2005 0 rfl ?_
      refine g_i2l C dL_law_2007  ?_
      refine g_lcmpeq C dL_law_2008 dL_law_2009 (tgt := 2014) rfl (fun q => ?_) (fun q => ?_)
      · replace h := it_t q h
        refine g_goto C dL_law_2014 (tgt := 2920) rfl ?_
        refine g_iinc C (lv' := [(5, .int (x5 + 5)), (7, .int r575), (6, .int r570), (0, .ref b), (1, .ref (w_r w 0)), (2, .ref (w_r w 292)), (3, .ref (w_r w 300)), (4, .ref (w_r w 301))]) (v := (x5 + 5)) dL_law_2920 7 rfl rfl (by decide) rfl ?_
        refine g_goto C dL_law_2923 (tgt := 28) rfl ?_
        refine g_sub [3, 4, 5, 6, 7, 0] (lv' := [(0, .ref b), (1, .ref (w_r w 0)), (2, .ref (w_r w 292)), (3, .ref (w_r w 300)), (4, .ref (w_r w 301)), (5, .int (x5 + 5))]) rfl ?_
        exact hl1 ((x5 + 5), d576) (Option.some.inj h).symm
      · replace h := it_f q h
        replace h := ir_2 h hx1
        refine g_iconst C dL_law_2012 (v := 0) rfl ?_
        exact (law_no h).elim
  · replace h := it_f q h
    replace h := ir_2 h hx1
    refine g_iconst C dL_law_1995 (v := 0) rfl ?_
    exact (law_no h).elim
set_option maxHeartbeats 4000000 in
set_option maxRecDepth 100000 in
theorem law_c_2017 {w : wT} {p : Program} {l : Launch} {e : Env} {R : Room} {s : State} {m : MethodId} {args : Array Value} {below : List Frame} {meth : Method} {c : Code} {b L k n : Nat} {xs : Nat → Int32} {Q : State → Prop} {x5 : Int32} {d dE : Dt} {y1 : (Int32 × Dt) ⊕ (Int32 × Dt)} (C : gC w p s m args c cL_law 9 RL) (hl9 : l.stackTraces = false) (hX : va_X b L xs s s.heap) (hb : ¬ A_W w b) (hR : R = gRmX 2048 603072 7194730) (hk : k + 8 ≤ 603072) (hn : n + 60 ≤ 7194730) (hE : ∀ (d : Dt) (lv : List (Nat × Value)), gG w p l e R s m args below meth c 9 603072 7194730 Q d lv 2927 [.int 1]) (hl1 : ∀ s1 : Int32 × Dt, y1 = .inl s1 → gG w p l e R s m args below meth c 9 (k + 8) (n + 60) Q s1.2 [(0, .ref b), (1, .ref (w_r w 0)), (2, .ref (w_r w 292)), (3, .ref (w_r w 300)), (4, .ref (w_r w 301)), (5, .int s1.1)] 28 []) (hx1 : ∀ z, y1 = .inr z → z = (1, dE)) (h : f_W_law_2017 L xs x5 d = some y1) : gG w p l e R s m args below meth c 9 k n Q d [(0, .ref b), (1, .ref (w_r w 0)), (2, .ref (w_r w 292)), (3, .ref (w_r w 300)), (4, .ref (w_r w 301)), (5, .int x5)] 2017 [] := by
  unfold f_W_law_2017 at h
  refine g_aload_n C dL_law_2017 1 rfl ?_
  refine g_aload_n C dL_law_2018 0 rfl ?_
  refine g_iload C dL_law_2019 5 rfl ?_
  refine g_iconst C dL_law_2021 (v := 1) rfl ?_
  refine g_iadd C dL_law_2022  ?_
  have hg580 := gd_1 h
  replace h := gd_2 h
  refine g_xald C hX hb hg580 dL_law_2023 ?_
  refine g_aload_n C dL_law_2024 3 rfl ?_
  obtain ⟨r581, d582, hc583, h⟩ := ob2_1 h
  refine g_callSW C (k + 8) (n + 60) hk_W_273 hR rfl (m_W_verdict C.2.2.2.2.2.2.1 hl9 hc583) rfl rfl rfl dL_law_2025 rfl rfl (by omega) (by omega) ?_
  refine g_istore C (lv' := [(6, .int r581), (0, .ref b), (1, .ref (w_r w 0)), (2, .ref (w_r w 292)), (3, .ref (w_r w 300)), (4, .ref (w_r w 301)), (5, .int x5)]) dL_law_2028 (by decide) rfl ?_
  refine g_aload_n C dL_law_2030 3 rfl ?_
  refine g_aload_n C dL_law_2031 1 rfl ?_
  refine g_iload C dL_law_2032 6 rfl ?_
  refine g_iconst C dL_law_2034 (v := 1) rfl ?_
  refine g_iadd C dL_law_2035  ?_
  have hg584 := gd_1 h
  replace h := gd_2 h
  refine g_xald C hX hb hg584 dL_law_2036 ?_
  obtain ⟨r585, d586, hc587, h⟩ := ob2_1 h
  refine g_callVi C 292 q_292 vk_W_275 hR rfl (m_M_verdict C.2.2.2.2.2.2.1 hc587) rfl rfl rfl dL_law_2037 (bleL (by omega)) (bleL (by omega)) ?_
  refine g_istore C (lv' := [(7, .int r585), (6, .int r581), (0, .ref b), (1, .ref (w_r w 0)), (2, .ref (w_r w 292)), (3, .ref (w_r w 300)), (4, .ref (w_r w 301)), (5, .int x5)]) dL_law_2040 (by decide) rfl ?_
  refine g_aload_n C dL_law_2042 4 rfl ?_
  obtain ⟨r588, hc589, h⟩ := ob1_1 h
  refine g_callVi C 292 q_292 vk_W_162 hR rfl (m_M_thrown C.2.2.2.2.2.2.1 hc589) rfl rfl rfl dL_law_2043 (bleL (by omega)) (bleL (by omega)) ?_
  refine g_iload C dL_law_2046 1 rfl ?_
  refine g_icmp_eq C dL_law_2048 (tgt := 2053) rfl (fun q => ?_) (fun q => ?_)
  · replace h := it_t q h
    refine g_iload C dL_law_2053 1 rfl ?_
    refine g_if_ne C dL_law_2055 (tgt := 2070) rfl (fun q => ?_) (fun q => ?_)
    · replace h := it_f q h
      refine g_goto C dL_law_2070 (tgt := 2920) rfl ?_
      refine g_iinc C (lv' := [(5, .int (x5 + 5)), (7, .int r585), (6, .int r581), (0, .ref b), (1, .ref (w_r w 0)), (2, .ref (w_r w 292)), (3, .ref (w_r w 300)), (4, .ref (w_r w 301))]) (v := (x5 + 5)) dL_law_2920 7 rfl rfl (by decide) rfl ?_
      refine g_goto C dL_law_2923 (tgt := 28) rfl ?_
      refine g_sub [3, 4, 5, 6, 7, 0] (lv' := [(0, .ref b), (1, .ref (w_r w 0)), (2, .ref (w_r w 292)), (3, .ref (w_r w 300)), (4, .ref (w_r w 301)), (5, .int (x5 + 5))]) rfl ?_
      exact hl1 ((x5 + 5), d586) (Option.some.inj h).symm
    · replace h := it_t q h
      refine g_aload_n C dL_law_2058 5 rfl ?_
      refine g_iconst C dL_law_2059 (v := 0) rfl ?_
      refine g_lald C 300 q_300 (by decide) 0 (by decide) dL_law_2060 ?_
      refine g_iload C dL_law_2061 0 rfl ?_
      refine g_i2l C dL_law_2063  ?_
      refine g_lcmpeq C dL_law_2064 dL_law_2065 (tgt := 2070) rfl (fun q => ?_) (fun q => ?_)
      · replace h := it_t q h
        refine g_goto C dL_law_2070 (tgt := 2920) rfl ?_
        refine g_iinc C (lv' := [(5, .int (x5 + 5)), (7, .int r585), (6, .int r581), (0, .ref b), (1, .ref (w_r w 0)), (2, .ref (w_r w 292)), (3, .ref (w_r w 300)), (4, .ref (w_r w 301))]) (v := (x5 + 5)) dL_law_2920 7 rfl rfl (by decide) rfl ?_
        refine g_goto C dL_law_2923 (tgt := 28) rfl ?_
        refine g_sub [3, 4, 5, 6, 7, 0] (lv' := [(0, .ref b), (1, .ref (w_r w 0)), (2, .ref (w_r w 292)), (3, .ref (w_r w 300)), (4, .ref (w_r w 301)), (5, .int (x5 + 5))]) rfl ?_
        exact hl1 ((x5 + 5), d586) (Option.some.inj h).symm
      · replace h := it_f q h
        replace h := ir_2 h hx1
        refine g_iconst C dL_law_2068 (v := 0) rfl ?_
        exact (law_no h).elim
  · replace h := it_f q h
    replace h := ir_2 h hx1
    refine g_iconst C dL_law_2051 (v := 0) rfl ?_
    exact (law_no h).elim
set_option maxHeartbeats 4000000 in
set_option maxRecDepth 100000 in
theorem law_c_2073 {w : wT} {p : Program} {l : Launch} {e : Env} {R : Room} {s : State} {m : MethodId} {args : Array Value} {below : List Frame} {meth : Method} {c : Code} {b L k n : Nat} {xs : Nat → Int32} {Q : State → Prop} {x5 : Int32} {d dE : Dt} {y1 : (Int32 × Dt) ⊕ (Int32 × Dt)} (C : gC w p s m args c cL_law 9 RL) (hl9 : l.stackTraces = false) (hX : va_X b L xs s s.heap) (hb : ¬ A_W w b) (hR : R = gRmX 2048 603072 7194730) (hk : k + 8 ≤ 603072) (hn : n + 60 ≤ 7194730) (hE : ∀ (d : Dt) (lv : List (Nat × Value)), gG w p l e R s m args below meth c 9 603072 7194730 Q d lv 2927 [.int 1]) (hl1 : ∀ s1 : Int32 × Dt, y1 = .inl s1 → gG w p l e R s m args below meth c 9 (k + 8) (n + 60) Q s1.2 [(0, .ref b), (1, .ref (w_r w 0)), (2, .ref (w_r w 292)), (3, .ref (w_r w 300)), (4, .ref (w_r w 301)), (5, .int s1.1)] 28 []) (hx1 : ∀ z, y1 = .inr z → z = (1, dE)) (h : f_W_law_2073 L xs x5 d = some y1) : gG w p l e R s m args below meth c 9 k n Q d [(0, .ref b), (1, .ref (w_r w 0)), (2, .ref (w_r w 292)), (3, .ref (w_r w 300)), (4, .ref (w_r w 301)), (5, .int x5)] 2073 [] := by
  unfold f_W_law_2073 at h
  refine g_aload_n C dL_law_2073 1 rfl ?_
  refine g_aload_n C dL_law_2074 0 rfl ?_
  refine g_iload C dL_law_2075 5 rfl ?_
  refine g_iconst C dL_law_2077 (v := 1) rfl ?_
  refine g_iadd C dL_law_2078  ?_
  have hg590 := gd_1 h
  replace h := gd_2 h
  refine g_xald C hX hb hg590 dL_law_2079 ?_
  refine g_aload_n C dL_law_2080 3 rfl ?_
  obtain ⟨r591, d592, hc593, h⟩ := ob2_1 h
  refine g_callSW C (k + 8) (n + 60) hk_W_276 hR rfl (m_W_verdictByExplanations C.2.2.2.2.2.2.1 hl9 hc593) rfl rfl rfl dL_law_2081 rfl rfl (by omega) (by omega) ?_
  refine g_istore C (lv' := [(6, .int r591), (0, .ref b), (1, .ref (w_r w 0)), (2, .ref (w_r w 292)), (3, .ref (w_r w 300)), (4, .ref (w_r w 301)), (5, .int x5)]) dL_law_2084 (by decide) rfl ?_
  refine g_aload_n C dL_law_2086 3 rfl ?_
  refine g_aload_n C dL_law_2087 1 rfl ?_
  refine g_iload C dL_law_2088 6 rfl ?_
  refine g_iconst C dL_law_2090 (v := 1) rfl ?_
  refine g_iadd C dL_law_2091  ?_
  have hg594 := gd_1 h
  replace h := gd_2 h
  refine g_xald C hX hb hg594 dL_law_2092 ?_
  obtain ⟨r595, d596, hc597, h⟩ := ob2_1 h
  refine g_callVi C 292 q_292 vk_W_278 hR rfl (m_M_verdictByExplanations C.2.2.2.2.2.2.1 hc597) rfl rfl rfl dL_law_2093 (bleL (by omega)) (bleL (by omega)) ?_
  refine g_istore C (lv' := [(7, .int r595), (6, .int r591), (0, .ref b), (1, .ref (w_r w 0)), (2, .ref (w_r w 292)), (3, .ref (w_r w 300)), (4, .ref (w_r w 301)), (5, .int x5)]) dL_law_2096 (by decide) rfl ?_
  refine g_aload_n C dL_law_2098 4 rfl ?_
  obtain ⟨r598, hc599, h⟩ := ob1_1 h
  refine g_callVi C 292 q_292 vk_W_162 hR rfl (m_M_thrown C.2.2.2.2.2.2.1 hc599) rfl rfl rfl dL_law_2099 (bleL (by omega)) (bleL (by omega)) ?_
  refine g_iload C dL_law_2102 1 rfl ?_
  refine g_icmp_eq C dL_law_2104 (tgt := 2109) rfl (fun q => ?_) (fun q => ?_)
  · replace h := it_t q h
    refine g_iload C dL_law_2109 1 rfl ?_
    refine g_if_ne C dL_law_2111 (tgt := 2126) rfl (fun q => ?_) (fun q => ?_)
    · replace h := it_f q h
      refine g_goto C dL_law_2126 (tgt := 2920) rfl ?_
      refine g_iinc C (lv' := [(5, .int (x5 + 5)), (7, .int r595), (6, .int r591), (0, .ref b), (1, .ref (w_r w 0)), (2, .ref (w_r w 292)), (3, .ref (w_r w 300)), (4, .ref (w_r w 301))]) (v := (x5 + 5)) dL_law_2920 7 rfl rfl (by decide) rfl ?_
      refine g_goto C dL_law_2923 (tgt := 28) rfl ?_
      refine g_sub [3, 4, 5, 6, 7, 0] (lv' := [(0, .ref b), (1, .ref (w_r w 0)), (2, .ref (w_r w 292)), (3, .ref (w_r w 300)), (4, .ref (w_r w 301)), (5, .int (x5 + 5))]) rfl ?_
      exact hl1 ((x5 + 5), d596) (Option.some.inj h).symm
    · replace h := it_t q h
      refine g_aload_n C dL_law_2114 5 rfl ?_
      refine g_iconst C dL_law_2115 (v := 0) rfl ?_
      refine g_lald C 300 q_300 (by decide) 0 (by decide) dL_law_2116 ?_
      refine g_iload C dL_law_2117 0 rfl ?_
      refine g_i2l C dL_law_2119  ?_
      refine g_lcmpeq C dL_law_2120 dL_law_2121 (tgt := 2126) rfl (fun q => ?_) (fun q => ?_)
      · replace h := it_t q h
        refine g_goto C dL_law_2126 (tgt := 2920) rfl ?_
        refine g_iinc C (lv' := [(5, .int (x5 + 5)), (7, .int r595), (6, .int r591), (0, .ref b), (1, .ref (w_r w 0)), (2, .ref (w_r w 292)), (3, .ref (w_r w 300)), (4, .ref (w_r w 301))]) (v := (x5 + 5)) dL_law_2920 7 rfl rfl (by decide) rfl ?_
        refine g_goto C dL_law_2923 (tgt := 28) rfl ?_
        refine g_sub [3, 4, 5, 6, 7, 0] (lv' := [(0, .ref b), (1, .ref (w_r w 0)), (2, .ref (w_r w 292)), (3, .ref (w_r w 300)), (4, .ref (w_r w 301)), (5, .int (x5 + 5))]) rfl ?_
        exact hl1 ((x5 + 5), d596) (Option.some.inj h).symm
      · replace h := it_f q h
        replace h := ir_2 h hx1
        refine g_iconst C dL_law_2124 (v := 0) rfl ?_
        exact (law_no h).elim
  · replace h := it_f q h
    replace h := ir_2 h hx1
    refine g_iconst C dL_law_2107 (v := 0) rfl ?_
    exact (law_no h).elim
set_option maxHeartbeats 4000000 in
set_option maxRecDepth 100000 in
theorem law_c_2129 {w : wT} {p : Program} {l : Launch} {e : Env} {R : Room} {s : State} {m : MethodId} {args : Array Value} {below : List Frame} {meth : Method} {c : Code} {b L k n : Nat} {xs : Nat → Int32} {Q : State → Prop} {x5 : Int32} {d dE : Dt} {y1 : (Int32 × Dt) ⊕ (Int32 × Dt)} (C : gC w p s m args c cL_law 9 RL) (hl9 : l.stackTraces = false) (hX : va_X b L xs s s.heap) (hb : ¬ A_W w b) (hR : R = gRmX 2048 603072 7194730) (hk : k + 8 ≤ 603072) (hn : n + 60 ≤ 7194730) (hE : ∀ (d : Dt) (lv : List (Nat × Value)), gG w p l e R s m args below meth c 9 603072 7194730 Q d lv 2927 [.int 1]) (hl1 : ∀ s1 : Int32 × Dt, y1 = .inl s1 → gG w p l e R s m args below meth c 9 (k + 8) (n + 60) Q s1.2 [(0, .ref b), (1, .ref (w_r w 0)), (2, .ref (w_r w 292)), (3, .ref (w_r w 300)), (4, .ref (w_r w 301)), (5, .int s1.1)] 28 []) (hx1 : ∀ z, y1 = .inr z → z = (1, dE)) (h : f_W_law_2129 L xs x5 d = some y1) : gG w p l e R s m args below meth c 9 k n Q d [(0, .ref b), (1, .ref (w_r w 0)), (2, .ref (w_r w 292)), (3, .ref (w_r w 300)), (4, .ref (w_r w 301)), (5, .int x5)] 2129 [] := by
  unfold f_W_law_2129 at h
  refine g_aload_n C dL_law_2129 1 rfl ?_
  obtain ⟨r600, d601, hc602, h⟩ := ob2_1 h
  refine g_callVi C 0 q_0 vk_W_279 hR rfl (m_C_explanations C.2.2.2.2.2.2.1 hc602) rfl rfl rfl dL_law_2130 (bleL (by omega)) (bleL (by omega)) ?_
  refine g_aload_n C dL_law_2133 2 rfl ?_
  obtain ⟨r603, d604, hc605, h⟩ := ob2_1 h
  refine g_callVi C 292 q_292 vk_W_282 hR rfl (m_M_explanations C.2.2.2.2.2.2.1 hc605) rfl rfl rfl dL_law_2134 (bleL (by omega)) (bleL (by omega)) ?_
  refine g_icmp_eq C dL_law_2137 (tgt := 2920) rfl (fun q => ?_) (fun q => ?_)
  · replace h := it_t q h
    refine g_iinc C (lv' := [(5, .int (x5 + 5)), (0, .ref b), (1, .ref (w_r w 0)), (2, .ref (w_r w 292)), (3, .ref (w_r w 300)), (4, .ref (w_r w 301))]) (v := (x5 + 5)) dL_law_2920 5 rfl rfl (by decide) rfl ?_
    refine g_goto C dL_law_2923 (tgt := 28) rfl ?_
    refine g_sub [1, 2, 3, 4, 5, 0] (lv' := [(0, .ref b), (1, .ref (w_r w 0)), (2, .ref (w_r w 292)), (3, .ref (w_r w 300)), (4, .ref (w_r w 301)), (5, .int (x5 + 5))]) rfl ?_
    refine g_widP (k + 8) (n + 60) (by omega) (by omega) ?_
    exact hl1 ((x5 + 5), d604) (Option.some.inj h).symm
  · replace h := it_f q h
    replace h := ir_2 h hx1
    refine g_iconst C dL_law_2140 (v := 0) rfl ?_
    exact (law_no h).elim
set_option maxHeartbeats 4000000 in
set_option maxRecDepth 100000 in
theorem law_c_2142 {w : wT} {p : Program} {l : Launch} {e : Env} {R : Room} {s : State} {m : MethodId} {args : Array Value} {below : List Frame} {meth : Method} {c : Code} {b L k n : Nat} {xs : Nat → Int32} {Q : State → Prop} {x5 : Int32} {d dE : Dt} {y1 : (Int32 × Dt) ⊕ (Int32 × Dt)} (C : gC w p s m args c cL_law 9 RL) (hl9 : l.stackTraces = false) (hX : va_X b L xs s s.heap) (hb : ¬ A_W w b) (hR : R = gRmX 2048 603072 7194730) (hk : k + 8 ≤ 603072) (hn : n + 60 ≤ 7194730) (hE : ∀ (d : Dt) (lv : List (Nat × Value)), gG w p l e R s m args below meth c 9 603072 7194730 Q d lv 2927 [.int 1]) (hl1 : ∀ s1 : Int32 × Dt, y1 = .inl s1 → gG w p l e R s m args below meth c 9 (k + 8) (n + 60) Q s1.2 [(0, .ref b), (1, .ref (w_r w 0)), (2, .ref (w_r w 292)), (3, .ref (w_r w 300)), (4, .ref (w_r w 301)), (5, .int s1.1)] 28 []) (hx1 : ∀ z, y1 = .inr z → z = (1, dE)) (h : f_W_law_2142 L xs x5 d = some y1) : gG w p l e R s m args below meth c 9 k n Q d [(0, .ref b), (1, .ref (w_r w 0)), (2, .ref (w_r w 292)), (3, .ref (w_r w 300)), (4, .ref (w_r w 301)), (5, .int x5)] 2142 [] := by
  unfold f_W_law_2142 at h
  refine g_aload_n C dL_law_2142 1 rfl ?_
  obtain ⟨r606, d607, hc608, h⟩ := ob2_1 h
  refine g_callVi C 0 q_0 vk_W_283 hR rfl (m_C_explanationsByTrial C.2.2.2.2.2.2.1 hc608) rfl rfl rfl dL_law_2143 (bleL (by omega)) (bleL (by omega)) ?_
  refine g_aload_n C dL_law_2146 2 rfl ?_
  obtain ⟨r609, d610, hc611, h⟩ := ob2_1 h
  refine g_callVi C 292 q_292 vk_W_286 hR rfl (m_M_explanationsByTrial C.2.2.2.2.2.2.1 hc611) rfl rfl rfl dL_law_2147 (bleL (by omega)) (bleL (by omega)) ?_
  refine g_icmp_eq C dL_law_2150 (tgt := 2920) rfl (fun q => ?_) (fun q => ?_)
  · replace h := it_t q h
    refine g_iinc C (lv' := [(5, .int (x5 + 5)), (0, .ref b), (1, .ref (w_r w 0)), (2, .ref (w_r w 292)), (3, .ref (w_r w 300)), (4, .ref (w_r w 301))]) (v := (x5 + 5)) dL_law_2920 5 rfl rfl (by decide) rfl ?_
    refine g_goto C dL_law_2923 (tgt := 28) rfl ?_
    refine g_sub [1, 2, 3, 4, 5, 0] (lv' := [(0, .ref b), (1, .ref (w_r w 0)), (2, .ref (w_r w 292)), (3, .ref (w_r w 300)), (4, .ref (w_r w 301)), (5, .int (x5 + 5))]) rfl ?_
    refine g_widP (k + 8) (n + 60) (by omega) (by omega) ?_
    exact hl1 ((x5 + 5), d610) (Option.some.inj h).symm
  · replace h := it_f q h
    replace h := ir_2 h hx1
    refine g_iconst C dL_law_2153 (v := 0) rfl ?_
    exact (law_no h).elim
set_option maxHeartbeats 4000000 in
set_option maxRecDepth 100000 in
theorem law_c_2155 {w : wT} {p : Program} {l : Launch} {e : Env} {R : Room} {s : State} {m : MethodId} {args : Array Value} {below : List Frame} {meth : Method} {c : Code} {b L k n : Nat} {xs : Nat → Int32} {Q : State → Prop} {x5 : Int32} {d dE : Dt} {y1 : (Int32 × Dt) ⊕ (Int32 × Dt)} (C : gC w p s m args c cL_law 9 RL) (hl9 : l.stackTraces = false) (hX : va_X b L xs s s.heap) (hb : ¬ A_W w b) (hR : R = gRmX 2048 603072 7194730) (hk : k + 8 ≤ 603072) (hn : n + 60 ≤ 7194730) (hE : ∀ (d : Dt) (lv : List (Nat × Value)), gG w p l e R s m args below meth c 9 603072 7194730 Q d lv 2927 [.int 1]) (hl1 : ∀ s1 : Int32 × Dt, y1 = .inl s1 → gG w p l e R s m args below meth c 9 (k + 8) (n + 60) Q s1.2 [(0, .ref b), (1, .ref (w_r w 0)), (2, .ref (w_r w 292)), (3, .ref (w_r w 300)), (4, .ref (w_r w 301)), (5, .int s1.1)] 28 []) (hx1 : ∀ z, y1 = .inr z → z = (1, dE)) (h : f_W_law_2155 L xs x5 d = some y1) : gG w p l e R s m args below meth c 9 k n Q d [(0, .ref b), (1, .ref (w_r w 0)), (2, .ref (w_r w 292)), (3, .ref (w_r w 300)), (4, .ref (w_r w 301)), (5, .int x5)] 2155 [] := by
  unfold f_W_law_2155 at h
  refine g_aload_n C dL_law_2155 1 rfl ?_
  obtain ⟨r612, d613, hc614, h⟩ := ob2_1 h
  refine g_callVi C 0 q_0 vk_W_287 hR rfl (m_C_leastFalse C.2.2.2.2.2.2.1 hc614) rfl rfl rfl dL_law_2156 (bleL (by omega)) (bleL (by omega)) ?_
  refine g_aload_n C dL_law_2159 2 rfl ?_
  obtain ⟨r615, d616, hc617, h⟩ := ob2_1 h
  refine g_callVi C 292 q_292 vk_W_290 hR rfl (m_M_leastFalse C.2.2.2.2.2.2.1 hc617) rfl rfl rfl dL_law_2160 (bleL (by omega)) (bleL (by omega)) ?_
  refine g_icmp_eq C dL_law_2163 (tgt := 2920) rfl (fun q => ?_) (fun q => ?_)
  · replace h := it_t q h
    refine g_iinc C (lv' := [(5, .int (x5 + 5)), (0, .ref b), (1, .ref (w_r w 0)), (2, .ref (w_r w 292)), (3, .ref (w_r w 300)), (4, .ref (w_r w 301))]) (v := (x5 + 5)) dL_law_2920 5 rfl rfl (by decide) rfl ?_
    refine g_goto C dL_law_2923 (tgt := 28) rfl ?_
    refine g_sub [1, 2, 3, 4, 5, 0] (lv' := [(0, .ref b), (1, .ref (w_r w 0)), (2, .ref (w_r w 292)), (3, .ref (w_r w 300)), (4, .ref (w_r w 301)), (5, .int (x5 + 5))]) rfl ?_
    refine g_widP (k + 8) (n + 60) (by omega) (by omega) ?_
    exact hl1 ((x5 + 5), d616) (Option.some.inj h).symm
  · replace h := it_f q h
    replace h := ir_2 h hx1
    refine g_iconst C dL_law_2166 (v := 0) rfl ?_
    exact (law_no h).elim
set_option maxHeartbeats 4000000 in
set_option maxRecDepth 100000 in
theorem law_c_2168 {w : wT} {p : Program} {l : Launch} {e : Env} {R : Room} {s : State} {m : MethodId} {args : Array Value} {below : List Frame} {meth : Method} {c : Code} {b L k n : Nat} {xs : Nat → Int32} {Q : State → Prop} {x5 : Int32} {d dE : Dt} {y1 : (Int32 × Dt) ⊕ (Int32 × Dt)} (C : gC w p s m args c cL_law 9 RL) (hl9 : l.stackTraces = false) (hX : va_X b L xs s s.heap) (hb : ¬ A_W w b) (hR : R = gRmX 2048 603072 7194730) (hk : k + 8 ≤ 603072) (hn : n + 60 ≤ 7194730) (hE : ∀ (d : Dt) (lv : List (Nat × Value)), gG w p l e R s m args below meth c 9 603072 7194730 Q d lv 2927 [.int 1]) (hl1 : ∀ s1 : Int32 × Dt, y1 = .inl s1 → gG w p l e R s m args below meth c 9 (k + 8) (n + 60) Q s1.2 [(0, .ref b), (1, .ref (w_r w 0)), (2, .ref (w_r w 292)), (3, .ref (w_r w 300)), (4, .ref (w_r w 301)), (5, .int s1.1)] 28 []) (hx1 : ∀ z, y1 = .inr z → z = (1, dE)) (h : f_W_law_2168 L xs x5 d = some y1) : gG w p l e R s m args below meth c 9 k n Q d [(0, .ref b), (1, .ref (w_r w 0)), (2, .ref (w_r w 292)), (3, .ref (w_r w 300)), (4, .ref (w_r w 301)), (5, .int x5)] 2168 [] := by
  unfold f_W_law_2168 at h
  refine g_aload_n C dL_law_2168 1 rfl ?_
  obtain ⟨r618, d619, hc620, h⟩ := ob2_1 h
  refine g_callVi C 0 q_0 vk_W_291 hR rfl (m_C_leastFalseBySets C.2.2.2.2.2.2.1 hc620) rfl rfl rfl dL_law_2169 (bleL (by omega)) (bleL (by omega)) ?_
  refine g_aload_n C dL_law_2172 2 rfl ?_
  obtain ⟨r621, d622, hc623, h⟩ := ob2_1 h
  refine g_callVi C 292 q_292 vk_W_294 hR rfl (m_M_leastFalseBySets C.2.2.2.2.2.2.1 hc623) rfl rfl rfl dL_law_2173 (bleL (by omega)) (bleL (by omega)) ?_
  refine g_icmp_eq C dL_law_2176 (tgt := 2920) rfl (fun q => ?_) (fun q => ?_)
  · replace h := it_t q h
    refine g_iinc C (lv' := [(5, .int (x5 + 5)), (0, .ref b), (1, .ref (w_r w 0)), (2, .ref (w_r w 292)), (3, .ref (w_r w 300)), (4, .ref (w_r w 301))]) (v := (x5 + 5)) dL_law_2920 5 rfl rfl (by decide) rfl ?_
    refine g_goto C dL_law_2923 (tgt := 28) rfl ?_
    refine g_sub [1, 2, 3, 4, 5, 0] (lv' := [(0, .ref b), (1, .ref (w_r w 0)), (2, .ref (w_r w 292)), (3, .ref (w_r w 300)), (4, .ref (w_r w 301)), (5, .int (x5 + 5))]) rfl ?_
    refine g_widP (k + 8) (n + 60) (by omega) (by omega) ?_
    exact hl1 ((x5 + 5), d622) (Option.some.inj h).symm
  · replace h := it_f q h
    replace h := ir_2 h hx1
    refine g_iconst C dL_law_2179 (v := 0) rfl ?_
    exact (law_no h).elim
set_option maxHeartbeats 4000000 in
set_option maxRecDepth 100000 in
theorem law_c_2181 {w : wT} {p : Program} {l : Launch} {e : Env} {R : Room} {s : State} {m : MethodId} {args : Array Value} {below : List Frame} {meth : Method} {c : Code} {b L k n : Nat} {xs : Nat → Int32} {Q : State → Prop} {x5 : Int32} {d dE : Dt} {y1 : (Int32 × Dt) ⊕ (Int32 × Dt)} (C : gC w p s m args c cL_law 9 RL) (hl9 : l.stackTraces = false) (hX : va_X b L xs s s.heap) (hb : ¬ A_W w b) (hR : R = gRmX 2048 603072 7194730) (hk : k + 8 ≤ 603072) (hn : n + 60 ≤ 7194730) (hE : ∀ (d : Dt) (lv : List (Nat × Value)), gG w p l e R s m args below meth c 9 603072 7194730 Q d lv 2927 [.int 1]) (hl1 : ∀ s1 : Int32 × Dt, y1 = .inl s1 → gG w p l e R s m args below meth c 9 (k + 8) (n + 60) Q s1.2 [(0, .ref b), (1, .ref (w_r w 0)), (2, .ref (w_r w 292)), (3, .ref (w_r w 300)), (4, .ref (w_r w 301)), (5, .int s1.1)] 28 []) (hx1 : ∀ z, y1 = .inr z → z = (1, dE)) (h : f_W_law_2181 L xs x5 d = some y1) : gG w p l e R s m args below meth c 9 k n Q d [(0, .ref b), (1, .ref (w_r w 0)), (2, .ref (w_r w 292)), (3, .ref (w_r w 300)), (4, .ref (w_r w 301)), (5, .int x5)] 2181 [] := by
  unfold f_W_law_2181 at h
  refine g_aload_n C dL_law_2181 1 rfl ?_
  refine g_aload_n C dL_law_2182 0 rfl ?_
  refine g_iload C dL_law_2183 5 rfl ?_
  refine g_iconst C dL_law_2185 (v := 1) rfl ?_
  refine g_iadd C dL_law_2186  ?_
  have hg624 := gd_1 h
  replace h := gd_2 h
  refine g_xald C hX hb hg624 dL_law_2187 ?_
  refine g_aload_n C dL_law_2188 3 rfl ?_
  obtain ⟨r625, d626, hc627, h⟩ := ob2_1 h
  refine g_callSW C (k + 8) (n + 60) hk_W_295 hR rfl (m_W_lanternByBrightness C.2.2.2.2.2.2.1 hl9 hc627) rfl rfl rfl dL_law_2189 rfl rfl (by omega) (by omega) ?_
  refine g_istore C (lv' := [(6, .int r625), (0, .ref b), (1, .ref (w_r w 0)), (2, .ref (w_r w 292)), (3, .ref (w_r w 300)), (4, .ref (w_r w 301)), (5, .int x5)]) dL_law_2192 (by decide) rfl ?_
  refine g_aload_n C dL_law_2194 3 rfl ?_
  refine g_aload_n C dL_law_2195 1 rfl ?_
  refine g_iload C dL_law_2196 6 rfl ?_
  refine g_iconst C dL_law_2198 (v := 1) rfl ?_
  refine g_iadd C dL_law_2199  ?_
  have hg628 := gd_1 h
  replace h := gd_2 h
  refine g_xald C hX hb hg628 dL_law_2200 ?_
  obtain ⟨r629, d630, hc631, h⟩ := ob2_1 h
  refine g_callVi C 292 q_292 vk_W_297 hR rfl (m_M_lanternByBrightness C.2.2.2.2.2.2.1 hc631) rfl rfl rfl dL_law_2201 (bleL (by omega)) (bleL (by omega)) ?_
  refine g_istore C (lv' := [(7, .int r629), (6, .int r625), (0, .ref b), (1, .ref (w_r w 0)), (2, .ref (w_r w 292)), (3, .ref (w_r w 300)), (4, .ref (w_r w 301)), (5, .int x5)]) dL_law_2204 (by decide) rfl ?_
  refine g_aload_n C dL_law_2206 4 rfl ?_
  obtain ⟨r632, hc633, h⟩ := ob1_1 h
  refine g_callVi C 292 q_292 vk_W_162 hR rfl (m_M_thrown C.2.2.2.2.2.2.1 hc633) rfl rfl rfl dL_law_2207 (bleL (by omega)) (bleL (by omega)) ?_
  refine g_iload C dL_law_2210 1 rfl ?_
  refine g_icmp_eq C dL_law_2212 (tgt := 2217) rfl (fun q => ?_) (fun q => ?_)
  · replace h := it_t q h
    refine g_iload C dL_law_2217 1 rfl ?_
    refine g_if_ne C dL_law_2219 (tgt := 2234) rfl (fun q => ?_) (fun q => ?_)
    · replace h := it_f q h
      refine g_goto C dL_law_2234 (tgt := 2920) rfl ?_
      refine g_iinc C (lv' := [(5, .int (x5 + 5)), (7, .int r629), (6, .int r625), (0, .ref b), (1, .ref (w_r w 0)), (2, .ref (w_r w 292)), (3, .ref (w_r w 300)), (4, .ref (w_r w 301))]) (v := (x5 + 5)) dL_law_2920 7 rfl rfl (by decide) rfl ?_
      refine g_goto C dL_law_2923 (tgt := 28) rfl ?_
      refine g_sub [3, 4, 5, 6, 7, 0] (lv' := [(0, .ref b), (1, .ref (w_r w 0)), (2, .ref (w_r w 292)), (3, .ref (w_r w 300)), (4, .ref (w_r w 301)), (5, .int (x5 + 5))]) rfl ?_
      exact hl1 ((x5 + 5), d630) (Option.some.inj h).symm
    · replace h := it_t q h
      refine g_aload_n C dL_law_2222 5 rfl ?_
      refine g_iconst C dL_law_2223 (v := 0) rfl ?_
      refine g_lald C 300 q_300 (by decide) 0 (by decide) dL_law_2224 ?_
      refine g_iload C dL_law_2225 0 rfl ?_
      refine g_i2l C dL_law_2227  ?_
      refine g_lcmpeq C dL_law_2228 dL_law_2229 (tgt := 2234) rfl (fun q => ?_) (fun q => ?_)
      · replace h := it_t q h
        refine g_goto C dL_law_2234 (tgt := 2920) rfl ?_
        refine g_iinc C (lv' := [(5, .int (x5 + 5)), (7, .int r629), (6, .int r625), (0, .ref b), (1, .ref (w_r w 0)), (2, .ref (w_r w 292)), (3, .ref (w_r w 300)), (4, .ref (w_r w 301))]) (v := (x5 + 5)) dL_law_2920 7 rfl rfl (by decide) rfl ?_
        refine g_goto C dL_law_2923 (tgt := 28) rfl ?_
        refine g_sub [3, 4, 5, 6, 7, 0] (lv' := [(0, .ref b), (1, .ref (w_r w 0)), (2, .ref (w_r w 292)), (3, .ref (w_r w 300)), (4, .ref (w_r w 301)), (5, .int (x5 + 5))]) rfl ?_
        exact hl1 ((x5 + 5), d630) (Option.some.inj h).symm
      · replace h := it_f q h
        replace h := ir_2 h hx1
        refine g_iconst C dL_law_2232 (v := 0) rfl ?_
        exact (law_no h).elim
  · replace h := it_f q h
    replace h := ir_2 h hx1
    refine g_iconst C dL_law_2215 (v := 0) rfl ?_
    exact (law_no h).elim
set_option maxHeartbeats 4000000 in
set_option maxRecDepth 100000 in
theorem law_c_2237 {w : wT} {p : Program} {l : Launch} {e : Env} {R : Room} {s : State} {m : MethodId} {args : Array Value} {below : List Frame} {meth : Method} {c : Code} {b L k n : Nat} {xs : Nat → Int32} {Q : State → Prop} {x5 : Int32} {d dE : Dt} {y1 : (Int32 × Dt) ⊕ (Int32 × Dt)} (C : gC w p s m args c cL_law 9 RL) (hl9 : l.stackTraces = false) (hX : va_X b L xs s s.heap) (hb : ¬ A_W w b) (hR : R = gRmX 2048 603072 7194730) (hk : k + 8 ≤ 603072) (hn : n + 60 ≤ 7194730) (hE : ∀ (d : Dt) (lv : List (Nat × Value)), gG w p l e R s m args below meth c 9 603072 7194730 Q d lv 2927 [.int 1]) (hl1 : ∀ s1 : Int32 × Dt, y1 = .inl s1 → gG w p l e R s m args below meth c 9 (k + 8) (n + 60) Q s1.2 [(0, .ref b), (1, .ref (w_r w 0)), (2, .ref (w_r w 292)), (3, .ref (w_r w 300)), (4, .ref (w_r w 301)), (5, .int s1.1)] 28 []) (hx1 : ∀ z, y1 = .inr z → z = (1, dE)) (h : f_W_law_2237 L xs x5 d = some y1) : gG w p l e R s m args below meth c 9 k n Q d [(0, .ref b), (1, .ref (w_r w 0)), (2, .ref (w_r w 292)), (3, .ref (w_r w 300)), (4, .ref (w_r w 301)), (5, .int x5)] 2237 [] := by
  unfold f_W_law_2237 at h
  refine g_aload_n C dL_law_2237 1 rfl ?_
  obtain ⟨r634, hc635, h⟩ := ob1_1 h
  refine g_callVi C 0 q_0 vk_W_298 hR rfl (m_C_courtCoins C.2.2.2.2.2.2.1 hc635) rfl rfl rfl dL_law_2238 (bleL (by omega)) (bleL (by omega)) ?_
  refine g_aload_n C dL_law_2241 2 rfl ?_
  obtain ⟨r636, d637, hc638, h⟩ := ob2_1 h
  refine g_callVi C 292 q_292 vk_W_301 hR rfl (m_M_courtCoins C.2.2.2.2.2.2.1 hc638) rfl rfl rfl dL_law_2242 (bleL (by omega)) (bleL (by omega)) ?_
  refine g_icmp_eq C dL_law_2245 (tgt := 2920) rfl (fun q => ?_) (fun q => ?_)
  · replace h := it_t q h
    refine g_iinc C (lv' := [(5, .int (x5 + 5)), (0, .ref b), (1, .ref (w_r w 0)), (2, .ref (w_r w 292)), (3, .ref (w_r w 300)), (4, .ref (w_r w 301))]) (v := (x5 + 5)) dL_law_2920 5 rfl rfl (by decide) rfl ?_
    refine g_goto C dL_law_2923 (tgt := 28) rfl ?_
    refine g_sub [1, 2, 3, 4, 5, 0] (lv' := [(0, .ref b), (1, .ref (w_r w 0)), (2, .ref (w_r w 292)), (3, .ref (w_r w 300)), (4, .ref (w_r w 301)), (5, .int (x5 + 5))]) rfl ?_
    refine g_widP (k + 8) (n + 60) (by omega) (by omega) ?_
    exact hl1 ((x5 + 5), d637) (Option.some.inj h).symm
  · replace h := it_f q h
    replace h := ir_2 h hx1
    refine g_iconst C dL_law_2248 (v := 0) rfl ?_
    exact (law_no h).elim
set_option maxHeartbeats 4000000 in
set_option maxRecDepth 100000 in
theorem law_c_2250 {w : wT} {p : Program} {l : Launch} {e : Env} {R : Room} {s : State} {m : MethodId} {args : Array Value} {below : List Frame} {meth : Method} {c : Code} {b L k n : Nat} {xs : Nat → Int32} {Q : State → Prop} {x5 : Int32} {d dE : Dt} {y1 : (Int32 × Dt) ⊕ (Int32 × Dt)} (C : gC w p s m args c cL_law 9 RL) (hl9 : l.stackTraces = false) (hX : va_X b L xs s s.heap) (hb : ¬ A_W w b) (hR : R = gRmX 2048 603072 7194730) (hk : k + 8 ≤ 603072) (hn : n + 60 ≤ 7194730) (hE : ∀ (d : Dt) (lv : List (Nat × Value)), gG w p l e R s m args below meth c 9 603072 7194730 Q d lv 2927 [.int 1]) (hl1 : ∀ s1 : Int32 × Dt, y1 = .inl s1 → gG w p l e R s m args below meth c 9 (k + 8) (n + 60) Q s1.2 [(0, .ref b), (1, .ref (w_r w 0)), (2, .ref (w_r w 292)), (3, .ref (w_r w 300)), (4, .ref (w_r w 301)), (5, .int s1.1)] 28 []) (hx1 : ∀ z, y1 = .inr z → z = (1, dE)) (h : f_W_law_2250 L xs x5 d = some y1) : gG w p l e R s m args below meth c 9 k n Q d [(0, .ref b), (1, .ref (w_r w 0)), (2, .ref (w_r w 292)), (3, .ref (w_r w 300)), (4, .ref (w_r w 301)), (5, .int x5)] 2250 [] := by
  unfold f_W_law_2250 at h
  refine g_aload_n C dL_law_2250 1 rfl ?_
  obtain ⟨r639, hc640, h⟩ := ob1_1 h
  refine g_callVi C 0 q_0 vk_W_302 hR rfl (m_C_paidBack C.2.2.2.2.2.2.1 hc640) rfl rfl rfl dL_law_2251 (bleL (by omega)) (bleL (by omega)) ?_
  refine g_aload_n C dL_law_2254 2 rfl ?_
  obtain ⟨r641, d642, hc643, h⟩ := ob2_1 h
  refine g_callVi C 292 q_292 vk_W_305 hR rfl (m_M_paidBack C.2.2.2.2.2.2.1 hc643) rfl rfl rfl dL_law_2255 (bleL (by omega)) (bleL (by omega)) ?_
  refine g_icmp_eq C dL_law_2258 (tgt := 2920) rfl (fun q => ?_) (fun q => ?_)
  · replace h := it_t q h
    refine g_iinc C (lv' := [(5, .int (x5 + 5)), (0, .ref b), (1, .ref (w_r w 0)), (2, .ref (w_r w 292)), (3, .ref (w_r w 300)), (4, .ref (w_r w 301))]) (v := (x5 + 5)) dL_law_2920 5 rfl rfl (by decide) rfl ?_
    refine g_goto C dL_law_2923 (tgt := 28) rfl ?_
    refine g_sub [1, 2, 3, 4, 5, 0] (lv' := [(0, .ref b), (1, .ref (w_r w 0)), (2, .ref (w_r w 292)), (3, .ref (w_r w 300)), (4, .ref (w_r w 301)), (5, .int (x5 + 5))]) rfl ?_
    refine g_widP (k + 8) (n + 60) (by omega) (by omega) ?_
    exact hl1 ((x5 + 5), d642) (Option.some.inj h).symm
  · replace h := it_f q h
    replace h := ir_2 h hx1
    refine g_iconst C dL_law_2261 (v := 0) rfl ?_
    exact (law_no h).elim
set_option maxHeartbeats 4000000 in
set_option maxRecDepth 100000 in
theorem law_c_2263 {w : wT} {p : Program} {l : Launch} {e : Env} {R : Room} {s : State} {m : MethodId} {args : Array Value} {below : List Frame} {meth : Method} {c : Code} {b L k n : Nat} {xs : Nat → Int32} {Q : State → Prop} {x5 : Int32} {d dE : Dt} {y1 : (Int32 × Dt) ⊕ (Int32 × Dt)} (C : gC w p s m args c cL_law 9 RL) (hl9 : l.stackTraces = false) (hX : va_X b L xs s s.heap) (hb : ¬ A_W w b) (hR : R = gRmX 2048 603072 7194730) (hk : k + 8 ≤ 603072) (hn : n + 60 ≤ 7194730) (hE : ∀ (d : Dt) (lv : List (Nat × Value)), gG w p l e R s m args below meth c 9 603072 7194730 Q d lv 2927 [.int 1]) (hl1 : ∀ s1 : Int32 × Dt, y1 = .inl s1 → gG w p l e R s m args below meth c 9 (k + 8) (n + 60) Q s1.2 [(0, .ref b), (1, .ref (w_r w 0)), (2, .ref (w_r w 292)), (3, .ref (w_r w 300)), (4, .ref (w_r w 301)), (5, .int s1.1)] 28 []) (hx1 : ∀ z, y1 = .inr z → z = (1, dE)) (h : f_W_law_2263 L xs x5 d = some y1) : gG w p l e R s m args below meth c 9 k n Q d [(0, .ref b), (1, .ref (w_r w 0)), (2, .ref (w_r w 292)), (3, .ref (w_r w 300)), (4, .ref (w_r w 301)), (5, .int x5)] 2263 [] := by
  unfold f_W_law_2263 at h
  refine g_aload_n C dL_law_2263 1 rfl ?_
  refine g_aload_n C dL_law_2264 0 rfl ?_
  refine g_iload C dL_law_2265 5 rfl ?_
  refine g_iconst C dL_law_2267 (v := 1) rfl ?_
  refine g_iadd C dL_law_2268  ?_
  have hg644 := gd_1 h
  replace h := gd_2 h
  refine g_xald C hX hb hg644 dL_law_2269 ?_
  refine g_i2c C dL_law_2270  ?_
  refine g_aload_n C dL_law_2271 3 rfl ?_
  obtain ⟨r645, d646, hc647, h⟩ := ob2_1 h
  refine g_callSW C (k + 8) (n + 60) hk_W_306 hR rfl (m_W_hearingCount C.2.2.2.2.2.2.1 hl9 hc647) rfl rfl rfl dL_law_2272 rfl rfl (by omega) (by omega) ?_
  refine g_istore C (lv' := [(6, .int r645), (0, .ref b), (1, .ref (w_r w 0)), (2, .ref (w_r w 292)), (3, .ref (w_r w 300)), (4, .ref (w_r w 301)), (5, .int x5)]) dL_law_2275 (by decide) rfl ?_
  refine g_aload_n C dL_law_2277 3 rfl ?_
  refine g_aload_n C dL_law_2278 1 rfl ?_
  refine g_iload C dL_law_2279 6 rfl ?_
  refine g_iconst C dL_law_2281 (v := 1) rfl ?_
  refine g_iadd C dL_law_2282  ?_
  have hg648 := gd_1 h
  replace h := gd_2 h
  refine g_xald C hX hb hg648 dL_law_2283 ?_
  refine g_i2c C dL_law_2284  ?_
  obtain ⟨r649, d650, hc651, h⟩ := ob2_1 h
  refine g_callVi C 292 q_292 vk_W_309 hR rfl (m_M_hearingCount C.2.2.2.2.2.2.1 hc651) rfl rfl rfl dL_law_2285 (bleL (by omega)) (bleL (by omega)) ?_
  refine g_istore C (lv' := [(7, .int r649), (6, .int r645), (0, .ref b), (1, .ref (w_r w 0)), (2, .ref (w_r w 292)), (3, .ref (w_r w 300)), (4, .ref (w_r w 301)), (5, .int x5)]) dL_law_2288 (by decide) rfl ?_
  refine g_aload_n C dL_law_2290 4 rfl ?_
  obtain ⟨r652, hc653, h⟩ := ob1_1 h
  refine g_callVi C 292 q_292 vk_W_162 hR rfl (m_M_thrown C.2.2.2.2.2.2.1 hc653) rfl rfl rfl dL_law_2291 (bleL (by omega)) (bleL (by omega)) ?_
  refine g_iload C dL_law_2294 1 rfl ?_
  refine g_icmp_eq C dL_law_2296 (tgt := 2301) rfl (fun q => ?_) (fun q => ?_)
  · replace h := it_t q h
    refine g_iload C dL_law_2301 1 rfl ?_
    refine g_if_ne C dL_law_2303 (tgt := 2318) rfl (fun q => ?_) (fun q => ?_)
    · replace h := it_f q h
      refine g_goto C dL_law_2318 (tgt := 2920) rfl ?_
      refine g_iinc C (lv' := [(5, .int (x5 + 5)), (7, .int r649), (6, .int r645), (0, .ref b), (1, .ref (w_r w 0)), (2, .ref (w_r w 292)), (3, .ref (w_r w 300)), (4, .ref (w_r w 301))]) (v := (x5 + 5)) dL_law_2920 7 rfl rfl (by decide) rfl ?_
      refine g_goto C dL_law_2923 (tgt := 28) rfl ?_
      refine g_sub [3, 4, 5, 6, 7, 0] (lv' := [(0, .ref b), (1, .ref (w_r w 0)), (2, .ref (w_r w 292)), (3, .ref (w_r w 300)), (4, .ref (w_r w 301)), (5, .int (x5 + 5))]) rfl ?_
      exact hl1 ((x5 + 5), d650) (Option.some.inj h).symm
    · replace h := it_t q h
      refine g_aload_n C dL_law_2306 5 rfl ?_
      refine g_iconst C dL_law_2307 (v := 0) rfl ?_
      refine g_lald C 300 q_300 (by decide) 0 (by decide) dL_law_2308 ?_
      refine g_iload C dL_law_2309 0 rfl ?_
      refine g_i2l C dL_law_2311  ?_
      refine g_lcmpeq C dL_law_2312 dL_law_2313 (tgt := 2318) rfl (fun q => ?_) (fun q => ?_)
      · replace h := it_t q h
        refine g_goto C dL_law_2318 (tgt := 2920) rfl ?_
        refine g_iinc C (lv' := [(5, .int (x5 + 5)), (7, .int r649), (6, .int r645), (0, .ref b), (1, .ref (w_r w 0)), (2, .ref (w_r w 292)), (3, .ref (w_r w 300)), (4, .ref (w_r w 301))]) (v := (x5 + 5)) dL_law_2920 7 rfl rfl (by decide) rfl ?_
        refine g_goto C dL_law_2923 (tgt := 28) rfl ?_
        refine g_sub [3, 4, 5, 6, 7, 0] (lv' := [(0, .ref b), (1, .ref (w_r w 0)), (2, .ref (w_r w 292)), (3, .ref (w_r w 300)), (4, .ref (w_r w 301)), (5, .int (x5 + 5))]) rfl ?_
        exact hl1 ((x5 + 5), d650) (Option.some.inj h).symm
      · replace h := it_f q h
        replace h := ir_2 h hx1
        refine g_iconst C dL_law_2316 (v := 0) rfl ?_
        exact (law_no h).elim
  · replace h := it_f q h
    replace h := ir_2 h hx1
    refine g_iconst C dL_law_2299 (v := 0) rfl ?_
    exact (law_no h).elim
set_option maxHeartbeats 4000000 in
set_option maxRecDepth 100000 in
theorem law_c_2321 {w : wT} {p : Program} {l : Launch} {e : Env} {R : Room} {s : State} {m : MethodId} {args : Array Value} {below : List Frame} {meth : Method} {c : Code} {b L k n : Nat} {xs : Nat → Int32} {Q : State → Prop} {x5 : Int32} {d dE : Dt} {y1 : (Int32 × Dt) ⊕ (Int32 × Dt)} (C : gC w p s m args c cL_law 9 RL) (hl9 : l.stackTraces = false) (hX : va_X b L xs s s.heap) (hb : ¬ A_W w b) (hR : R = gRmX 2048 603072 7194730) (hk : k + 8 ≤ 603072) (hn : n + 60 ≤ 7194730) (hE : ∀ (d : Dt) (lv : List (Nat × Value)), gG w p l e R s m args below meth c 9 603072 7194730 Q d lv 2927 [.int 1]) (hl1 : ∀ s1 : Int32 × Dt, y1 = .inl s1 → gG w p l e R s m args below meth c 9 (k + 8) (n + 60) Q s1.2 [(0, .ref b), (1, .ref (w_r w 0)), (2, .ref (w_r w 292)), (3, .ref (w_r w 300)), (4, .ref (w_r w 301)), (5, .int s1.1)] 28 []) (hx1 : ∀ z, y1 = .inr z → z = (1, dE)) (h : f_W_law_2321 L xs x5 d = some y1) : gG w p l e R s m args below meth c 9 k n Q d [(0, .ref b), (1, .ref (w_r w 0)), (2, .ref (w_r w 292)), (3, .ref (w_r w 300)), (4, .ref (w_r w 301)), (5, .int x5)] 2321 [] := by
  unfold f_W_law_2321 at h
  refine g_aload_n C dL_law_2321 1 rfl ?_
  obtain ⟨r654, hc655, h⟩ := ob1_1 h
  refine g_callVi C 0 q_0 vk_W_310 hR rfl (m_C_lapsedCount C.2.2.2.2.2.2.1 hc655) rfl rfl rfl dL_law_2322 (bleL (by omega)) (bleL (by omega)) ?_
  refine g_aload_n C dL_law_2325 2 rfl ?_
  obtain ⟨r656, d657, hc658, h⟩ := ob2_1 h
  refine g_callVi C 292 q_292 vk_W_313 hR rfl (m_M_lapsedCount C.2.2.2.2.2.2.1 hc658) rfl rfl rfl dL_law_2326 (bleL (by omega)) (bleL (by omega)) ?_
  refine g_icmp_eq C dL_law_2329 (tgt := 2920) rfl (fun q => ?_) (fun q => ?_)
  · replace h := it_t q h
    refine g_iinc C (lv' := [(5, .int (x5 + 5)), (0, .ref b), (1, .ref (w_r w 0)), (2, .ref (w_r w 292)), (3, .ref (w_r w 300)), (4, .ref (w_r w 301))]) (v := (x5 + 5)) dL_law_2920 5 rfl rfl (by decide) rfl ?_
    refine g_goto C dL_law_2923 (tgt := 28) rfl ?_
    refine g_sub [1, 2, 3, 4, 5, 0] (lv' := [(0, .ref b), (1, .ref (w_r w 0)), (2, .ref (w_r w 292)), (3, .ref (w_r w 300)), (4, .ref (w_r w 301)), (5, .int (x5 + 5))]) rfl ?_
    refine g_widP (k + 8) (n + 60) (by omega) (by omega) ?_
    exact hl1 ((x5 + 5), d657) (Option.some.inj h).symm
  · replace h := it_f q h
    replace h := ir_2 h hx1
    refine g_iconst C dL_law_2332 (v := 0) rfl ?_
    exact (law_no h).elim
set_option maxHeartbeats 4000000 in
set_option maxRecDepth 100000 in
theorem law_c_2334 {w : wT} {p : Program} {l : Launch} {e : Env} {R : Room} {s : State} {m : MethodId} {args : Array Value} {below : List Frame} {meth : Method} {c : Code} {b L k n : Nat} {xs : Nat → Int32} {Q : State → Prop} {x5 : Int32} {d dE : Dt} {y1 : (Int32 × Dt) ⊕ (Int32 × Dt)} (C : gC w p s m args c cL_law 9 RL) (hl9 : l.stackTraces = false) (hX : va_X b L xs s s.heap) (hb : ¬ A_W w b) (hR : R = gRmX 2048 603072 7194730) (hk : k + 8 ≤ 603072) (hn : n + 60 ≤ 7194730) (hE : ∀ (d : Dt) (lv : List (Nat × Value)), gG w p l e R s m args below meth c 9 603072 7194730 Q d lv 2927 [.int 1]) (hl1 : ∀ s1 : Int32 × Dt, y1 = .inl s1 → gG w p l e R s m args below meth c 9 (k + 8) (n + 60) Q s1.2 [(0, .ref b), (1, .ref (w_r w 0)), (2, .ref (w_r w 292)), (3, .ref (w_r w 300)), (4, .ref (w_r w 301)), (5, .int s1.1)] 28 []) (hx1 : ∀ z, y1 = .inr z → z = (1, dE)) (h : f_W_law_2334 L xs x5 d = some y1) : gG w p l e R s m args below meth c 9 k n Q d [(0, .ref b), (1, .ref (w_r w 0)), (2, .ref (w_r w 292)), (3, .ref (w_r w 300)), (4, .ref (w_r w 301)), (5, .int x5)] 2334 [] := by
  unfold f_W_law_2334 at h
  refine g_aload_n C dL_law_2334 1 rfl ?_
  obtain ⟨r659, hc660, h⟩ := ob1_1 h
  refine g_callVi C 0 q_0 vk_W_314 hR rfl (m_C_servedDays C.2.2.2.2.2.2.1 hc660) rfl rfl rfl dL_law_2335 (bleL (by omega)) (bleL (by omega)) ?_
  refine g_aload_n C dL_law_2338 2 rfl ?_
  obtain ⟨r661, d662, hc663, h⟩ := ob2_1 h
  refine g_callVi C 292 q_292 vk_W_317 hR rfl (m_M_servedDays C.2.2.2.2.2.2.1 hc663) rfl rfl rfl dL_law_2339 (bleL (by omega)) (bleL (by omega)) ?_
  refine g_icmp_eq C dL_law_2342 (tgt := 2920) rfl (fun q => ?_) (fun q => ?_)
  · replace h := it_t q h
    refine g_iinc C (lv' := [(5, .int (x5 + 5)), (0, .ref b), (1, .ref (w_r w 0)), (2, .ref (w_r w 292)), (3, .ref (w_r w 300)), (4, .ref (w_r w 301))]) (v := (x5 + 5)) dL_law_2920 5 rfl rfl (by decide) rfl ?_
    refine g_goto C dL_law_2923 (tgt := 28) rfl ?_
    refine g_sub [1, 2, 3, 4, 5, 0] (lv' := [(0, .ref b), (1, .ref (w_r w 0)), (2, .ref (w_r w 292)), (3, .ref (w_r w 300)), (4, .ref (w_r w 301)), (5, .int (x5 + 5))]) rfl ?_
    refine g_widP (k + 8) (n + 60) (by omega) (by omega) ?_
    exact hl1 ((x5 + 5), d662) (Option.some.inj h).symm
  · replace h := it_f q h
    replace h := ir_2 h hx1
    refine g_iconst C dL_law_2345 (v := 0) rfl ?_
    exact (law_no h).elim
set_option maxHeartbeats 4000000 in
set_option maxRecDepth 100000 in
theorem law_c_2347 {w : wT} {p : Program} {l : Launch} {e : Env} {R : Room} {s : State} {m : MethodId} {args : Array Value} {below : List Frame} {meth : Method} {c : Code} {b L k n : Nat} {xs : Nat → Int32} {Q : State → Prop} {x5 : Int32} {d dE : Dt} {y1 : (Int32 × Dt) ⊕ (Int32 × Dt)} (C : gC w p s m args c cL_law 9 RL) (hl9 : l.stackTraces = false) (hX : va_X b L xs s s.heap) (hb : ¬ A_W w b) (hR : R = gRmX 2048 603072 7194730) (hk : k + 8 ≤ 603072) (hn : n + 60 ≤ 7194730) (hE : ∀ (d : Dt) (lv : List (Nat × Value)), gG w p l e R s m args below meth c 9 603072 7194730 Q d lv 2927 [.int 1]) (hl1 : ∀ s1 : Int32 × Dt, y1 = .inl s1 → gG w p l e R s m args below meth c 9 (k + 8) (n + 60) Q s1.2 [(0, .ref b), (1, .ref (w_r w 0)), (2, .ref (w_r w 292)), (3, .ref (w_r w 300)), (4, .ref (w_r w 301)), (5, .int s1.1)] 28 []) (hx1 : ∀ z, y1 = .inr z → z = (1, dE)) (h : f_W_law_2347 L xs x5 d = some y1) : gG w p l e R s m args below meth c 9 k n Q d [(0, .ref b), (1, .ref (w_r w 0)), (2, .ref (w_r w 292)), (3, .ref (w_r w 300)), (4, .ref (w_r w 301)), (5, .int x5)] 2347 [] := by
  unfold f_W_law_2347 at h
  refine g_aload_n C dL_law_2347 1 rfl ?_
  refine g_aload C dL_law_2348 4 rfl ?_
  obtain ⟨r664, d665, hc666, h⟩ := ob2_1 h
  refine g_callSW C (k + 8) (n + 60) hk_W_318 hR rfl (m_W_meanBrightness C.2.2.2.2.2.2.1 hl9 hc666) rfl rfl rfl dL_law_2350 rfl rfl (by omega) (by omega) ?_
  refine g_istore C (lv' := [(6, .int r664), (0, .ref b), (1, .ref (w_r w 0)), (2, .ref (w_r w 292)), (3, .ref (w_r w 300)), (4, .ref (w_r w 301)), (5, .int x5)]) dL_law_2353 (by decide) rfl ?_
  refine g_aload_n C dL_law_2355 3 rfl ?_
  obtain ⟨r667, d668, hc669, h⟩ := ob2_1 h
  refine g_callVd C 292 q_292 vk_W_321 hR rfl (m_M_meanBrightness C.2.2.2.2.2.2.1 hc669) rfl rfl rfl dL_law_2356 (bleL (by omega)) (bleL (by omega)) ?_
  refine g_dstore C (lv' := [(7, .double r667), (6, .int r664), (0, .ref b), (1, .ref (w_r w 0)), (2, .ref (w_r w 292)), (3, .ref (w_r w 300)), (4, .ref (w_r w 301)), (5, .int x5)]) dL_law_2359 (by decide) rfl ?_
  refine g_aload_n C dL_law_2361 4 rfl ?_
  obtain ⟨r670, hc671, h⟩ := ob1_1 h
  refine g_callVi C 292 q_292 vk_W_162 hR rfl (m_M_thrown C.2.2.2.2.2.2.1 hc671) rfl rfl rfl dL_law_2362 (bleL (by omega)) (bleL (by omega)) ?_
  refine g_iload C dL_law_2365 1 rfl ?_
  refine g_icmp_eq C dL_law_2367 (tgt := 2372) rfl (fun q => ?_) (fun q => ?_)
  · replace h := it_t q h
    refine g_iload C dL_law_2372 1 rfl ?_
    refine g_if_ne C dL_law_2374 (tgt := 2409) rfl (fun q => ?_) (fun q => ?_)
    · replace h := it_f q h
      refine g_goto C dL_law_2409 (tgt := 2920) rfl ?_
      refine g_iinc C (lv' := [(5, .int (x5 + 5)), (7, .double r667), (6, .int r664), (0, .ref b), (1, .ref (w_r w 0)), (2, .ref (w_r w 292)), (3, .ref (w_r w 300)), (4, .ref (w_r w 301))]) (v := (x5 + 5)) dL_law_2920 7 rfl rfl (by decide) rfl ?_
      refine g_goto C dL_law_2923 (tgt := 28) rfl ?_
      refine g_sub [3, 4, 5, 6, 7, 0] (lv' := [(0, .ref b), (1, .ref (w_r w 0)), (2, .ref (w_r w 292)), (3, .ref (w_r w 300)), (4, .ref (w_r w 301)), (5, .int (x5 + 5))]) rfl ?_
      exact hl1 ((x5 + 5), d668) (Option.some.inj h).symm
    · replace h := it_t q h
      refine g_aload C dL_law_2377 6 rfl ?_
      refine g_iconst C dL_law_2379 (v := 0) rfl ?_
      refine g_dald C 301 q_301 dL_law_2380 ?_
      refine g_dload C dL_law_2381 0 rfl ?_
      refine g_dcmp C dL_law_2383  ?_
      refine g_if_eq C dL_law_2384 (tgt := 2409) rfl (fun q => ?_) (fun q => ?_)
      · replace h := it_t q h
        refine g_goto C dL_law_2409 (tgt := 2920) rfl ?_
        refine g_iinc C (lv' := [(5, .int (x5 + 5)), (7, .double r667), (6, .int r664), (0, .ref b), (1, .ref (w_r w 0)), (2, .ref (w_r w 292)), (3, .ref (w_r w 300)), (4, .ref (w_r w 301))]) (v := (x5 + 5)) dL_law_2920 7 rfl rfl (by decide) rfl ?_
        refine g_goto C dL_law_2923 (tgt := 28) rfl ?_
        refine g_sub [3, 4, 5, 6, 7, 0] (lv' := [(0, .ref b), (1, .ref (w_r w 0)), (2, .ref (w_r w 292)), (3, .ref (w_r w 300)), (4, .ref (w_r w 301)), (5, .int (x5 + 5))]) rfl ?_
        exact hl1 ((x5 + 5), d668) (Option.some.inj h).symm
      · replace h := it_f q h
        refine g_aload C dL_law_2387 6 rfl ?_
        refine g_iconst C dL_law_2389 (v := 0) rfl ?_
        refine g_dald C 301 q_301 dL_law_2390 ?_
        refine g_aload C dL_law_2391 6 rfl ?_
        refine g_iconst C dL_law_2393 (v := 0) rfl ?_
        refine g_dald C 301 q_301 dL_law_2394 ?_
        refine g_dcmp C dL_law_2395  ?_
        refine g_if_eq C dL_law_2396 (tgt := 2407) rfl (fun q => ?_) (fun q => ?_)
        · replace h := it_t q h
          replace h := ir_2 h hx1
          refine g_iconst C dL_law_2407 (v := 0) rfl ?_
          exact (law_no h).elim
        · replace h := it_f q h
          refine g_dload C dL_law_2399 0 rfl ?_
          refine g_dload C dL_law_2401 0 rfl ?_
          refine g_dcmp C dL_law_2403  ?_
          refine g_if_ne C dL_law_2404 (tgt := 2409) rfl (fun q => ?_) (fun q => ?_)
          · replace h := it_f q h
            refine g_goto C dL_law_2409 (tgt := 2920) rfl ?_
            refine g_iinc C (lv' := [(5, .int (x5 + 5)), (7, .double r667), (6, .int r664), (0, .ref b), (1, .ref (w_r w 0)), (2, .ref (w_r w 292)), (3, .ref (w_r w 300)), (4, .ref (w_r w 301))]) (v := (x5 + 5)) dL_law_2920 7 rfl rfl (by decide) rfl ?_
            refine g_goto C dL_law_2923 (tgt := 28) rfl ?_
            refine g_sub [3, 4, 5, 6, 7, 0] (lv' := [(0, .ref b), (1, .ref (w_r w 0)), (2, .ref (w_r w 292)), (3, .ref (w_r w 300)), (4, .ref (w_r w 301)), (5, .int (x5 + 5))]) rfl ?_
            exact hl1 ((x5 + 5), d668) (Option.some.inj h).symm
          · replace h := it_t q h
            replace h := ir_2 h hx1
            refine g_iconst C dL_law_2407 (v := 0) rfl ?_
            exact (law_no h).elim
  · replace h := it_f q h
    replace h := ir_2 h hx1
    refine g_iconst C dL_law_2370 (v := 0) rfl ?_
    exact (law_no h).elim
set_option maxHeartbeats 4000000 in
set_option maxRecDepth 100000 in
theorem law_c_2412 {w : wT} {p : Program} {l : Launch} {e : Env} {R : Room} {s : State} {m : MethodId} {args : Array Value} {below : List Frame} {meth : Method} {c : Code} {b L k n : Nat} {xs : Nat → Int32} {Q : State → Prop} {x5 : Int32} {d dE : Dt} {y1 : (Int32 × Dt) ⊕ (Int32 × Dt)} (C : gC w p s m args c cL_law 9 RL) (hl9 : l.stackTraces = false) (hX : va_X b L xs s s.heap) (hb : ¬ A_W w b) (hR : R = gRmX 2048 603072 7194730) (hk : k + 8 ≤ 603072) (hn : n + 60 ≤ 7194730) (hE : ∀ (d : Dt) (lv : List (Nat × Value)), gG w p l e R s m args below meth c 9 603072 7194730 Q d lv 2927 [.int 1]) (hl1 : ∀ s1 : Int32 × Dt, y1 = .inl s1 → gG w p l e R s m args below meth c 9 (k + 8) (n + 60) Q s1.2 [(0, .ref b), (1, .ref (w_r w 0)), (2, .ref (w_r w 292)), (3, .ref (w_r w 300)), (4, .ref (w_r w 301)), (5, .int s1.1)] 28 []) (hx1 : ∀ z, y1 = .inr z → z = (1, dE)) (h : f_W_law_2412 L xs x5 d = some y1) : gG w p l e R s m args below meth c 9 k n Q d [(0, .ref b), (1, .ref (w_r w 0)), (2, .ref (w_r w 292)), (3, .ref (w_r w 300)), (4, .ref (w_r w 301)), (5, .int x5)] 2412 [] := by
  unfold f_W_law_2412 at h
  refine g_aload_n C dL_law_2412 1 rfl ?_
  refine g_aload C dL_law_2413 4 rfl ?_
  obtain ⟨r672, d673, hc674, h⟩ := ob2_1 h
  refine g_callSW C (k + 8) (n + 60) hk_W_322 hR rfl (m_W_guiltyShare C.2.2.2.2.2.2.1 hl9 hc674) rfl rfl rfl dL_law_2415 rfl rfl (by omega) (by omega) ?_
  refine g_istore C (lv' := [(6, .int r672), (0, .ref b), (1, .ref (w_r w 0)), (2, .ref (w_r w 292)), (3, .ref (w_r w 300)), (4, .ref (w_r w 301)), (5, .int x5)]) dL_law_2418 (by decide) rfl ?_
  refine g_aload_n C dL_law_2420 3 rfl ?_
  obtain ⟨r675, d676, hc677, h⟩ := ob2_1 h
  refine g_callVf C 292 q_292 vk_W_324 hR rfl (m_M_guiltyShare C.2.2.2.2.2.2.1 hc677) rfl rfl rfl dL_law_2421 (bleL (by omega)) (bleL (by omega)) ?_
  refine g_fstore C (lv' := [(7, .float r675), (6, .int r672), (0, .ref b), (1, .ref (w_r w 0)), (2, .ref (w_r w 292)), (3, .ref (w_r w 300)), (4, .ref (w_r w 301)), (5, .int x5)]) dL_law_2424 (by decide) rfl ?_
  refine g_aload_n C dL_law_2426 4 rfl ?_
  obtain ⟨r678, hc679, h⟩ := ob1_1 h
  refine g_callVi C 292 q_292 vk_W_162 hR rfl (m_M_thrown C.2.2.2.2.2.2.1 hc679) rfl rfl rfl dL_law_2427 (bleL (by omega)) (bleL (by omega)) ?_
  refine g_iload C dL_law_2430 1 rfl ?_
  refine g_icmp_eq C dL_law_2432 (tgt := 2437) rfl (fun q => ?_) (fun q => ?_)
  · replace h := it_t q h
    refine g_iload C dL_law_2437 1 rfl ?_
    refine g_if_ne C dL_law_2439 (tgt := 2475) rfl (fun q => ?_) (fun q => ?_)
    · replace h := it_f q h
      refine g_goto C dL_law_2475 (tgt := 2920) rfl ?_
      refine g_iinc C (lv' := [(5, .int (x5 + 5)), (7, .float r675), (6, .int r672), (0, .ref b), (1, .ref (w_r w 0)), (2, .ref (w_r w 292)), (3, .ref (w_r w 300)), (4, .ref (w_r w 301))]) (v := (x5 + 5)) dL_law_2920 7 rfl rfl (by decide) rfl ?_
      refine g_goto C dL_law_2923 (tgt := 28) rfl ?_
      refine g_sub [3, 4, 5, 6, 7, 0] (lv' := [(0, .ref b), (1, .ref (w_r w 0)), (2, .ref (w_r w 292)), (3, .ref (w_r w 300)), (4, .ref (w_r w 301)), (5, .int (x5 + 5))]) rfl ?_
      exact hl1 ((x5 + 5), d676) (Option.some.inj h).symm
    · replace h := it_t q h
      refine g_aload C dL_law_2442 6 rfl ?_
      refine g_iconst C dL_law_2444 (v := 0) rfl ?_
      refine g_dald C 301 q_301 dL_law_2445 ?_
      refine g_fload C dL_law_2446 0 rfl ?_
      have hg680 := gd_1 h
      replace h := gd_2 h
      refine g_f2d C dL_law_2448 (vn64_1 hg680) ?_
      refine g_dcmp C dL_law_2449  ?_
      refine g_if_eq C dL_law_2450 (tgt := 2475) rfl (fun q => ?_) (fun q => ?_)
      · replace h := it_t q h
        refine g_goto C dL_law_2475 (tgt := 2920) rfl ?_
        refine g_iinc C (lv' := [(5, .int (x5 + 5)), (7, .float r675), (6, .int r672), (0, .ref b), (1, .ref (w_r w 0)), (2, .ref (w_r w 292)), (3, .ref (w_r w 300)), (4, .ref (w_r w 301))]) (v := (x5 + 5)) dL_law_2920 7 rfl rfl (by decide) rfl ?_
        refine g_goto C dL_law_2923 (tgt := 28) rfl ?_
        refine g_sub [3, 4, 5, 6, 7, 0] (lv' := [(0, .ref b), (1, .ref (w_r w 0)), (2, .ref (w_r w 292)), (3, .ref (w_r w 300)), (4, .ref (w_r w 301)), (5, .int (x5 + 5))]) rfl ?_
        exact hl1 ((x5 + 5), d676) (Option.some.inj h).symm
      · replace h := it_f q h
        refine g_aload C dL_law_2453 6 rfl ?_
        refine g_iconst C dL_law_2455 (v := 0) rfl ?_
        refine g_dald C 301 q_301 dL_law_2456 ?_
        refine g_aload C dL_law_2457 6 rfl ?_
        refine g_iconst C dL_law_2459 (v := 0) rfl ?_
        refine g_dald C 301 q_301 dL_law_2460 ?_
        refine g_dcmp C dL_law_2461  ?_
        refine g_if_eq C dL_law_2462 (tgt := 2473) rfl (fun q => ?_) (fun q => ?_)
        · replace h := it_t q h
          replace h := ir_2 h hx1
          refine g_iconst C dL_law_2473 (v := 0) rfl ?_
          exact (law_no h).elim
        · replace h := it_f q h
          refine g_fload C dL_law_2465 0 rfl ?_
          refine g_fload C dL_law_2467 0 rfl ?_
          refine g_fcmp C dL_law_2469  ?_
          refine g_if_ne C dL_law_2470 (tgt := 2475) rfl (fun q => ?_) (fun q => ?_)
          · replace h := it_f q h
            refine g_goto C dL_law_2475 (tgt := 2920) rfl ?_
            refine g_iinc C (lv' := [(5, .int (x5 + 5)), (7, .float r675), (6, .int r672), (0, .ref b), (1, .ref (w_r w 0)), (2, .ref (w_r w 292)), (3, .ref (w_r w 300)), (4, .ref (w_r w 301))]) (v := (x5 + 5)) dL_law_2920 7 rfl rfl (by decide) rfl ?_
            refine g_goto C dL_law_2923 (tgt := 28) rfl ?_
            refine g_sub [3, 4, 5, 6, 7, 0] (lv' := [(0, .ref b), (1, .ref (w_r w 0)), (2, .ref (w_r w 292)), (3, .ref (w_r w 300)), (4, .ref (w_r w 301)), (5, .int (x5 + 5))]) rfl ?_
            exact hl1 ((x5 + 5), d676) (Option.some.inj h).symm
          · replace h := it_t q h
            replace h := ir_2 h hx1
            refine g_iconst C dL_law_2473 (v := 0) rfl ?_
            exact (law_no h).elim
  · replace h := it_f q h
    replace h := ir_2 h hx1
    refine g_iconst C dL_law_2435 (v := 0) rfl ?_
    exact (law_no h).elim
set_option maxHeartbeats 4000000 in
set_option maxRecDepth 100000 in
theorem law_c_2478 {w : wT} {p : Program} {l : Launch} {e : Env} {R : Room} {s : State} {m : MethodId} {args : Array Value} {below : List Frame} {meth : Method} {c : Code} {b L k n : Nat} {xs : Nat → Int32} {Q : State → Prop} {x5 : Int32} {d dE : Dt} {y1 : (Int32 × Dt) ⊕ (Int32 × Dt)} (C : gC w p s m args c cL_law 9 RL) (hl9 : l.stackTraces = false) (hX : va_X b L xs s s.heap) (hb : ¬ A_W w b) (hR : R = gRmX 2048 603072 7194730) (hk : k + 8 ≤ 603072) (hn : n + 60 ≤ 7194730) (hE : ∀ (d : Dt) (lv : List (Nat × Value)), gG w p l e R s m args below meth c 9 603072 7194730 Q d lv 2927 [.int 1]) (hl1 : ∀ s1 : Int32 × Dt, y1 = .inl s1 → gG w p l e R s m args below meth c 9 (k + 8) (n + 60) Q s1.2 [(0, .ref b), (1, .ref (w_r w 0)), (2, .ref (w_r w 292)), (3, .ref (w_r w 300)), (4, .ref (w_r w 301)), (5, .int s1.1)] 28 []) (hx1 : ∀ z, y1 = .inr z → z = (1, dE)) (h : f_W_law_2478 L xs x5 d = some y1) : gG w p l e R s m args below meth c 9 k n Q d [(0, .ref b), (1, .ref (w_r w 0)), (2, .ref (w_r w 292)), (3, .ref (w_r w 300)), (4, .ref (w_r w 301)), (5, .int x5)] 2478 [] := by
  unfold f_W_law_2478 at h
  refine g_aload_n C dL_law_2478 1 rfl ?_
  obtain ⟨r681, d682, hc683, h⟩ := ob2_1 h
  refine g_callVi C 0 q_0 vk_W_325 hR rfl (m_C_isConsistent C.2.2.2.2.2.2.1 hc683) rfl rfl rfl dL_law_2479 (bleL (by omega)) (bleL (by omega)) ?_
  refine g_aload_n C dL_law_2482 2 rfl ?_
  obtain ⟨r684, d685, hc686, h⟩ := ob2_1 h
  refine g_callVi C 292 q_292 vk_W_329 hR rfl (m_M_isConsistent C.2.2.2.2.2.2.1 hc686) rfl rfl rfl dL_law_2483 (bleL (by omega)) (bleL (by omega)) ?_
  refine g_icmp_eq C dL_law_2486 (tgt := 2920) rfl (fun q => ?_) (fun q => ?_)
  · replace h := it_t q h
    refine g_iinc C (lv' := [(5, .int (x5 + 5)), (0, .ref b), (1, .ref (w_r w 0)), (2, .ref (w_r w 292)), (3, .ref (w_r w 300)), (4, .ref (w_r w 301))]) (v := (x5 + 5)) dL_law_2920 5 rfl rfl (by decide) rfl ?_
    refine g_goto C dL_law_2923 (tgt := 28) rfl ?_
    refine g_sub [1, 2, 3, 4, 5, 0] (lv' := [(0, .ref b), (1, .ref (w_r w 0)), (2, .ref (w_r w 292)), (3, .ref (w_r w 300)), (4, .ref (w_r w 301)), (5, .int (x5 + 5))]) rfl ?_
    refine g_widP (k + 8) (n + 60) (by omega) (by omega) ?_
    exact hl1 ((x5 + 5), d685) (Option.some.inj h).symm
  · replace h := it_f q h
    replace h := ir_2 h hx1
    refine g_iconst C dL_law_2489 (v := 0) rfl ?_
    exact (law_no h).elim
set_option maxHeartbeats 4000000 in
set_option maxRecDepth 100000 in
theorem law_c_2491 {w : wT} {p : Program} {l : Launch} {e : Env} {R : Room} {s : State} {m : MethodId} {args : Array Value} {below : List Frame} {meth : Method} {c : Code} {b L k n : Nat} {xs : Nat → Int32} {Q : State → Prop} {x5 : Int32} {d dE : Dt} {y1 : (Int32 × Dt) ⊕ (Int32 × Dt)} (C : gC w p s m args c cL_law 9 RL) (hl9 : l.stackTraces = false) (hX : va_X b L xs s s.heap) (hb : ¬ A_W w b) (hR : R = gRmX 2048 603072 7194730) (hk : k + 8 ≤ 603072) (hn : n + 60 ≤ 7194730) (hE : ∀ (d : Dt) (lv : List (Nat × Value)), gG w p l e R s m args below meth c 9 603072 7194730 Q d lv 2927 [.int 1]) (hl1 : ∀ s1 : Int32 × Dt, y1 = .inl s1 → gG w p l e R s m args below meth c 9 (k + 8) (n + 60) Q s1.2 [(0, .ref b), (1, .ref (w_r w 0)), (2, .ref (w_r w 292)), (3, .ref (w_r w 300)), (4, .ref (w_r w 301)), (5, .int s1.1)] 28 []) (hx1 : ∀ z, y1 = .inr z → z = (1, dE)) (h : f_W_law_2491 L xs x5 d = some y1) : gG w p l e R s m args below meth c 9 k n Q d [(0, .ref b), (1, .ref (w_r w 0)), (2, .ref (w_r w 292)), (3, .ref (w_r w 300)), (4, .ref (w_r w 301)), (5, .int x5)] 2491 [] := by
  unfold f_W_law_2491 at h
  refine g_aload_n C dL_law_2491 1 rfl ?_
  refine g_aload_n C dL_law_2492 0 rfl ?_
  refine g_iload C dL_law_2493 5 rfl ?_
  refine g_iconst C dL_law_2495 (v := 1) rfl ?_
  refine g_iadd C dL_law_2496  ?_
  have hg687 := gd_1 h
  replace h := gd_2 h
  refine g_xald C hX hb hg687 dL_law_2497 ?_
  refine g_i2c C dL_law_2498  ?_
  refine g_aload_n C dL_law_2499 3 rfl ?_
  obtain ⟨r688, d689, hc690, h⟩ := ob2_1 h
  refine g_callSW C (k + 8) (n + 60) hk_W_330 hR rfl (m_W_feed C.2.2.2.2.2.2.1 hl9 hc690) rfl rfl rfl dL_law_2500 rfl rfl (by omega) (by omega) ?_
  refine g_istore C (lv' := [(6, .int r688), (0, .ref b), (1, .ref (w_r w 0)), (2, .ref (w_r w 292)), (3, .ref (w_r w 300)), (4, .ref (w_r w 301)), (5, .int x5)]) dL_law_2503 (by decide) rfl ?_
  refine g_aload_n C dL_law_2505 3 rfl ?_
  refine g_aload_n C dL_law_2506 1 rfl ?_
  refine g_iload C dL_law_2507 6 rfl ?_
  refine g_iconst C dL_law_2509 (v := 1) rfl ?_
  refine g_iadd C dL_law_2510  ?_
  have hg691 := gd_1 h
  replace h := gd_2 h
  refine g_xald C hX hb hg691 dL_law_2511 ?_
  refine g_i2c C dL_law_2512  ?_
  obtain ⟨r692, d693, hc694, h⟩ := ob2_1 h
  refine g_callVi C 292 q_292 vk_W_332 hR rfl (m_M_feed C.2.2.2.2.2.2.1 hc694) rfl rfl rfl dL_law_2513 (bleL (by omega)) (bleL (by omega)) ?_
  refine g_istore C (lv' := [(7, .int r692), (6, .int r688), (0, .ref b), (1, .ref (w_r w 0)), (2, .ref (w_r w 292)), (3, .ref (w_r w 300)), (4, .ref (w_r w 301)), (5, .int x5)]) dL_law_2516 (by decide) rfl ?_
  refine g_aload_n C dL_law_2518 4 rfl ?_
  obtain ⟨r695, hc696, h⟩ := ob1_1 h
  refine g_callVi C 292 q_292 vk_W_162 hR rfl (m_M_thrown C.2.2.2.2.2.2.1 hc696) rfl rfl rfl dL_law_2519 (bleL (by omega)) (bleL (by omega)) ?_
  refine g_iload C dL_law_2522 1 rfl ?_
  refine g_icmp_eq C dL_law_2524 (tgt := 2529) rfl (fun q => ?_) (fun q => ?_)
  · replace h := it_t q h
    refine g_iload C dL_law_2529 1 rfl ?_
    refine g_if_ne C dL_law_2531 (tgt := 2546) rfl (fun q => ?_) (fun q => ?_)
    · replace h := it_f q h
      refine g_goto C dL_law_2546 (tgt := 2920) rfl ?_
      refine g_iinc C (lv' := [(5, .int (x5 + 5)), (7, .int r692), (6, .int r688), (0, .ref b), (1, .ref (w_r w 0)), (2, .ref (w_r w 292)), (3, .ref (w_r w 300)), (4, .ref (w_r w 301))]) (v := (x5 + 5)) dL_law_2920 7 rfl rfl (by decide) rfl ?_
      refine g_goto C dL_law_2923 (tgt := 28) rfl ?_
      refine g_sub [3, 4, 5, 6, 7, 0] (lv' := [(0, .ref b), (1, .ref (w_r w 0)), (2, .ref (w_r w 292)), (3, .ref (w_r w 300)), (4, .ref (w_r w 301)), (5, .int (x5 + 5))]) rfl ?_
      exact hl1 ((x5 + 5), d693) (Option.some.inj h).symm
    · replace h := it_t q h
      refine g_aload_n C dL_law_2534 5 rfl ?_
      refine g_iconst C dL_law_2535 (v := 0) rfl ?_
      refine g_lald C 300 q_300 (by decide) 0 (by decide) dL_law_2536 ?_
      refine g_iload C dL_law_2537 0 rfl ?_
      refine g_i2l C dL_law_2539  ?_
      refine g_lcmpeq C dL_law_2540 dL_law_2541 (tgt := 2546) rfl (fun q => ?_) (fun q => ?_)
      · replace h := it_t q h
        refine g_goto C dL_law_2546 (tgt := 2920) rfl ?_
        refine g_iinc C (lv' := [(5, .int (x5 + 5)), (7, .int r692), (6, .int r688), (0, .ref b), (1, .ref (w_r w 0)), (2, .ref (w_r w 292)), (3, .ref (w_r w 300)), (4, .ref (w_r w 301))]) (v := (x5 + 5)) dL_law_2920 7 rfl rfl (by decide) rfl ?_
        refine g_goto C dL_law_2923 (tgt := 28) rfl ?_
        refine g_sub [3, 4, 5, 6, 7, 0] (lv' := [(0, .ref b), (1, .ref (w_r w 0)), (2, .ref (w_r w 292)), (3, .ref (w_r w 300)), (4, .ref (w_r w 301)), (5, .int (x5 + 5))]) rfl ?_
        exact hl1 ((x5 + 5), d693) (Option.some.inj h).symm
      · replace h := it_f q h
        replace h := ir_2 h hx1
        refine g_iconst C dL_law_2544 (v := 0) rfl ?_
        exact (law_no h).elim
  · replace h := it_f q h
    replace h := ir_2 h hx1
    refine g_iconst C dL_law_2527 (v := 0) rfl ?_
    exact (law_no h).elim
