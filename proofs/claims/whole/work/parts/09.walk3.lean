/-! 09: the law's walk -/
set_option maxHeartbeats 4000000 in
set_option maxRecDepth 100000 in
theorem law_c_2549 {w : wT} {p : Program} {l : Launch} {e : Env} {R : Room} {s : State} {m : MethodId} {args : Array Value} {below : List Frame} {meth : Method} {c : Code} {b L k n : Nat} {xs : Nat → Int32} {Q : State → Prop} {x5 : Int32} {d dE : Dt} {y1 : (Int32 × Dt) ⊕ (Int32 × Dt)} (C : gC w p s m args c cL_law 9 RL) (hl9 : l.stackTraces = false) (hX : va_X b L xs s s.heap) (hb : ¬ A_W w b) (hR : R = gRmX 2048 603072 7194730) (hk : k + 8 ≤ 603072) (hn : n + 60 ≤ 7194730) (hE : ∀ (d : Dt) (lv : List (Nat × Value)), gG w p l e R s m args below meth c 9 603072 7194730 Q d lv 2927 [.int 1]) (hl1 : ∀ s1 : Int32 × Dt, y1 = .inl s1 → gG w p l e R s m args below meth c 9 (k + 8) (n + 60) Q s1.2 [(0, .ref b), (1, .ref (w_r w 0)), (2, .ref (w_r w 292)), (3, .ref (w_r w 300)), (4, .ref (w_r w 301)), (5, .int s1.1)] 28 []) (hx1 : ∀ z, y1 = .inr z → z = (1, dE)) (h : f_W_law_2549 L xs x5 d = some y1) : gG w p l e R s m args below meth c 9 k n Q d [(0, .ref b), (1, .ref (w_r w 0)), (2, .ref (w_r w 292)), (3, .ref (w_r w 300)), (4, .ref (w_r w 301)), (5, .int x5)] 2549 [] := by
  unfold f_W_law_2549 at h
  refine g_aload_n C dL_law_2549 1 rfl ?_
  refine g_aload_n C dL_law_2550 3 rfl ?_
  obtain ⟨r697, d698, hc699, h⟩ := ob2_1 h
  refine g_callSW C (k + 8) (n + 60) hk_W_333 hR rfl (m_W_runCommands C.2.2.2.2.2.2.1 hl9 hc699) rfl rfl rfl dL_law_2551 rfl rfl (by omega) (by omega) ?_
  refine g_istore C (lv' := [(6, .int r697), (0, .ref b), (1, .ref (w_r w 0)), (2, .ref (w_r w 292)), (3, .ref (w_r w 300)), (4, .ref (w_r w 301)), (5, .int x5)]) dL_law_2554 (by decide) rfl ?_
  refine g_aload_n C dL_law_2556 3 rfl ?_
  obtain ⟨r700, d701, hc702, h⟩ := ob2_1 h
  refine g_callVi C 292 q_292 vk_W_335 hR rfl (m_M_runCommands C.2.2.2.2.2.2.1 hc702) rfl rfl rfl dL_law_2557 (bleL (by omega)) (bleL (by omega)) ?_
  refine g_istore C (lv' := [(7, .int r700), (6, .int r697), (0, .ref b), (1, .ref (w_r w 0)), (2, .ref (w_r w 292)), (3, .ref (w_r w 300)), (4, .ref (w_r w 301)), (5, .int x5)]) dL_law_2560 (by decide) rfl ?_
  refine g_aload_n C dL_law_2562 4 rfl ?_
  obtain ⟨r703, hc704, h⟩ := ob1_1 h
  refine g_callVi C 292 q_292 vk_W_162 hR rfl (m_M_thrown C.2.2.2.2.2.2.1 hc704) rfl rfl rfl dL_law_2563 (bleL (by omega)) (bleL (by omega)) ?_
  refine g_iload C dL_law_2566 1 rfl ?_
  refine g_icmp_eq C dL_law_2568 (tgt := 2573) rfl (fun q => ?_) (fun q => ?_)
  · replace h := it_t q h
    refine g_iload C dL_law_2573 1 rfl ?_
    refine g_if_ne C dL_law_2575 (tgt := 2590) rfl (fun q => ?_) (fun q => ?_)
    · replace h := it_f q h
      refine g_goto C dL_law_2590 (tgt := 2920) rfl ?_
      refine g_iinc C (lv' := [(5, .int (x5 + 5)), (7, .int r700), (6, .int r697), (0, .ref b), (1, .ref (w_r w 0)), (2, .ref (w_r w 292)), (3, .ref (w_r w 300)), (4, .ref (w_r w 301))]) (v := (x5 + 5)) dL_law_2920 7 rfl rfl (by decide) rfl ?_
      refine g_goto C dL_law_2923 (tgt := 28) rfl ?_
      refine g_sub [3, 4, 5, 6, 7, 0] (lv' := [(0, .ref b), (1, .ref (w_r w 0)), (2, .ref (w_r w 292)), (3, .ref (w_r w 300)), (4, .ref (w_r w 301)), (5, .int (x5 + 5))]) rfl ?_
      exact hl1 ((x5 + 5), d701) (Option.some.inj h).symm
    · replace h := it_t q h
      refine g_aload_n C dL_law_2578 5 rfl ?_
      refine g_iconst C dL_law_2579 (v := 0) rfl ?_
      refine g_lald C 300 q_300 (by decide) 0 (by decide) dL_law_2580 ?_
      refine g_iload C dL_law_2581 0 rfl ?_
      refine g_i2l C dL_law_2583  ?_
      refine g_lcmpeq C dL_law_2584 dL_law_2585 (tgt := 2590) rfl (fun q => ?_) (fun q => ?_)
      · replace h := it_t q h
        refine g_goto C dL_law_2590 (tgt := 2920) rfl ?_
        refine g_iinc C (lv' := [(5, .int (x5 + 5)), (7, .int r700), (6, .int r697), (0, .ref b), (1, .ref (w_r w 0)), (2, .ref (w_r w 292)), (3, .ref (w_r w 300)), (4, .ref (w_r w 301))]) (v := (x5 + 5)) dL_law_2920 7 rfl rfl (by decide) rfl ?_
        refine g_goto C dL_law_2923 (tgt := 28) rfl ?_
        refine g_sub [3, 4, 5, 6, 7, 0] (lv' := [(0, .ref b), (1, .ref (w_r w 0)), (2, .ref (w_r w 292)), (3, .ref (w_r w 300)), (4, .ref (w_r w 301)), (5, .int (x5 + 5))]) rfl ?_
        exact hl1 ((x5 + 5), d701) (Option.some.inj h).symm
      · replace h := it_f q h
        replace h := ir_2 h hx1
        refine g_iconst C dL_law_2588 (v := 0) rfl ?_
        exact (law_no h).elim
  · replace h := it_f q h
    replace h := ir_2 h hx1
    refine g_iconst C dL_law_2571 (v := 0) rfl ?_
    exact (law_no h).elim
set_option maxHeartbeats 4000000 in
set_option maxRecDepth 100000 in
theorem law_c_2593 {w : wT} {p : Program} {l : Launch} {e : Env} {R : Room} {s : State} {m : MethodId} {args : Array Value} {below : List Frame} {meth : Method} {c : Code} {b L k n : Nat} {xs : Nat → Int32} {Q : State → Prop} {x5 : Int32} {d dE : Dt} {y1 : (Int32 × Dt) ⊕ (Int32 × Dt)} (C : gC w p s m args c cL_law 9 RL) (hl9 : l.stackTraces = false) (hX : va_X b L xs s s.heap) (hb : ¬ A_W w b) (hR : R = gRmX 2048 603072 7194730) (hk : k + 8 ≤ 603072) (hn : n + 60 ≤ 7194730) (hE : ∀ (d : Dt) (lv : List (Nat × Value)), gG w p l e R s m args below meth c 9 603072 7194730 Q d lv 2927 [.int 1]) (hl1 : ∀ s1 : Int32 × Dt, y1 = .inl s1 → gG w p l e R s m args below meth c 9 (k + 8) (n + 60) Q s1.2 [(0, .ref b), (1, .ref (w_r w 0)), (2, .ref (w_r w 292)), (3, .ref (w_r w 300)), (4, .ref (w_r w 301)), (5, .int s1.1)] 28 []) (hx1 : ∀ z, y1 = .inr z → z = (1, dE)) (h : f_W_law_2593 L xs x5 d = some y1) : gG w p l e R s m args below meth c 9 k n Q d [(0, .ref b), (1, .ref (w_r w 0)), (2, .ref (w_r w 292)), (3, .ref (w_r w 300)), (4, .ref (w_r w 301)), (5, .int x5)] 2593 [] := by
  unfold f_W_law_2593 at h
  refine g_aload_n C dL_law_2593 1 rfl ?_
  refine g_aload_n C dL_law_2594 3 rfl ?_
  obtain ⟨r705, d706, hc707, h⟩ := ob2_1 h
  refine g_callSW C (k + 8) (n + 60) hk_W_336 hR rfl (m_W_errorPosition C.2.2.2.2.2.2.1 hl9 hc707) rfl rfl rfl dL_law_2595 rfl rfl (by omega) (by omega) ?_
  refine g_istore C (lv' := [(6, .int r705), (0, .ref b), (1, .ref (w_r w 0)), (2, .ref (w_r w 292)), (3, .ref (w_r w 300)), (4, .ref (w_r w 301)), (5, .int x5)]) dL_law_2598 (by decide) rfl ?_
  refine g_aload_n C dL_law_2600 3 rfl ?_
  obtain ⟨r708, d709, hc710, h⟩ := ob2_1 h
  refine g_callVi C 292 q_292 vk_W_338 hR rfl (m_M_errorPosition C.2.2.2.2.2.2.1 hc710) rfl rfl rfl dL_law_2601 (bleL (by omega)) (bleL (by omega)) ?_
  refine g_istore C (lv' := [(7, .int r708), (6, .int r705), (0, .ref b), (1, .ref (w_r w 0)), (2, .ref (w_r w 292)), (3, .ref (w_r w 300)), (4, .ref (w_r w 301)), (5, .int x5)]) dL_law_2604 (by decide) rfl ?_
  refine g_aload_n C dL_law_2606 4 rfl ?_
  obtain ⟨r711, hc712, h⟩ := ob1_1 h
  refine g_callVi C 292 q_292 vk_W_162 hR rfl (m_M_thrown C.2.2.2.2.2.2.1 hc712) rfl rfl rfl dL_law_2607 (bleL (by omega)) (bleL (by omega)) ?_
  refine g_iload C dL_law_2610 1 rfl ?_
  refine g_icmp_eq C dL_law_2612 (tgt := 2617) rfl (fun q => ?_) (fun q => ?_)
  · replace h := it_t q h
    refine g_iload C dL_law_2617 1 rfl ?_
    refine g_if_ne C dL_law_2619 (tgt := 2634) rfl (fun q => ?_) (fun q => ?_)
    · replace h := it_f q h
      refine g_goto C dL_law_2634 (tgt := 2920) rfl ?_
      refine g_iinc C (lv' := [(5, .int (x5 + 5)), (7, .int r708), (6, .int r705), (0, .ref b), (1, .ref (w_r w 0)), (2, .ref (w_r w 292)), (3, .ref (w_r w 300)), (4, .ref (w_r w 301))]) (v := (x5 + 5)) dL_law_2920 7 rfl rfl (by decide) rfl ?_
      refine g_goto C dL_law_2923 (tgt := 28) rfl ?_
      refine g_sub [3, 4, 5, 6, 7, 0] (lv' := [(0, .ref b), (1, .ref (w_r w 0)), (2, .ref (w_r w 292)), (3, .ref (w_r w 300)), (4, .ref (w_r w 301)), (5, .int (x5 + 5))]) rfl ?_
      exact hl1 ((x5 + 5), d709) (Option.some.inj h).symm
    · replace h := it_t q h
      refine g_aload_n C dL_law_2622 5 rfl ?_
      refine g_iconst C dL_law_2623 (v := 0) rfl ?_
      refine g_lald C 300 q_300 (by decide) 0 (by decide) dL_law_2624 ?_
      refine g_iload C dL_law_2625 0 rfl ?_
      refine g_i2l C dL_law_2627  ?_
      refine g_lcmpeq C dL_law_2628 dL_law_2629 (tgt := 2634) rfl (fun q => ?_) (fun q => ?_)
      · replace h := it_t q h
        refine g_goto C dL_law_2634 (tgt := 2920) rfl ?_
        refine g_iinc C (lv' := [(5, .int (x5 + 5)), (7, .int r708), (6, .int r705), (0, .ref b), (1, .ref (w_r w 0)), (2, .ref (w_r w 292)), (3, .ref (w_r w 300)), (4, .ref (w_r w 301))]) (v := (x5 + 5)) dL_law_2920 7 rfl rfl (by decide) rfl ?_
        refine g_goto C dL_law_2923 (tgt := 28) rfl ?_
        refine g_sub [3, 4, 5, 6, 7, 0] (lv' := [(0, .ref b), (1, .ref (w_r w 0)), (2, .ref (w_r w 292)), (3, .ref (w_r w 300)), (4, .ref (w_r w 301)), (5, .int (x5 + 5))]) rfl ?_
        exact hl1 ((x5 + 5), d709) (Option.some.inj h).symm
      · replace h := it_f q h
        replace h := ir_2 h hx1
        refine g_iconst C dL_law_2632 (v := 0) rfl ?_
        exact (law_no h).elim
  · replace h := it_f q h
    replace h := ir_2 h hx1
    refine g_iconst C dL_law_2615 (v := 0) rfl ?_
    exact (law_no h).elim
set_option maxHeartbeats 4000000 in
set_option maxRecDepth 100000 in
theorem law_c_2637 {w : wT} {p : Program} {l : Launch} {e : Env} {R : Room} {s : State} {m : MethodId} {args : Array Value} {below : List Frame} {meth : Method} {c : Code} {b L k n : Nat} {xs : Nat → Int32} {Q : State → Prop} {x5 : Int32} {d dE : Dt} {y1 : (Int32 × Dt) ⊕ (Int32 × Dt)} (C : gC w p s m args c cL_law 9 RL) (hl9 : l.stackTraces = false) (hX : va_X b L xs s s.heap) (hb : ¬ A_W w b) (hR : R = gRmX 2048 603072 7194730) (hk : k + 8 ≤ 603072) (hn : n + 60 ≤ 7194730) (hE : ∀ (d : Dt) (lv : List (Nat × Value)), gG w p l e R s m args below meth c 9 603072 7194730 Q d lv 2927 [.int 1]) (hl1 : ∀ s1 : Int32 × Dt, y1 = .inl s1 → gG w p l e R s m args below meth c 9 (k + 8) (n + 60) Q s1.2 [(0, .ref b), (1, .ref (w_r w 0)), (2, .ref (w_r w 292)), (3, .ref (w_r w 300)), (4, .ref (w_r w 301)), (5, .int s1.1)] 28 []) (hx1 : ∀ z, y1 = .inr z → z = (1, dE)) (h : f_W_law_2637 L xs x5 d = some y1) : gG w p l e R s m args below meth c 9 k n Q d [(0, .ref b), (1, .ref (w_r w 0)), (2, .ref (w_r w 292)), (3, .ref (w_r w 300)), (4, .ref (w_r w 301)), (5, .int x5)] 2637 [] := by
  unfold f_W_law_2637 at h
  refine g_aload_n C dL_law_2637 1 rfl ?_
  refine g_aload_n C dL_law_2638 3 rfl ?_
  obtain ⟨r713, d714, hc715, h⟩ := ob2_1 h
  refine g_callSW C (k + 8) (n + 60) hk_W_339 hR rfl (m_W_failedCommand C.2.2.2.2.2.2.1 hl9 hc715) rfl rfl rfl dL_law_2639 rfl rfl (by omega) (by omega) ?_
  refine g_istore C (lv' := [(6, .int r713), (0, .ref b), (1, .ref (w_r w 0)), (2, .ref (w_r w 292)), (3, .ref (w_r w 300)), (4, .ref (w_r w 301)), (5, .int x5)]) dL_law_2642 (by decide) rfl ?_
  refine g_aload_n C dL_law_2644 3 rfl ?_
  obtain ⟨r716, d717, hc718, h⟩ := ob2_1 h
  refine g_callVi C 292 q_292 vk_W_341 hR rfl (m_M_failedCommand C.2.2.2.2.2.2.1 hc718) rfl rfl rfl dL_law_2645 (bleL (by omega)) (bleL (by omega)) ?_
  refine g_istore C (lv' := [(7, .int r716), (6, .int r713), (0, .ref b), (1, .ref (w_r w 0)), (2, .ref (w_r w 292)), (3, .ref (w_r w 300)), (4, .ref (w_r w 301)), (5, .int x5)]) dL_law_2648 (by decide) rfl ?_
  refine g_aload_n C dL_law_2650 4 rfl ?_
  obtain ⟨r719, hc720, h⟩ := ob1_1 h
  refine g_callVi C 292 q_292 vk_W_162 hR rfl (m_M_thrown C.2.2.2.2.2.2.1 hc720) rfl rfl rfl dL_law_2651 (bleL (by omega)) (bleL (by omega)) ?_
  refine g_iload C dL_law_2654 1 rfl ?_
  refine g_icmp_eq C dL_law_2656 (tgt := 2661) rfl (fun q => ?_) (fun q => ?_)
  · replace h := it_t q h
    refine g_iload C dL_law_2661 1 rfl ?_
    refine g_if_ne C dL_law_2663 (tgt := 2678) rfl (fun q => ?_) (fun q => ?_)
    · replace h := it_f q h
      refine g_goto C dL_law_2678 (tgt := 2920) rfl ?_
      refine g_iinc C (lv' := [(5, .int (x5 + 5)), (7, .int r716), (6, .int r713), (0, .ref b), (1, .ref (w_r w 0)), (2, .ref (w_r w 292)), (3, .ref (w_r w 300)), (4, .ref (w_r w 301))]) (v := (x5 + 5)) dL_law_2920 7 rfl rfl (by decide) rfl ?_
      refine g_goto C dL_law_2923 (tgt := 28) rfl ?_
      refine g_sub [3, 4, 5, 6, 7, 0] (lv' := [(0, .ref b), (1, .ref (w_r w 0)), (2, .ref (w_r w 292)), (3, .ref (w_r w 300)), (4, .ref (w_r w 301)), (5, .int (x5 + 5))]) rfl ?_
      exact hl1 ((x5 + 5), d717) (Option.some.inj h).symm
    · replace h := it_t q h
      refine g_aload_n C dL_law_2666 5 rfl ?_
      refine g_iconst C dL_law_2667 (v := 0) rfl ?_
      refine g_lald C 300 q_300 (by decide) 0 (by decide) dL_law_2668 ?_
      refine g_iload C dL_law_2669 0 rfl ?_
      refine g_i2l C dL_law_2671  ?_
      refine g_lcmpeq C dL_law_2672 dL_law_2673 (tgt := 2678) rfl (fun q => ?_) (fun q => ?_)
      · replace h := it_t q h
        refine g_goto C dL_law_2678 (tgt := 2920) rfl ?_
        refine g_iinc C (lv' := [(5, .int (x5 + 5)), (7, .int r716), (6, .int r713), (0, .ref b), (1, .ref (w_r w 0)), (2, .ref (w_r w 292)), (3, .ref (w_r w 300)), (4, .ref (w_r w 301))]) (v := (x5 + 5)) dL_law_2920 7 rfl rfl (by decide) rfl ?_
        refine g_goto C dL_law_2923 (tgt := 28) rfl ?_
        refine g_sub [3, 4, 5, 6, 7, 0] (lv' := [(0, .ref b), (1, .ref (w_r w 0)), (2, .ref (w_r w 292)), (3, .ref (w_r w 300)), (4, .ref (w_r w 301)), (5, .int (x5 + 5))]) rfl ?_
        exact hl1 ((x5 + 5), d717) (Option.some.inj h).symm
      · replace h := it_f q h
        replace h := ir_2 h hx1
        refine g_iconst C dL_law_2676 (v := 0) rfl ?_
        exact (law_no h).elim
  · replace h := it_f q h
    replace h := ir_2 h hx1
    refine g_iconst C dL_law_2659 (v := 0) rfl ?_
    exact (law_no h).elim
set_option maxHeartbeats 4000000 in
set_option maxRecDepth 100000 in
theorem law_c_2681 {w : wT} {p : Program} {l : Launch} {e : Env} {R : Room} {s : State} {m : MethodId} {args : Array Value} {below : List Frame} {meth : Method} {c : Code} {b L k n : Nat} {xs : Nat → Int32} {Q : State → Prop} {x5 : Int32} {d dE : Dt} {y1 : (Int32 × Dt) ⊕ (Int32 × Dt)} (C : gC w p s m args c cL_law 9 RL) (hl9 : l.stackTraces = false) (hX : va_X b L xs s s.heap) (hb : ¬ A_W w b) (hR : R = gRmX 2048 603072 7194730) (hk : k + 8 ≤ 603072) (hn : n + 60 ≤ 7194730) (hE : ∀ (d : Dt) (lv : List (Nat × Value)), gG w p l e R s m args below meth c 9 603072 7194730 Q d lv 2927 [.int 1]) (hl1 : ∀ s1 : Int32 × Dt, y1 = .inl s1 → gG w p l e R s m args below meth c 9 (k + 8) (n + 60) Q s1.2 [(0, .ref b), (1, .ref (w_r w 0)), (2, .ref (w_r w 292)), (3, .ref (w_r w 300)), (4, .ref (w_r w 301)), (5, .int s1.1)] 28 []) (hx1 : ∀ z, y1 = .inr z → z = (1, dE)) (h : f_W_law_2681 L xs x5 d = some y1) : gG w p l e R s m args below meth c 9 k n Q d [(0, .ref b), (1, .ref (w_r w 0)), (2, .ref (w_r w 292)), (3, .ref (w_r w 300)), (4, .ref (w_r w 301)), (5, .int x5)] 2681 [] := by
  unfold f_W_law_2681 at h
  refine g_aload_n C dL_law_2681 1 rfl ?_
  refine g_aload_n C dL_law_2682 0 rfl ?_
  refine g_iload C dL_law_2683 5 rfl ?_
  refine g_iconst C dL_law_2685 (v := 1) rfl ?_
  refine g_iadd C dL_law_2686  ?_
  have hg721 := gd_1 h
  replace h := gd_2 h
  refine g_xald C hX hb hg721 dL_law_2687 ?_
  refine g_aload_n C dL_law_2688 3 rfl ?_
  obtain ⟨r722, d723, hc724, h⟩ := ob2_1 h
  refine g_callSW C (k + 8) (n + 60) hk_W_342 hR rfl (m_W_writeLantern C.2.2.2.2.2.2.1 hl9 hc724) rfl rfl rfl dL_law_2689 rfl rfl (by omega) (by omega) ?_
  refine g_istore C (lv' := [(6, .int r722), (0, .ref b), (1, .ref (w_r w 0)), (2, .ref (w_r w 292)), (3, .ref (w_r w 300)), (4, .ref (w_r w 301)), (5, .int x5)]) dL_law_2692 (by decide) rfl ?_
  refine g_aload_n C dL_law_2694 3 rfl ?_
  refine g_aload_n C dL_law_2695 1 rfl ?_
  refine g_iload C dL_law_2696 6 rfl ?_
  refine g_iconst C dL_law_2698 (v := 1) rfl ?_
  refine g_iadd C dL_law_2699  ?_
  have hg725 := gd_1 h
  replace h := gd_2 h
  refine g_xald C hX hb hg725 dL_law_2700 ?_
  obtain ⟨r726, d727, hc728, h⟩ := ob2_1 h
  refine g_callVi C 292 q_292 vk_W_344 hR rfl (m_M_writeLantern C.2.2.2.2.2.2.1 hc728) rfl rfl rfl dL_law_2701 (bleL (by omega)) (bleL (by omega)) ?_
  refine g_istore C (lv' := [(7, .int r726), (6, .int r722), (0, .ref b), (1, .ref (w_r w 0)), (2, .ref (w_r w 292)), (3, .ref (w_r w 300)), (4, .ref (w_r w 301)), (5, .int x5)]) dL_law_2704 (by decide) rfl ?_
  refine g_aload_n C dL_law_2706 4 rfl ?_
  obtain ⟨r729, hc730, h⟩ := ob1_1 h
  refine g_callVi C 292 q_292 vk_W_162 hR rfl (m_M_thrown C.2.2.2.2.2.2.1 hc730) rfl rfl rfl dL_law_2707 (bleL (by omega)) (bleL (by omega)) ?_
  refine g_iload C dL_law_2710 1 rfl ?_
  refine g_icmp_eq C dL_law_2712 (tgt := 2717) rfl (fun q => ?_) (fun q => ?_)
  · replace h := it_t q h
    refine g_iload C dL_law_2717 1 rfl ?_
    refine g_if_ne C dL_law_2719 (tgt := 2734) rfl (fun q => ?_) (fun q => ?_)
    · replace h := it_f q h
      refine g_goto C dL_law_2734 (tgt := 2920) rfl ?_
      refine g_iinc C (lv' := [(5, .int (x5 + 5)), (7, .int r726), (6, .int r722), (0, .ref b), (1, .ref (w_r w 0)), (2, .ref (w_r w 292)), (3, .ref (w_r w 300)), (4, .ref (w_r w 301))]) (v := (x5 + 5)) dL_law_2920 7 rfl rfl (by decide) rfl ?_
      refine g_goto C dL_law_2923 (tgt := 28) rfl ?_
      refine g_sub [3, 4, 5, 6, 7, 0] (lv' := [(0, .ref b), (1, .ref (w_r w 0)), (2, .ref (w_r w 292)), (3, .ref (w_r w 300)), (4, .ref (w_r w 301)), (5, .int (x5 + 5))]) rfl ?_
      exact hl1 ((x5 + 5), d727) (Option.some.inj h).symm
    · replace h := it_t q h
      refine g_aload_n C dL_law_2722 5 rfl ?_
      refine g_iconst C dL_law_2723 (v := 0) rfl ?_
      refine g_lald C 300 q_300 (by decide) 0 (by decide) dL_law_2724 ?_
      refine g_iload C dL_law_2725 0 rfl ?_
      refine g_i2l C dL_law_2727  ?_
      refine g_lcmpeq C dL_law_2728 dL_law_2729 (tgt := 2734) rfl (fun q => ?_) (fun q => ?_)
      · replace h := it_t q h
        refine g_goto C dL_law_2734 (tgt := 2920) rfl ?_
        refine g_iinc C (lv' := [(5, .int (x5 + 5)), (7, .int r726), (6, .int r722), (0, .ref b), (1, .ref (w_r w 0)), (2, .ref (w_r w 292)), (3, .ref (w_r w 300)), (4, .ref (w_r w 301))]) (v := (x5 + 5)) dL_law_2920 7 rfl rfl (by decide) rfl ?_
        refine g_goto C dL_law_2923 (tgt := 28) rfl ?_
        refine g_sub [3, 4, 5, 6, 7, 0] (lv' := [(0, .ref b), (1, .ref (w_r w 0)), (2, .ref (w_r w 292)), (3, .ref (w_r w 300)), (4, .ref (w_r w 301)), (5, .int (x5 + 5))]) rfl ?_
        exact hl1 ((x5 + 5), d727) (Option.some.inj h).symm
      · replace h := it_f q h
        replace h := ir_2 h hx1
        refine g_iconst C dL_law_2732 (v := 0) rfl ?_
        exact (law_no h).elim
  · replace h := it_f q h
    replace h := ir_2 h hx1
    refine g_iconst C dL_law_2715 (v := 0) rfl ?_
    exact (law_no h).elim
set_option maxHeartbeats 4000000 in
set_option maxRecDepth 100000 in
theorem law_c_2737 {w : wT} {p : Program} {l : Launch} {e : Env} {R : Room} {s : State} {m : MethodId} {args : Array Value} {below : List Frame} {meth : Method} {c : Code} {b L k n : Nat} {xs : Nat → Int32} {Q : State → Prop} {x5 : Int32} {d dE : Dt} {y1 : (Int32 × Dt) ⊕ (Int32 × Dt)} (C : gC w p s m args c cL_law 9 RL) (hl9 : l.stackTraces = false) (hX : va_X b L xs s s.heap) (hb : ¬ A_W w b) (hR : R = gRmX 2048 603072 7194730) (hk : k + 8 ≤ 603072) (hn : n + 60 ≤ 7194730) (hE : ∀ (d : Dt) (lv : List (Nat × Value)), gG w p l e R s m args below meth c 9 603072 7194730 Q d lv 2927 [.int 1]) (hl1 : ∀ s1 : Int32 × Dt, y1 = .inl s1 → gG w p l e R s m args below meth c 9 (k + 8) (n + 60) Q s1.2 [(0, .ref b), (1, .ref (w_r w 0)), (2, .ref (w_r w 292)), (3, .ref (w_r w 300)), (4, .ref (w_r w 301)), (5, .int s1.1)] 28 []) (hx1 : ∀ z, y1 = .inr z → z = (1, dE)) (h : f_W_law_2737 L xs x5 d = some y1) : gG w p l e R s m args below meth c 9 k n Q d [(0, .ref b), (1, .ref (w_r w 0)), (2, .ref (w_r w 292)), (3, .ref (w_r w 300)), (4, .ref (w_r w 301)), (5, .int x5)] 2737 [] := by
  unfold f_W_law_2737 at h
  refine g_aload_n C dL_law_2737 1 rfl ?_
  obtain ⟨r731, d732, hc733, h⟩ := ob2_1 h
  refine g_callVi C 0 q_0 vk_W_345 hR rfl (m_C_writePlan C.2.2.2.2.2.2.1 hc733) rfl rfl rfl dL_law_2738 (bleL (by omega)) (bleL (by omega)) ?_
  refine g_aload_n C dL_law_2741 2 rfl ?_
  obtain ⟨r734, d735, hc736, h⟩ := ob2_1 h
  refine g_callVi C 292 q_292 vk_W_348 hR rfl (m_M_writePlan C.2.2.2.2.2.2.1 hc736) rfl rfl rfl dL_law_2742 (bleL (by omega)) (bleL (by omega)) ?_
  refine g_icmp_eq C dL_law_2745 (tgt := 2920) rfl (fun q => ?_) (fun q => ?_)
  · replace h := it_t q h
    refine g_iinc C (lv' := [(5, .int (x5 + 5)), (0, .ref b), (1, .ref (w_r w 0)), (2, .ref (w_r w 292)), (3, .ref (w_r w 300)), (4, .ref (w_r w 301))]) (v := (x5 + 5)) dL_law_2920 5 rfl rfl (by decide) rfl ?_
    refine g_goto C dL_law_2923 (tgt := 28) rfl ?_
    refine g_sub [1, 2, 3, 4, 5, 0] (lv' := [(0, .ref b), (1, .ref (w_r w 0)), (2, .ref (w_r w 292)), (3, .ref (w_r w 300)), (4, .ref (w_r w 301)), (5, .int (x5 + 5))]) rfl ?_
    refine g_widP (k + 8) (n + 60) (by omega) (by omega) ?_
    exact hl1 ((x5 + 5), d735) (Option.some.inj h).symm
  · replace h := it_f q h
    replace h := ir_2 h hx1
    refine g_iconst C dL_law_2748 (v := 0) rfl ?_
    exact (law_no h).elim
set_option maxHeartbeats 4000000 in
set_option maxRecDepth 100000 in
theorem law_c_2750 {w : wT} {p : Program} {l : Launch} {e : Env} {R : Room} {s : State} {m : MethodId} {args : Array Value} {below : List Frame} {meth : Method} {c : Code} {b L k n : Nat} {xs : Nat → Int32} {Q : State → Prop} {x5 : Int32} {d dE : Dt} {y1 : (Int32 × Dt) ⊕ (Int32 × Dt)} (C : gC w p s m args c cL_law 9 RL) (hl9 : l.stackTraces = false) (hX : va_X b L xs s s.heap) (hb : ¬ A_W w b) (hR : R = gRmX 2048 603072 7194730) (hk : k + 8 ≤ 603072) (hn : n + 60 ≤ 7194730) (hE : ∀ (d : Dt) (lv : List (Nat × Value)), gG w p l e R s m args below meth c 9 603072 7194730 Q d lv 2927 [.int 1]) (hl1 : ∀ s1 : Int32 × Dt, y1 = .inl s1 → gG w p l e R s m args below meth c 9 (k + 8) (n + 60) Q s1.2 [(0, .ref b), (1, .ref (w_r w 0)), (2, .ref (w_r w 292)), (3, .ref (w_r w 300)), (4, .ref (w_r w 301)), (5, .int s1.1)] 28 []) (hx1 : ∀ z, y1 = .inr z → z = (1, dE)) (h : f_W_law_2750 L xs x5 d = some y1) : gG w p l e R s m args below meth c 9 k n Q d [(0, .ref b), (1, .ref (w_r w 0)), (2, .ref (w_r w 292)), (3, .ref (w_r w 300)), (4, .ref (w_r w 301)), (5, .int x5)] 2750 [] := by
  unfold f_W_law_2750 at h
  refine g_aload_n C dL_law_2750 1 rfl ?_
  refine g_aload_n C dL_law_2751 0 rfl ?_
  refine g_iload C dL_law_2752 5 rfl ?_
  refine g_iconst C dL_law_2754 (v := 1) rfl ?_
  refine g_iadd C dL_law_2755  ?_
  have hg737 := gd_1 h
  replace h := gd_2 h
  refine g_xald C hX hb hg737 dL_law_2756 ?_
  refine g_aload_n C dL_law_2757 3 rfl ?_
  obtain ⟨r738, d739, hc740, h⟩ := ob2_1 h
  refine g_callSW C (k + 8) (n + 60) hk_W_349 hR rfl (m_W_outputChar C.2.2.2.2.2.2.1 hl9 hc740) rfl rfl rfl dL_law_2758 rfl rfl (by omega) (by omega) ?_
  refine g_istore C (lv' := [(6, .int r738), (0, .ref b), (1, .ref (w_r w 0)), (2, .ref (w_r w 292)), (3, .ref (w_r w 300)), (4, .ref (w_r w 301)), (5, .int x5)]) dL_law_2761 (by decide) rfl ?_
  refine g_aload_n C dL_law_2763 3 rfl ?_
  refine g_aload_n C dL_law_2764 1 rfl ?_
  refine g_iload C dL_law_2765 6 rfl ?_
  refine g_iconst C dL_law_2767 (v := 1) rfl ?_
  refine g_iadd C dL_law_2768  ?_
  have hg741 := gd_1 h
  replace h := gd_2 h
  refine g_xald C hX hb hg741 dL_law_2769 ?_
  obtain ⟨r742, d743, hc744, h⟩ := ob2_1 h
  refine g_callVi C 292 q_292 vk_W_351 hR rfl (m_M_outputChar C.2.2.2.2.2.2.1 hc744) rfl rfl rfl dL_law_2770 (bleL (by omega)) (bleL (by omega)) ?_
  refine g_istore C (lv' := [(7, .int r742), (6, .int r738), (0, .ref b), (1, .ref (w_r w 0)), (2, .ref (w_r w 292)), (3, .ref (w_r w 300)), (4, .ref (w_r w 301)), (5, .int x5)]) dL_law_2773 (by decide) rfl ?_
  refine g_aload_n C dL_law_2775 4 rfl ?_
  obtain ⟨r745, hc746, h⟩ := ob1_1 h
  refine g_callVi C 292 q_292 vk_W_162 hR rfl (m_M_thrown C.2.2.2.2.2.2.1 hc746) rfl rfl rfl dL_law_2776 (bleL (by omega)) (bleL (by omega)) ?_
  refine g_iload C dL_law_2779 1 rfl ?_
  refine g_icmp_eq C dL_law_2781 (tgt := 2786) rfl (fun q => ?_) (fun q => ?_)
  · replace h := it_t q h
    refine g_iload C dL_law_2786 1 rfl ?_
    refine g_if_ne C dL_law_2788 (tgt := 2803) rfl (fun q => ?_) (fun q => ?_)
    · replace h := it_f q h
      refine g_goto C dL_law_2803 (tgt := 2920) rfl ?_
      refine g_iinc C (lv' := [(5, .int (x5 + 5)), (7, .int r742), (6, .int r738), (0, .ref b), (1, .ref (w_r w 0)), (2, .ref (w_r w 292)), (3, .ref (w_r w 300)), (4, .ref (w_r w 301))]) (v := (x5 + 5)) dL_law_2920 7 rfl rfl (by decide) rfl ?_
      refine g_goto C dL_law_2923 (tgt := 28) rfl ?_
      refine g_sub [3, 4, 5, 6, 7, 0] (lv' := [(0, .ref b), (1, .ref (w_r w 0)), (2, .ref (w_r w 292)), (3, .ref (w_r w 300)), (4, .ref (w_r w 301)), (5, .int (x5 + 5))]) rfl ?_
      exact hl1 ((x5 + 5), d743) (Option.some.inj h).symm
    · replace h := it_t q h
      refine g_aload_n C dL_law_2791 5 rfl ?_
      refine g_iconst C dL_law_2792 (v := 0) rfl ?_
      refine g_lald C 300 q_300 (by decide) 0 (by decide) dL_law_2793 ?_
      refine g_iload C dL_law_2794 0 rfl ?_
      refine g_i2l C dL_law_2796  ?_
      refine g_lcmpeq C dL_law_2797 dL_law_2798 (tgt := 2803) rfl (fun q => ?_) (fun q => ?_)
      · replace h := it_t q h
        refine g_goto C dL_law_2803 (tgt := 2920) rfl ?_
        refine g_iinc C (lv' := [(5, .int (x5 + 5)), (7, .int r742), (6, .int r738), (0, .ref b), (1, .ref (w_r w 0)), (2, .ref (w_r w 292)), (3, .ref (w_r w 300)), (4, .ref (w_r w 301))]) (v := (x5 + 5)) dL_law_2920 7 rfl rfl (by decide) rfl ?_
        refine g_goto C dL_law_2923 (tgt := 28) rfl ?_
        refine g_sub [3, 4, 5, 6, 7, 0] (lv' := [(0, .ref b), (1, .ref (w_r w 0)), (2, .ref (w_r w 292)), (3, .ref (w_r w 300)), (4, .ref (w_r w 301)), (5, .int (x5 + 5))]) rfl ?_
        exact hl1 ((x5 + 5), d743) (Option.some.inj h).symm
      · replace h := it_f q h
        replace h := ir_2 h hx1
        refine g_iconst C dL_law_2801 (v := 0) rfl ?_
        exact (law_no h).elim
  · replace h := it_f q h
    replace h := ir_2 h hx1
    refine g_iconst C dL_law_2784 (v := 0) rfl ?_
    exact (law_no h).elim
set_option maxHeartbeats 4000000 in
set_option maxRecDepth 100000 in
theorem law_c_2806 {w : wT} {p : Program} {l : Launch} {e : Env} {R : Room} {s : State} {m : MethodId} {args : Array Value} {below : List Frame} {meth : Method} {c : Code} {b L k n : Nat} {xs : Nat → Int32} {Q : State → Prop} {x5 : Int32} {d dE : Dt} {y1 : (Int32 × Dt) ⊕ (Int32 × Dt)} (C : gC w p s m args c cL_law 9 RL) (hl9 : l.stackTraces = false) (hX : va_X b L xs s s.heap) (hb : ¬ A_W w b) (hR : R = gRmX 2048 603072 7194730) (hk : k + 8 ≤ 603072) (hn : n + 60 ≤ 7194730) (hE : ∀ (d : Dt) (lv : List (Nat × Value)), gG w p l e R s m args below meth c 9 603072 7194730 Q d lv 2927 [.int 1]) (hl1 : ∀ s1 : Int32 × Dt, y1 = .inl s1 → gG w p l e R s m args below meth c 9 (k + 8) (n + 60) Q s1.2 [(0, .ref b), (1, .ref (w_r w 0)), (2, .ref (w_r w 292)), (3, .ref (w_r w 300)), (4, .ref (w_r w 301)), (5, .int s1.1)] 28 []) (hx1 : ∀ z, y1 = .inr z → z = (1, dE)) (h : f_W_law_2806 L xs x5 d = some y1) : gG w p l e R s m args below meth c 9 k n Q d [(0, .ref b), (1, .ref (w_r w 0)), (2, .ref (w_r w 292)), (3, .ref (w_r w 300)), (4, .ref (w_r w 301)), (5, .int x5)] 2806 [] := by
  unfold f_W_law_2806 at h
  refine g_aload_n C dL_law_2806 1 rfl ?_
  obtain ⟨r747, hc748, h⟩ := ob1_1 h
  refine g_callVi C 0 q_0 vk_W_352 hR rfl (m_C_undoCount C.2.2.2.2.2.2.1 hc748) rfl rfl rfl dL_law_2807 (bleL (by omega)) (bleL (by omega)) ?_
  refine g_aload_n C dL_law_2810 2 rfl ?_
  obtain ⟨r749, d750, hc751, h⟩ := ob2_1 h
  refine g_callVi C 292 q_292 vk_W_355 hR rfl (m_M_undoCount C.2.2.2.2.2.2.1 hc751) rfl rfl rfl dL_law_2811 (bleL (by omega)) (bleL (by omega)) ?_
  refine g_icmp_eq C dL_law_2814 (tgt := 2920) rfl (fun q => ?_) (fun q => ?_)
  · replace h := it_t q h
    refine g_iinc C (lv' := [(5, .int (x5 + 5)), (0, .ref b), (1, .ref (w_r w 0)), (2, .ref (w_r w 292)), (3, .ref (w_r w 300)), (4, .ref (w_r w 301))]) (v := (x5 + 5)) dL_law_2920 5 rfl rfl (by decide) rfl ?_
    refine g_goto C dL_law_2923 (tgt := 28) rfl ?_
    refine g_sub [1, 2, 3, 4, 5, 0] (lv' := [(0, .ref b), (1, .ref (w_r w 0)), (2, .ref (w_r w 292)), (3, .ref (w_r w 300)), (4, .ref (w_r w 301)), (5, .int (x5 + 5))]) rfl ?_
    refine g_widP (k + 8) (n + 60) (by omega) (by omega) ?_
    exact hl1 ((x5 + 5), d750) (Option.some.inj h).symm
  · replace h := it_f q h
    replace h := ir_2 h hx1
    refine g_iconst C dL_law_2817 (v := 0) rfl ?_
    exact (law_no h).elim
set_option maxHeartbeats 4000000 in
set_option maxRecDepth 100000 in
theorem law_c_2819 {w : wT} {p : Program} {l : Launch} {e : Env} {R : Room} {s : State} {m : MethodId} {args : Array Value} {below : List Frame} {meth : Method} {c : Code} {b L k n : Nat} {xs : Nat → Int32} {Q : State → Prop} {x5 : Int32} {d dE : Dt} {y1 : (Int32 × Dt) ⊕ (Int32 × Dt)} (C : gC w p s m args c cL_law 9 RL) (hl9 : l.stackTraces = false) (hX : va_X b L xs s s.heap) (hb : ¬ A_W w b) (hR : R = gRmX 2048 603072 7194730) (hk : k + 8 ≤ 603072) (hn : n + 60 ≤ 7194730) (hE : ∀ (d : Dt) (lv : List (Nat × Value)), gG w p l e R s m args below meth c 9 603072 7194730 Q d lv 2927 [.int 1]) (hl1 : ∀ s1 : Int32 × Dt, y1 = .inl s1 → gG w p l e R s m args below meth c 9 (k + 8) (n + 60) Q s1.2 [(0, .ref b), (1, .ref (w_r w 0)), (2, .ref (w_r w 292)), (3, .ref (w_r w 300)), (4, .ref (w_r w 301)), (5, .int s1.1)] 28 []) (hx1 : ∀ z, y1 = .inr z → z = (1, dE)) (h : f_W_law_2819 L xs x5 d = some y1) : gG w p l e R s m args below meth c 9 k n Q d [(0, .ref b), (1, .ref (w_r w 0)), (2, .ref (w_r w 292)), (3, .ref (w_r w 300)), (4, .ref (w_r w 301)), (5, .int x5)] 2819 [] := by
  unfold f_W_law_2819 at h
  refine g_aload_n C dL_law_2819 1 rfl ?_
  refine g_aload_n C dL_law_2820 3 rfl ?_
  obtain ⟨r752, d753, hc754, h⟩ := ob2_1 h
  refine g_callSW C (k + 8) (n + 60) hk_W_356 hR rfl (m_W_undo C.2.2.2.2.2.2.1 hl9 hc754) rfl rfl rfl dL_law_2821 rfl rfl (by omega) (by omega) ?_
  refine g_istore C (lv' := [(6, .int r752), (0, .ref b), (1, .ref (w_r w 0)), (2, .ref (w_r w 292)), (3, .ref (w_r w 300)), (4, .ref (w_r w 301)), (5, .int x5)]) dL_law_2824 (by decide) rfl ?_
  refine g_aload_n C dL_law_2826 3 rfl ?_
  obtain ⟨r755, d756, hc757, h⟩ := ob2_1 h
  refine g_callVi C 292 q_292 vk_W_358 hR rfl (m_M_undo C.2.2.2.2.2.2.1 hc757) rfl rfl rfl dL_law_2827 (bleL (by omega)) (bleL (by omega)) ?_
  refine g_istore C (lv' := [(7, .int r755), (6, .int r752), (0, .ref b), (1, .ref (w_r w 0)), (2, .ref (w_r w 292)), (3, .ref (w_r w 300)), (4, .ref (w_r w 301)), (5, .int x5)]) dL_law_2830 (by decide) rfl ?_
  refine g_aload_n C dL_law_2832 4 rfl ?_
  obtain ⟨r758, hc759, h⟩ := ob1_1 h
  refine g_callVi C 292 q_292 vk_W_162 hR rfl (m_M_thrown C.2.2.2.2.2.2.1 hc759) rfl rfl rfl dL_law_2833 (bleL (by omega)) (bleL (by omega)) ?_
  refine g_iload C dL_law_2836 1 rfl ?_
  refine g_icmp_eq C dL_law_2838 (tgt := 2843) rfl (fun q => ?_) (fun q => ?_)
  · replace h := it_t q h
    refine g_iload C dL_law_2843 1 rfl ?_
    refine g_if_ne C dL_law_2845 (tgt := 2860) rfl (fun q => ?_) (fun q => ?_)
    · replace h := it_f q h
      refine g_goto C dL_law_2860 (tgt := 2920) rfl ?_
      refine g_iinc C (lv' := [(5, .int (x5 + 5)), (7, .int r755), (6, .int r752), (0, .ref b), (1, .ref (w_r w 0)), (2, .ref (w_r w 292)), (3, .ref (w_r w 300)), (4, .ref (w_r w 301))]) (v := (x5 + 5)) dL_law_2920 7 rfl rfl (by decide) rfl ?_
      refine g_goto C dL_law_2923 (tgt := 28) rfl ?_
      refine g_sub [3, 4, 5, 6, 7, 0] (lv' := [(0, .ref b), (1, .ref (w_r w 0)), (2, .ref (w_r w 292)), (3, .ref (w_r w 300)), (4, .ref (w_r w 301)), (5, .int (x5 + 5))]) rfl ?_
      exact hl1 ((x5 + 5), d756) (Option.some.inj h).symm
    · replace h := it_t q h
      refine g_aload_n C dL_law_2848 5 rfl ?_
      refine g_iconst C dL_law_2849 (v := 0) rfl ?_
      refine g_lald C 300 q_300 (by decide) 0 (by decide) dL_law_2850 ?_
      refine g_iload C dL_law_2851 0 rfl ?_
      refine g_i2l C dL_law_2853  ?_
      refine g_lcmpeq C dL_law_2854 dL_law_2855 (tgt := 2860) rfl (fun q => ?_) (fun q => ?_)
      · replace h := it_t q h
        refine g_goto C dL_law_2860 (tgt := 2920) rfl ?_
        refine g_iinc C (lv' := [(5, .int (x5 + 5)), (7, .int r755), (6, .int r752), (0, .ref b), (1, .ref (w_r w 0)), (2, .ref (w_r w 292)), (3, .ref (w_r w 300)), (4, .ref (w_r w 301))]) (v := (x5 + 5)) dL_law_2920 7 rfl rfl (by decide) rfl ?_
        refine g_goto C dL_law_2923 (tgt := 28) rfl ?_
        refine g_sub [3, 4, 5, 6, 7, 0] (lv' := [(0, .ref b), (1, .ref (w_r w 0)), (2, .ref (w_r w 292)), (3, .ref (w_r w 300)), (4, .ref (w_r w 301)), (5, .int (x5 + 5))]) rfl ?_
        exact hl1 ((x5 + 5), d756) (Option.some.inj h).symm
      · replace h := it_f q h
        replace h := ir_2 h hx1
        refine g_iconst C dL_law_2858 (v := 0) rfl ?_
        exact (law_no h).elim
  · replace h := it_f q h
    replace h := ir_2 h hx1
    refine g_iconst C dL_law_2841 (v := 0) rfl ?_
    exact (law_no h).elim
set_option maxHeartbeats 4000000 in
set_option maxRecDepth 100000 in
theorem law_c_2863 {w : wT} {p : Program} {l : Launch} {e : Env} {R : Room} {s : State} {m : MethodId} {args : Array Value} {below : List Frame} {meth : Method} {c : Code} {b L k n : Nat} {xs : Nat → Int32} {Q : State → Prop} {x5 : Int32} {d dE : Dt} {y1 : (Int32 × Dt) ⊕ (Int32 × Dt)} (C : gC w p s m args c cL_law 9 RL) (hl9 : l.stackTraces = false) (hX : va_X b L xs s s.heap) (hb : ¬ A_W w b) (hR : R = gRmX 2048 603072 7194730) (hk : k + 8 ≤ 603072) (hn : n + 60 ≤ 7194730) (hE : ∀ (d : Dt) (lv : List (Nat × Value)), gG w p l e R s m args below meth c 9 603072 7194730 Q d lv 2927 [.int 1]) (hl1 : ∀ s1 : Int32 × Dt, y1 = .inl s1 → gG w p l e R s m args below meth c 9 (k + 8) (n + 60) Q s1.2 [(0, .ref b), (1, .ref (w_r w 0)), (2, .ref (w_r w 292)), (3, .ref (w_r w 300)), (4, .ref (w_r w 301)), (5, .int s1.1)] 28 []) (hx1 : ∀ z, y1 = .inr z → z = (1, dE)) (h : f_W_law_2863 L xs x5 d = some y1) : gG w p l e R s m args below meth c 9 k n Q d [(0, .ref b), (1, .ref (w_r w 0)), (2, .ref (w_r w 292)), (3, .ref (w_r w 300)), (4, .ref (w_r w 301)), (5, .int x5)] 2863 [] := by
  unfold f_W_law_2863 at h
  refine g_aload_n C dL_law_2863 1 rfl ?_
  obtain ⟨r760, d761, hc762, h⟩ := ob2_1 h
  refine g_callVi C 0 q_0 vk_W_359 hR rfl (m_C_save C.2.2.2.2.2.2.1 hc762) rfl rfl rfl dL_law_2864 (bleL (by omega)) (bleL (by omega)) ?_
  refine g_aload_n C dL_law_2867 2 rfl ?_
  obtain ⟨r763, d764, hc765, h⟩ := ob2_1 h
  refine g_callVi C 292 q_292 vk_W_362 hR rfl (m_M_save C.2.2.2.2.2.2.1 hc765) rfl rfl rfl dL_law_2868 (bleL (by omega)) (bleL (by omega)) ?_
  refine g_icmp_eq C dL_law_2871 (tgt := 2920) rfl (fun q => ?_) (fun q => ?_)
  · replace h := it_t q h
    refine g_iinc C (lv' := [(5, .int (x5 + 5)), (0, .ref b), (1, .ref (w_r w 0)), (2, .ref (w_r w 292)), (3, .ref (w_r w 300)), (4, .ref (w_r w 301))]) (v := (x5 + 5)) dL_law_2920 5 rfl rfl (by decide) rfl ?_
    refine g_goto C dL_law_2923 (tgt := 28) rfl ?_
    refine g_sub [1, 2, 3, 4, 5, 0] (lv' := [(0, .ref b), (1, .ref (w_r w 0)), (2, .ref (w_r w 292)), (3, .ref (w_r w 300)), (4, .ref (w_r w 301)), (5, .int (x5 + 5))]) rfl ?_
    refine g_widP (k + 8) (n + 60) (by omega) (by omega) ?_
    exact hl1 ((x5 + 5), d764) (Option.some.inj h).symm
  · replace h := it_f q h
    replace h := ir_2 h hx1
    refine g_iconst C dL_law_2874 (v := 0) rfl ?_
    exact (law_no h).elim
set_option maxHeartbeats 4000000 in
set_option maxRecDepth 100000 in
theorem law_c_2876 {w : wT} {p : Program} {l : Launch} {e : Env} {R : Room} {s : State} {m : MethodId} {args : Array Value} {below : List Frame} {meth : Method} {c : Code} {b L k n : Nat} {xs : Nat → Int32} {Q : State → Prop} {x5 : Int32} {d dE : Dt} {y1 : (Int32 × Dt) ⊕ (Int32 × Dt)} (C : gC w p s m args c cL_law 9 RL) (hl9 : l.stackTraces = false) (hX : va_X b L xs s s.heap) (hb : ¬ A_W w b) (hR : R = gRmX 2048 603072 7194730) (hk : k + 8 ≤ 603072) (hn : n + 60 ≤ 7194730) (hE : ∀ (d : Dt) (lv : List (Nat × Value)), gG w p l e R s m args below meth c 9 603072 7194730 Q d lv 2927 [.int 1]) (hl1 : ∀ s1 : Int32 × Dt, y1 = .inl s1 → gG w p l e R s m args below meth c 9 (k + 8) (n + 60) Q s1.2 [(0, .ref b), (1, .ref (w_r w 0)), (2, .ref (w_r w 292)), (3, .ref (w_r w 300)), (4, .ref (w_r w 301)), (5, .int s1.1)] 28 []) (hx1 : ∀ z, y1 = .inr z → z = (1, dE)) (h : f_W_law_2876 L xs x5 d = some y1) : gG w p l e R s m args below meth c 9 k n Q d [(0, .ref b), (1, .ref (w_r w 0)), (2, .ref (w_r w 292)), (3, .ref (w_r w 300)), (4, .ref (w_r w 301)), (5, .int x5)] 2876 [] := by
  unfold f_W_law_2876 at h
  refine g_aload_n C dL_law_2876 1 rfl ?_
  refine g_aload_n C dL_law_2877 3 rfl ?_
  obtain ⟨r766, d767, hc768, h⟩ := ob2_1 h
  refine g_callSW C (k + 8) (n + 60) hk_W_363 hR rfl (m_W_restore C.2.2.2.2.2.2.1 hl9 hc768) rfl rfl rfl dL_law_2878 rfl rfl (by omega) (by omega) ?_
  refine g_istore C (lv' := [(6, .int r766), (0, .ref b), (1, .ref (w_r w 0)), (2, .ref (w_r w 292)), (3, .ref (w_r w 300)), (4, .ref (w_r w 301)), (5, .int x5)]) dL_law_2881 (by decide) rfl ?_
  refine g_aload_n C dL_law_2883 3 rfl ?_
  obtain ⟨r769, d770, hc771, h⟩ := ob2_1 h
  refine g_callVi C 292 q_292 vk_W_365 hR rfl (m_M_restore C.2.2.2.2.2.2.1 hc771) rfl rfl rfl dL_law_2884 (bleL (by omega)) (bleL (by omega)) ?_
  refine g_istore C (lv' := [(7, .int r769), (6, .int r766), (0, .ref b), (1, .ref (w_r w 0)), (2, .ref (w_r w 292)), (3, .ref (w_r w 300)), (4, .ref (w_r w 301)), (5, .int x5)]) dL_law_2887 (by decide) rfl ?_
  refine g_aload_n C dL_law_2889 4 rfl ?_
  obtain ⟨r772, hc773, h⟩ := ob1_1 h
  refine g_callVi C 292 q_292 vk_W_162 hR rfl (m_M_thrown C.2.2.2.2.2.2.1 hc773) rfl rfl rfl dL_law_2890 (bleL (by omega)) (bleL (by omega)) ?_
  refine g_iload C dL_law_2893 1 rfl ?_
  refine g_icmp_eq C dL_law_2895 (tgt := 2900) rfl (fun q => ?_) (fun q => ?_)
  · replace h := it_t q h
    refine g_iload C dL_law_2900 1 rfl ?_
    refine g_if_ne C dL_law_2902 (tgt := 2917) rfl (fun q => ?_) (fun q => ?_)
    · replace h := it_f q h
      refine g_goto C dL_law_2917 (tgt := 2920) rfl ?_
      refine g_iinc C (lv' := [(5, .int (x5 + 5)), (7, .int r769), (6, .int r766), (0, .ref b), (1, .ref (w_r w 0)), (2, .ref (w_r w 292)), (3, .ref (w_r w 300)), (4, .ref (w_r w 301))]) (v := (x5 + 5)) dL_law_2920 7 rfl rfl (by decide) rfl ?_
      refine g_goto C dL_law_2923 (tgt := 28) rfl ?_
      refine g_sub [3, 4, 5, 6, 7, 0] (lv' := [(0, .ref b), (1, .ref (w_r w 0)), (2, .ref (w_r w 292)), (3, .ref (w_r w 300)), (4, .ref (w_r w 301)), (5, .int (x5 + 5))]) rfl ?_
      exact hl1 ((x5 + 5), d770) (Option.some.inj h).symm
    · replace h := it_t q h
      refine g_aload_n C dL_law_2905 5 rfl ?_
      refine g_iconst C dL_law_2906 (v := 0) rfl ?_
      refine g_lald C 300 q_300 (by decide) 0 (by decide) dL_law_2907 ?_
      refine g_iload C dL_law_2908 0 rfl ?_
      refine g_i2l C dL_law_2910  ?_
      refine g_lcmpeq C dL_law_2911 dL_law_2912 (tgt := 2917) rfl (fun q => ?_) (fun q => ?_)
      · replace h := it_t q h
        refine g_goto C dL_law_2917 (tgt := 2920) rfl ?_
        refine g_iinc C (lv' := [(5, .int (x5 + 5)), (7, .int r769), (6, .int r766), (0, .ref b), (1, .ref (w_r w 0)), (2, .ref (w_r w 292)), (3, .ref (w_r w 300)), (4, .ref (w_r w 301))]) (v := (x5 + 5)) dL_law_2920 7 rfl rfl (by decide) rfl ?_
        refine g_goto C dL_law_2923 (tgt := 28) rfl ?_
        refine g_sub [3, 4, 5, 6, 7, 0] (lv' := [(0, .ref b), (1, .ref (w_r w 0)), (2, .ref (w_r w 292)), (3, .ref (w_r w 300)), (4, .ref (w_r w 301)), (5, .int (x5 + 5))]) rfl ?_
        exact hl1 ((x5 + 5), d770) (Option.some.inj h).symm
      · replace h := it_f q h
        replace h := ir_2 h hx1
        refine g_iconst C dL_law_2915 (v := 0) rfl ?_
        exact (law_no h).elim
  · replace h := it_f q h
    replace h := ir_2 h hx1
    refine g_iconst C dL_law_2898 (v := 0) rfl ?_
    exact (law_no h).elim
set_option maxHeartbeats 4000000 in
set_option maxRecDepth 100000 in
theorem law_step {w : wT} {p : Program} {l : Launch} {e : Env} {R : Room} {s : State} {m : MethodId} {args : Array Value} {below : List Frame} {meth : Method} {c : Code} {b L k n : Nat} {xs : Nat → Int32} {Q : State → Prop} {x5 : Int32} {d dE : Dt} {y1 : (Int32 × Dt) ⊕ (Int32 × Dt)} (C : gC w p s m args c cL_law 9 RL) (hl9 : l.stackTraces = false) (hX : va_X b L xs s s.heap) (hb : ¬ A_W w b) (hR : R = gRmX 2048 603072 7194730) (hk : k + 8 ≤ 603072) (hn : n + 60 ≤ 7194730) (hE : ∀ (d : Dt) (lv : List (Nat × Value)), gG w p l e R s m args below meth c 9 603072 7194730 Q d lv 2927 [.int 1]) (hl1 : ∀ s1 : Int32 × Dt, y1 = .inl s1 → gG w p l e R s m args below meth c 9 (k + 8) (n + 60) Q s1.2 [(0, .ref b), (1, .ref (w_r w 0)), (2, .ref (w_r w 292)), (3, .ref (w_r w 300)), (4, .ref (w_r w 301)), (5, .int s1.1)] 28 []) (hx1 : ∀ z, y1 = .inr z → z = (1, dE)) (h : st_W_law_28 L xs x5 d = some y1) : gG w p l e R s m args below meth c 9 k n Q d [(0, .ref b), (1, .ref (w_r w 0)), (2, .ref (w_r w 292)), (3, .ref (w_r w 300)), (4, .ref (w_r w 301)), (5, .int x5)] 28 [] := by
  unfold st_W_law_28 at h
  refine g_iload C dL_law_28 5 rfl ?_
  refine g_aload_n C dL_law_30 0 rfl ?_
  refine g_xlen C hX hb dL_law_31 ?_
  refine g_iconst C dL_law_32 (v := 5) rfl ?_
  refine g_isub C dL_law_33  ?_
  refine g_icmp_gt C dL_law_34 (tgt := 2926) rfl (fun q => ?_) (fun q => ?_)
  · replace h := it_t q h
    replace h := ir_2 h hx1
    refine g_iconst C dL_law_2926 (v := 1) rfl ?_
    refine g_widP 603072 7194730 (by omega) (by omega) ?_
    exact hE _ _
  · replace h := it_f q h
    refine g_aload_n C dL_law_37 0 rfl ?_
    refine g_iload C dL_law_38 5 rfl ?_
    have hg774 := gd_1 h
    replace h := gd_2 h
    refine g_xald C hX hb hg774 dL_law_40 ?_
    refine g_bipush C dL_law_41 (v := 63) (by decide) ?_
    refine g_iand C dL_law_43  ?_
    by_cases q0 : ((xs x5.toNatClampNeg) &&& 63) = 0
    · replace h := it_t q0 h
      refine g_tabIn C dL_law_44 (v := 0) q0 (by decide) (by decide) (off := 252) (by rfl) (tgt := 296) rfl ?_
      exact law_c_296 C hl9 hX hb hR hk hn hE hl1 hx1 h
    replace h := it_f q0 h
    by_cases q1 : ((xs x5.toNatClampNeg) &&& 63) = 1
    · replace h := it_t q1 h
      refine g_tabIn C dL_law_44 (v := 1) q1 (by decide) (by decide) (off := 296) (by rfl) (tgt := 340) rfl ?_
      exact law_c_340 C hl9 hX hb hR hk hn hE hl1 hx1 h
    replace h := it_f q1 h
    by_cases q2 : ((xs x5.toNatClampNeg) &&& 63) = 2
    · replace h := it_t q2 h
      refine g_tabIn C dL_law_44 (v := 2) q2 (by decide) (by decide) (off := 388) (by rfl) (tgt := 432) rfl ?_
      exact law_c_432 C hl9 hX hb hR hk hn hE hl1 hx1 h
    replace h := it_f q2 h
    by_cases q3 : ((xs x5.toNatClampNeg) &&& 63) = 3
    · replace h := it_t q3 h
      refine g_tabIn C dL_law_44 (v := 3) q3 (by decide) (by decide) (off := 444) (by rfl) (tgt := 488) rfl ?_
      exact law_c_488 C hl9 hX hb hR hk hn hE hl1 hx1 h
    replace h := it_f q3 h
    by_cases q4 : ((xs x5.toNatClampNeg) &&& 63) = 4
    · replace h := it_t q4 h
      refine g_tabIn C dL_law_44 (v := 4) q4 (by decide) (by decide) (off := 540) (by rfl) (tgt := 584) rfl ?_
      exact law_c_584 C hl9 hX hb hR hk hn hE hl1 hx1 h
    replace h := it_f q4 h
    by_cases q5 : ((xs x5.toNatClampNeg) &&& 63) = 5
    · replace h := it_t q5 h
      refine g_tabIn C dL_law_44 (v := 5) q5 (by decide) (by decide) (off := 596) (by rfl) (tgt := 640) rfl ?_
      exact law_c_640 C hl9 hX hb hR hk hn hE hl1 hx1 h
    replace h := it_f q5 h
    by_cases q6 : ((xs x5.toNatClampNeg) &&& 63) = 6
    · replace h := it_t q6 h
      refine g_tabIn C dL_law_44 (v := 6) q6 (by decide) (by decide) (off := 687) (by rfl) (tgt := 731) rfl ?_
      exact law_c_731 C hl9 hX hb hR hk hn hE hl1 hx1 h
    replace h := it_f q6 h
    by_cases q7 : ((xs x5.toNatClampNeg) &&& 63) = 7
    · replace h := it_t q7 h
      refine g_tabIn C dL_law_44 (v := 7) q7 (by decide) (by decide) (off := 750) (by rfl) (tgt := 794) rfl ?_
      exact law_c_794 C hl9 hX hb hR hk hn hE hl1 hx1 h
    replace h := it_f q7 h
    by_cases q8 : ((xs x5.toNatClampNeg) &&& 63) = 8
    · replace h := it_t q8 h
      refine g_tabIn C dL_law_44 (v := 8) q8 (by decide) (by decide) (off := 806) (by rfl) (tgt := 850) rfl ?_
      exact law_c_850 C hl9 hX hb hR hk hn hE hl1 hx1 h
    replace h := it_f q8 h
    by_cases q9 : ((xs x5.toNatClampNeg) &&& 63) = 9
    · replace h := it_t q9 h
      refine g_tabIn C dL_law_44 (v := 9) q9 (by decide) (by decide) (off := 862) (by rfl) (tgt := 906) rfl ?_
      exact law_c_906 C hl9 hX hb hR hk hn hE hl1 hx1 h
    replace h := it_f q9 h
    by_cases q10 : ((xs x5.toNatClampNeg) &&& 63) = 10
    · replace h := it_t q10 h
      refine g_tabIn C dL_law_44 (v := 10) q10 (by decide) (by decide) (off := 875) (by rfl) (tgt := 919) rfl ?_
      exact law_c_919 C hl9 hX hb hR hk hn hE hl1 hx1 h
    replace h := it_f q10 h
    by_cases q11 : ((xs x5.toNatClampNeg) &&& 63) = 11
    · replace h := it_t q11 h
      refine g_tabIn C dL_law_44 (v := 11) q11 (by decide) (by decide) (off := 888) (by rfl) (tgt := 932) rfl ?_
      exact law_c_932 C hl9 hX hb hR hk hn hE hl1 hx1 h
    replace h := it_f q11 h
    by_cases q12 : ((xs x5.toNatClampNeg) &&& 63) = 12
    · replace h := it_t q12 h
      refine g_tabIn C dL_law_44 (v := 12) q12 (by decide) (by decide) (off := 944) (by rfl) (tgt := 988) rfl ?_
      exact law_c_988 C hl9 hX hb hR hk hn hE hl1 hx1 h
    replace h := it_f q12 h
    by_cases q13 : ((xs x5.toNatClampNeg) &&& 63) = 13
    · replace h := it_t q13 h
      refine g_tabIn C dL_law_44 (v := 13) q13 (by decide) (by decide) (off := 1035) (by rfl) (tgt := 1079) rfl ?_
      exact law_c_1079 C hl9 hX hb hR hk hn hE hl1 hx1 h
    replace h := it_f q13 h
    by_cases q14 : ((xs x5.toNatClampNeg) &&& 63) = 14
    · replace h := it_t q14 h
      refine g_tabIn C dL_law_44 (v := 14) q14 (by decide) (by decide) (off := 1091) (by rfl) (tgt := 1135) rfl ?_
      exact law_c_1135 C hl9 hX hb hR hk hn hE hl1 hx1 h
    replace h := it_f q14 h
    by_cases q15 : ((xs x5.toNatClampNeg) &&& 63) = 15
    · replace h := it_t q15 h
      refine g_tabIn C dL_law_44 (v := 15) q15 (by decide) (by decide) (off := 1147) (by rfl) (tgt := 1191) rfl ?_
      exact law_c_1191 C hl9 hX hb hR hk hn hE hl1 hx1 h
    replace h := it_f q15 h
    by_cases q16 : ((xs x5.toNatClampNeg) &&& 63) = 16
    · replace h := it_t q16 h
      refine g_tabIn C dL_law_44 (v := 16) q16 (by decide) (by decide) (off := 1203) (by rfl) (tgt := 1247) rfl ?_
      exact law_c_1247 C hl9 hX hb hR hk hn hE hl1 hx1 h
    replace h := it_f q16 h
    by_cases q17 : ((xs x5.toNatClampNeg) &&& 63) = 17
    · replace h := it_t q17 h
      refine g_tabIn C dL_law_44 (v := 17) q17 (by decide) (by decide) (off := 1216) (by rfl) (tgt := 1260) rfl ?_
      exact law_c_1260 C hl9 hX hb hR hk hn hE hl1 hx1 h
    replace h := it_f q17 h
    by_cases q18 : ((xs x5.toNatClampNeg) &&& 63) = 18
    · replace h := it_t q18 h
      refine g_tabIn C dL_law_44 (v := 18) q18 (by decide) (by decide) (off := 1272) (by rfl) (tgt := 1316) rfl ?_
      exact law_c_1316 C hl9 hX hb hR hk hn hE hl1 hx1 h
    replace h := it_f q18 h
    by_cases q19 : ((xs x5.toNatClampNeg) &&& 63) = 19
    · replace h := it_t q19 h
      refine g_tabIn C dL_law_44 (v := 19) q19 (by decide) (by decide) (off := 1328) (by rfl) (tgt := 1372) rfl ?_
      exact law_c_1372 C hl9 hX hb hR hk hn hE hl1 hx1 h
    replace h := it_f q19 h
    by_cases q20 : ((xs x5.toNatClampNeg) &&& 63) = 20
    · replace h := it_t q20 h
      refine g_tabIn C dL_law_44 (v := 20) q20 (by decide) (by decide) (off := 1384) (by rfl) (tgt := 1428) rfl ?_
      exact law_c_1428 C hl9 hX hb hR hk hn hE hl1 hx1 h
    replace h := it_f q20 h
    by_cases q21 : ((xs x5.toNatClampNeg) &&& 63) = 21
    · replace h := it_t q21 h
      refine g_tabIn C dL_law_44 (v := 21) q21 (by decide) (by decide) (off := 1440) (by rfl) (tgt := 1484) rfl ?_
      exact law_c_1484 C hl9 hX hb hR hk hn hE hl1 hx1 h
    replace h := it_f q21 h
    by_cases q22 : ((xs x5.toNatClampNeg) &&& 63) = 22
    · replace h := it_t q22 h
      refine g_tabIn C dL_law_44 (v := 22) q22 (by decide) (by decide) (off := 1496) (by rfl) (tgt := 1540) rfl ?_
      exact law_c_1540 C hl9 hX hb hR hk hn hE hl1 hx1 h
    replace h := it_f q22 h
    by_cases q23 : ((xs x5.toNatClampNeg) &&& 63) = 23
    · replace h := it_t q23 h
      refine g_tabIn C dL_law_44 (v := 23) q23 (by decide) (by decide) (off := 1559) (by rfl) (tgt := 1603) rfl ?_
      exact law_c_1603 C hl9 hX hb hR hk hn hE hl1 hx1 h
    replace h := it_f q23 h
    by_cases q24 : ((xs x5.toNatClampNeg) &&& 63) = 24
    · replace h := it_t q24 h
      refine g_tabIn C dL_law_44 (v := 24) q24 (by decide) (by decide) (off := 1615) (by rfl) (tgt := 1659) rfl ?_
      exact law_c_1659 C hl9 hX hb hR hk hn hE hl1 hx1 h
    replace h := it_f q24 h
    by_cases q25 : ((xs x5.toNatClampNeg) &&& 63) = 25
    · replace h := it_t q25 h
      refine g_tabIn C dL_law_44 (v := 25) q25 (by decide) (by decide) (off := 1628) (by rfl) (tgt := 1672) rfl ?_
      exact law_c_1672 C hl9 hX hb hR hk hn hE hl1 hx1 h
    replace h := it_f q25 h
    by_cases q26 : ((xs x5.toNatClampNeg) &&& 63) = 26
    · replace h := it_t q26 h
      refine g_tabIn C dL_law_44 (v := 26) q26 (by decide) (by decide) (off := 1641) (by rfl) (tgt := 1685) rfl ?_
      exact law_c_1685 C hl9 hX hb hR hk hn hE hl1 hx1 h
    replace h := it_f q26 h
    by_cases q27 : ((xs x5.toNatClampNeg) &&& 63) = 27
    · replace h := it_t q27 h
      refine g_tabIn C dL_law_44 (v := 27) q27 (by decide) (by decide) (off := 1654) (by rfl) (tgt := 1698) rfl ?_
      exact law_c_1698 C hl9 hX hb hR hk hn hE hl1 hx1 h
    replace h := it_f q27 h
    by_cases q28 : ((xs x5.toNatClampNeg) &&& 63) = 28
    · replace h := it_t q28 h
      refine g_tabIn C dL_law_44 (v := 28) q28 (by decide) (by decide) (off := 1710) (by rfl) (tgt := 1754) rfl ?_
      exact law_c_1754 C hl9 hX hb hR hk hn hE hl1 hx1 h
    replace h := it_f q28 h
    by_cases q29 : ((xs x5.toNatClampNeg) &&& 63) = 29
    · replace h := it_t q29 h
      refine g_tabIn C dL_law_44 (v := 29) q29 (by decide) (by decide) (off := 1766) (by rfl) (tgt := 1810) rfl ?_
      exact law_c_1810 C hl9 hX hb hR hk hn hE hl1 hx1 h
    replace h := it_f q29 h
    by_cases q30 : ((xs x5.toNatClampNeg) &&& 63) = 30
    · replace h := it_t q30 h
      refine g_tabIn C dL_law_44 (v := 30) q30 (by decide) (by decide) (off := 1829) (by rfl) (tgt := 1873) rfl ?_
      exact law_c_1873 C hl9 hX hb hR hk hn hE hl1 hx1 h
    replace h := it_f q30 h
    by_cases q31 : ((xs x5.toNatClampNeg) &&& 63) = 31
    · replace h := it_t q31 h
      refine g_tabIn C dL_law_44 (v := 31) q31 (by decide) (by decide) (off := 1842) (by rfl) (tgt := 1886) rfl ?_
      exact law_c_1886 C hl9 hX hb hR hk hn hE hl1 hx1 h
    replace h := it_f q31 h
    by_cases q32 : ((xs x5.toNatClampNeg) &&& 63) = 32
    · replace h := it_t q32 h
      refine g_tabIn C dL_law_44 (v := 32) q32 (by decide) (by decide) (off := 1905) (by rfl) (tgt := 1949) rfl ?_
      exact law_c_1949 C hl9 hX hb hR hk hn hE hl1 hx1 h
    replace h := it_f q32 h
    by_cases q33 : ((xs x5.toNatClampNeg) &&& 63) = 33
    · replace h := it_t q33 h
      refine g_tabIn C dL_law_44 (v := 33) q33 (by decide) (by decide) (off := 1973) (by rfl) (tgt := 2017) rfl ?_
      exact law_c_2017 C hl9 hX hb hR hk hn hE hl1 hx1 h
    replace h := it_f q33 h
    by_cases q34 : ((xs x5.toNatClampNeg) &&& 63) = 34
    · replace h := it_t q34 h
      refine g_tabIn C dL_law_44 (v := 34) q34 (by decide) (by decide) (off := 2029) (by rfl) (tgt := 2073) rfl ?_
      exact law_c_2073 C hl9 hX hb hR hk hn hE hl1 hx1 h
    replace h := it_f q34 h
    by_cases q35 : ((xs x5.toNatClampNeg) &&& 63) = 35
    · replace h := it_t q35 h
      refine g_tabIn C dL_law_44 (v := 35) q35 (by decide) (by decide) (off := 2085) (by rfl) (tgt := 2129) rfl ?_
      exact law_c_2129 C hl9 hX hb hR hk hn hE hl1 hx1 h
    replace h := it_f q35 h
    by_cases q36 : ((xs x5.toNatClampNeg) &&& 63) = 36
    · replace h := it_t q36 h
      refine g_tabIn C dL_law_44 (v := 36) q36 (by decide) (by decide) (off := 2098) (by rfl) (tgt := 2142) rfl ?_
      exact law_c_2142 C hl9 hX hb hR hk hn hE hl1 hx1 h
    replace h := it_f q36 h
    by_cases q37 : ((xs x5.toNatClampNeg) &&& 63) = 37
    · replace h := it_t q37 h
      refine g_tabIn C dL_law_44 (v := 37) q37 (by decide) (by decide) (off := 2111) (by rfl) (tgt := 2155) rfl ?_
      exact law_c_2155 C hl9 hX hb hR hk hn hE hl1 hx1 h
    replace h := it_f q37 h
    by_cases q38 : ((xs x5.toNatClampNeg) &&& 63) = 38
    · replace h := it_t q38 h
      refine g_tabIn C dL_law_44 (v := 38) q38 (by decide) (by decide) (off := 2124) (by rfl) (tgt := 2168) rfl ?_
      exact law_c_2168 C hl9 hX hb hR hk hn hE hl1 hx1 h
    replace h := it_f q38 h
    by_cases q39 : ((xs x5.toNatClampNeg) &&& 63) = 39
    · replace h := it_t q39 h
      refine g_tabIn C dL_law_44 (v := 39) q39 (by decide) (by decide) (off := 2137) (by rfl) (tgt := 2181) rfl ?_
      exact law_c_2181 C hl9 hX hb hR hk hn hE hl1 hx1 h
    replace h := it_f q39 h
    by_cases q40 : ((xs x5.toNatClampNeg) &&& 63) = 40
    · replace h := it_t q40 h
      refine g_tabIn C dL_law_44 (v := 40) q40 (by decide) (by decide) (off := 2193) (by rfl) (tgt := 2237) rfl ?_
      exact law_c_2237 C hl9 hX hb hR hk hn hE hl1 hx1 h
    replace h := it_f q40 h
    by_cases q41 : ((xs x5.toNatClampNeg) &&& 63) = 41
    · replace h := it_t q41 h
      refine g_tabIn C dL_law_44 (v := 41) q41 (by decide) (by decide) (off := 2206) (by rfl) (tgt := 2250) rfl ?_
      exact law_c_2250 C hl9 hX hb hR hk hn hE hl1 hx1 h
    replace h := it_f q41 h
    by_cases q42 : ((xs x5.toNatClampNeg) &&& 63) = 42
    · replace h := it_t q42 h
      refine g_tabIn C dL_law_44 (v := 42) q42 (by decide) (by decide) (off := 2219) (by rfl) (tgt := 2263) rfl ?_
      exact law_c_2263 C hl9 hX hb hR hk hn hE hl1 hx1 h
    replace h := it_f q42 h
    by_cases q43 : ((xs x5.toNatClampNeg) &&& 63) = 43
    · replace h := it_t q43 h
      refine g_tabIn C dL_law_44 (v := 43) q43 (by decide) (by decide) (off := 2277) (by rfl) (tgt := 2321) rfl ?_
      exact law_c_2321 C hl9 hX hb hR hk hn hE hl1 hx1 h
    replace h := it_f q43 h
    by_cases q44 : ((xs x5.toNatClampNeg) &&& 63) = 44
    · replace h := it_t q44 h
      refine g_tabIn C dL_law_44 (v := 44) q44 (by decide) (by decide) (off := 2290) (by rfl) (tgt := 2334) rfl ?_
      exact law_c_2334 C hl9 hX hb hR hk hn hE hl1 hx1 h
    replace h := it_f q44 h
    by_cases q45 : ((xs x5.toNatClampNeg) &&& 63) = 45
    · replace h := it_t q45 h
      refine g_tabIn C dL_law_44 (v := 45) q45 (by decide) (by decide) (off := 2303) (by rfl) (tgt := 2347) rfl ?_
      exact law_c_2347 C hl9 hX hb hR hk hn hE hl1 hx1 h
    replace h := it_f q45 h
    by_cases q46 : ((xs x5.toNatClampNeg) &&& 63) = 46
    · replace h := it_t q46 h
      refine g_tabIn C dL_law_44 (v := 46) q46 (by decide) (by decide) (off := 2368) (by rfl) (tgt := 2412) rfl ?_
      exact law_c_2412 C hl9 hX hb hR hk hn hE hl1 hx1 h
    replace h := it_f q46 h
    by_cases q47 : ((xs x5.toNatClampNeg) &&& 63) = 47
    · replace h := it_t q47 h
      refine g_tabIn C dL_law_44 (v := 47) q47 (by decide) (by decide) (off := 2434) (by rfl) (tgt := 2478) rfl ?_
      exact law_c_2478 C hl9 hX hb hR hk hn hE hl1 hx1 h
    replace h := it_f q47 h
    by_cases q48 : ((xs x5.toNatClampNeg) &&& 63) = 48
    · replace h := it_t q48 h
      refine g_tabIn C dL_law_44 (v := 48) q48 (by decide) (by decide) (off := 2447) (by rfl) (tgt := 2491) rfl ?_
      exact law_c_2491 C hl9 hX hb hR hk hn hE hl1 hx1 h
    replace h := it_f q48 h
    by_cases q49 : ((xs x5.toNatClampNeg) &&& 63) = 49
    · replace h := it_t q49 h
      refine g_tabIn C dL_law_44 (v := 49) q49 (by decide) (by decide) (off := 2505) (by rfl) (tgt := 2549) rfl ?_
      exact law_c_2549 C hl9 hX hb hR hk hn hE hl1 hx1 h
    replace h := it_f q49 h
    by_cases q50 : ((xs x5.toNatClampNeg) &&& 63) = 50
    · replace h := it_t q50 h
      refine g_tabIn C dL_law_44 (v := 50) q50 (by decide) (by decide) (off := 2549) (by rfl) (tgt := 2593) rfl ?_
      exact law_c_2593 C hl9 hX hb hR hk hn hE hl1 hx1 h
    replace h := it_f q50 h
    by_cases q51 : ((xs x5.toNatClampNeg) &&& 63) = 51
    · replace h := it_t q51 h
      refine g_tabIn C dL_law_44 (v := 51) q51 (by decide) (by decide) (off := 2593) (by rfl) (tgt := 2637) rfl ?_
      exact law_c_2637 C hl9 hX hb hR hk hn hE hl1 hx1 h
    replace h := it_f q51 h
    by_cases q52 : ((xs x5.toNatClampNeg) &&& 63) = 52
    · replace h := it_t q52 h
      refine g_tabIn C dL_law_44 (v := 52) q52 (by decide) (by decide) (off := 2637) (by rfl) (tgt := 2681) rfl ?_
      exact law_c_2681 C hl9 hX hb hR hk hn hE hl1 hx1 h
    replace h := it_f q52 h
    by_cases q53 : ((xs x5.toNatClampNeg) &&& 63) = 53
    · replace h := it_t q53 h
      refine g_tabIn C dL_law_44 (v := 53) q53 (by decide) (by decide) (off := 2693) (by rfl) (tgt := 2737) rfl ?_
      exact law_c_2737 C hl9 hX hb hR hk hn hE hl1 hx1 h
    replace h := it_f q53 h
    by_cases q54 : ((xs x5.toNatClampNeg) &&& 63) = 54
    · replace h := it_t q54 h
      refine g_tabIn C dL_law_44 (v := 54) q54 (by decide) (by decide) (off := 2706) (by rfl) (tgt := 2750) rfl ?_
      exact law_c_2750 C hl9 hX hb hR hk hn hE hl1 hx1 h
    replace h := it_f q54 h
    by_cases q55 : ((xs x5.toNatClampNeg) &&& 63) = 55
    · replace h := it_t q55 h
      refine g_tabIn C dL_law_44 (v := 55) q55 (by decide) (by decide) (off := 2762) (by rfl) (tgt := 2806) rfl ?_
      exact law_c_2806 C hl9 hX hb hR hk hn hE hl1 hx1 h
    replace h := it_f q55 h
    by_cases q56 : ((xs x5.toNatClampNeg) &&& 63) = 56
    · replace h := it_t q56 h
      refine g_tabIn C dL_law_44 (v := 56) q56 (by decide) (by decide) (off := 2775) (by rfl) (tgt := 2819) rfl ?_
      exact law_c_2819 C hl9 hX hb hR hk hn hE hl1 hx1 h
    replace h := it_f q56 h
    by_cases q57 : ((xs x5.toNatClampNeg) &&& 63) = 57
    · replace h := it_t q57 h
      refine g_tabIn C dL_law_44 (v := 57) q57 (by decide) (by decide) (off := 2819) (by rfl) (tgt := 2863) rfl ?_
      exact law_c_2863 C hl9 hX hb hR hk hn hE hl1 hx1 h
    replace h := it_f q57 h
    by_cases q58 : ((xs x5.toNatClampNeg) &&& 63) = 58
    · replace h := it_t q58 h
      refine g_tabIn C dL_law_44 (v := 58) q58 (by decide) (by decide) (off := 2832) (by rfl) (tgt := 2876) rfl ?_
      exact law_c_2876 C hl9 hX hb hR hk hn hE hl1 hx1 h
    replace h := it_f q58 h
    have a0 : ((xs x5.toNatClampNeg) &&& 63).toInt ≠ 0 := fun e => q0 (Int32.toInt_inj.mp (e.trans (by decide)))
    have a1 : ((xs x5.toNatClampNeg) &&& 63).toInt ≠ 1 := fun e => q1 (Int32.toInt_inj.mp (e.trans (by decide)))
    have a2 : ((xs x5.toNatClampNeg) &&& 63).toInt ≠ 2 := fun e => q2 (Int32.toInt_inj.mp (e.trans (by decide)))
    have a3 : ((xs x5.toNatClampNeg) &&& 63).toInt ≠ 3 := fun e => q3 (Int32.toInt_inj.mp (e.trans (by decide)))
    have a4 : ((xs x5.toNatClampNeg) &&& 63).toInt ≠ 4 := fun e => q4 (Int32.toInt_inj.mp (e.trans (by decide)))
    have a5 : ((xs x5.toNatClampNeg) &&& 63).toInt ≠ 5 := fun e => q5 (Int32.toInt_inj.mp (e.trans (by decide)))
    have a6 : ((xs x5.toNatClampNeg) &&& 63).toInt ≠ 6 := fun e => q6 (Int32.toInt_inj.mp (e.trans (by decide)))
    have a7 : ((xs x5.toNatClampNeg) &&& 63).toInt ≠ 7 := fun e => q7 (Int32.toInt_inj.mp (e.trans (by decide)))
    have a8 : ((xs x5.toNatClampNeg) &&& 63).toInt ≠ 8 := fun e => q8 (Int32.toInt_inj.mp (e.trans (by decide)))
    have a9 : ((xs x5.toNatClampNeg) &&& 63).toInt ≠ 9 := fun e => q9 (Int32.toInt_inj.mp (e.trans (by decide)))
    have a10 : ((xs x5.toNatClampNeg) &&& 63).toInt ≠ 10 := fun e => q10 (Int32.toInt_inj.mp (e.trans (by decide)))
    have a11 : ((xs x5.toNatClampNeg) &&& 63).toInt ≠ 11 := fun e => q11 (Int32.toInt_inj.mp (e.trans (by decide)))
    have a12 : ((xs x5.toNatClampNeg) &&& 63).toInt ≠ 12 := fun e => q12 (Int32.toInt_inj.mp (e.trans (by decide)))
    have a13 : ((xs x5.toNatClampNeg) &&& 63).toInt ≠ 13 := fun e => q13 (Int32.toInt_inj.mp (e.trans (by decide)))
    have a14 : ((xs x5.toNatClampNeg) &&& 63).toInt ≠ 14 := fun e => q14 (Int32.toInt_inj.mp (e.trans (by decide)))
    have a15 : ((xs x5.toNatClampNeg) &&& 63).toInt ≠ 15 := fun e => q15 (Int32.toInt_inj.mp (e.trans (by decide)))
    have a16 : ((xs x5.toNatClampNeg) &&& 63).toInt ≠ 16 := fun e => q16 (Int32.toInt_inj.mp (e.trans (by decide)))
    have a17 : ((xs x5.toNatClampNeg) &&& 63).toInt ≠ 17 := fun e => q17 (Int32.toInt_inj.mp (e.trans (by decide)))
    have a18 : ((xs x5.toNatClampNeg) &&& 63).toInt ≠ 18 := fun e => q18 (Int32.toInt_inj.mp (e.trans (by decide)))
    have a19 : ((xs x5.toNatClampNeg) &&& 63).toInt ≠ 19 := fun e => q19 (Int32.toInt_inj.mp (e.trans (by decide)))
    have a20 : ((xs x5.toNatClampNeg) &&& 63).toInt ≠ 20 := fun e => q20 (Int32.toInt_inj.mp (e.trans (by decide)))
    have a21 : ((xs x5.toNatClampNeg) &&& 63).toInt ≠ 21 := fun e => q21 (Int32.toInt_inj.mp (e.trans (by decide)))
    have a22 : ((xs x5.toNatClampNeg) &&& 63).toInt ≠ 22 := fun e => q22 (Int32.toInt_inj.mp (e.trans (by decide)))
    have a23 : ((xs x5.toNatClampNeg) &&& 63).toInt ≠ 23 := fun e => q23 (Int32.toInt_inj.mp (e.trans (by decide)))
    have a24 : ((xs x5.toNatClampNeg) &&& 63).toInt ≠ 24 := fun e => q24 (Int32.toInt_inj.mp (e.trans (by decide)))
    have a25 : ((xs x5.toNatClampNeg) &&& 63).toInt ≠ 25 := fun e => q25 (Int32.toInt_inj.mp (e.trans (by decide)))
    have a26 : ((xs x5.toNatClampNeg) &&& 63).toInt ≠ 26 := fun e => q26 (Int32.toInt_inj.mp (e.trans (by decide)))
    have a27 : ((xs x5.toNatClampNeg) &&& 63).toInt ≠ 27 := fun e => q27 (Int32.toInt_inj.mp (e.trans (by decide)))
    have a28 : ((xs x5.toNatClampNeg) &&& 63).toInt ≠ 28 := fun e => q28 (Int32.toInt_inj.mp (e.trans (by decide)))
    have a29 : ((xs x5.toNatClampNeg) &&& 63).toInt ≠ 29 := fun e => q29 (Int32.toInt_inj.mp (e.trans (by decide)))
    have a30 : ((xs x5.toNatClampNeg) &&& 63).toInt ≠ 30 := fun e => q30 (Int32.toInt_inj.mp (e.trans (by decide)))
    have a31 : ((xs x5.toNatClampNeg) &&& 63).toInt ≠ 31 := fun e => q31 (Int32.toInt_inj.mp (e.trans (by decide)))
    have a32 : ((xs x5.toNatClampNeg) &&& 63).toInt ≠ 32 := fun e => q32 (Int32.toInt_inj.mp (e.trans (by decide)))
    have a33 : ((xs x5.toNatClampNeg) &&& 63).toInt ≠ 33 := fun e => q33 (Int32.toInt_inj.mp (e.trans (by decide)))
    have a34 : ((xs x5.toNatClampNeg) &&& 63).toInt ≠ 34 := fun e => q34 (Int32.toInt_inj.mp (e.trans (by decide)))
    have a35 : ((xs x5.toNatClampNeg) &&& 63).toInt ≠ 35 := fun e => q35 (Int32.toInt_inj.mp (e.trans (by decide)))
    have a36 : ((xs x5.toNatClampNeg) &&& 63).toInt ≠ 36 := fun e => q36 (Int32.toInt_inj.mp (e.trans (by decide)))
    have a37 : ((xs x5.toNatClampNeg) &&& 63).toInt ≠ 37 := fun e => q37 (Int32.toInt_inj.mp (e.trans (by decide)))
    have a38 : ((xs x5.toNatClampNeg) &&& 63).toInt ≠ 38 := fun e => q38 (Int32.toInt_inj.mp (e.trans (by decide)))
    have a39 : ((xs x5.toNatClampNeg) &&& 63).toInt ≠ 39 := fun e => q39 (Int32.toInt_inj.mp (e.trans (by decide)))
    have a40 : ((xs x5.toNatClampNeg) &&& 63).toInt ≠ 40 := fun e => q40 (Int32.toInt_inj.mp (e.trans (by decide)))
    have a41 : ((xs x5.toNatClampNeg) &&& 63).toInt ≠ 41 := fun e => q41 (Int32.toInt_inj.mp (e.trans (by decide)))
    have a42 : ((xs x5.toNatClampNeg) &&& 63).toInt ≠ 42 := fun e => q42 (Int32.toInt_inj.mp (e.trans (by decide)))
    have a43 : ((xs x5.toNatClampNeg) &&& 63).toInt ≠ 43 := fun e => q43 (Int32.toInt_inj.mp (e.trans (by decide)))
    have a44 : ((xs x5.toNatClampNeg) &&& 63).toInt ≠ 44 := fun e => q44 (Int32.toInt_inj.mp (e.trans (by decide)))
    have a45 : ((xs x5.toNatClampNeg) &&& 63).toInt ≠ 45 := fun e => q45 (Int32.toInt_inj.mp (e.trans (by decide)))
    have a46 : ((xs x5.toNatClampNeg) &&& 63).toInt ≠ 46 := fun e => q46 (Int32.toInt_inj.mp (e.trans (by decide)))
    have a47 : ((xs x5.toNatClampNeg) &&& 63).toInt ≠ 47 := fun e => q47 (Int32.toInt_inj.mp (e.trans (by decide)))
    have a48 : ((xs x5.toNatClampNeg) &&& 63).toInt ≠ 48 := fun e => q48 (Int32.toInt_inj.mp (e.trans (by decide)))
    have a49 : ((xs x5.toNatClampNeg) &&& 63).toInt ≠ 49 := fun e => q49 (Int32.toInt_inj.mp (e.trans (by decide)))
    have a50 : ((xs x5.toNatClampNeg) &&& 63).toInt ≠ 50 := fun e => q50 (Int32.toInt_inj.mp (e.trans (by decide)))
    have a51 : ((xs x5.toNatClampNeg) &&& 63).toInt ≠ 51 := fun e => q51 (Int32.toInt_inj.mp (e.trans (by decide)))
    have a52 : ((xs x5.toNatClampNeg) &&& 63).toInt ≠ 52 := fun e => q52 (Int32.toInt_inj.mp (e.trans (by decide)))
    have a53 : ((xs x5.toNatClampNeg) &&& 63).toInt ≠ 53 := fun e => q53 (Int32.toInt_inj.mp (e.trans (by decide)))
    have a54 : ((xs x5.toNatClampNeg) &&& 63).toInt ≠ 54 := fun e => q54 (Int32.toInt_inj.mp (e.trans (by decide)))
    have a55 : ((xs x5.toNatClampNeg) &&& 63).toInt ≠ 55 := fun e => q55 (Int32.toInt_inj.mp (e.trans (by decide)))
    have a56 : ((xs x5.toNatClampNeg) &&& 63).toInt ≠ 56 := fun e => q56 (Int32.toInt_inj.mp (e.trans (by decide)))
    have a57 : ((xs x5.toNatClampNeg) &&& 63).toInt ≠ 57 := fun e => q57 (Int32.toInt_inj.mp (e.trans (by decide)))
    have a58 : ((xs x5.toNatClampNeg) &&& 63).toInt ≠ 58 := fun e => q58 (Int32.toInt_inj.mp (e.trans (by decide)))
    refine g_tabOut C dL_law_44 (by omega : ((xs x5.toNatClampNeg) &&& 63).toInt < 0 ∨ 58 < ((xs x5.toNatClampNeg) &&& 63).toInt) (tgt := 2920) rfl ?_
    refine g_iinc C (lv' := [(5, .int (x5 + 5)), (0, .ref b), (1, .ref (w_r w 0)), (2, .ref (w_r w 292)), (3, .ref (w_r w 300)), (4, .ref (w_r w 301))]) (v := (x5 + 5)) dL_law_2920 5 rfl rfl (by decide) rfl ?_
    refine g_goto C dL_law_2923 (tgt := 28) rfl ?_
    refine g_sub [1, 2, 3, 4, 5, 0] (lv' := [(0, .ref b), (1, .ref (w_r w 0)), (2, .ref (w_r w 292)), (3, .ref (w_r w 300)), (4, .ref (w_r w 301)), (5, .int (x5 + 5))]) rfl ?_
    refine g_widP (k + 8) (n + 60) (by omega) (by omega) ?_
    exact hl1 ((x5 + 5), d) (Option.some.inj h).symm
