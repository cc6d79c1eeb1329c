/-! 08: walks -/
set_option maxHeartbeats 4000000 in
set_option maxRecDepth 100000 in
theorem m_W_admit {w : wT} {l : Launch} {x1 x2 : Int32} {d dE : Dt} {rE : Int32} (hO : okW w) (hl9 : l.stackTraces = false) (h : f_W_admit x1 x2 d = some (rE, dE)) : gMW w l yL_admit cL_admit 5 (Option.some Jvm.ClassFile.FieldType.int) [(0, 17, 20, 19), (0, 17, 24, 13)] 8 8 60 [.ref (w_r w 0), .int x1, .int x2, .ref (w_r w 300)] d dE (some (.int rE)) := by
  refine gMW_of (by decide) [(0, .ref (w_r w 0)), (1, .int x1), (2, .int x2), (3, .ref (w_r w 300))] rfl rfl ?_ hO
  intro p e R s m args below meth c C hR hr hlk htab
  unfold f_W_admit at h
  refine g_aload_n C dL_admit_0 3 rfl ?_
  refine g_iconst C dL_admit_1 (v := 0) rfl ?_
  refine g_aload_n C dL_admit_2 0 rfl ?_
  refine g_iload_n C dL_admit_3 1 rfl ?_
  refine g_iload_n C dL_admit_4 2 rfl ?_
  obtain ⟨z10, hc9, h⟩ := ocW_1 h
  refine g_callVW C 2 12 0 q_0 vk_W_36 hR rfl (m_C_admit C.2.2.2.2.2.2.1 hl9 hc9) rfl rfl rfl dL_admit_5 rfl rfl rfl rfl (fun r6 d7 e12 => ?_) (fun et7 dt11 e12 => ?_)
  · subst e12
    replace h := ocW_i h
    refine g_if_eq C dL_admit_8 (tgt := 15) rfl (fun q => ?_) (fun q => ?_)
    · replace h := it_t q h
      refine g_lconst C dL_admit_15 (v := 0) (by decide) ?_
      refine g_last C 300 q_300 (by decide) 0 (by decide) dL_admit_16 ?_
      obtain ⟨d13, hd13, h⟩ := bnd_1 h
      refine g_nmD hd13 ?_
      refine g_goto C dL_admit_17 (tgt := 28) rfl ?_
      refine g_iconst C dL_admit_28 (v := 0) rfl ?_
      exact g_iretW C hr hlk rfl rfl rfl (congrArg Prod.snd (Option.some.inj h)) (congrArg (fun z => some (Value.int z.1)) (Option.some.inj h)) dL_admit_29
    · replace h := it_f q h
      refine g_lconst C dL_admit_11 (v := 1) (by decide) ?_
      refine g_goto C dL_admit_12 (tgt := 16) rfl ?_
      refine g_last C 300 q_300 (by decide) 0 (by decide) dL_admit_16 ?_
      obtain ⟨d14, hd14, h⟩ := bnd_1 h
      refine g_nmD hd14 ?_
      refine g_goto C dL_admit_17 (tgt := 28) rfl ?_
      refine g_iconst C dL_admit_28 (v := 0) rfl ?_
      exact g_iretW C hr hlk rfl rfl rfl (congrArg Prod.snd (Option.some.inj h)) (congrArg (fun z => some (Value.int z.1)) (Option.some.inj h)) dL_admit_29
  · subst e12
    replace h := ocW_t h
    by_cases qh14 : et7 = 1
    · replace h := it_t qh14 h
      subst qh14
      refine g_catch C htab 0 (nm := "java/lang/IndexOutOfBoundsException") rfl (fun q h => nomatch h) rfl (by decide) (wA 737 (by decide +kernel) (by decide +kernel)) (wO 776 (by decide +kernel) (by decide +kernel)) (fun qx => ?_)
      refine g_astore C (lv' := [(4, .ref qx), (0, .ref (w_r w 0)), (1, .int x1), (2, .int x2), (3, .ref (w_r w 300))]) dL_admit_20 (by decide) rfl ?_
      refine g_iconst C dL_admit_22 (v := 1) rfl ?_
      exact g_iretW C hr hlk rfl rfl rfl (congrArg Prod.snd (Option.some.inj h)) (congrArg (fun z => some (Value.int z.1)) (Option.some.inj h)) dL_admit_23
    replace h := it_f qh14 h
    by_cases qh15 : et7 = 0
    · replace h := it_t qh15 h
      subst qh15
      refine g_catch C htab 1 (nm := "java/lang/IllegalStateException") rfl (List.forall_mem_cons.mpr ⟨⟨by decide, "java/lang/IndexOutOfBoundsException", wA 737 (by decide +kernel) (by decide +kernel), by decide +kernel⟩, (fun q h => nomatch h)⟩) rfl (by decide) (wA 644 (by decide +kernel) (by decide +kernel)) (wO 655 (by decide +kernel) (by decide +kernel)) (fun qx => ?_)
      refine g_astore C (lv' := [(4, .ref qx), (0, .ref (w_r w 0)), (1, .int x1), (2, .int x2), (3, .ref (w_r w 300))]) dL_admit_24 (by decide) rfl ?_
      refine g_iconst C dL_admit_26 (v := 2) rfl ?_
      exact g_iretW C hr hlk rfl rfl rfl (congrArg Prod.snd (Option.some.inj h)) (congrArg (fun z => some (Value.int z.1)) (Option.some.inj h)) dL_admit_27
    replace h := it_f qh15 h
    cases h
set_option maxHeartbeats 4000000 in
set_option maxRecDepth 100000 in
theorem m_W_briefAt {w : wT} {l : Launch} {x1 : Int32} {d dE : Dt} {rE : Int32} (hO : okW w) (hl9 : l.stackTraces = false) (h : f_W_briefAt x1 d = some (rE, dE)) : gMW w l yL_briefAt cL_briefAt 4 (Option.some Jvm.ClassFile.FieldType.int) [(0, 9, 12, 27)] 7 8 60 [.ref (w_r w 0), .int x1, .ref (w_r w 300)] d dE (some (.int rE)) := by
  refine gMW_of (by decide) [(0, .ref (w_r w 0)), (1, .int x1), (2, .ref (w_r w 300))] rfl rfl ?_ hO
  intro p e R s m args below meth c C hR hr hlk htab
  unfold f_W_briefAt at h
  refine g_aload_n C dL_briefAt_0 2 rfl ?_
  refine g_iconst C dL_briefAt_1 (v := 0) rfl ?_
  refine g_aload_n C dL_briefAt_2 0 rfl ?_
  refine g_iload_n C dL_briefAt_3 1 rfl ?_
  obtain ⟨z7, hc6, h⟩ := ocR_1 h
  refine g_callVR C 1 6 0 q_0 vk_W_65 hR rfl (m_C_briefAt C.2.2.2.2.2.2.1 hl9 hc6) rfl rfl rfl dL_briefAt_4 rfl rfl rfl rfl (fun r4 e9 => ?_) (fun et4 e9 => ?_)
  · subst e9
    replace h := ocR_i h
    refine g_i2l C dL_briefAt_7  ?_
    refine g_last C 300 q_300 (by decide) 0 (by decide) dL_briefAt_8 ?_
    obtain ⟨d10, hd10, h⟩ := bnd_1 h
    refine g_nmD hd10 ?_
    refine g_goto C dL_briefAt_9 (tgt := 15) rfl ?_
    refine g_iconst C dL_briefAt_15 (v := 0) rfl ?_
    exact g_iretW C hr hlk rfl rfl rfl (congrArg Prod.snd (Option.some.inj h)) (congrArg (fun z => some (Value.int z.1)) (Option.some.inj h)) dL_briefAt_16
  · subst e9
    replace h := ocR_t h
    by_cases qh10 : et4 = 3
    · replace h := it_t qh10 h
      subst qh10
      refine g_catch C htab 0 (nm := "java/util/NoSuchElementException") rfl (fun q h => nomatch h) rfl (by decide) (wA 822 (by decide +kernel) (by decide +kernel)) (wO 837 (by decide +kernel) (by decide +kernel)) (fun qx => ?_)
      refine g_astore_n C (lv' := [(3, .ref qx), (0, .ref (w_r w 0)), (1, .int x1), (2, .ref (w_r w 300))]) dL_briefAt_12 (by decide) rfl ?_
      refine g_iconst C dL_briefAt_13 (v := 1) rfl ?_
      exact g_iretW C hr hlk rfl rfl rfl (congrArg Prod.snd (Option.some.inj h)) (congrArg (fun z => some (Value.int z.1)) (Option.some.inj h)) dL_briefAt_14
    replace h := it_f qh10 h
    cases h
set_option maxHeartbeats 4000000 in
set_option maxRecDepth 100000 in
theorem m_W_brightness {w : wT} {l : Launch} {x1 : Int32} {d dE : Dt} {rE : Int32} (hO : okW w) (hl9 : l.stackTraces = false) (h : f_W_brightness x1 d = some (rE, dE)) : gMW w l yL_brightness cL_brightness 4 (Option.some Jvm.ClassFile.FieldType.int) [(0, 9, 12, 19)] 8 8 60 [.ref (w_r w 0), .int x1, .ref (w_r w 300)] d dE (some (.int rE)) := by
  refine gMW_of (by decide) [(0, .ref (w_r w 0)), (1, .int x1), (2, .ref (w_r w 300))] rfl rfl ?_ hO
  intro p e R s m args below meth c C hR hr hlk htab
  unfold f_W_brightness at h
  refine g_aload_n C dL_brightness_0 2 rfl ?_
  refine g_iconst C dL_brightness_1 (v := 0) rfl ?_
  refine g_aload_n C dL_brightness_2 0 rfl ?_
  refine g_iload_n C dL_brightness_3 1 rfl ?_
  obtain ⟨z7, hc6, h⟩ := ocR_1 h
  refine g_callVR C 1 6 0 q_0 vk_W_50 hR rfl (m_C_brightness C.2.2.2.2.2.2.1 hl9 hc6) rfl rfl rfl dL_brightness_4 rfl rfl rfl rfl (fun r4 e9 => ?_) (fun et4 e9 => ?_)
  · subst e9
    replace h := ocR_i h
    refine g_i2l C dL_brightness_7  ?_
    refine g_last C 300 q_300 (by decide) 0 (by decide) dL_brightness_8 ?_
    obtain ⟨d10, hd10, h⟩ := bnd_1 h
    refine g_nmD hd10 ?_
    refine g_goto C dL_brightness_9 (tgt := 15) rfl ?_
    refine g_iconst C dL_brightness_15 (v := 0) rfl ?_
    exact g_iretW C hr hlk rfl rfl rfl (congrArg Prod.snd (Option.some.inj h)) (congrArg (fun z => some (Value.int z.1)) (Option.some.inj h)) dL_brightness_16
  · subst e9
    replace h := ocR_t h
    by_cases qh10 : et4 = 1
    · replace h := it_t qh10 h
      subst qh10
      refine g_catch C htab 0 (nm := "java/lang/IndexOutOfBoundsException") rfl (fun q h => nomatch h) rfl (by decide) (wA 737 (by decide +kernel) (by decide +kernel)) (wO 776 (by decide +kernel) (by decide +kernel)) (fun qx => ?_)
      refine g_astore_n C (lv' := [(3, .ref qx), (0, .ref (w_r w 0)), (1, .int x1), (2, .ref (w_r w 300))]) dL_brightness_12 (by decide) rfl ?_
      refine g_iconst C dL_brightness_13 (v := 1) rfl ?_
      exact g_iretW C hr hlk rfl rfl rfl (congrArg Prod.snd (Option.some.inj h)) (congrArg (fun z => some (Value.int z.1)) (Option.some.inj h)) dL_brightness_14
    replace h := it_f qh10 h
    cases h
set_option maxHeartbeats 4000000 in
set_option maxRecDepth 100000 in
theorem m_W_daysLeft {w : wT} {l : Launch} {x1 : Int32} {d dE : Dt} {rE : Int32} (hO : okW w) (hl9 : l.stackTraces = false) (h : f_W_daysLeft x1 d = some (rE, dE)) : gMW w l yL_daysLeft cL_daysLeft 4 (Option.some Jvm.ClassFile.FieldType.int) [(0, 9, 12, 19), (0, 9, 15, 27)] 9 8 60 [.ref (w_r w 0), .int x1, .ref (w_r w 300)] d dE (some (.int rE)) := by
  refine gMW_of (by decide) [(0, .ref (w_r w 0)), (1, .int x1), (2, .ref (w_r w 300))] rfl rfl ?_ hO
  intro p e R s m args below meth c C hR hr hlk htab
  unfold f_W_daysLeft at h
  refine g_aload_n C dL_daysLeft_0 2 rfl ?_
  refine g_iconst C dL_daysLeft_1 (v := 0) rfl ?_
  refine g_aload_n C dL_daysLeft_2 0 rfl ?_
  refine g_iload_n C dL_daysLeft_3 1 rfl ?_
  obtain ⟨z7, hc6, h⟩ := ocR_1 h
  refine g_callVR C 2 12 0 q_0 vk_W_59 hR rfl (m_C_daysLeft C.2.2.2.2.2.2.1 hl9 hc6) rfl rfl rfl dL_daysLeft_4 rfl rfl rfl rfl (fun r4 e9 => ?_) (fun et4 e9 => ?_)
  · subst e9
    replace h := ocR_i h
    refine g_i2l C dL_daysLeft_7  ?_
    refine g_last C 300 q_300 (by decide) 0 (by decide) dL_daysLeft_8 ?_
    obtain ⟨d10, hd10, h⟩ := bnd_1 h
    refine g_nmD hd10 ?_
    refine g_goto C dL_daysLeft_9 (tgt := 18) rfl ?_
    refine g_iconst C dL_daysLeft_18 (v := 0) rfl ?_
    exact g_iretW C hr hlk rfl rfl rfl (congrArg Prod.snd (Option.some.inj h)) (congrArg (fun z => some (Value.int z.1)) (Option.some.inj h)) dL_daysLeft_19
  · subst e9
    replace h := ocR_t h
    by_cases qh10 : et4 = 1
    · replace h := it_t qh10 h
      subst qh10
      refine g_catch C htab 0 (nm := "java/lang/IndexOutOfBoundsException") rfl (fun q h => nomatch h) rfl (by decide) (wA 737 (by decide +kernel) (by decide +kernel)) (wO 776 (by decide +kernel) (by decide +kernel)) (fun qx => ?_)
      refine g_astore_n C (lv' := [(3, .ref qx), (0, .ref (w_r w 0)), (1, .int x1), (2, .ref (w_r w 300))]) dL_daysLeft_12 (by decide) rfl ?_
      refine g_iconst C dL_daysLeft_13 (v := 1) rfl ?_
      exact g_iretW C hr hlk rfl rfl rfl (congrArg Prod.snd (Option.some.inj h)) (congrArg (fun z => some (Value.int z.1)) (Option.some.inj h)) dL_daysLeft_14
    replace h := it_f qh10 h
    by_cases qh11 : et4 = 3
    · replace h := it_t qh11 h
      subst qh11
      refine g_catch C htab 1 (nm := "java/util/NoSuchElementException") rfl (List.forall_mem_cons.mpr ⟨⟨by decide, "java/lang/IndexOutOfBoundsException", wA 737 (by decide +kernel) (by decide +kernel), by decide +kernel⟩, (fun q h => nomatch h)⟩) rfl (by decide) (wA 822 (by decide +kernel) (by decide +kernel)) (wO 837 (by decide +kernel) (by decide +kernel)) (fun qx => ?_)
      refine g_astore_n C (lv' := [(3, .ref qx), (0, .ref (w_r w 0)), (1, .int x1), (2, .ref (w_r w 300))]) dL_daysLeft_15 (by decide) rfl ?_
      refine g_iconst C dL_daysLeft_16 (v := 2) rfl ?_
      exact g_iretW C hr hlk rfl rfl rfl (congrArg Prod.snd (Option.some.inj h)) (congrArg (fun z => some (Value.int z.1)) (Option.some.inj h)) dL_daysLeft_17
    replace h := it_f qh11 h
    cases h
set_option maxHeartbeats 4000000 in
set_option maxRecDepth 100000 in
theorem m_W_daysUntilFree {w : wT} {l : Launch} {x1 : Int32} {d dE : Dt} {rE : Int32} (hO : okW w) (hl9 : l.stackTraces = false) (h : f_W_daysUntilFree x1 d = some (rE, dE)) : gMW w l yL_daysUntilFree cL_daysUntilFree 4 (Option.some Jvm.ClassFile.FieldType.int) [(0, 9, 12, 19)] 8 8 60 [.ref (w_r w 0), .int x1, .ref (w_r w 300)] d dE (some (.int rE)) := by
  refine gMW_of (by decide) [(0, .ref (w_r w 0)), (1, .int x1), (2, .ref (w_r w 300))] rfl rfl ?_ hO
  intro p e R s m args below meth c C hR hr hlk htab
  unfold f_W_daysUntilFree at h
  refine g_aload_n C dL_daysUntilFree_0 2 rfl ?_
  refine g_iconst C dL_daysUntilFree_1 (v := 0) rfl ?_
  refine g_aload_n C dL_daysUntilFree_2 0 rfl ?_
  refine g_iload_n C dL_daysUntilFree_3 1 rfl ?_
  obtain ⟨z7, hc6, h⟩ := ocR_1 h
  refine g_callVR C 1 6 0 q_0 vk_W_62 hR rfl (m_C_daysUntilFree C.2.2.2.2.2.2.1 hl9 hc6) rfl rfl rfl dL_daysUntilFree_4 rfl rfl rfl rfl (fun r4 e9 => ?_) (fun et4 e9 => ?_)
  · subst e9
    replace h := ocR_i h
    refine g_i2l C dL_daysUntilFree_7  ?_
    refine g_last C 300 q_300 (by decide) 0 (by decide) dL_daysUntilFree_8 ?_
    obtain ⟨d10, hd10, h⟩ := bnd_1 h
    refine g_nmD hd10 ?_
    refine g_goto C dL_daysUntilFree_9 (tgt := 15) rfl ?_
    refine g_iconst C dL_daysUntilFree_15 (v := 0) rfl ?_
    exact g_iretW C hr hlk rfl rfl rfl (congrArg Prod.snd (Option.some.inj h)) (congrArg (fun z => some (Value.int z.1)) (Option.some.inj h)) dL_daysUntilFree_16
  · subst e9
    replace h := ocR_t h
    by_cases qh10 : et4 = 1
    · replace h := it_t qh10 h
      subst qh10
      refine g_catch C htab 0 (nm := "java/lang/IndexOutOfBoundsException") rfl (fun q h => nomatch h) rfl (by decide) (wA 737 (by decide +kernel) (by decide +kernel)) (wO 776 (by decide +kernel) (by decide +kernel)) (fun qx => ?_)
      refine g_astore_n C (lv' := [(3, .ref qx), (0, .ref (w_r w 0)), (1, .int x1), (2, .ref (w_r w 300))]) dL_daysUntilFree_12 (by decide) rfl ?_
      refine g_iconst C dL_daysUntilFree_13 (v := 1) rfl ?_
      exact g_iretW C hr hlk rfl rfl rfl (congrArg Prod.snd (Option.some.inj h)) (congrArg (fun z => some (Value.int z.1)) (Option.some.inj h)) dL_daysUntilFree_14
    replace h := it_f qh10 h
    cases h
set_option maxHeartbeats 4000000 in
set_option maxRecDepth 100000 in
theorem m_W_dropStatement {w : wT} {l : Launch} {x1 : Int32} {d dE : Dt} {rE : Int32} (hO : okW w) (hl9 : l.stackTraces = false) (h : f_W_dropStatement x1 d = some (rE, dE)) : gMW w l yL_dropStatement cL_dropStatement 4 (Option.some Jvm.ClassFile.FieldType.int) [(0, 9, 12, 19)] 8 8 60 [.ref (w_r w 0), .int x1, .ref (w_r w 300)] d dE (some (.int rE)) := by
  refine gMW_of (by decide) [(0, .ref (w_r w 0)), (1, .int x1), (2, .ref (w_r w 300))] rfl rfl ?_ hO
  intro p e R s m args below meth c C hR hr hlk htab
  unfold f_W_dropStatement at h
  refine g_aload_n C dL_dropStatement_0 2 rfl ?_
  refine g_iconst C dL_dropStatement_1 (v := 0) rfl ?_
  refine g_aload_n C dL_dropStatement_2 0 rfl ?_
  refine g_iload_n C dL_dropStatement_3 1 rfl ?_
  obtain ⟨z9, hc8, h⟩ := ocW_1 h
  refine g_callVW C 1 6 0 q_0 vk_W_33 hR rfl (m_C_dropStatement C.2.2.2.2.2.2.1 hl9 hc8) rfl rfl rfl dL_dropStatement_4 rfl rfl rfl rfl (fun r5 d6 e11 => ?_) (fun et6 dt10 e11 => ?_)
  · subst e11
    replace h := ocW_i h
    refine g_i2l C dL_dropStatement_7  ?_
    refine g_last C 300 q_300 (by decide) 0 (by decide) dL_dropStatement_8 ?_
    obtain ⟨d12, hd12, h⟩ := bnd_1 h
    refine g_nmD hd12 ?_
    refine g_goto C dL_dropStatement_9 (tgt := 15) rfl ?_
    refine g_iconst C dL_dropStatement_15 (v := 0) rfl ?_
    exact g_iretW C hr hlk rfl rfl rfl (congrArg Prod.snd (Option.some.inj h)) (congrArg (fun z => some (Value.int z.1)) (Option.some.inj h)) dL_dropStatement_16
  · subst e11
    replace h := ocW_t h
    by_cases qh12 : et6 = 1
    · replace h := it_t qh12 h
      subst qh12
      refine g_catch C htab 0 (nm := "java/lang/IndexOutOfBoundsException") rfl (fun q h => nomatch h) rfl (by decide) (wA 737 (by decide +kernel) (by decide +kernel)) (wO 776 (by decide +kernel) (by decide +kernel)) (fun qx => ?_)
      refine g_astore_n C (lv' := [(3, .ref qx), (0, .ref (w_r w 0)), (1, .int x1), (2, .ref (w_r w 300))]) dL_dropStatement_12 (by decide) rfl ?_
      refine g_iconst C dL_dropStatement_13 (v := 1) rfl ?_
      exact g_iretW C hr hlk rfl rfl rfl (congrArg Prod.snd (Option.some.inj h)) (congrArg (fun z => some (Value.int z.1)) (Option.some.inj h)) dL_dropStatement_14
    replace h := it_f qh12 h
    cases h
set_option maxHeartbeats 4000000 in
set_option maxRecDepth 100000 in
theorem m_W_errorPosition {w : wT} {l : Launch} {d dE : Dt} {rE : Int32} (hO : okW w) (hl9 : l.stackTraces = false) (h : f_W_errorPosition  d = some (rE, dE)) : gMW w l yL_errorPosition cL_errorPosition 3 (Option.some Jvm.ClassFile.FieldType.int) [(0, 8, 11, 27)] 7 8 60 [.ref (w_r w 0), .ref (w_r w 300)] d dE (some (.int rE)) := by
  refine gMW_of (by decide) [(0, .ref (w_r w 0)), (1, .ref (w_r w 300))] rfl rfl ?_ hO
  intro p e R s m args below meth c C hR hr hlk htab
  unfold f_W_errorPosition at h
  refine g_aload_n C dL_errorPosition_0 1 rfl ?_
  refine g_iconst C dL_errorPosition_1 (v := 0) rfl ?_
  refine g_aload_n C dL_errorPosition_2 0 rfl ?_
  obtain ⟨z7, hc6, h⟩ := ocR_1 h
  refine g_callVR C 1 6 0 q_0 vk_W_134 hR rfl (m_C_errorPosition C.2.2.2.2.2.2.1 hl9 hc6) rfl rfl rfl dL_errorPosition_3 rfl rfl rfl rfl (fun r4 e9 => ?_) (fun et4 e9 => ?_)
  · subst e9
    replace h := ocR_i h
    refine g_i2l C dL_errorPosition_6  ?_
    refine g_last C 300 q_300 (by decide) 0 (by decide) dL_errorPosition_7 ?_
    obtain ⟨d10, hd10, h⟩ := bnd_1 h
    refine g_nmD hd10 ?_
    refine g_goto C dL_errorPosition_8 (tgt := 14) rfl ?_
    refine g_iconst C dL_errorPosition_14 (v := 0) rfl ?_
    exact g_iretW C hr hlk rfl rfl rfl (congrArg Prod.snd (Option.some.inj h)) (congrArg (fun z => some (Value.int z.1)) (Option.some.inj h)) dL_errorPosition_15
  · subst e9
    replace h := ocR_t h
    by_cases qh10 : et4 = 3
    · replace h := it_t qh10 h
      subst qh10
      refine g_catch C htab 0 (nm := "java/util/NoSuchElementException") rfl (fun q h => nomatch h) rfl (by decide) (wA 822 (by decide +kernel) (by decide +kernel)) (wO 837 (by decide +kernel) (by decide +kernel)) (fun qx => ?_)
      refine g_astore_n C (lv' := [(2, .ref qx), (0, .ref (w_r w 0)), (1, .ref (w_r w 300))]) dL_errorPosition_11 (by decide) rfl ?_
      refine g_iconst C dL_errorPosition_12 (v := 1) rfl ?_
      exact g_iretW C hr hlk rfl rfl rfl (congrArg Prod.snd (Option.some.inj h)) (congrArg (fun z => some (Value.int z.1)) (Option.some.inj h)) dL_errorPosition_13
    replace h := it_f qh10 h
    cases h
set_option maxHeartbeats 4000000 in
set_option maxRecDepth 100000 in
theorem m_W_failedCommand {w : wT} {l : Launch} {d dE : Dt} {rE : Int32} (hO : okW w) (hl9 : l.stackTraces = false) (h : f_W_failedCommand  d = some (rE, dE)) : gMW w l yL_failedCommand cL_failedCommand 3 (Option.some Jvm.ClassFile.FieldType.int) [(0, 8, 11, 27)] 7 8 60 [.ref (w_r w 0), .ref (w_r w 300)] d dE (some (.int rE)) := by
  refine gMW_of (by decide) [(0, .ref (w_r w 0)), (1, .ref (w_r w 300))] rfl rfl ?_ hO
  intro p e R s m args below meth c C hR hr hlk htab
  unfold f_W_failedCommand at h
  refine g_aload_n C dL_failedCommand_0 1 rfl ?_
  refine g_iconst C dL_failedCommand_1 (v := 0) rfl ?_
  refine g_aload_n C dL_failedCommand_2 0 rfl ?_
  obtain ⟨z7, hc6, h⟩ := ocR_1 h
  refine g_callVR C 1 6 0 q_0 vk_W_137 hR rfl (m_C_failedCommand C.2.2.2.2.2.2.1 hl9 hc6) rfl rfl rfl dL_failedCommand_3 rfl rfl rfl rfl (fun r4 e9 => ?_) (fun et4 e9 => ?_)
  · subst e9
    replace h := ocR_i h
    refine g_i2l C dL_failedCommand_6  ?_
    refine g_last C 300 q_300 (by decide) 0 (by decide) dL_failedCommand_7 ?_
    obtain ⟨d10, hd10, h⟩ := bnd_1 h
    refine g_nmD hd10 ?_
    refine g_goto C dL_failedCommand_8 (tgt := 14) rfl ?_
    refine g_iconst C dL_failedCommand_14 (v := 0) rfl ?_
    exact g_iretW C hr hlk rfl rfl rfl (congrArg Prod.snd (Option.some.inj h)) (congrArg (fun z => some (Value.int z.1)) (Option.some.inj h)) dL_failedCommand_15
  · subst e9
    replace h := ocR_t h
    by_cases qh10 : et4 = 3
    · replace h := it_t qh10 h
      subst qh10
      refine g_catch C htab 0 (nm := "java/util/NoSuchElementException") rfl (fun q h => nomatch h) rfl (by decide) (wA 822 (by decide +kernel) (by decide +kernel)) (wO 837 (by decide +kernel) (by decide +kernel)) (fun qx => ?_)
      refine g_astore_n C (lv' := [(2, .ref qx), (0, .ref (w_r w 0)), (1, .ref (w_r w 300))]) dL_failedCommand_11 (by decide) rfl ?_
      refine g_iconst C dL_failedCommand_12 (v := 1) rfl ?_
      exact g_iretW C hr hlk rfl rfl rfl (congrArg Prod.snd (Option.some.inj h)) (congrArg (fun z => some (Value.int z.1)) (Option.some.inj h)) dL_failedCommand_13
    replace h := it_f qh10 h
    cases h
set_option maxHeartbeats 4000000 in
set_option maxRecDepth 100000 in
theorem m_W_fee {w : wT} {l : Launch} {x1 : Int32} {d dE : Dt} {rE : Int32} (hO : okW w) (hl9 : l.stackTraces = false) (h : f_W_fee x1 d = some (rE, dE)) : gMW w l yL_fee cL_fee 4 (Option.some Jvm.ClassFile.FieldType.int) [(0, 9, 12, 27)] 8 8 60 [.ref (w_r w 0), .int x1, .ref (w_r w 300)] d dE (some (.int rE)) := by
  refine gMW_of (by decide) [(0, .ref (w_r w 0)), (1, .int x1), (2, .ref (w_r w 300))] rfl rfl ?_ hO
  intro p e R s m args below meth c C hR hr hlk htab
  unfold f_W_fee at h
  refine g_aload_n C dL_fee_0 2 rfl ?_
  refine g_iconst C dL_fee_1 (v := 0) rfl ?_
  refine g_aload_n C dL_fee_2 0 rfl ?_
  refine g_iload_n C dL_fee_3 1 rfl ?_
  obtain ⟨z7, hc6, h⟩ := ocR_1 h
  refine g_callVR C 1 6 0 q_0 vk_W_74 hR rfl (m_C_fee C.2.2.2.2.2.2.1 hl9 hc6) rfl rfl rfl dL_fee_4 rfl rfl rfl rfl (fun r4 e9 => ?_) (fun et4 e9 => ?_)
  · subst e9
    replace h := ocR_i h
    refine g_i2l C dL_fee_7  ?_
    refine g_last C 300 q_300 (by decide) 0 (by decide) dL_fee_8 ?_
    obtain ⟨d10, hd10, h⟩ := bnd_1 h
    refine g_nmD hd10 ?_
    refine g_goto C dL_fee_9 (tgt := 15) rfl ?_
    refine g_iconst C dL_fee_15 (v := 0) rfl ?_
    exact g_iretW C hr hlk rfl rfl rfl (congrArg Prod.snd (Option.some.inj h)) (congrArg (fun z => some (Value.int z.1)) (Option.some.inj h)) dL_fee_16
  · subst e9
    replace h := ocR_t h
    by_cases qh10 : et4 = 3
    · replace h := it_t qh10 h
      subst qh10
      refine g_catch C htab 0 (nm := "java/util/NoSuchElementException") rfl (fun q h => nomatch h) rfl (by decide) (wA 822 (by decide +kernel) (by decide +kernel)) (wO 837 (by decide +kernel) (by decide +kernel)) (fun qx => ?_)
      refine g_astore_n C (lv' := [(3, .ref qx), (0, .ref (w_r w 0)), (1, .int x1), (2, .ref (w_r w 300))]) dL_fee_12 (by decide) rfl ?_
      refine g_iconst C dL_fee_13 (v := 1) rfl ?_
      exact g_iretW C hr hlk rfl rfl rfl (congrArg Prod.snd (Option.some.inj h)) (congrArg (fun z => some (Value.int z.1)) (Option.some.inj h)) dL_fee_14
    replace h := it_f qh10 h
    cases h
set_option maxHeartbeats 4000000 in
set_option maxRecDepth 100000 in
theorem m_W_feed {w : wT} {l : Launch} {x1 : Int32} {d dE : Dt} {rE : Int32} (hO : okW w) (hl9 : l.stackTraces = false) (h : f_W_feed x1 d = some (rE, dE)) : gMW w l yL_feed cL_feed 4 (Option.some Jvm.ClassFile.FieldType.int) [(0, 9, 12, 13)] 7 8 60 [.ref (w_r w 0), .int x1, .ref (w_r w 300)] d dE (some (.int rE)) := by
  refine gMW_of (by decide) [(0, .ref (w_r w 0)), (1, .int x1), (2, .ref (w_r w 300))] rfl rfl ?_ hO
  intro p e R s m args below meth c C hR hr hlk htab
  unfold f_W_feed at h
  refine g_aload_n C dL_feed_0 2 rfl ?_
  refine g_iconst C dL_feed_1 (v := 0) rfl ?_
  refine g_aload_n C dL_feed_2 0 rfl ?_
  refine g_iload_n C dL_feed_3 1 rfl ?_
  obtain ⟨z9, hc8, h⟩ := ocW_1 h
  refine g_callVW C 1 6 0 q_0 vk_W_126 hR rfl (m_C_feed C.2.2.2.2.2.2.1 hl9 hc8) rfl rfl rfl dL_feed_4 rfl rfl rfl rfl (fun r5 d6 e11 => ?_) (fun et6 dt10 e11 => ?_)
  · subst e11
    replace h := ocW_i h
    refine g_i2l C dL_feed_7  ?_
    refine g_last C 300 q_300 (by decide) 0 (by decide) dL_feed_8 ?_
    obtain ⟨d12, hd12, h⟩ := bnd_1 h
    refine g_nmD hd12 ?_
    refine g_goto C dL_feed_9 (tgt := 15) rfl ?_
    refine g_iconst C dL_feed_15 (v := 0) rfl ?_
    exact g_iretW C hr hlk rfl rfl rfl (congrArg Prod.snd (Option.some.inj h)) (congrArg (fun z => some (Value.int z.1)) (Option.some.inj h)) dL_feed_16
  · subst e11
    replace h := ocW_t h
    by_cases qh12 : et6 = 0
    · replace h := it_t qh12 h
      subst qh12
      refine g_catch C htab 0 (nm := "java/lang/IllegalStateException") rfl (fun q h => nomatch h) rfl (by decide) (wA 644 (by decide +kernel) (by decide +kernel)) (wO 655 (by decide +kernel) (by decide +kernel)) (fun qx => ?_)
      refine g_astore_n C (lv' := [(3, .ref qx), (0, .ref (w_r w 0)), (1, .int x1), (2, .ref (w_r w 300))]) dL_feed_12 (by decide) rfl ?_
      refine g_iconst C dL_feed_13 (v := 1) rfl ?_
      exact g_iretW C hr hlk rfl rfl rfl (congrArg Prod.snd (Option.some.inj h)) (congrArg (fun z => some (Value.int z.1)) (Option.some.inj h)) dL_feed_14
    replace h := it_f qh12 h
    cases h
set_option maxHeartbeats 4000000 in
set_option maxRecDepth 100000 in
theorem m_W_file {w : wT} {l : Launch} {x1 x2 x3 x4 : Int32} {d dE : Dt} {rE : Int32} (hO : okW w) (hl9 : l.stackTraces = false) (h : f_W_file x1 x2 x3 x4 d = some (rE, dE)) : gMW w l yL_file cL_file 7 (Option.some Jvm.ClassFile.FieldType.int) [(0, 14, 17, 19), (0, 14, 21, 21), (0, 14, 25, 13)] 8 8 60 [.ref (w_r w 0), .int x1, .int x2, .int x3, .int x4, .ref (w_r w 300)] d dE (some (.int rE)) := by
  refine gMW_of (by decide) [(0, .ref (w_r w 0)), (1, .int x1), (2, .int x2), (3, .int x3), (4, .int x4), (5, .ref (w_r w 300))] rfl rfl ?_ hO
  intro p e R s m args below meth c C hR hr hlk htab
  unfold f_W_file at h
  refine g_aload C dL_file_0 5 rfl ?_
  refine g_iconst C dL_file_2 (v := 0) rfl ?_
  refine g_aload_n C dL_file_3 0 rfl ?_
  refine g_iload_n C dL_file_4 1 rfl ?_
  refine g_iload_n C dL_file_5 2 rfl ?_
  refine g_iload_n C dL_file_6 3 rfl ?_
  refine g_iload C dL_file_7 4 rfl ?_
  obtain ⟨z9, hc8, h⟩ := ocW_1 h
  refine g_callVW C 2 12 0 q_0 vk_W_15 hR rfl (m_C_file C.2.2.2.2.2.2.1 hl9 hc8) rfl rfl rfl dL_file_9 rfl rfl rfl rfl (fun r5 d6 e11 => ?_) (fun et6 dt10 e11 => ?_)
  · subst e11
    replace h := ocW_i h
    refine g_i2l C dL_file_12  ?_
    refine g_last C 300 q_300 (by decide) 0 (by decide) dL_file_13 ?_
    obtain ⟨d12, hd12, h⟩ := bnd_1 h
    refine g_nmD hd12 ?_
    refine g_goto C dL_file_14 (tgt := 29) rfl ?_
    refine g_iconst C dL_file_29 (v := 0) rfl ?_
    exact g_iretW C hr hlk rfl rfl rfl (congrArg Prod.snd (Option.some.inj h)) (congrArg (fun z => some (Value.int z.1)) (Option.some.inj h)) dL_file_30
  · subst e11
    replace h := ocW_t h
    by_cases qh12 : et6 = 1
    · replace h := it_t qh12 h
      subst qh12
      refine g_catch C htab 0 (nm := "java/lang/IndexOutOfBoundsException") rfl (fun q h => nomatch h) rfl (by decide) (wA 737 (by decide +kernel) (by decide +kernel)) (wO 776 (by decide +kernel) (by decide +kernel)) (fun qx => ?_)
      refine g_astore C (lv' := [(6, .ref qx), (0, .ref (w_r w 0)), (1, .int x1), (2, .int x2), (3, .int x3), (4, .int x4), (5, .ref (w_r w 300))]) dL_file_17 (by decide) rfl ?_
      refine g_iconst C dL_file_19 (v := 1) rfl ?_
      exact g_iretW C hr hlk rfl rfl rfl (congrArg Prod.snd (Option.some.inj h)) (congrArg (fun z => some (Value.int z.1)) (Option.some.inj h)) dL_file_20
    replace h := it_f qh12 h
    by_cases qh13 : et6 = 2
    · replace h := it_t qh13 h
      subst qh13
      refine g_catch C htab 1 (nm := "java/lang/IllegalArgumentException") rfl (List.forall_mem_cons.mpr ⟨⟨by decide, "java/lang/IndexOutOfBoundsException", wA 737 (by decide +kernel) (by decide +kernel), by decide +kernel⟩, (fun q h => nomatch h)⟩) rfl (by decide) (wA 761 (by decide +kernel) (by decide +kernel)) (wO 792 (by decide +kernel) (by decide +kernel)) (fun qx => ?_)
      refine g_astore C (lv' := [(6, .ref qx), (0, .ref (w_r w 0)), (1, .int x1), (2, .int x2), (3, .int x3), (4, .int x4), (5, .ref (w_r w 300))]) dL_file_21 (by decide) rfl ?_
      refine g_iconst C dL_file_23 (v := 2) rfl ?_
      exact g_iretW C hr hlk rfl rfl rfl (congrArg Prod.snd (Option.some.inj h)) (congrArg (fun z => some (Value.int z.1)) (Option.some.inj h)) dL_file_24
    replace h := it_f qh13 h
    by_cases qh14 : et6 = 0
    · replace h := it_t qh14 h
      subst qh14
      refine g_catch C htab 2 (nm := "java/lang/IllegalStateException") rfl (List.forall_mem_cons.mpr ⟨⟨by decide, "java/lang/IndexOutOfBoundsException", wA 737 (by decide +kernel) (by decide +kernel), by decide +kernel⟩, (List.forall_mem_cons.mpr ⟨⟨by decide, "java/lang/IllegalArgumentException", wA 761 (by decide +kernel) (by decide +kernel), by decide +kernel⟩, (fun q h => nomatch h)⟩)⟩) rfl (by decide) (wA 644 (by decide +kernel) (by decide +kernel)) (wO 655 (by decide +kernel) (by decide +kernel)) (fun qx => ?_)
      refine g_astore C (lv' := [(6, .ref qx), (0, .ref (w_r w 0)), (1, .int x1), (2, .int x2), (3, .int x3), (4, .int x4), (5, .ref (w_r w 300))]) dL_file_25 (by decide) rfl ?_
      refine g_iconst C dL_file_27 (v := 3) rfl ?_
      exact g_iretW C hr hlk rfl rfl rfl (congrArg Prod.snd (Option.some.inj h)) (congrArg (fun z => some (Value.int z.1)) (Option.some.inj h)) dL_file_28
    replace h := it_f qh14 h
    cases h
set_option maxHeartbeats 4000000 in
set_option maxRecDepth 100000 in
theorem m_W_firstOf {w : wT} {l : Launch} {x1 : Int32} {d dE : Dt} {rE : Int32} (hO : okW w) (hl9 : l.stackTraces = false) (h : f_W_firstOf x1 d = some (rE, dE)) : gMW w l yL_firstOf cL_firstOf 4 (Option.some Jvm.ClassFile.FieldType.int) [(0, 9, 12, 19)] 8 8 60 [.ref (w_r w 0), .int x1, .ref (w_r w 300)] d dE (some (.int rE)) := by
  refine gMW_of (by decide) [(0, .ref (w_r w 0)), (1, .int x1), (2, .ref (w_r w 300))] rfl rfl ?_ hO
  intro p e R s m args below meth c C hR hr hlk htab
  unfold f_W_firstOf at h
  refine g_aload_n C dL_firstOf_0 2 rfl ?_
  refine g_iconst C dL_firstOf_1 (v := 0) rfl ?_
  refine g_aload_n C dL_firstOf_2 0 rfl ?_
  refine g_iload_n C dL_firstOf_3 1 rfl ?_
  obtain ⟨z7, hc6, h⟩ := ocR_1 h
  refine g_callVR C 1 6 0 q_0 vk_W_86 hR rfl (m_C_firstOf C.2.2.2.2.2.2.1 hl9 hc6) rfl rfl rfl dL_firstOf_4 rfl rfl rfl rfl (fun r4 e9 => ?_) (fun et4 e9 => ?_)
  · subst e9
    replace h := ocR_i h
    refine g_i2l C dL_firstOf_7  ?_
    refine g_last C 300 q_300 (by decide) 0 (by decide) dL_firstOf_8 ?_
    obtain ⟨d10, hd10, h⟩ := bnd_1 h
    refine g_nmD hd10 ?_
    refine g_goto C dL_firstOf_9 (tgt := 15) rfl ?_
    refine g_iconst C dL_firstOf_15 (v := 0) rfl ?_
    exact g_iretW C hr hlk rfl rfl rfl (congrArg Prod.snd (Option.some.inj h)) (congrArg (fun z => some (Value.int z.1)) (Option.some.inj h)) dL_firstOf_16
  · subst e9
    replace h := ocR_t h
    by_cases qh10 : et4 = 1
    · replace h := it_t qh10 h
      subst qh10
      refine g_catch C htab 0 (nm := "java/lang/IndexOutOfBoundsException") rfl (fun q h => nomatch h) rfl (by decide) (wA 737 (by decide +kernel) (by decide +kernel)) (wO 776 (by decide +kernel) (by decide +kernel)) (fun qx => ?_)
      refine g_astore_n C (lv' := [(3, .ref qx), (0, .ref (w_r w 0)), (1, .int x1), (2, .ref (w_r w 300))]) dL_firstOf_12 (by decide) rfl ?_
      refine g_iconst C dL_firstOf_13 (v := 1) rfl ?_
      exact g_iretW C hr hlk rfl rfl rfl (congrArg Prod.snd (Option.some.inj h)) (congrArg (fun z => some (Value.int z.1)) (Option.some.inj h)) dL_firstOf_14
    replace h := it_f qh10 h
    cases h
set_option maxHeartbeats 4000000 in
set_option maxRecDepth 100000 in
theorem m_W_guiltyShare {w : wT} {l : Launch} {d dE : Dt} {rE : Int32} (hO : okW w) (hl9 : l.stackTraces = false) (h : f_W_guiltyShare  d = some (rE, dE)) : gMW w l yL_guiltyShare cL_guiltyShare 3 (Option.some Jvm.ClassFile.FieldType.int) [(0, 8, 11, 120)] 8 8 60 [.ref (w_r w 0), .ref (w_r w 301)] d dE (some (.int rE)) := by
  refine gMW_of (by decide) [(0, .ref (w_r w 0)), (1, .ref (w_r w 301))] rfl rfl ?_ hO
  intro p e R s m args below meth c C hR hr hlk htab
  unfold f_W_guiltyShare at h
  refine g_aload_n C dL_guiltyShare_0 1 rfl ?_
  refine g_iconst C dL_guiltyShare_1 (v := 0) rfl ?_
  refine g_aload_n C dL_guiltyShare_2 0 rfl ?_
  obtain ⟨z7, hc6, h⟩ := ocRF_1 h
  refine g_callVRF C 1 6 0 q_0 vk_W_122 hR rfl (m_C_guiltyShare C.2.2.2.2.2.2.1 hl9 hc6) rfl rfl rfl dL_guiltyShare_3 rfl rfl rfl rfl (fun r4 e9 => ?_) (fun et4 e9 => ?_)
  · subst e9
    replace h := ocRF_i h
    have hg10 := gd_1 h
    replace h := gd_2 h
    refine g_f2d C dL_guiltyShare_6 (vn64_1 hg10) ?_
    refine g_dast C 301 q_301 dL_guiltyShare_7 ?_
    obtain ⟨d11, hd11, h⟩ := bnd_1 h
    refine g_nmD hd11 ?_
    refine g_goto C dL_guiltyShare_8 (tgt := 14) rfl ?_
    refine g_iconst C dL_guiltyShare_14 (v := 0) rfl ?_
    exact g_iretW C hr hlk rfl rfl rfl (congrArg Prod.snd (Option.some.inj h)) (congrArg (fun z => some (Value.int z.1)) (Option.some.inj h)) dL_guiltyShare_15
  · subst e9
    replace h := ocRF_t h
    by_cases qh11 : et4 = 4
    · replace h := it_t qh11 h
      subst qh11
      refine g_catch C htab 0 (nm := "java/lang/ArithmeticException") rfl (fun q h => nomatch h) rfl (by decide) (wA 1249 (by decide +kernel) (by decide +kernel)) (wO 1261 (by decide +kernel) (by decide +kernel)) (fun qx => ?_)
      refine g_astore_n C (lv' := [(2, .ref qx), (0, .ref (w_r w 0)), (1, .ref (w_r w 301))]) dL_guiltyShare_11 (by decide) rfl ?_
      refine g_iconst C dL_guiltyShare_12 (v := 1) rfl ?_
      exact g_iretW C hr hlk rfl rfl rfl (congrArg Prod.snd (Option.some.inj h)) (congrArg (fun z => some (Value.int z.1)) (Option.some.inj h)) dL_guiltyShare_13
    replace h := it_f qh11 h
    cases h
set_option maxHeartbeats 4000000 in
set_option maxRecDepth 100000 in
theorem m_W_hasAdmitted {w : wT} {l : Launch} {x1 x2 : Int32} {d dE : Dt} {rE : Int32} (hO : okW w) (hl9 : l.stackTraces = false) (h : f_W_hasAdmitted x1 x2 d = some (rE, dE)) : gMW w l yL_hasAdmitted cL_hasAdmitted 5 (Option.some Jvm.ClassFile.FieldType.int) [(0, 17, 20, 19)] 8 8 60 [.ref (w_r w 0), .int x1, .int x2, .ref (w_r w 300)] d dE (some (.int rE)) := by
  refine gMW_of (by decide) [(0, .ref (w_r w 0)), (1, .int x1), (2, .int x2), (3, .ref (w_r w 300))] rfl rfl ?_ hO
  intro p e R s m args below meth c C hR hr hlk htab
  unfold f_W_hasAdmitted at h
  refine g_aload_n C dL_hasAdmitted_0 3 rfl ?_
  refine g_iconst C dL_hasAdmitted_1 (v := 0) rfl ?_
  refine g_aload_n C dL_hasAdmitted_2 0 rfl ?_
  refine g_iload_n C dL_hasAdmitted_3 1 rfl ?_
  refine g_iload_n C dL_hasAdmitted_4 2 rfl ?_
  obtain ⟨z8, hc7, h⟩ := ocR_1 h
  refine g_callVR C 1 6 0 q_0 vk_W_53 hR rfl (m_C_hasAdmitted C.2.2.2.2.2.2.1 hl9 hc7) rfl rfl rfl dL_hasAdmitted_5 rfl rfl rfl rfl (fun r5 e10 => ?_) (fun et5 e10 => ?_)
  · subst e10
    replace h := ocR_i h
    refine g_if_eq C dL_hasAdmitted_8 (tgt := 15) rfl (fun q => ?_) (fun q => ?_)
    · replace h := it_t q h
      refine g_lconst C dL_hasAdmitted_15 (v := 0) (by decide) ?_
      refine g_last C 300 q_300 (by decide) 0 (by decide) dL_hasAdmitted_16 ?_
      obtain ⟨d11, hd11, h⟩ := bnd_1 h
      refine g_nmD hd11 ?_
      refine g_goto C dL_hasAdmitted_17 (tgt := 24) rfl ?_
      refine g_iconst C dL_hasAdmitted_24 (v := 0) rfl ?_
      exact g_iretW C hr hlk rfl rfl rfl (congrArg Prod.snd (Option.some.inj h)) (congrArg (fun z => some (Value.int z.1)) (Option.some.inj h)) dL_hasAdmitted_25
    · replace h := it_f q h
      refine g_lconst C dL_hasAdmitted_11 (v := 1) (by decide) ?_
      refine g_goto C dL_hasAdmitted_12 (tgt := 16) rfl ?_
      refine g_last C 300 q_300 (by decide) 0 (by decide) dL_hasAdmitted_16 ?_
      obtain ⟨d12, hd12, h⟩ := bnd_1 h
      refine g_nmD hd12 ?_
      refine g_goto C dL_hasAdmitted_17 (tgt := 24) rfl ?_
      refine g_iconst C dL_hasAdmitted_24 (v := 0) rfl ?_
      exact g_iretW C hr hlk rfl rfl rfl (congrArg Prod.snd (Option.some.inj h)) (congrArg (fun z => some (Value.int z.1)) (Option.some.inj h)) dL_hasAdmitted_25
  · subst e10
    replace h := ocR_t h
    by_cases qh12 : et5 = 1
    · replace h := it_t qh12 h
      subst qh12
      refine g_catch C htab 0 (nm := "java/lang/IndexOutOfBoundsException") rfl (fun q h => nomatch h) rfl (by decide) (wA 737 (by decide +kernel) (by decide +kernel)) (wO 776 (by decide +kernel) (by decide +kernel)) (fun qx => ?_)
      refine g_astore C (lv' := [(4, .ref qx), (0, .ref (w_r w 0)), (1, .int x1), (2, .int x2), (3, .ref (w_r w 300))]) dL_hasAdmitted_20 (by decide) rfl ?_
      refine g_iconst C dL_hasAdmitted_22 (v := 1) rfl ?_
      exact g_iretW C hr hlk rfl rfl rfl (congrArg Prod.snd (Option.some.inj h)) (congrArg (fun z => some (Value.int z.1)) (Option.some.inj h)) dL_hasAdmitted_23
    replace h := it_f qh12 h
    cases h
set_option maxHeartbeats 4000000 in
set_option maxRecDepth 100000 in
theorem m_W_hearingCount {w : wT} {l : Launch} {x1 : Int32} {d dE : Dt} {rE : Int32} (hO : okW w) (hl9 : l.stackTraces = false) (h : f_W_hearingCount x1 d = some (rE, dE)) : gMW w l yL_hearingCount cL_hearingCount 4 (Option.some Jvm.ClassFile.FieldType.int) [(0, 9, 12, 21)] 7 8 60 [.ref (w_r w 0), .int x1, .ref (w_r w 300)] d dE (some (.int rE)) := by
  refine gMW_of (by decide) [(0, .ref (w_r w 0)), (1, .int x1), (2, .ref (w_r w 300))] rfl rfl ?_ hO
  intro p e R s m args below meth c C hR hr hlk htab
  unfold f_W_hearingCount at h
  refine g_aload_n C dL_hearingCount_0 2 rfl ?_
  refine g_iconst C dL_hearingCount_1 (v := 0) rfl ?_
  refine g_aload_n C dL_hearingCount_2 0 rfl ?_
  refine g_iload_n C dL_hearingCount_3 1 rfl ?_
  obtain ⟨z7, hc6, h⟩ := ocR_1 h
  refine g_callVR C 1 6 0 q_0 vk_W_112 hR rfl (m_C_hearingCount C.2.2.2.2.2.2.1 hl9 hc6) rfl rfl rfl dL_hearingCount_4 rfl rfl rfl rfl (fun r4 e9 => ?_) (fun et4 e9 => ?_)
  · subst e9
    replace h := ocR_i h
    refine g_i2l C dL_hearingCount_7  ?_
    refine g_last C 300 q_300 (by decide) 0 (by decide) dL_hearingCount_8 ?_
    obtain ⟨d10, hd10, h⟩ := bnd_1 h
    refine g_nmD hd10 ?_
    refine g_goto C dL_hearingCount_9 (tgt := 15) rfl ?_
    refine g_iconst C dL_hearingCount_15 (v := 0) rfl ?_
    exact g_iretW C hr hlk rfl rfl rfl (congrArg Prod.snd (Option.some.inj h)) (congrArg (fun z => some (Value.int z.1)) (Option.some.inj h)) dL_hearingCount_16
  · subst e9
    replace h := ocR_t h
    by_cases qh10 : et4 = 2
    · replace h := it_t qh10 h
      subst qh10
      refine g_catch C htab 0 (nm := "java/lang/IllegalArgumentException") rfl (fun q h => nomatch h) rfl (by decide) (wA 761 (by decide +kernel) (by decide +kernel)) (wO 792 (by decide +kernel) (by decide +kernel)) (fun qx => ?_)
      refine g_astore_n C (lv' := [(3, .ref qx), (0, .ref (w_r w 0)), (1, .int x1), (2, .ref (w_r w 300))]) dL_hearingCount_12 (by decide) rfl ?_
      refine g_iconst C dL_hearingCount_13 (v := 1) rfl ?_
      exact g_iretW C hr hlk rfl rfl rfl (congrArg Prod.snd (Option.some.inj h)) (congrArg (fun z => some (Value.int z.1)) (Option.some.inj h)) dL_hearingCount_14
    replace h := it_f qh10 h
    cases h
set_option maxHeartbeats 4000000 in
set_option maxRecDepth 100000 in
theorem m_W_hearingDay {w : wT} {l : Launch} {x1 : Int32} {d dE : Dt} {rE : Int32} (hO : okW w) (hl9 : l.stackTraces = false) (h : f_W_hearingDay x1 d = some (rE, dE)) : gMW w l yL_hearingDay cL_hearingDay 4 (Option.some Jvm.ClassFile.FieldType.int) [(0, 9, 12, 27)] 8 8 60 [.ref (w_r w 0), .int x1, .ref (w_r w 300)] d dE (some (.int rE)) := by
  refine gMW_of (by decide) [(0, .ref (w_r w 0)), (1, .int x1), (2, .ref (w_r w 300))] rfl rfl ?_ hO
  intro p e R s m args below meth c C hR hr hlk htab
  unfold f_W_hearingDay at h
  refine g_aload_n C dL_hearingDay_0 2 rfl ?_
  refine g_iconst C dL_hearingDay_1 (v := 0) rfl ?_
  refine g_aload_n C dL_hearingDay_2 0 rfl ?_
  refine g_iload_n C dL_hearingDay_3 1 rfl ?_
  obtain ⟨z9, hc8, h⟩ := ocW_1 h
  refine g_callVW C 2 12 0 q_0 vk_W_83 hR rfl (m_C_hearingDay C.2.2.2.2.2.2.1 hl9 hc8) rfl rfl rfl dL_hearingDay_4 rfl rfl rfl rfl (fun r5 d6 e11 => ?_) (fun et6 dt10 e11 => ?_)
  · subst e11
    replace h := ocW_i h
    refine g_i2l C dL_hearingDay_7  ?_
    refine g_last C 300 q_300 (by decide) 0 (by decide) dL_hearingDay_8 ?_
    obtain ⟨d12, hd12, h⟩ := bnd_1 h
    refine g_nmD hd12 ?_
    refine g_goto C dL_hearingDay_9 (tgt := 15) rfl ?_
    refine g_iconst C dL_hearingDay_15 (v := 0) rfl ?_
    exact g_iretW C hr hlk rfl rfl rfl (congrArg Prod.snd (Option.some.inj h)) (congrArg (fun z => some (Value.int z.1)) (Option.some.inj h)) dL_hearingDay_16
  · subst e11
    replace h := ocW_t h
    by_cases qh12 : et6 = 3
    · replace h := it_t qh12 h
      subst qh12
      refine g_catch C htab 0 (nm := "java/util/NoSuchElementException") rfl (fun q h => nomatch h) rfl (by decide) (wA 822 (by decide +kernel) (by decide +kernel)) (wO 837 (by decide +kernel) (by decide +kernel)) (fun qx => ?_)
      refine g_astore_n C (lv' := [(3, .ref qx), (0, .ref (w_r w 0)), (1, .int x1), (2, .ref (w_r w 300))]) dL_hearingDay_12 (by decide) rfl ?_
      refine g_iconst C dL_hearingDay_13 (v := 1) rfl ?_
      exact g_iretW C hr hlk rfl rfl rfl (congrArg Prod.snd (Option.some.inj h)) (congrArg (fun z => some (Value.int z.1)) (Option.some.inj h)) dL_hearingDay_14
    replace h := it_f qh12 h
    cases h
set_option maxHeartbeats 4000000 in
set_option maxRecDepth 100000 in
theorem m_W_isContradictory {w : wT} {l : Launch} {x1 : Int32} {d dE : Dt} {rE : Int32} (hO : okW w) (hl9 : l.stackTraces = false) (h : f_W_isContradictory x1 d = some (rE, dE)) : gMW w l yL_isContradictory cL_isContradictory 4 (Option.some Jvm.ClassFile.FieldType.int) [(0, 16, 19, 19)] 8 8 60 [.ref (w_r w 0), .int x1, .ref (w_r w 300)] d dE (some (.int rE)) := by
  refine gMW_of (by decide) [(0, .ref (w_r w 0)), (1, .int x1), (2, .ref (w_r w 300))] rfl rfl ?_ hO
  intro p e R s m args below meth c C hR hr hlk htab
  unfold f_W_isContradictory at h
  refine g_aload_n C dL_isContradictory_0 2 rfl ?_
  refine g_iconst C dL_isContradictory_1 (v := 0) rfl ?_
  refine g_aload_n C dL_isContradictory_2 0 rfl ?_
  refine g_iload_n C dL_isContradictory_3 1 rfl ?_
  obtain ⟨z10, hc9, h⟩ := ocW_1 h
  refine g_callVW C 1 6 0 q_0 vk_W_95 hR rfl (m_C_isContradictory C.2.2.2.2.2.2.1 hl9 hc9) rfl rfl rfl dL_isContradictory_4 rfl rfl rfl rfl (fun r6 d7 e12 => ?_) (fun et7 dt11 e12 => ?_)
  · subst e12
    replace h := ocW_i h
    refine g_if_eq C dL_isContradictory_7 (tgt := 14) rfl (fun q => ?_) (fun q => ?_)
    · replace h := it_t q h
      refine g_lconst C dL_isContradictory_14 (v := 0) (by decide) ?_
      refine g_last C 300 q_300 (by decide) 0 (by decide) dL_isContradictory_15 ?_
      obtain ⟨d13, hd13, h⟩ := bnd_1 h
      refine g_nmD hd13 ?_
      refine g_goto C dL_isContradictory_16 (tgt := 22) rfl ?_
      refine g_iconst C dL_isContradictory_22 (v := 0) rfl ?_
      exact g_iretW C hr hlk rfl rfl rfl (congrArg Prod.snd (Option.some.inj h)) (congrArg (fun z => some (Value.int z.1)) (Option.some.inj h)) dL_isContradictory_23
    · replace h := it_f q h
      refine g_lconst C dL_isContradictory_10 (v := 1) (by decide) ?_
      refine g_goto C dL_isContradictory_11 (tgt := 15) rfl ?_
      refine g_last C 300 q_300 (by decide) 0 (by decide) dL_isContradictory_15 ?_
      obtain ⟨d14, hd14, h⟩ := bnd_1 h
      refine g_nmD hd14 ?_
      refine g_goto C dL_isContradictory_16 (tgt := 22) rfl ?_
      refine g_iconst C dL_isContradictory_22 (v := 0) rfl ?_
      exact g_iretW C hr hlk rfl rfl rfl (congrArg Prod.snd (Option.some.inj h)) (congrArg (fun z => some (Value.int z.1)) (Option.some.inj h)) dL_isContradictory_23
  · subst e12
    replace h := ocW_t h
    by_cases qh14 : et7 = 1
    · replace h := it_t qh14 h
      subst qh14
      refine g_catch C htab 0 (nm := "java/lang/IndexOutOfBoundsException") rfl (fun q h => nomatch h) rfl (by decide) (wA 737 (by decide +kernel) (by decide +kernel)) (wO 776 (by decide +kernel) (by decide +kernel)) (fun qx => ?_)
      refine g_astore_n C (lv' := [(3, .ref qx), (0, .ref (w_r w 0)), (1, .int x1), (2, .ref (w_r w 300))]) dL_isContradictory_19 (by decide) rfl ?_
      refine g_iconst C dL_isContradictory_20 (v := 1) rfl ?_
      exact g_iretW C hr hlk rfl rfl rfl (congrArg Prod.snd (Option.some.inj h)) (congrArg (fun z => some (Value.int z.1)) (Option.some.inj h)) dL_isContradictory_21
    replace h := it_f qh14 h
    cases h
set_option maxHeartbeats 4000000 in
set_option maxRecDepth 100000 in
theorem m_W_isInPlan {w : wT} {l : Launch} {x1 : Int32} {d dE : Dt} {rE : Int32} (hO : okW w) (hl9 : l.stackTraces = false) (h : f_W_isInPlan x1 d = some (rE, dE)) : gMW w l yL_isInPlan cL_isInPlan 4 (Option.some Jvm.ClassFile.FieldType.int) [(0, 16, 19, 27)] 8 8 60 [.ref (w_r w 0), .int x1, .ref (w_r w 300)] d dE (some (.int rE)) := by
  refine gMW_of (by decide) [(0, .ref (w_r w 0)), (1, .int x1), (2, .ref (w_r w 300))] rfl rfl ?_ hO
  intro p e R s m args below meth c C hR hr hlk htab
  unfold f_W_isInPlan at h
  refine g_aload_n C dL_isInPlan_0 2 rfl ?_
  refine g_iconst C dL_isInPlan_1 (v := 0) rfl ?_
  refine g_aload_n C dL_isInPlan_2 0 rfl ?_
  refine g_iload_n C dL_isInPlan_3 1 rfl ?_
  obtain ⟨z10, hc9, h⟩ := ocW_1 h
  refine g_callVW C 1 6 0 q_0 vk_W_80 hR rfl (m_C_isInPlan C.2.2.2.2.2.2.1 hl9 hc9) rfl rfl rfl dL_isInPlan_4 rfl rfl rfl rfl (fun r6 d7 e12 => ?_) (fun et7 dt11 e12 => ?_)
  · subst e12
    replace h := ocW_i h
    refine g_if_eq C dL_isInPlan_7 (tgt := 14) rfl (fun q => ?_) (fun q => ?_)
    · replace h := it_t q h
      refine g_lconst C dL_isInPlan_14 (v := 0) (by decide) ?_
      refine g_last C 300 q_300 (by decide) 0 (by decide) dL_isInPlan_15 ?_
      obtain ⟨d13, hd13, h⟩ := bnd_1 h
      refine g_nmD hd13 ?_
      refine g_goto C dL_isInPlan_16 (tgt := 22) rfl ?_
      refine g_iconst C dL_isInPlan_22 (v := 0) rfl ?_
      exact g_iretW C hr hlk rfl rfl rfl (congrArg Prod.snd (Option.some.inj h)) (congrArg (fun z => some (Value.int z.1)) (Option.some.inj h)) dL_isInPlan_23
    · replace h := it_f q h
      refine g_lconst C dL_isInPlan_10 (v := 1) (by decide) ?_
      refine g_goto C dL_isInPlan_11 (tgt := 15) rfl ?_
      refine g_last C 300 q_300 (by decide) 0 (by decide) dL_isInPlan_15 ?_
      obtain ⟨d14, hd14, h⟩ := bnd_1 h
      refine g_nmD hd14 ?_
      refine g_goto C dL_isInPlan_16 (tgt := 22) rfl ?_
      refine g_iconst C dL_isInPlan_22 (v := 0) rfl ?_
      exact g_iretW C hr hlk rfl rfl rfl (congrArg Prod.snd (Option.some.inj h)) (congrArg (fun z => some (Value.int z.1)) (Option.some.inj h)) dL_isInPlan_23
  · subst e12
    replace h := ocW_t h
    by_cases qh14 : et7 = 3
    · replace h := it_t qh14 h
      subst qh14
      refine g_catch C htab 0 (nm := "java/util/NoSuchElementException") rfl (fun q h => nomatch h) rfl (by decide) (wA 822 (by decide +kernel) (by decide +kernel)) (wO 837 (by decide +kernel) (by decide +kernel)) (fun qx => ?_)
      refine g_astore_n C (lv' := [(3, .ref qx), (0, .ref (w_r w 0)), (1, .int x1), (2, .ref (w_r w 300))]) dL_isInPlan_19 (by decide) rfl ?_
      refine g_iconst C dL_isInPlan_20 (v := 1) rfl ?_
      exact g_iretW C hr hlk rfl rfl rfl (congrArg Prod.snd (Option.some.inj h)) (congrArg (fun z => some (Value.int z.1)) (Option.some.inj h)) dL_isInPlan_21
    replace h := it_f qh14 h
    cases h
set_option maxHeartbeats 4000000 in
set_option maxRecDepth 100000 in
theorem m_W_isTogether {w : wT} {l : Launch} {x1 : Int32} {d dE : Dt} {rE : Int32} (hO : okW w) (hl9 : l.stackTraces = false) (h : f_W_isTogether x1 d = some (rE, dE)) : gMW w l yL_isTogether cL_isTogether 4 (Option.some Jvm.ClassFile.FieldType.int) [(0, 16, 19, 19)] 8 8 60 [.ref (w_r w 0), .int x1, .ref (w_r w 300)] d dE (some (.int rE)) := by
  refine gMW_of (by decide) [(0, .ref (w_r w 0)), (1, .int x1), (2, .ref (w_r w 300))] rfl rfl ?_ hO
  intro p e R s m args below meth c C hR hr hlk htab
  unfold f_W_isTogether at h
  refine g_aload_n C dL_isTogether_0 2 rfl ?_
  refine g_iconst C dL_isTogether_1 (v := 0) rfl ?_
  refine g_aload_n C dL_isTogether_2 0 rfl ?_
  refine g_iload_n C dL_isTogether_3 1 rfl ?_
  obtain ⟨z8, hc7, h⟩ := ocR_1 h
  refine g_callVR C 1 6 0 q_0 vk_W_92 hR rfl (m_C_isTogether C.2.2.2.2.2.2.1 hl9 hc7) rfl rfl rfl dL_isTogether_4 rfl rfl rfl rfl (fun r5 e10 => ?_) (fun et5 e10 => ?_)
  · subst e10
    replace h := ocR_i h
    refine g_if_eq C dL_isTogether_7 (tgt := 14) rfl (fun q => ?_) (fun q => ?_)
    · replace h := it_t q h
      refine g_lconst C dL_isTogether_14 (v := 0) (by decide) ?_
      refine g_last C 300 q_300 (by decide) 0 (by decide) dL_isTogether_15 ?_
      obtain ⟨d11, hd11, h⟩ := bnd_1 h
      refine g_nmD hd11 ?_
      refine g_goto C dL_isTogether_16 (tgt := 22) rfl ?_
      refine g_iconst C dL_isTogether_22 (v := 0) rfl ?_
      exact g_iretW C hr hlk rfl rfl rfl (congrArg Prod.snd (Option.some.inj h)) (congrArg (fun z => some (Value.int z.1)) (Option.some.inj h)) dL_isTogether_23
    · replace h := it_f q h
      refine g_lconst C dL_isTogether_10 (v := 1) (by decide) ?_
      refine g_goto C dL_isTogether_11 (tgt := 15) rfl ?_
      refine g_last C 300 q_300 (by decide) 0 (by decide) dL_isTogether_15 ?_
      obtain ⟨d12, hd12, h⟩ := bnd_1 h
      refine g_nmD hd12 ?_
      refine g_goto C dL_isTogether_16 (tgt := 22) rfl ?_
      refine g_iconst C dL_isTogether_22 (v := 0) rfl ?_
      exact g_iretW C hr hlk rfl rfl rfl (congrArg Prod.snd (Option.some.inj h)) (congrArg (fun z => some (Value.int z.1)) (Option.some.inj h)) dL_isTogether_23
  · subst e10
    replace h := ocR_t h
    by_cases qh12 : et5 = 1
    · replace h := it_t qh12 h
      subst qh12
      refine g_catch C htab 0 (nm := "java/lang/IndexOutOfBoundsException") rfl (fun q h => nomatch h) rfl (by decide) (wA 737 (by decide +kernel) (by decide +kernel)) (wO 776 (by decide +kernel) (by decide +kernel)) (fun qx => ?_)
      refine g_astore_n C (lv' := [(3, .ref qx), (0, .ref (w_r w 0)), (1, .int x1), (2, .ref (w_r w 300))]) dL_isTogether_19 (by decide) rfl ?_
      refine g_iconst C dL_isTogether_20 (v := 1) rfl ?_
      exact g_iretW C hr hlk rfl rfl rfl (congrArg Prod.snd (Option.some.inj h)) (congrArg (fun z => some (Value.int z.1)) (Option.some.inj h)) dL_isTogether_21
    replace h := it_f qh12 h
    cases h
set_option maxHeartbeats 4000000 in
set_option maxRecDepth 100000 in
theorem m_W_lanternByBrightness {w : wT} {l : Launch} {x1 : Int32} {d dE : Dt} {rE : Int32} (hO : okW w) (hl9 : l.stackTraces = false) (h : f_W_lanternByBrightness x1 d = some (rE, dE)) : gMW w l yL_lanternByBrightness cL_lanternByBrightness 4 (Option.some Jvm.ClassFile.FieldType.int) [(0, 9, 12, 27)] 7 8 60 [.ref (w_r w 0), .int x1, .ref (w_r w 300)] d dE (some (.int rE)) := by
  refine gMW_of (by decide) [(0, .ref (w_r w 0)), (1, .int x1), (2, .ref (w_r w 300))] rfl rfl ?_ hO
  intro p e R s m args below meth c C hR hr hlk htab
  unfold f_W_lanternByBrightness at h
  refine g_aload_n C dL_lanternByBrightness_0 2 rfl ?_
  refine g_iconst C dL_lanternByBrightness_1 (v := 0) rfl ?_
  refine g_aload_n C dL_lanternByBrightness_2 0 rfl ?_
  refine g_iload_n C dL_lanternByBrightness_3 1 rfl ?_
  obtain ⟨z7, hc6, h⟩ := ocR_1 h
  refine g_callVR C 1 6 0 q_0 vk_W_109 hR rfl (m_C_lanternByBrightness C.2.2.2.2.2.2.1 hl9 hc6) rfl rfl rfl dL_lanternByBrightness_4 rfl rfl rfl rfl (fun r4 e9 => ?_) (fun et4 e9 => ?_)
  · subst e9
    replace h := ocR_i h
    refine g_i2l C dL_lanternByBrightness_7  ?_
    refine g_last C 300 q_300 (by decide) 0 (by decide) dL_lanternByBrightness_8 ?_
    obtain ⟨d10, hd10, h⟩ := bnd_1 h
    refine g_nmD hd10 ?_
    refine g_goto C dL_lanternByBrightness_9 (tgt := 15) rfl ?_
    refine g_iconst C dL_lanternByBrightness_15 (v := 0) rfl ?_
    exact g_iretW C hr hlk rfl rfl rfl (congrArg Prod.snd (Option.some.inj h)) (congrArg (fun z => some (Value.int z.1)) (Option.some.inj h)) dL_lanternByBrightness_16
  · subst e9
    replace h := ocR_t h
    by_cases qh10 : et4 = 3
    · replace h := it_t qh10 h
      subst qh10
      refine g_catch C htab 0 (nm := "java/util/NoSuchElementException") rfl (fun q h => nomatch h) rfl (by decide) (wA 822 (by decide +kernel) (by decide +kernel)) (wO 837 (by decide +kernel) (by decide +kernel)) (fun qx => ?_)
      refine g_astore_n C (lv' := [(3, .ref qx), (0, .ref (w_r w 0)), (1, .int x1), (2, .ref (w_r w 300))]) dL_lanternByBrightness_12 (by decide) rfl ?_
      refine g_iconst C dL_lanternByBrightness_13 (v := 1) rfl ?_
      exact g_iretW C hr hlk rfl rfl rfl (congrArg Prod.snd (Option.some.inj h)) (congrArg (fun z => some (Value.int z.1)) (Option.some.inj h)) dL_lanternByBrightness_14
    replace h := it_f qh10 h
    cases h
set_option maxHeartbeats 4000000 in
set_option maxRecDepth 100000 in
theorem m_W_lanternOf {w : wT} {l : Launch} {x1 : Int32} {d dE : Dt} {rE : Int32} (hO : okW w) (hl9 : l.stackTraces = false) (h : f_W_lanternOf x1 d = some (rE, dE)) : gMW w l yL_lanternOf cL_lanternOf 4 (Option.some Jvm.ClassFile.FieldType.int) [(0, 9, 12, 27)] 8 8 60 [.ref (w_r w 0), .int x1, .ref (w_r w 300)] d dE (some (.int rE)) := by
  refine gMW_of (by decide) [(0, .ref (w_r w 0)), (1, .int x1), (2, .ref (w_r w 300))] rfl rfl ?_ hO
  intro p e R s m args below meth c C hR hr hlk htab
  unfold f_W_lanternOf at h
  refine g_aload_n C dL_lanternOf_0 2 rfl ?_
  refine g_iconst C dL_lanternOf_1 (v := 0) rfl ?_
  refine g_aload_n C dL_lanternOf_2 0 rfl ?_
  refine g_iload_n C dL_lanternOf_3 1 rfl ?_
  obtain ⟨z7, hc6, h⟩ := ocR_1 h
  refine g_callVR C 1 6 0 q_0 vk_W_68 hR rfl (m_C_lanternOf C.2.2.2.2.2.2.1 hl9 hc6) rfl rfl rfl dL_lanternOf_4 rfl rfl rfl rfl (fun r4 e9 => ?_) (fun et4 e9 => ?_)
  · subst e9
    replace h := ocR_i h
    refine g_i2l C dL_lanternOf_7  ?_
    refine g_last C 300 q_300 (by decide) 0 (by decide) dL_lanternOf_8 ?_
    obtain ⟨d10, hd10, h⟩ := bnd_1 h
    refine g_nmD hd10 ?_
    refine g_goto C dL_lanternOf_9 (tgt := 15) rfl ?_
    refine g_iconst C dL_lanternOf_15 (v := 0) rfl ?_
    exact g_iretW C hr hlk rfl rfl rfl (congrArg Prod.snd (Option.some.inj h)) (congrArg (fun z => some (Value.int z.1)) (Option.some.inj h)) dL_lanternOf_16
  · subst e9
    replace h := ocR_t h
    by_cases qh10 : et4 = 3
    · replace h := it_t qh10 h
      subst qh10
      refine g_catch C htab 0 (nm := "java/util/NoSuchElementException") rfl (fun q h => nomatch h) rfl (by decide) (wA 822 (by decide +kernel) (by decide +kernel)) (wO 837 (by decide +kernel) (by decide +kernel)) (fun qx => ?_)
      refine g_astore_n C (lv' := [(3, .ref qx), (0, .ref (w_r w 0)), (1, .int x1), (2, .ref (w_r w 300))]) dL_lanternOf_12 (by decide) rfl ?_
      refine g_iconst C dL_lanternOf_13 (v := 1) rfl ?_
      exact g_iretW C hr hlk rfl rfl rfl (congrArg Prod.snd (Option.some.inj h)) (congrArg (fun z => some (Value.int z.1)) (Option.some.inj h)) dL_lanternOf_14
    replace h := it_f qh10 h
    cases h
set_option maxHeartbeats 4000000 in
set_option maxRecDepth 100000 in
theorem m_W_lastDay {w : wT} {l : Launch} {x1 : Int32} {d dE : Dt} {rE : Int32} (hO : okW w) (hl9 : l.stackTraces = false) (h : f_W_lastDay x1 d = some (rE, dE)) : gMW w l yL_lastDay cL_lastDay 4 (Option.some Jvm.ClassFile.FieldType.int) [(0, 9, 12, 27)] 8 8 60 [.ref (w_r w 0), .int x1, .ref (w_r w 300)] d dE (some (.int rE)) := by
  refine gMW_of (by decide) [(0, .ref (w_r w 0)), (1, .int x1), (2, .ref (w_r w 300))] rfl rfl ?_ hO
  intro p e R s m args below meth c C hR hr hlk htab
  unfold f_W_lastDay at h
  refine g_aload_n C dL_lastDay_0 2 rfl ?_
  refine g_iconst C dL_lastDay_1 (v := 0) rfl ?_
  refine g_aload_n C dL_lastDay_2 0 rfl ?_
  refine g_iload_n C dL_lastDay_3 1 rfl ?_
  obtain ⟨z7, hc6, h⟩ := ocR_1 h
  refine g_callVR C 1 6 0 q_0 vk_W_71 hR rfl (m_C_lastDay C.2.2.2.2.2.2.1 hl9 hc6) rfl rfl rfl dL_lastDay_4 rfl rfl rfl rfl (fun r4 e9 => ?_) (fun et4 e9 => ?_)
  · subst e9
    replace h := ocR_i h
    refine g_i2l C dL_lastDay_7  ?_
    refine g_last C 300 q_300 (by decide) 0 (by decide) dL_lastDay_8 ?_
    obtain ⟨d10, hd10, h⟩ := bnd_1 h
    refine g_nmD hd10 ?_
    refine g_goto C dL_lastDay_9 (tgt := 15) rfl ?_
    refine g_iconst C dL_lastDay_15 (v := 0) rfl ?_
    exact g_iretW C hr hlk rfl rfl rfl (congrArg Prod.snd (Option.some.inj h)) (congrArg (fun z => some (Value.int z.1)) (Option.some.inj h)) dL_lastDay_16
  · subst e9
    replace h := ocR_t h
    by_cases qh10 : et4 = 3
    · replace h := it_t qh10 h
      subst qh10
      refine g_catch C htab 0 (nm := "java/util/NoSuchElementException") rfl (fun q h => nomatch h) rfl (by decide) (wA 822 (by decide +kernel) (by decide +kernel)) (wO 837 (by decide +kernel) (by decide +kernel)) (fun qx => ?_)
      refine g_astore_n C (lv' := [(3, .ref qx), (0, .ref (w_r w 0)), (1, .int x1), (2, .ref (w_r w 300))]) dL_lastDay_12 (by decide) rfl ?_
      refine g_iconst C dL_lastDay_13 (v := 1) rfl ?_
      exact g_iretW C hr hlk rfl rfl rfl (congrArg Prod.snd (Option.some.inj h)) (congrArg (fun z => some (Value.int z.1)) (Option.some.inj h)) dL_lastDay_14
    replace h := it_f qh10 h
    cases h
set_option maxHeartbeats 4000000 in
set_option maxRecDepth 100000 in
theorem m_W_makeStatement {w : wT} {l : Launch} {x1 x2 x3 : Int32} {d dE : Dt} {rE : Int32} (hO : okW w) (hl9 : l.stackTraces = false) (h : f_W_makeStatement x1 x2 x3 d = some (rE, dE)) : gMW w l yL_makeStatement cL_makeStatement 6 (Option.some Jvm.ClassFile.FieldType.int) [(0, 12, 15, 19), (0, 12, 19, 21), (0, 12, 23, 13)] 8 8 60 [.ref (w_r w 0), .int x1, .int x2, .int x3, .ref (w_r w 300)] d dE (some (.int rE)) := by
  refine gMW_of (by decide) [(0, .ref (w_r w 0)), (1, .int x1), (2, .int x2), (3, .int x3), (4, .ref (w_r w 300))] rfl rfl ?_ hO
  intro p e R s m args below meth c C hR hr hlk htab
  unfold f_W_makeStatement at h
  refine g_aload C dL_makeStatement_0 4 rfl ?_
  refine g_iconst C dL_makeStatement_2 (v := 0) rfl ?_
  refine g_aload_n C dL_makeStatement_3 0 rfl ?_
  refine g_iload_n C dL_makeStatement_4 1 rfl ?_
  refine g_iload_n C dL_makeStatement_5 2 rfl ?_
  refine g_iload_n C dL_makeStatement_6 3 rfl ?_
  obtain ⟨z9, hc8, h⟩ := ocW_1 h
  refine g_callVW C 3 18 0 q_0 vk_W_29 hR rfl (m_C_makeStatement C.2.2.2.2.2.2.1 hl9 hc8) rfl rfl rfl dL_makeStatement_7 rfl rfl rfl rfl (fun r5 d6 e11 => ?_) (fun et6 dt10 e11 => ?_)
  · subst e11
    replace h := ocW_i h
    refine g_i2l C dL_makeStatement_10  ?_
    refine g_last C 300 q_300 (by decide) 0 (by decide) dL_makeStatement_11 ?_
    obtain ⟨d12, hd12, h⟩ := bnd_1 h
    refine g_nmD hd12 ?_
    refine g_goto C dL_makeStatement_12 (tgt := 27) rfl ?_
    refine g_iconst C dL_makeStatement_27 (v := 0) rfl ?_
    exact g_iretW C hr hlk rfl rfl rfl (congrArg Prod.snd (Option.some.inj h)) (congrArg (fun z => some (Value.int z.1)) (Option.some.inj h)) dL_makeStatement_28
  · subst e11
    replace h := ocW_t h
    by_cases qh12 : et6 = 1
    · replace h := it_t qh12 h
      subst qh12
      refine g_catch C htab 0 (nm := "java/lang/IndexOutOfBoundsException") rfl (fun q h => nomatch h) rfl (by decide) (wA 737 (by decide +kernel) (by decide +kernel)) (wO 776 (by decide +kernel) (by decide +kernel)) (fun qx => ?_)
      refine g_astore C (lv' := [(5, .ref qx), (0, .ref (w_r w 0)), (1, .int x1), (2, .int x2), (3, .int x3), (4, .ref (w_r w 300))]) dL_makeStatement_15 (by decide) rfl ?_
      refine g_iconst C dL_makeStatement_17 (v := 1) rfl ?_
      exact g_iretW C hr hlk rfl rfl rfl (congrArg Prod.snd (Option.some.inj h)) (congrArg (fun z => some (Value.int z.1)) (Option.some.inj h)) dL_makeStatement_18
    replace h := it_f qh12 h
    by_cases qh13 : et6 = 2
    · replace h := it_t qh13 h
      subst qh13
      refine g_catch C htab 1 (nm := "java/lang/IllegalArgumentException") rfl (List.forall_mem_cons.mpr ⟨⟨by decide, "java/lang/IndexOutOfBoundsException", wA 737 (by decide +kernel) (by decide +kernel), by decide +kernel⟩, (fun q h => nomatch h)⟩) rfl (by decide) (wA 761 (by decide +kernel) (by decide +kernel)) (wO 792 (by decide +kernel) (by decide +kernel)) (fun qx => ?_)
      refine g_astore C (lv' := [(5, .ref qx), (0, .ref (w_r w 0)), (1, .int x1), (2, .int x2), (3, .int x3), (4, .ref (w_r w 300))]) dL_makeStatement_19 (by decide) rfl ?_
      refine g_iconst C dL_makeStatement_21 (v := 2) rfl ?_
      exact g_iretW C hr hlk rfl rfl rfl (congrArg Prod.snd (Option.some.inj h)) (congrArg (fun z => some (Value.int z.1)) (Option.some.inj h)) dL_makeStatement_22
    replace h := it_f qh13 h
    by_cases qh14 : et6 = 0
    · replace h := it_t qh14 h
      subst qh14
      refine g_catch C htab 2 (nm := "java/lang/IllegalStateException") rfl (List.forall_mem_cons.mpr ⟨⟨by decide, "java/lang/IndexOutOfBoundsException", wA 737 (by decide +kernel) (by decide +kernel), by decide +kernel⟩, (List.forall_mem_cons.mpr ⟨⟨by decide, "java/lang/IllegalArgumentException", wA 761 (by decide +kernel) (by decide +kernel), by decide +kernel⟩, (fun q h => nomatch h)⟩)⟩) rfl (by decide) (wA 644 (by decide +kernel) (by decide +kernel)) (wO 655 (by decide +kernel) (by decide +kernel)) (fun qx => ?_)
      refine g_astore C (lv' := [(5, .ref qx), (0, .ref (w_r w 0)), (1, .int x1), (2, .int x2), (3, .int x3), (4, .ref (w_r w 300))]) dL_makeStatement_23 (by decide) rfl ?_
      refine g_iconst C dL_makeStatement_25 (v := 3) rfl ?_
      exact g_iretW C hr hlk rfl rfl rfl (congrArg Prod.snd (Option.some.inj h)) (congrArg (fun z => some (Value.int z.1)) (Option.some.inj h)) dL_makeStatement_26
    replace h := it_f qh14 h
    cases h
set_option maxHeartbeats 4000000 in
set_option maxRecDepth 100000 in
theorem m_W_meanBrightness {w : wT} {l : Launch} {d dE : Dt} {rE : Int32} (hO : okW w) (hl9 : l.stackTraces = false) (h : f_W_meanBrightness  d = some (rE, dE)) : gMW w l yL_meanBrightness cL_meanBrightness 3 (Option.some Jvm.ClassFile.FieldType.int) [(0, 7, 10, 120)] 7 8 60 [.ref (w_r w 0), .ref (w_r w 301)] d dE (some (.int rE)) := by
  refine gMW_of (by decide) [(0, .ref (w_r w 0)), (1, .ref (w_r w 301))] rfl rfl ?_ hO
  intro p e R s m args below meth c C hR hr hlk htab
  unfold f_W_meanBrightness at h
  refine g_aload_n C dL_meanBrightness_0 1 rfl ?_
  refine g_iconst C dL_meanBrightness_1 (v := 0) rfl ?_
  refine g_aload_n C dL_meanBrightness_2 0 rfl ?_
  obtain ⟨z7, hc6, h⟩ := ocRD_1 h
  refine g_callVRD C 1 6 0 q_0 vk_W_116 hR rfl (m_C_meanBrightness C.2.2.2.2.2.2.1 hl9 hc6) rfl rfl rfl dL_meanBrightness_3 rfl rfl rfl rfl (fun r4 e9 => ?_) (fun et4 e9 => ?_)
  · subst e9
    replace h := ocRD_i h
    refine g_dast C 301 q_301 dL_meanBrightness_6 ?_
    obtain ⟨d10, hd10, h⟩ := bnd_1 h
    refine g_nmD hd10 ?_
    refine g_goto C dL_meanBrightness_7 (tgt := 13) rfl ?_
    refine g_iconst C dL_meanBrightness_13 (v := 0) rfl ?_
    exact g_iretW C hr hlk rfl rfl rfl (congrArg Prod.snd (Option.some.inj h)) (congrArg (fun z => some (Value.int z.1)) (Option.some.inj h)) dL_meanBrightness_14
  · subst e9
    replace h := ocRD_t h
    by_cases qh10 : et4 = 4
    · replace h := it_t qh10 h
      subst qh10
      refine g_catch C htab 0 (nm := "java/lang/ArithmeticException") rfl (fun q h => nomatch h) rfl (by decide) (wA 1249 (by decide +kernel) (by decide +kernel)) (wO 1261 (by decide +kernel) (by decide +kernel)) (fun qx => ?_)
      refine g_astore_n C (lv' := [(2, .ref qx), (0, .ref (w_r w 0)), (1, .ref (w_r w 301))]) dL_meanBrightness_10 (by decide) rfl ?_
      refine g_iconst C dL_meanBrightness_11 (v := 1) rfl ?_
      exact g_iretW C hr hlk rfl rfl rfl (congrArg Prod.snd (Option.some.inj h)) (congrArg (fun z => some (Value.int z.1)) (Option.some.inj h)) dL_meanBrightness_12
    replace h := it_f qh10 h
    cases h
set_option maxHeartbeats 4000000 in
set_option maxRecDepth 100000 in
theorem m_W_outputChar {w : wT} {l : Launch} {x1 : Int32} {d dE : Dt} {rE : Int32} (hO : okW w) (hl9 : l.stackTraces = false) (h : f_W_outputChar x1 d = some (rE, dE)) : gMW w l yL_outputChar cL_outputChar 4 (Option.some Jvm.ClassFile.FieldType.int) [(0, 9, 12, 19)] 7 8 60 [.ref (w_r w 0), .int x1, .ref (w_r w 300)] d dE (some (.int rE)) := by
  refine gMW_of (by decide) [(0, .ref (w_r w 0)), (1, .int x1), (2, .ref (w_r w 300))] rfl rfl ?_ hO
  intro p e R s m args below meth c C hR hr hlk htab
  unfold f_W_outputChar at h
  refine g_aload_n C dL_outputChar_0 2 rfl ?_
  refine g_iconst C dL_outputChar_1 (v := 0) rfl ?_
  refine g_aload_n C dL_outputChar_2 0 rfl ?_
  refine g_iload_n C dL_outputChar_3 1 rfl ?_
  obtain ⟨z7, hc6, h⟩ := ocR_1 h
  refine g_callVR C 1 6 0 q_0 vk_W_143 hR rfl (m_C_outputChar C.2.2.2.2.2.2.1 hl9 hc6) rfl rfl rfl dL_outputChar_4 rfl rfl rfl rfl (fun r4 e9 => ?_) (fun et4 e9 => ?_)
  · subst e9
    replace h := ocR_i h
    refine g_i2l C dL_outputChar_7  ?_
    refine g_last C 300 q_300 (by decide) 0 (by decide) dL_outputChar_8 ?_
    obtain ⟨d10, hd10, h⟩ := bnd_1 h
    refine g_nmD hd10 ?_
    refine g_goto C dL_outputChar_9 (tgt := 15) rfl ?_
    refine g_iconst C dL_outputChar_15 (v := 0) rfl ?_
    exact g_iretW C hr hlk rfl rfl rfl (congrArg Prod.snd (Option.some.inj h)) (congrArg (fun z => some (Value.int z.1)) (Option.some.inj h)) dL_outputChar_16
  · subst e9
    replace h := ocR_t h
    by_cases qh10 : et4 = 1
    · replace h := it_t qh10 h
      subst qh10
      refine g_catch C htab 0 (nm := "java/lang/IndexOutOfBoundsException") rfl (fun q h => nomatch h) rfl (by decide) (wA 737 (by decide +kernel) (by decide +kernel)) (wO 776 (by decide +kernel) (by decide +kernel)) (fun qx => ?_)
      refine g_astore_n C (lv' := [(3, .ref qx), (0, .ref (w_r w 0)), (1, .int x1), (2, .ref (w_r w 300))]) dL_outputChar_12 (by decide) rfl ?_
      refine g_iconst C dL_outputChar_13 (v := 1) rfl ?_
      exact g_iretW C hr hlk rfl rfl rfl (congrArg Prod.snd (Option.some.inj h)) (congrArg (fun z => some (Value.int z.1)) (Option.some.inj h)) dL_outputChar_14
    replace h := it_f qh10 h
    cases h
set_option maxHeartbeats 4000000 in
set_option maxRecDepth 100000 in
theorem m_W_pardon {w : wT} {l : Launch} {x1 : Int32} {d dE : Dt} {rE : Int32} (hO : okW w) (hl9 : l.stackTraces = false) (h : f_W_pardon x1 d = some (rE, dE)) : gMW w l yL_pardon cL_pardon 4 (Option.some Jvm.ClassFile.FieldType.int) [(0, 9, 12, 19), (0, 9, 15, 27)] 9 8 60 [.ref (w_r w 0), .int x1, .ref (w_r w 300)] d dE (some (.int rE)) := by
  refine gMW_of (by decide) [(0, .ref (w_r w 0)), (1, .int x1), (2, .ref (w_r w 300))] rfl rfl ?_ hO
  intro p e R s m args below meth c C hR hr hlk htab
  unfold f_W_pardon at h
  refine g_aload_n C dL_pardon_0 2 rfl ?_
  refine g_iconst C dL_pardon_1 (v := 0) rfl ?_
  refine g_aload_n C dL_pardon_2 0 rfl ?_
  refine g_iload_n C dL_pardon_3 1 rfl ?_
  obtain ⟨z9, hc8, h⟩ := ocW_1 h
  refine g_callVW C 2 12 0 q_0 vk_W_47 hR rfl (m_C_pardon C.2.2.2.2.2.2.1 hl9 hc8) rfl rfl rfl dL_pardon_4 rfl rfl rfl rfl (fun r5 d6 e11 => ?_) (fun et6 dt10 e11 => ?_)
  · subst e11
    replace h := ocW_i h
    refine g_i2l C dL_pardon_7  ?_
    refine g_last C 300 q_300 (by decide) 0 (by decide) dL_pardon_8 ?_
    obtain ⟨d12, hd12, h⟩ := bnd_1 h
    refine g_nmD hd12 ?_
    refine g_goto C dL_pardon_9 (tgt := 18) rfl ?_
    refine g_iconst C dL_pardon_18 (v := 0) rfl ?_
    exact g_iretW C hr hlk rfl rfl rfl (congrArg Prod.snd (Option.some.inj h)) (congrArg (fun z => some (Value.int z.1)) (Option.some.inj h)) dL_pardon_19
  · subst e11
    replace h := ocW_t h
    by_cases qh12 : et6 = 1
    · replace h := it_t qh12 h
      subst qh12
      refine g_catch C htab 0 (nm := "java/lang/IndexOutOfBoundsException") rfl (fun q h => nomatch h) rfl (by decide) (wA 737 (by decide +kernel) (by decide +kernel)) (wO 776 (by decide +kernel) (by decide +kernel)) (fun qx => ?_)
      refine g_astore_n C (lv' := [(3, .ref qx), (0, .ref (w_r w 0)), (1, .int x1), (2, .ref (w_r w 300))]) dL_pardon_12 (by decide) rfl ?_
      refine g_iconst C dL_pardon_13 (v := 1) rfl ?_
      exact g_iretW C hr hlk rfl rfl rfl (congrArg Prod.snd (Option.some.inj h)) (congrArg (fun z => some (Value.int z.1)) (Option.some.inj h)) dL_pardon_14
    replace h := it_f qh12 h
    by_cases qh13 : et6 = 3
    · replace h := it_t qh13 h
      subst qh13
      refine g_catch C htab 1 (nm := "java/util/NoSuchElementException") rfl (List.forall_mem_cons.mpr ⟨⟨by decide, "java/lang/IndexOutOfBoundsException", wA 737 (by decide +kernel) (by decide +kernel), by decide +kernel⟩, (fun q h => nomatch h)⟩) rfl (by decide) (wA 822 (by decide +kernel) (by decide +kernel)) (wO 837 (by decide +kernel) (by decide +kernel)) (fun qx => ?_)
      refine g_astore_n C (lv' := [(3, .ref qx), (0, .ref (w_r w 0)), (1, .int x1), (2, .ref (w_r w 300))]) dL_pardon_15 (by decide) rfl ?_
      refine g_iconst C dL_pardon_16 (v := 2) rfl ?_
      exact g_iretW C hr hlk rfl rfl rfl (congrArg Prod.snd (Option.some.inj h)) (congrArg (fun z => some (Value.int z.1)) (Option.some.inj h)) dL_pardon_17
    replace h := it_f qh13 h
    cases h
set_option maxHeartbeats 4000000 in
set_option maxRecDepth 100000 in
theorem m_W_passDays {w : wT} {l : Launch} {x1 : Int32} {d dE : Dt} {rE : Int32} (hO : okW w) (hl9 : l.stackTraces = false) (h : f_W_passDays x1 d = some (rE, dE)) : gMW w l yL_passDays cL_passDays 4 (Option.some Jvm.ClassFile.FieldType.int) [(0, 9, 12, 21)] 8 8 60 [.ref (w_r w 0), .int x1, .ref (w_r w 300)] d dE (some (.int rE)) := by
  refine gMW_of (by decide) [(0, .ref (w_r w 0)), (1, .int x1), (2, .ref (w_r w 300))] rfl rfl ?_ hO
  intro p e R s m args below meth c C hR hr hlk htab
  unfold f_W_passDays at h
  refine g_aload_n C dL_passDays_0 2 rfl ?_
  refine g_iconst C dL_passDays_1 (v := 0) rfl ?_
  refine g_aload_n C dL_passDays_2 0 rfl ?_
  refine g_iload_n C dL_passDays_3 1 rfl ?_
  obtain ⟨z9, hc8, h⟩ := ocW_1 h
  refine g_callVW C 1 6 0 q_0 vk_W_44 hR rfl (m_C_passDays C.2.2.2.2.2.2.1 hl9 hc8) rfl rfl rfl dL_passDays_4 rfl rfl rfl rfl (fun r5 d6 e11 => ?_) (fun et6 dt10 e11 => ?_)
  · subst e11
    replace h := ocW_i h
    refine g_i2l C dL_passDays_7  ?_
    refine g_last C 300 q_300 (by decide) 0 (by decide) dL_passDays_8 ?_
    obtain ⟨d12, hd12, h⟩ := bnd_1 h
    refine g_nmD hd12 ?_
    refine g_goto C dL_passDays_9 (tgt := 15) rfl ?_
    refine g_iconst C dL_passDays_15 (v := 0) rfl ?_
    exact g_iretW C hr hlk rfl rfl rfl (congrArg Prod.snd (Option.some.inj h)) (congrArg (fun z => some (Value.int z.1)) (Option.some.inj h)) dL_passDays_16
  · subst e11
    replace h := ocW_t h
    by_cases qh12 : et6 = 2
    · replace h := it_t qh12 h
      subst qh12
      refine g_catch C htab 0 (nm := "java/lang/IllegalArgumentException") rfl (fun q h => nomatch h) rfl (by decide) (wA 761 (by decide +kernel) (by decide +kernel)) (wO 792 (by decide +kernel) (by decide +kernel)) (fun qx => ?_)
      refine g_astore_n C (lv' := [(3, .ref qx), (0, .ref (w_r w 0)), (1, .int x1), (2, .ref (w_r w 300))]) dL_passDays_12 (by decide) rfl ?_
      refine g_iconst C dL_passDays_13 (v := 1) rfl ?_
      exact g_iretW C hr hlk rfl rfl rfl (congrArg Prod.snd (Option.some.inj h)) (congrArg (fun z => some (Value.int z.1)) (Option.some.inj h)) dL_passDays_14
    replace h := it_f qh12 h
    cases h
set_option maxHeartbeats 4000000 in
set_option maxRecDepth 100000 in
theorem m_W_relation {w : wT} {l : Launch} {x1 x2 : Int32} {d dE : Dt} {rE : Int32} (hO : okW w) (hl9 : l.stackTraces = false) (h : f_W_relation x1 x2 d = some (rE, dE)) : gMW w l yL_relation cL_relation 5 (Option.some Jvm.ClassFile.FieldType.int) [(0, 10, 13, 19), (0, 10, 17, 27)] 8 8 60 [.ref (w_r w 0), .int x1, .int x2, .ref (w_r w 300)] d dE (some (.int rE)) := by
  refine gMW_of (by decide) [(0, .ref (w_r w 0)), (1, .int x1), (2, .int x2), (3, .ref (w_r w 300))] rfl rfl ?_ hO
  intro p e R s m args below meth c C hR hr hlk htab
  unfold f_W_relation at h
  refine g_aload_n C dL_relation_0 3 rfl ?_
  refine g_iconst C dL_relation_1 (v := 0) rfl ?_
  refine g_aload_n C dL_relation_2 0 rfl ?_
  refine g_iload_n C dL_relation_3 1 rfl ?_
  refine g_iload_n C dL_relation_4 2 rfl ?_
  obtain ⟨z9, hc8, h⟩ := ocW_1 h
  refine g_callVW C 3 18 0 q_0 vk_W_98 hR rfl (m_C_relation C.2.2.2.2.2.2.1 hl9 hc8) rfl rfl rfl dL_relation_5 rfl rfl rfl rfl (fun r5 d6 e11 => ?_) (fun et6 dt10 e11 => ?_)
  · subst e11
    replace h := ocW_i h
    refine g_i2l C dL_relation_8  ?_
    refine g_last C 300 q_300 (by decide) 0 (by decide) dL_relation_9 ?_
    obtain ⟨d12, hd12, h⟩ := bnd_1 h
    refine g_nmD hd12 ?_
    refine g_goto C dL_relation_10 (tgt := 21) rfl ?_
    refine g_iconst C dL_relation_21 (v := 0) rfl ?_
    exact g_iretW C hr hlk rfl rfl rfl (congrArg Prod.snd (Option.some.inj h)) (congrArg (fun z => some (Value.int z.1)) (Option.some.inj h)) dL_relation_22
  · subst e11
    replace h := ocW_t h
    by_cases qh12 : et6 = 1
    · replace h := it_t qh12 h
      subst qh12
      refine g_catch C htab 0 (nm := "java/lang/IndexOutOfBoundsException") rfl (fun q h => nomatch h) rfl (by decide) (wA 737 (by decide +kernel) (by decide +kernel)) (wO 776 (by decide +kernel) (by decide +kernel)) (fun qx => ?_)
      refine g_astore C (lv' := [(4, .ref qx), (0, .ref (w_r w 0)), (1, .int x1), (2, .int x2), (3, .ref (w_r w 300))]) dL_relation_13 (by decide) rfl ?_
      refine g_iconst C dL_relation_15 (v := 1) rfl ?_
      exact g_iretW C hr hlk rfl rfl rfl (congrArg Prod.snd (Option.some.inj h)) (congrArg (fun z => some (Value.int z.1)) (Option.some.inj h)) dL_relation_16
    replace h := it_f qh12 h
    by_cases qh13 : et6 = 3
    · replace h := it_t qh13 h
      subst qh13
      refine g_catch C htab 1 (nm := "java/util/NoSuchElementException") rfl (List.forall_mem_cons.mpr ⟨⟨by decide, "java/lang/IndexOutOfBoundsException", wA 737 (by decide +kernel) (by decide +kernel), by decide +kernel⟩, (fun q h => nomatch h)⟩) rfl (by decide) (wA 822 (by decide +kernel) (by decide +kernel)) (wO 837 (by decide +kernel) (by decide +kernel)) (fun qx => ?_)
      refine g_astore C (lv' := [(4, .ref qx), (0, .ref (w_r w 0)), (1, .int x1), (2, .int x2), (3, .ref (w_r w 300))]) dL_relation_17 (by decide) rfl ?_
      refine g_iconst C dL_relation_19 (v := 2) rfl ?_
      exact g_iretW C hr hlk rfl rfl rfl (congrArg Prod.snd (Option.some.inj h)) (congrArg (fun z => some (Value.int z.1)) (Option.some.inj h)) dL_relation_20
    replace h := it_f qh13 h
    cases h
set_option maxHeartbeats 4000000 in
set_option maxRecDepth 100000 in
theorem m_W_restore {w : wT} {l : Launch} {d dE : Dt} {rE : Int32} (hO : okW w) (hl9 : l.stackTraces = false) (h : f_W_restore  d = some (rE, dE)) : gMW w l yL_restore cL_restore 3 (Option.some Jvm.ClassFile.FieldType.int) [(0, 8, 11, 13)] 7 8 60 [.ref (w_r w 0), .ref (w_r w 300)] d dE (some (.int rE)) := by
  refine gMW_of (by decide) [(0, .ref (w_r w 0)), (1, .ref (w_r w 300))] rfl rfl ?_ hO
  intro p e R s m args below meth c C hR hr hlk htab
  unfold f_W_restore at h
  refine g_aload_n C dL_restore_0 1 rfl ?_
  refine g_iconst C dL_restore_1 (v := 0) rfl ?_
  refine g_aload_n C dL_restore_2 0 rfl ?_
  obtain ⟨z9, hc8, h⟩ := ocW_1 h
  refine g_callVW C 1 6 0 q_0 vk_W_149 hR rfl (m_C_restore C.2.2.2.2.2.2.1 hl9 hc8) rfl rfl rfl dL_restore_3 rfl rfl rfl rfl (fun r5 d6 e11 => ?_) (fun et6 dt10 e11 => ?_)
  · subst e11
    replace h := ocW_i h
    refine g_i2l C dL_restore_6  ?_
    refine g_last C 300 q_300 (by decide) 0 (by decide) dL_restore_7 ?_
    obtain ⟨d12, hd12, h⟩ := bnd_1 h
    refine g_nmD hd12 ?_
    refine g_goto C dL_restore_8 (tgt := 14) rfl ?_
    refine g_iconst C dL_restore_14 (v := 0) rfl ?_
    exact g_iretW C hr hlk rfl rfl rfl (congrArg Prod.snd (Option.some.inj h)) (congrArg (fun z => some (Value.int z.1)) (Option.some.inj h)) dL_restore_15
  · subst e11
    replace h := ocW_t h
    by_cases qh12 : et6 = 0
    · replace h := it_t qh12 h
      subst qh12
      refine g_catch C htab 0 (nm := "java/lang/IllegalStateException") rfl (fun q h => nomatch h) rfl (by decide) (wA 644 (by decide +kernel) (by decide +kernel)) (wO 655 (by decide +kernel) (by decide +kernel)) (fun qx => ?_)
      refine g_astore_n C (lv' := [(2, .ref qx), (0, .ref (w_r w 0)), (1, .ref (w_r w 300))]) dL_restore_11 (by decide) rfl ?_
      refine g_iconst C dL_restore_12 (v := 1) rfl ?_
      exact g_iretW C hr hlk rfl rfl rfl (congrArg Prod.snd (Option.some.inj h)) (congrArg (fun z => some (Value.int z.1)) (Option.some.inj h)) dL_restore_13
    replace h := it_f qh12 h
    cases h
set_option maxHeartbeats 4000000 in
set_option maxRecDepth 100000 in
theorem m_W_retract {w : wT} {l : Launch} {x1 : Int32} {d dE : Dt} {rE : Int32} (hO : okW w) (hl9 : l.stackTraces = false) (h : f_W_retract x1 d = some (rE, dE)) : gMW w l yL_retract cL_retract 4 (Option.some Jvm.ClassFile.FieldType.int) [(0, 16, 19, 19), (0, 16, 22, 27)] 8 8 60 [.ref (w_r w 0), .int x1, .ref (w_r w 300)] d dE (some (.int rE)) := by
  refine gMW_of (by decide) [(0, .ref (w_r w 0)), (1, .int x1), (2, .ref (w_r w 300))] rfl rfl ?_ hO
  intro p e R s m args below meth c C hR hr hlk htab
  unfold f_W_retract at h
  refine g_aload_n C dL_retract_0 2 rfl ?_
  refine g_iconst C dL_retract_1 (v := 0) rfl ?_
  refine g_aload_n C dL_retract_2 0 rfl ?_
  refine g_iload_n C dL_retract_3 1 rfl ?_
  obtain ⟨z10, hc9, h⟩ := ocW_1 h
  refine g_callVW C 2 12 0 q_0 vk_W_40 hR rfl (m_C_retract C.2.2.2.2.2.2.1 hl9 hc9) rfl rfl rfl dL_retract_4 rfl rfl rfl rfl (fun r6 d7 e12 => ?_) (fun et7 dt11 e12 => ?_)
  · subst e12
    replace h := ocW_i h
    refine g_if_eq C dL_retract_7 (tgt := 14) rfl (fun q => ?_) (fun q => ?_)
    · replace h := it_t q h
      refine g_lconst C dL_retract_14 (v := 0) (by decide) ?_
      refine g_last C 300 q_300 (by decide) 0 (by decide) dL_retract_15 ?_
      obtain ⟨d13, hd13, h⟩ := bnd_1 h
      refine g_nmD hd13 ?_
      refine g_goto C dL_retract_16 (tgt := 25) rfl ?_
      refine g_iconst C dL_retract_25 (v := 0) rfl ?_
      exact g_iretW C hr hlk rfl rfl rfl (congrArg Prod.snd (Option.some.inj h)) (congrArg (fun z => some (Value.int z.1)) (Option.some.inj h)) dL_retract_26
    · replace h := it_f q h
      refine g_lconst C dL_retract_10 (v := 1) (by decide) ?_
      refine g_goto C dL_retract_11 (tgt := 15) rfl ?_
      refine g_last C 300 q_300 (by decide) 0 (by decide) dL_retract_15 ?_
      obtain ⟨d14, hd14, h⟩ := bnd_1 h
      refine g_nmD hd14 ?_
      refine g_goto C dL_retract_16 (tgt := 25) rfl ?_
      refine g_iconst C dL_retract_25 (v := 0) rfl ?_
      exact g_iretW C hr hlk rfl rfl rfl (congrArg Prod.snd (Option.some.inj h)) (congrArg (fun z => some (Value.int z.1)) (Option.some.inj h)) dL_retract_26
  · subst e12
    replace h := ocW_t h
    by_cases qh14 : et7 = 1
    · replace h := it_t qh14 h
      subst qh14
      refine g_catch C htab 0 (nm := "java/lang/IndexOutOfBoundsException") rfl (fun q h => nomatch h) rfl (by decide) (wA 737 (by decide +kernel) (by decide +kernel)) (wO 776 (by decide +kernel) (by decide +kernel)) (fun qx => ?_)
      refine g_astore_n C (lv' := [(3, .ref qx), (0, .ref (w_r w 0)), (1, .int x1), (2, .ref (w_r w 300))]) dL_retract_19 (by decide) rfl ?_
      refine g_iconst C dL_retract_20 (v := 1) rfl ?_
      exact g_iretW C hr hlk rfl rfl rfl (congrArg Prod.snd (Option.some.inj h)) (congrArg (fun z => some (Value.int z.1)) (Option.some.inj h)) dL_retract_21
    replace h := it_f qh14 h
    by_cases qh15 : et7 = 3
    · replace h := it_t qh15 h
      subst qh15
      refine g_catch C htab 1 (nm := "java/util/NoSuchElementException") rfl (List.forall_mem_cons.mpr ⟨⟨by decide, "java/lang/IndexOutOfBoundsException", wA 737 (by decide +kernel) (by decide +kernel), by decide +kernel⟩, (fun q h => nomatch h)⟩) rfl (by decide) (wA 822 (by decide +kernel) (by decide +kernel)) (wO 837 (by decide +kernel) (by decide +kernel)) (fun qx => ?_)
      refine g_astore_n C (lv' := [(3, .ref qx), (0, .ref (w_r w 0)), (1, .int x1), (2, .ref (w_r w 300))]) dL_retract_22 (by decide) rfl ?_
      refine g_iconst C dL_retract_23 (v := 2) rfl ?_
      exact g_iretW C hr hlk rfl rfl rfl (congrArg Prod.snd (Option.some.inj h)) (congrArg (fun z => some (Value.int z.1)) (Option.some.inj h)) dL_retract_24
    replace h := it_f qh15 h
    cases h
set_option maxHeartbeats 4000000 in
set_option maxRecDepth 100000 in
theorem m_W_runCommands {w : wT} {l : Launch} {d dE : Dt} {rE : Int32} (hO : okW w) (hl9 : l.stackTraces = false) (h : f_W_runCommands  d = some (rE, dE)) : gMW w l yL_runCommands cL_runCommands 3 (Option.some Jvm.ClassFile.FieldType.int) [(0, 8, 11, 21), (0, 8, 14, 132)] 10 8 60 [.ref (w_r w 0), .ref (w_r w 300)] d dE (some (.int rE)) := by
  refine gMW_of (by decide) [(0, .ref (w_r w 0)), (1, .ref (w_r w 300))] rfl rfl ?_ hO
  intro p e R s m args below meth c C hR hr hlk htab
  unfold f_W_runCommands at h
  refine g_aload_n C dL_runCommands_0 1 rfl ?_
  refine g_iconst C dL_runCommands_1 (v := 0) rfl ?_
  refine g_aload_n C dL_runCommands_2 0 rfl ?_
  obtain ⟨z9, hc8, h⟩ := ocW_1 h
  refine g_callVW C 1 6 0 q_0 vk_W_129 hR rfl (m_C_runCommands C.2.2.2.2.2.2.1 hl9 hc8) rfl rfl rfl dL_runCommands_3 rfl rfl rfl rfl (fun r5 d6 e11 => ?_) (fun et6 dt10 e11 => ?_)
  · subst e11
    replace h := ocW_i h
    refine g_i2l C dL_runCommands_6  ?_
    refine g_last C 300 q_300 (by decide) 0 (by decide) dL_runCommands_7 ?_
    obtain ⟨d12, hd12, h⟩ := bnd_1 h
    refine g_nmD hd12 ?_
    refine g_goto C dL_runCommands_8 (tgt := 17) rfl ?_
    refine g_iconst C dL_runCommands_17 (v := 0) rfl ?_
    exact g_iretW C hr hlk rfl rfl rfl (congrArg Prod.snd (Option.some.inj h)) (congrArg (fun z => some (Value.int z.1)) (Option.some.inj h)) dL_runCommands_18
  · subst e11
    replace h := ocW_t h
    by_cases qh12 : et6 = 2
    · replace h := it_t qh12 h
      subst qh12
      refine g_catch C htab 0 (nm := "java/lang/IllegalArgumentException") rfl (fun q h => nomatch h) rfl (by decide) (wA 761 (by decide +kernel) (by decide +kernel)) (wO 792 (by decide +kernel) (by decide +kernel)) (fun qx => ?_)
      refine g_astore_n C (lv' := [(2, .ref qx), (0, .ref (w_r w 0)), (1, .ref (w_r w 300))]) dL_runCommands_11 (by decide) rfl ?_
      refine g_iconst C dL_runCommands_12 (v := 1) rfl ?_
      exact g_iretW C hr hlk rfl rfl rfl (congrArg Prod.snd (Option.some.inj h)) (congrArg (fun z => some (Value.int z.1)) (Option.some.inj h)) dL_runCommands_13
    replace h := it_f qh12 h
    by_cases qh13 : et6 = 5
    · replace h := it_t qh13 h
      subst qh13
      refine g_catch C htab 1 (nm := "java/lang/UnsupportedOperationException") rfl (List.forall_mem_cons.mpr ⟨⟨by decide, "java/lang/IllegalArgumentException", wA 761 (by decide +kernel) (by decide +kernel), by decide +kernel⟩, (fun q h => nomatch h)⟩) rfl (by decide) (wA 1306 (by decide +kernel) (by decide +kernel)) (wO 1408 (by decide +kernel) (by decide +kernel)) (fun qx => ?_)
      refine g_astore_n C (lv' := [(2, .ref qx), (0, .ref (w_r w 0)), (1, .ref (w_r w 300))]) dL_runCommands_14 (by decide) rfl ?_
      refine g_iconst C dL_runCommands_15 (v := 2) rfl ?_
      exact g_iretW C hr hlk rfl rfl rfl (congrArg Prod.snd (Option.some.inj h)) (congrArg (fun z => some (Value.int z.1)) (Option.some.inj h)) dL_runCommands_16
    replace h := it_f qh13 h
    cases h
set_option maxHeartbeats 4000000 in
set_option maxRecDepth 100000 in
theorem m_W_secondOf {w : wT} {l : Launch} {x1 : Int32} {d dE : Dt} {rE : Int32} (hO : okW w) (hl9 : l.stackTraces = false) (h : f_W_secondOf x1 d = some (rE, dE)) : gMW w l yL_secondOf cL_secondOf 4 (Option.some Jvm.ClassFile.FieldType.int) [(0, 9, 12, 19)] 8 8 60 [.ref (w_r w 0), .int x1, .ref (w_r w 300)] d dE (some (.int rE)) := by
  refine gMW_of (by decide) [(0, .ref (w_r w 0)), (1, .int x1), (2, .ref (w_r w 300))] rfl rfl ?_ hO
  intro p e R s m args below meth c C hR hr hlk htab
  unfold f_W_secondOf at h
  refine g_aload_n C dL_secondOf_0 2 rfl ?_
  refine g_iconst C dL_secondOf_1 (v := 0) rfl ?_
  refine g_aload_n C dL_secondOf_2 0 rfl ?_
  refine g_iload_n C dL_secondOf_3 1 rfl ?_
  obtain ⟨z7, hc6, h⟩ := ocR_1 h
  refine g_callVR C 1 6 0 q_0 vk_W_89 hR rfl (m_C_secondOf C.2.2.2.2.2.2.1 hl9 hc6) rfl rfl rfl dL_secondOf_4 rfl rfl rfl rfl (fun r4 e9 => ?_) (fun et4 e9 => ?_)
  · subst e9
    replace h := ocR_i h
    refine g_i2l C dL_secondOf_7  ?_
    refine g_last C 300 q_300 (by decide) 0 (by decide) dL_secondOf_8 ?_
    obtain ⟨d10, hd10, h⟩ := bnd_1 h
    refine g_nmD hd10 ?_
    refine g_goto C dL_secondOf_9 (tgt := 15) rfl ?_
    refine g_iconst C dL_secondOf_15 (v := 0) rfl ?_
    exact g_iretW C hr hlk rfl rfl rfl (congrArg Prod.snd (Option.some.inj h)) (congrArg (fun z => some (Value.int z.1)) (Option.some.inj h)) dL_secondOf_16
  · subst e9
    replace h := ocR_t h
    by_cases qh10 : et4 = 1
    · replace h := it_t qh10 h
      subst qh10
      refine g_catch C htab 0 (nm := "java/lang/IndexOutOfBoundsException") rfl (fun q h => nomatch h) rfl (by decide) (wA 737 (by decide +kernel) (by decide +kernel)) (wO 776 (by decide +kernel) (by decide +kernel)) (fun qx => ?_)
      refine g_astore_n C (lv' := [(3, .ref qx), (0, .ref (w_r w 0)), (1, .int x1), (2, .ref (w_r w 300))]) dL_secondOf_12 (by decide) rfl ?_
      refine g_iconst C dL_secondOf_13 (v := 1) rfl ?_
      exact g_iretW C hr hlk rfl rfl rfl (congrArg Prod.snd (Option.some.inj h)) (congrArg (fun z => some (Value.int z.1)) (Option.some.inj h)) dL_secondOf_14
    replace h := it_f qh10 h
    cases h
set_option maxHeartbeats 4000000 in
set_option maxRecDepth 100000 in
theorem m_W_sentenceCount {w : wT} {l : Launch} {x1 : Int32} {d dE : Dt} {rE : Int32} (hO : okW w) (hl9 : l.stackTraces = false) (h : f_W_sentenceCount x1 d = some (rE, dE)) : gMW w l yL_sentenceCount cL_sentenceCount 4 (Option.some Jvm.ClassFile.FieldType.int) [(0, 9, 12, 19)] 8 8 60 [.ref (w_r w 0), .int x1, .ref (w_r w 300)] d dE (some (.int rE)) := by
  refine gMW_of (by decide) [(0, .ref (w_r w 0)), (1, .int x1), (2, .ref (w_r w 300))] rfl rfl ?_ hO
  intro p e R s m args below meth c C hR hr hlk htab
  unfold f_W_sentenceCount at h
  refine g_aload_n C dL_sentenceCount_0 2 rfl ?_
  refine g_iconst C dL_sentenceCount_1 (v := 0) rfl ?_
  refine g_aload_n C dL_sentenceCount_2 0 rfl ?_
  refine g_iload_n C dL_sentenceCount_3 1 rfl ?_
  obtain ⟨z7, hc6, h⟩ := ocR_1 h
  refine g_callVR C 1 6 0 q_0 vk_W_56 hR rfl (m_C_sentenceCount C.2.2.2.2.2.2.1 hl9 hc6) rfl rfl rfl dL_sentenceCount_4 rfl rfl rfl rfl (fun r4 e9 => ?_) (fun et4 e9 => ?_)
  · subst e9
    replace h := ocR_i h
    refine g_i2l C dL_sentenceCount_7  ?_
    refine g_last C 300 q_300 (by decide) 0 (by decide) dL_sentenceCount_8 ?_
    obtain ⟨d10, hd10, h⟩ := bnd_1 h
    refine g_nmD hd10 ?_
    refine g_goto C dL_sentenceCount_9 (tgt := 15) rfl ?_
    refine g_iconst C dL_sentenceCount_15 (v := 0) rfl ?_
    exact g_iretW C hr hlk rfl rfl rfl (congrArg Prod.snd (Option.some.inj h)) (congrArg (fun z => some (Value.int z.1)) (Option.some.inj h)) dL_sentenceCount_16
  · subst e9
    replace h := ocR_t h
    by_cases qh10 : et4 = 1
    · replace h := it_t qh10 h
      subst qh10
      refine g_catch C htab 0 (nm := "java/lang/IndexOutOfBoundsException") rfl (fun q h => nomatch h) rfl (by decide) (wA 737 (by decide +kernel) (by decide +kernel)) (wO 776 (by decide +kernel) (by decide +kernel)) (fun qx => ?_)
      refine g_astore_n C (lv' := [(3, .ref qx), (0, .ref (w_r w 0)), (1, .int x1), (2, .ref (w_r w 300))]) dL_sentenceCount_12 (by decide) rfl ?_
      refine g_iconst C dL_sentenceCount_13 (v := 1) rfl ?_
      exact g_iretW C hr hlk rfl rfl rfl (congrArg Prod.snd (Option.some.inj h)) (congrArg (fun z => some (Value.int z.1)) (Option.some.inj h)) dL_sentenceCount_14
    replace h := it_f qh10 h
    cases h
set_option maxHeartbeats 4000000 in
set_option maxRecDepth 100000 in
theorem m_W_severity {w : wT} {l : Launch} {x1 : Int32} {d dE : Dt} {rE : Int32} (hO : okW w) (hl9 : l.stackTraces = false) (h : f_W_severity x1 d = some (rE, dE)) : gMW w l yL_severity cL_severity 4 (Option.some Jvm.ClassFile.FieldType.int) [(0, 9, 12, 27)] 8 8 60 [.ref (w_r w 0), .int x1, .ref (w_r w 300)] d dE (some (.int rE)) := by
  refine gMW_of (by decide) [(0, .ref (w_r w 0)), (1, .int x1), (2, .ref (w_r w 300))] rfl rfl ?_ hO
  intro p e R s m args below meth c C hR hr hlk htab
  unfold f_W_severity at h
  refine g_aload_n C dL_severity_0 2 rfl ?_
  refine g_iconst C dL_severity_1 (v := 0) rfl ?_
  refine g_aload_n C dL_severity_2 0 rfl ?_
  refine g_iload_n C dL_severity_3 1 rfl ?_
  obtain ⟨z7, hc6, h⟩ := ocR_1 h
  refine g_callVR C 1 6 0 q_0 vk_W_77 hR rfl (m_C_severity C.2.2.2.2.2.2.1 hl9 hc6) rfl rfl rfl dL_severity_4 rfl rfl rfl rfl (fun r4 e9 => ?_) (fun et4 e9 => ?_)
  · subst e9
    replace h := ocR_i h
    refine g_i2l C dL_severity_7  ?_
    refine g_last C 300 q_300 (by decide) 0 (by decide) dL_severity_8 ?_
    obtain ⟨d10, hd10, h⟩ := bnd_1 h
    refine g_nmD hd10 ?_
    refine g_goto C dL_severity_9 (tgt := 15) rfl ?_
    refine g_iconst C dL_severity_15 (v := 0) rfl ?_
    exact g_iretW C hr hlk rfl rfl rfl (congrArg Prod.snd (Option.some.inj h)) (congrArg (fun z => some (Value.int z.1)) (Option.some.inj h)) dL_severity_16
  · subst e9
    replace h := ocR_t h
    by_cases qh10 : et4 = 3
    · replace h := it_t qh10 h
      subst qh10
      refine g_catch C htab 0 (nm := "java/util/NoSuchElementException") rfl (fun q h => nomatch h) rfl (by decide) (wA 822 (by decide +kernel) (by decide +kernel)) (wO 837 (by decide +kernel) (by decide +kernel)) (fun qx => ?_)
      refine g_astore_n C (lv' := [(3, .ref qx), (0, .ref (w_r w 0)), (1, .int x1), (2, .ref (w_r w 300))]) dL_severity_12 (by decide) rfl ?_
      refine g_iconst C dL_severity_13 (v := 1) rfl ?_
      exact g_iretW C hr hlk rfl rfl rfl (congrArg Prod.snd (Option.some.inj h)) (congrArg (fun z => some (Value.int z.1)) (Option.some.inj h)) dL_severity_14
    replace h := it_f qh10 h
    cases h
set_option maxHeartbeats 4000000 in
set_option maxRecDepth 100000 in
theorem m_W_undo {w : wT} {l : Launch} {d dE : Dt} {rE : Int32} (hO : okW w) (hl9 : l.stackTraces = false) (h : f_W_undo  d = some (rE, dE)) : gMW w l yL_undo cL_undo 3 (Option.some Jvm.ClassFile.FieldType.int) [(0, 8, 11, 13)] 7 8 60 [.ref (w_r w 0), .ref (w_r w 300)] d dE (some (.int rE)) := by
  refine gMW_of (by decide) [(0, .ref (w_r w 0)), (1, .ref (w_r w 300))] rfl rfl ?_ hO
  intro p e R s m args below meth c C hR hr hlk htab
  unfold f_W_undo at h
  refine g_aload_n C dL_undo_0 1 rfl ?_
  refine g_iconst C dL_undo_1 (v := 0) rfl ?_
  refine g_aload_n C dL_undo_2 0 rfl ?_
  obtain ⟨z9, hc8, h⟩ := ocW_1 h
  refine g_callVW C 1 6 0 q_0 vk_W_146 hR rfl (m_C_undo C.2.2.2.2.2.2.1 hl9 hc8) rfl rfl rfl dL_undo_3 rfl rfl rfl rfl (fun r5 d6 e11 => ?_) (fun et6 dt10 e11 => ?_)
  · subst e11
    replace h := ocW_i h
    refine g_i2l C dL_undo_6  ?_
    refine g_last C 300 q_300 (by decide) 0 (by decide) dL_undo_7 ?_
    obtain ⟨d12, hd12, h⟩ := bnd_1 h
    refine g_nmD hd12 ?_
    refine g_goto C dL_undo_8 (tgt := 14) rfl ?_
    refine g_iconst C dL_undo_14 (v := 0) rfl ?_
    exact g_iretW C hr hlk rfl rfl rfl (congrArg Prod.snd (Option.some.inj h)) (congrArg (fun z => some (Value.int z.1)) (Option.some.inj h)) dL_undo_15
  · subst e11
    replace h := ocW_t h
    by_cases qh12 : et6 = 0
    · replace h := it_t qh12 h
      subst qh12
      refine g_catch C htab 0 (nm := "java/lang/IllegalStateException") rfl (fun q h => nomatch h) rfl (by decide) (wA 644 (by decide +kernel) (by decide +kernel)) (wO 655 (by decide +kernel) (by decide +kernel)) (fun qx => ?_)
      refine g_astore_n C (lv' := [(2, .ref qx), (0, .ref (w_r w 0)), (1, .ref (w_r w 300))]) dL_undo_11 (by decide) rfl ?_
      refine g_iconst C dL_undo_12 (v := 1) rfl ?_
      exact g_iretW C hr hlk rfl rfl rfl (congrArg Prod.snd (Option.some.inj h)) (congrArg (fun z => some (Value.int z.1)) (Option.some.inj h)) dL_undo_13
    replace h := it_f qh12 h
    cases h
set_option maxHeartbeats 4000000 in
set_option maxRecDepth 100000 in
theorem m_W_verdict {w : wT} {l : Launch} {x1 : Int32} {d dE : Dt} {rE : Int32} (hO : okW w) (hl9 : l.stackTraces = false) (h : f_W_verdict x1 d = some (rE, dE)) : gMW w l yL_verdict cL_verdict 4 (Option.some Jvm.ClassFile.FieldType.int) [(0, 9, 12, 19)] 8 8 60 [.ref (w_r w 0), .int x1, .ref (w_r w 300)] d dE (some (.int rE)) := by
  refine gMW_of (by decide) [(0, .ref (w_r w 0)), (1, .int x1), (2, .ref (w_r w 300))] rfl rfl ?_ hO
  intro p e R s m args below meth c C hR hr hlk htab
  unfold f_W_verdict at h
  refine g_aload_n C dL_verdict_0 2 rfl ?_
  refine g_iconst C dL_verdict_1 (v := 0) rfl ?_
  refine g_aload_n C dL_verdict_2 0 rfl ?_
  refine g_iload_n C dL_verdict_3 1 rfl ?_
  obtain ⟨z9, hc8, h⟩ := ocW_1 h
  refine g_callVW C 1 6 0 q_0 vk_W_102 hR rfl (m_C_verdict C.2.2.2.2.2.2.1 hl9 hc8) rfl rfl rfl dL_verdict_4 rfl rfl rfl rfl (fun r5 d6 e11 => ?_) (fun et6 dt10 e11 => ?_)
  · subst e11
    replace h := ocW_i h
    refine g_i2l C dL_verdict_7  ?_
    refine g_last C 300 q_300 (by decide) 0 (by decide) dL_verdict_8 ?_
    obtain ⟨d12, hd12, h⟩ := bnd_1 h
    refine g_nmD hd12 ?_
    refine g_goto C dL_verdict_9 (tgt := 15) rfl ?_
    refine g_iconst C dL_verdict_15 (v := 0) rfl ?_
    exact g_iretW C hr hlk rfl rfl rfl (congrArg Prod.snd (Option.some.inj h)) (congrArg (fun z => some (Value.int z.1)) (Option.some.inj h)) dL_verdict_16
  · subst e11
    replace h := ocW_t h
    by_cases qh12 : et6 = 1
    · replace h := it_t qh12 h
      subst qh12
      refine g_catch C htab 0 (nm := "java/lang/IndexOutOfBoundsException") rfl (fun q h => nomatch h) rfl (by decide) (wA 737 (by decide +kernel) (by decide +kernel)) (wO 776 (by decide +kernel) (by decide +kernel)) (fun qx => ?_)
      refine g_astore_n C (lv' := [(3, .ref qx), (0, .ref (w_r w 0)), (1, .int x1), (2, .ref (w_r w 300))]) dL_verdict_12 (by decide) rfl ?_
      refine g_iconst C dL_verdict_13 (v := 1) rfl ?_
      exact g_iretW C hr hlk rfl rfl rfl (congrArg Prod.snd (Option.some.inj h)) (congrArg (fun z => some (Value.int z.1)) (Option.some.inj h)) dL_verdict_14
    replace h := it_f qh12 h
    cases h
set_option maxHeartbeats 4000000 in
set_option maxRecDepth 100000 in
theorem m_W_verdictByExplanations {w : wT} {l : Launch} {x1 : Int32} {d dE : Dt} {rE : Int32} (hO : okW w) (hl9 : l.stackTraces = false) (h : f_W_verdictByExplanations x1 d = some (rE, dE)) : gMW w l yL_verdictByExplanations cL_verdictByExplanations 4 (Option.some Jvm.ClassFile.FieldType.int) [(0, 9, 12, 19)] 8 8 60 [.ref (w_r w 0), .int x1, .ref (w_r w 300)] d dE (some (.int rE)) := by
  refine gMW_of (by decide) [(0, .ref (w_r w 0)), (1, .int x1), (2, .ref (w_r w 300))] rfl rfl ?_ hO
  intro p e R s m args below meth c C hR hr hlk htab
  unfold f_W_verdictByExplanations at h
  refine g_aload_n C dL_verdictByExplanations_0 2 rfl ?_
  refine g_iconst C dL_verdictByExplanations_1 (v := 0) rfl ?_
  refine g_aload_n C dL_verdictByExplanations_2 0 rfl ?_
  refine g_iload_n C dL_verdictByExplanations_3 1 rfl ?_
  obtain ⟨z9, hc8, h⟩ := ocW_1 h
  refine g_callVW C 1 6 0 q_0 vk_W_106 hR rfl (m_C_verdictByExplanations C.2.2.2.2.2.2.1 hl9 hc8) rfl rfl rfl dL_verdictByExplanations_4 rfl rfl rfl rfl (fun r5 d6 e11 => ?_) (fun et6 dt10 e11 => ?_)
  · subst e11
    replace h := ocW_i h
    refine g_i2l C dL_verdictByExplanations_7  ?_
    refine g_last C 300 q_300 (by decide) 0 (by decide) dL_verdictByExplanations_8 ?_
    obtain ⟨d12, hd12, h⟩ := bnd_1 h
    refine g_nmD hd12 ?_
    refine g_goto C dL_verdictByExplanations_9 (tgt := 15) rfl ?_
    refine g_iconst C dL_verdictByExplanations_15 (v := 0) rfl ?_
    exact g_iretW C hr hlk rfl rfl rfl (congrArg Prod.snd (Option.some.inj h)) (congrArg (fun z => some (Value.int z.1)) (Option.some.inj h)) dL_verdictByExplanations_16
  · subst e11
    replace h := ocW_t h
    by_cases qh12 : et6 = 1
    · replace h := it_t qh12 h
      subst qh12
      refine g_catch C htab 0 (nm := "java/lang/IndexOutOfBoundsException") rfl (fun q h => nomatch h) rfl (by decide) (wA 737 (by decide +kernel) (by decide +kernel)) (wO 776 (by decide +kernel) (by decide +kernel)) (fun qx => ?_)
      refine g_astore_n C (lv' := [(3, .ref qx), (0, .ref (w_r w 0)), (1, .int x1), (2, .ref (w_r w 300))]) dL_verdictByExplanations_12 (by decide) rfl ?_
      refine g_iconst C dL_verdictByExplanations_13 (v := 1) rfl ?_
      exact g_iretW C hr hlk rfl rfl rfl (congrArg Prod.snd (Option.some.inj h)) (congrArg (fun z => some (Value.int z.1)) (Option.some.inj h)) dL_verdictByExplanations_14
    replace h := it_f qh12 h
    cases h
set_option maxHeartbeats 4000000 in
set_option maxRecDepth 100000 in
theorem m_W_withdraw {w : wT} {l : Launch} {x1 : Int32} {d dE : Dt} {rE : Int32} (hO : okW w) (hl9 : l.stackTraces = false) (h : f_W_withdraw x1 d = some (rE, dE)) : gMW w l yL_withdraw cL_withdraw 4 (Option.some Jvm.ClassFile.FieldType.int) [(0, 9, 12, 27)] 8 8 60 [.ref (w_r w 0), .int x1, .ref (w_r w 300)] d dE (some (.int rE)) := by
  refine gMW_of (by decide) [(0, .ref (w_r w 0)), (1, .int x1), (2, .ref (w_r w 300))] rfl rfl ?_ hO
  intro p e R s m args below meth c C hR hr hlk htab
  unfold f_W_withdraw at h
  refine g_aload_n C dL_withdraw_0 2 rfl ?_
  refine g_iconst C dL_withdraw_1 (v := 0) rfl ?_
  refine g_aload_n C dL_withdraw_2 0 rfl ?_
  refine g_iload_n C dL_withdraw_3 1 rfl ?_
  obtain ⟨z9, hc8, h⟩ := ocW_1 h
  refine g_callVW C 1 6 0 q_0 vk_W_23 hR rfl (m_C_withdraw C.2.2.2.2.2.2.1 hl9 hc8) rfl rfl rfl dL_withdraw_4 rfl rfl rfl rfl (fun r5 d6 e11 => ?_) (fun et6 dt10 e11 => ?_)
  · subst e11
    replace h := ocW_i h
    refine g_i2l C dL_withdraw_7  ?_
    refine g_last C 300 q_300 (by decide) 0 (by decide) dL_withdraw_8 ?_
    obtain ⟨d12, hd12, h⟩ := bnd_1 h
    refine g_nmD hd12 ?_
    refine g_goto C dL_withdraw_9 (tgt := 15) rfl ?_
    refine g_iconst C dL_withdraw_15 (v := 0) rfl ?_
    exact g_iretW C hr hlk rfl rfl rfl (congrArg Prod.snd (Option.some.inj h)) (congrArg (fun z => some (Value.int z.1)) (Option.some.inj h)) dL_withdraw_16
  · subst e11
    replace h := ocW_t h
    by_cases qh12 : et6 = 3
    · replace h := it_t qh12 h
      subst qh12
      refine g_catch C htab 0 (nm := "java/util/NoSuchElementException") rfl (fun q h => nomatch h) rfl (by decide) (wA 822 (by decide +kernel) (by decide +kernel)) (wO 837 (by decide +kernel) (by decide +kernel)) (fun qx => ?_)
      refine g_astore_n C (lv' := [(3, .ref qx), (0, .ref (w_r w 0)), (1, .int x1), (2, .ref (w_r w 300))]) dL_withdraw_12 (by decide) rfl ?_
      refine g_iconst C dL_withdraw_13 (v := 1) rfl ?_
      exact g_iretW C hr hlk rfl rfl rfl (congrArg Prod.snd (Option.some.inj h)) (congrArg (fun z => some (Value.int z.1)) (Option.some.inj h)) dL_withdraw_14
    replace h := it_f qh12 h
    cases h
set_option maxHeartbeats 4000000 in
set_option maxRecDepth 100000 in
theorem m_W_writeLantern {w : wT} {l : Launch} {x1 : Int32} {d dE : Dt} {rE : Int32} (hO : okW w) (hl9 : l.stackTraces = false) (h : f_W_writeLantern x1 d = some (rE, dE)) : gMW w l yL_writeLantern cL_writeLantern 4 (Option.some Jvm.ClassFile.FieldType.int) [(0, 9, 12, 19)] 8 8 60 [.ref (w_r w 0), .int x1, .ref (w_r w 300)] d dE (some (.int rE)) := by
  refine gMW_of (by decide) [(0, .ref (w_r w 0)), (1, .int x1), (2, .ref (w_r w 300))] rfl rfl ?_ hO
  intro p e R s m args below meth c C hR hr hlk htab
  unfold f_W_writeLantern at h
  refine g_aload_n C dL_writeLantern_0 2 rfl ?_
  refine g_iconst C dL_writeLantern_1 (v := 0) rfl ?_
  refine g_aload_n C dL_writeLantern_2 0 rfl ?_
  refine g_iload_n C dL_writeLantern_3 1 rfl ?_
  obtain ⟨z9, hc8, h⟩ := ocW_1 h
  refine g_callVW C 1 6 0 q_0 vk_W_140 hR rfl (m_C_writeLantern C.2.2.2.2.2.2.1 hl9 hc8) rfl rfl rfl dL_writeLantern_4 rfl rfl rfl rfl (fun r5 d6 e11 => ?_) (fun et6 dt10 e11 => ?_)
  · subst e11
    replace h := ocW_i h
    refine g_i2l C dL_writeLantern_7  ?_
    refine g_last C 300 q_300 (by decide) 0 (by decide) dL_writeLantern_8 ?_
    obtain ⟨d12, hd12, h⟩ := bnd_1 h
    refine g_nmD hd12 ?_
    refine g_goto C dL_writeLantern_9 (tgt := 15) rfl ?_
    refine g_iconst C dL_writeLantern_15 (v := 0) rfl ?_
    exact g_iretW C hr hlk rfl rfl rfl (congrArg Prod.snd (Option.some.inj h)) (congrArg (fun z => some (Value.int z.1)) (Option.some.inj h)) dL_writeLantern_16
  · subst e11
    replace h := ocW_t h
    by_cases qh12 : et6 = 1
    · replace h := it_t qh12 h
      subst qh12
      refine g_catch C htab 0 (nm := "java/lang/IndexOutOfBoundsException") rfl (fun q h => nomatch h) rfl (by decide) (wA 737 (by decide +kernel) (by decide +kernel)) (wO 776 (by decide +kernel) (by decide +kernel)) (fun qx => ?_)
      refine g_astore_n C (lv' := [(3, .ref qx), (0, .ref (w_r w 0)), (1, .int x1), (2, .ref (w_r w 300))]) dL_writeLantern_12 (by decide) rfl ?_
      refine g_iconst C dL_writeLantern_13 (v := 1) rfl ?_
      exact g_iretW C hr hlk rfl rfl rfl (congrArg Prod.snd (Option.some.inj h)) (congrArg (fun z => some (Value.int z.1)) (Option.some.inj h)) dL_writeLantern_14
    replace h := it_f qh12 h
    cases h
