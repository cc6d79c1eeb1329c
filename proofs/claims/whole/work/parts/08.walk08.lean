/-! 08: walks -/
set_option maxHeartbeats 4000000 in
set_option maxRecDepth 100000 in
theorem m_C_save {w : wT} {l : Launch} {d : Dt} {rE : Int32} {dE : Dt} (hO : okW w) (h : f_C_save  d = some (rE, dE)) : gM w l yX11_save cX11_save 1 (Option.some Jvm.ClassFile.FieldType.int) 3 [.ref (w_r w 0)] d dE (some (.int rE)) := by
  refine gM_of (by decide) [(0, .ref (w_r w 0))] rfl rfl ?_ hO
  intro p e R s m args below meth c C hR hr hlk
  unfold f_C_save at h
  refine g_aload_n C dX11_save_0 0 rfl ?_
  refine g_get C (.ref (w_r w 52)) 0 q_0 fk_C_19 rfl dX11_save_1 ?_
  refine g_aload_n C dX11_save_4 0 rfl ?_
  refine g_get C (.ref (w_r w 2)) 0 q_0 fk_C_10 rfl dX11_save_5 ?_
  obtain ⟨d2, hc3, h⟩ := ob1_1 h
  refine g_callVv C 52 q_52 vk_C_377 hR rfl (m_S_copyFrom C.2.2.2.2.2.2.1 stB_52 stB_2 hc3) rfl rfl rfl dX11_save_8 rfl rfl ?_
  refine g_aload_n C dX11_save_11 0 rfl ?_
  refine g_iconst C dX11_save_12 (v := 1) rfl ?_
  refine g_put C 0 q_0 pk_C_422 rfl rfl dX11_save_13 ?_
  refine g_aload_n C dX11_save_16 0 rfl ?_
  refine g_get C (.ref (w_r w 2)) 0 q_0 fk_C_10 rfl dX11_save_17 ?_
  refine g_get C (.ref (w_r w 3)) 2 q_2 fk_C_68 rfl dX11_save_20 ?_
  refine g_get C (.int ((wr d2 0 11 1) 3 0)) 3 q_3 fk_C_183 rfl dX11_save_23 ?_
  exact g_iret C hr hlk rfl (congrArg Prod.snd (Option.some.inj h)) (congrArg (fun z => some (Value.int z.1)) (Option.some.inj h)) dX11_save_26
set_option maxHeartbeats 4000000 in
set_option maxRecDepth 100000 in
theorem m_C_secondOf {w : wT} {l : Launch} {x1 : Int32} {d : Dt} {zE : (Int32 ⊕ Nat)} (hO : okW w) (hl9 : l.stackTraces = false) (h : f_C_secondOf x1 d = some zE) : gMX w l yX11_secondOf cX11_secondOf 2 (Option.some Jvm.ClassFile.FieldType.int) 7 1 6 [.ref (w_r w 0), .int x1] d (oR d zE) := by
  refine gMX_of (by decide) [(0, .ref (w_r w 0)), (1, .int x1)] rfl rfl ?_ hO
  intro p e R s m args below meth c C hR hr hlk hx
  unfold f_C_secondOf at h
  refine g_aload_n C dX11_secondOf_0 0 rfl ?_
  refine g_iload_n C dX11_secondOf_1 1 rfl ?_
  obtain ⟨z4, hc3, h⟩ := ocU_1 h
  refine g_callVU C 1 6 0 q_0 vk_C_140 hR rfl (m_C_checkStatement C.2.2.2.2.2.2.1 hl9 hc3) rfl rfl rfl dX11_secondOf_2 rfl rfl rfl rfl (fun e6 => ?_) (fun et1 e6 => ?_)
  · subst e6
    replace h := ocU_i h
    refine g_aload_n C dX11_secondOf_5 0 rfl ?_
    refine g_get C (.ref (w_r w 2)) 0 q_0 fk_C_10 rfl dX11_secondOf_6 ?_
    refine g_get C (.ref (w_r w 22)) 2 q_2 fk_C_128 rfl dX11_secondOf_9 ?_
    refine g_get C (.ref (w_r w 24)) 22 q_22 fk_C_255 rfl dX11_secondOf_12 ?_
    refine g_iload_n C dX11_secondOf_15 1 rfl ?_
    have hg7 := gd_1 h
    replace h := gd_2 h
    refine g_iald C 24 q_24 hg7 _ rfl dX11_secondOf_16 ?_
    exact g_iretX C hr hlk rfl rfl rfl (oR_i h) dX11_secondOf_17
  · subst e6
    replace h := ocU_t h
    exact g_prop C hx hlk rfl rfl (oR_t h)
set_option maxHeartbeats 4000000 in
set_option maxRecDepth 100000 in
theorem m_C_sentenceCount {w : wT} {l : Launch} {x1 : Int32} {d : Dt} {zE : (Int32 ⊕ Nat)} (hO : okW w) (hl9 : l.stackTraces = false) (h : f_C_sentenceCount x1 d = some zE) : gMX w l yX11_sentenceCount cX11_sentenceCount 2 (Option.some Jvm.ClassFile.FieldType.int) 7 1 6 [.ref (w_r w 0), .int x1] d (oR d zE) := by
  refine gMX_of (by decide) [(0, .ref (w_r w 0)), (1, .int x1)] rfl rfl ?_ hO
  intro p e R s m args below meth c C hR hr hlk hx
  unfold f_C_sentenceCount at h
  refine g_aload_n C dX11_sentenceCount_0 0 rfl ?_
  refine g_iload_n C dX11_sentenceCount_1 1 rfl ?_
  obtain ⟨z4, hc3, h⟩ := ocU_1 h
  refine g_callVU C 1 6 0 q_0 vk_C_93 hR rfl (m_C_checkLantern C.2.2.2.2.2.2.1 hl9 hc3) rfl rfl rfl dX11_sentenceCount_2 rfl rfl rfl rfl (fun e6 => ?_) (fun et1 e6 => ?_)
  · subst e6
    replace h := ocU_i h
    refine g_aload_n C dX11_sentenceCount_5 0 rfl ?_
    refine g_get C (.ref (w_r w 2)) 0 q_0 fk_C_10 rfl dX11_sentenceCount_6 ?_
    refine g_get C (.ref (w_r w 3)) 2 q_2 fk_C_68 rfl dX11_sentenceCount_9 ?_
    refine g_get C (.ref (w_r w 6)) 3 q_3 fk_C_189 rfl dX11_sentenceCount_12 ?_
    refine g_iload_n C dX11_sentenceCount_15 1 rfl ?_
    have hg7 := gd_1 h
    replace h := gd_2 h
    refine g_iald C 6 q_6 hg7 _ rfl dX11_sentenceCount_16 ?_
    exact g_iretX C hr hlk rfl rfl rfl (oR_i h) dX11_sentenceCount_17
  · subst e6
    replace h := ocU_t h
    exact g_prop C hx hlk rfl rfl (oR_t h)
set_option maxHeartbeats 4000000 in
set_option maxRecDepth 100000 in
theorem m_C_servedDays {w : wT} {l : Launch} {d : Dt} {rE : Int32} (hO : okW w) (h : f_C_servedDays  d = some rE) : gM w l yX11_servedDays cX11_servedDays 1 (Option.some Jvm.ClassFile.FieldType.int) 0 [.ref (w_r w 0)] d d (some (.int rE)) := by
  refine gM_of (by decide) [(0, .ref (w_r w 0))] rfl rfl ?_ hO
  intro p e R s m args below meth c C hR hr hlk
  unfold f_C_servedDays at h
  refine g_aload_n C dX11_servedDays_0 0 rfl ?_
  refine g_get C (.ref (w_r w 2)) 0 q_0 fk_C_10 rfl dX11_servedDays_1 ?_
  refine g_get C (.int (d 2 8)) 2 q_2 fk_C_327 rfl dX11_servedDays_4 ?_
  exact g_iret C hr hlk rfl rfl (congrArg (fun z => some (Value.int z)) (Option.some.inj h)) dX11_servedDays_7
set_option maxHeartbeats 4000000 in
set_option maxRecDepth 100000 in
theorem m_C_severity {w : wT} {l : Launch} {x1 : Int32} {d : Dt} {zE : (Int32 ⊕ Nat)} (hO : okW w) (hl9 : l.stackTraces = false) (h : f_C_severity x1 d = some zE) : gMX w l yX11_severity cX11_severity 2 (Option.some Jvm.ClassFile.FieldType.int) 7 1 6 [.ref (w_r w 0), .int x1] d (oR d zE) := by
  refine gMX_of (by decide) [(0, .ref (w_r w 0)), (1, .int x1)] rfl rfl ?_ hO
  intro p e R s m args below meth c C hR hr hlk hx
  unfold f_C_severity at h
  refine g_aload_n C dX11_severity_0 0 rfl ?_
  refine g_get C (.ref (w_r w 2)) 0 q_0 fk_C_10 rfl dX11_severity_1 ?_
  refine g_get C (.ref (w_r w 16)) 2 q_2 fk_C_108 rfl dX11_severity_4 ?_
  refine g_get C (.ref (w_r w 21)) 16 q_16 fk_C_229 rfl dX11_severity_7 ?_
  refine g_aload_n C dX11_severity_10 0 rfl ?_
  refine g_iload_n C dX11_severity_11 1 rfl ?_
  obtain ⟨z6, hc5, h⟩ := ocR_1 h
  refine g_callVR C 1 6 0 q_0 vk_C_119 hR rfl (m_C_checkedBrief C.2.2.2.2.2.2.1 hl9 hc5) rfl rfl rfl dX11_severity_12 rfl rfl rfl rfl (fun r3 e8 => ?_) (fun et3 e8 => ?_)
  · subst e8
    replace h := ocR_i h
    have hg9 := gd_1 h
    replace h := gd_2 h
    refine g_iald C 21 q_21 hg9 _ rfl dX11_severity_15 ?_
    exact g_iretX C hr hlk rfl rfl rfl (oR_i h) dX11_severity_16
  · subst e8
    replace h := ocR_t h
    exact g_prop C hx hlk rfl rfl (oR_t h)
set_option maxHeartbeats 4000000 in
set_option maxRecDepth 100000 in
theorem m_C_statementCount {w : wT} {l : Launch} {d : Dt} {rE : Int32} (hO : okW w) (h : f_C_statementCount  d = some rE) : gM w l yX11_statementCount cX11_statementCount 1 (Option.some Jvm.ClassFile.FieldType.int) 0 [.ref (w_r w 0)] d d (some (.int rE)) := by
  refine gM_of (by decide) [(0, .ref (w_r w 0))] rfl rfl ?_ hO
  intro p e R s m args below meth c C hR hr hlk
  unfold f_C_statementCount at h
  refine g_aload_n C dX11_statementCount_0 0 rfl ?_
  refine g_get C (.ref (w_r w 2)) 0 q_0 fk_C_10 rfl dX11_statementCount_1 ?_
  refine g_get C (.ref (w_r w 22)) 2 q_2 fk_C_128 rfl dX11_statementCount_4 ?_
  refine g_get C (.int (d 22 0)) 22 q_22 fk_C_251 rfl dX11_statementCount_7 ?_
  exact g_iret C hr hlk rfl rfl (congrArg (fun z => some (Value.int z)) (Option.some.inj h)) dX11_statementCount_10
set_option maxHeartbeats 4000000 in
set_option maxRecDepth 100000 in
theorem m_C_undo {w : wT} {l : Launch} {d : Dt} {zE : ((Int32 × Dt) ⊕ (Nat × Dt))} (hO : okW w) (hl9 : l.stackTraces = false) (h : f_C_undo  d = some zE) : gMX w l yX11_undo cX11_undo 1 (Option.some Jvm.ClassFile.FieldType.int) 6 1 6 [.ref (w_r w 0)] d (oW zE) := by
  refine gMX_of (by decide) [(0, .ref (w_r w 0))] rfl rfl ?_ hO
  intro p e R s m args below meth c C hR hr hlk hx
  have R37 : ∀ (v1 : Int32) (d : Dt), f_C_undo_37  v1 d = some zE → gG w p l e R s m args below meth c 1 0 0 (gEX w below args s 1 6 (oW zE)) d [(0, .ref (w_r w 0))] 37 [.int v1, .ref (w_r w 0)] := by
    intro  v1 d  h
    unfold f_C_undo_37 at h
    refine g_put C 0 q_0 pk_C_419 rfl rfl dX11_undo_37 ?_
    refine g_aload_n C dX11_undo_40 0 rfl ?_
    refine g_dup C dX11_undo_41 rfl ?_
    refine g_get C (.int ((wr d 0 9 v1) 0 10)) 0 q_0 fk_C_414 rfl dX11_undo_42 ?_
    refine g_iconst C dX11_undo_45 (v := 1) rfl ?_
    refine g_isub C dX11_undo_46  ?_
    refine g_put C 0 q_0 pk_C_414 rfl rfl dX11_undo_47 ?_
    refine g_aload_n C dX11_undo_50 0 rfl ?_
    refine g_get C (.ref (w_r w 2)) 0 q_0 fk_C_10 rfl dX11_undo_51 ?_
    refine g_aload_n C dX11_undo_54 0 rfl ?_
    refine g_get C (.ref (w_r w 1)) 0 q_0 fk_C_22 rfl dX11_undo_55 ?_
    refine g_aload_n C dX11_undo_58 0 rfl ?_
    refine g_get C (.int ((wr (wr d 0 9 v1) 0 10 (((wr d 0 9 v1) 0 10) - 1)) 0 9)) 0 q_0 fk_C_419 rfl dX11_undo_59 ?_
    have hg2 := gd_1 h
    replace h := gd_2 h
    refine g_aald3 C 1 q_1 hg2 dX11_undo_62 ?_
    obtain ⟨d3, hc4, h⟩ := ob1_1 h
    refine g_callVv C 2 q_2 vk_C_377 hR rfl (m_S_copyFrom C.2.2.2.2.2.2.1 stB_2 (stB_h hg2) hc4) rfl rfl rfl dX11_undo_63 rfl rfl ?_
    refine g_aload_n C dX11_undo_66 0 rfl ?_
    refine g_get C (.int (d3 0 10)) 0 q_0 fk_C_414 rfl dX11_undo_67 ?_
    exact g_iretX C hr hlk rfl rfl rfl (oW_i h) dX11_undo_70
  unfold f_C_undo at h
  refine g_aload_n C dX11_undo_0 0 rfl ?_
  refine g_get C (.int (d 0 10)) 0 q_0 fk_C_414 rfl dX11_undo_1 ?_
  refine g_if_ne C dX11_undo_4 (tgt := 18) rfl (fun q => ?_) (fun q => ?_)
  · replace h := it_f q h
    refine g_aload_n C dX11_undo_18 0 rfl ?_
    refine g_aload_n C dX11_undo_19 0 rfl ?_
    refine g_get C (.int (d 0 9)) 0 q_0 fk_C_419 rfl dX11_undo_20 ?_
    refine g_if_ne C dX11_undo_23 (tgt := 31) rfl (fun q => ?_) (fun q => ?_)
    · replace h := it_f q h
      refine g_aload_n C dX11_undo_31 0 rfl ?_
      refine g_get C (.int (d 0 9)) 0 q_0 fk_C_419 rfl dX11_undo_32 ?_
      refine g_iconst C dX11_undo_35 (v := 1) rfl ?_
      refine g_isub C dX11_undo_36  ?_
      exact R37 ((d 0 9) - 1) d h
    · replace h := it_t q h
      refine g_bipush C dX11_undo_26 (v := 7) (by decide) ?_
      refine g_goto C dX11_undo_28 (tgt := 37) rfl ?_
      exact R37 7 d h
  · replace h := it_t q h
    exact g_throwSW C hl9 th_C_78_82 (i := 27) (by decide) (by decide +kernel) (by decide +kernel) hx hlk hR rfl dX11_undo_7 dX11_undo_10 dX11_undo_11 dX11_undo_14 dX11_undo_17 rfl rfl rfl rfl rfl (oW_t h)
set_option maxHeartbeats 4000000 in
set_option maxRecDepth 100000 in
theorem m_C_undoCount {w : wT} {l : Launch} {d : Dt} {rE : Int32} (hO : okW w) (h : f_C_undoCount  d = some rE) : gM w l yX11_undoCount cX11_undoCount 1 (Option.some Jvm.ClassFile.FieldType.int) 0 [.ref (w_r w 0)] d d (some (.int rE)) := by
  refine gM_of (by decide) [(0, .ref (w_r w 0))] rfl rfl ?_ hO
  intro p e R s m args below meth c C hR hr hlk
  unfold f_C_undoCount at h
  refine g_aload_n C dX11_undoCount_0 0 rfl ?_
  refine g_get C (.int (d 0 10)) 0 q_0 fk_C_414 rfl dX11_undoCount_1 ?_
  exact g_iret C hr hlk rfl rfl (congrArg (fun z => some (Value.int z)) (Option.some.inj h)) dX11_undoCount_4
set_option maxHeartbeats 4000000 in
set_option maxRecDepth 100000 in
theorem m_C_verdict {w : wT} {l : Launch} {x1 : Int32} {d : Dt} {zE : ((Int32 × Dt) ⊕ (Nat × Dt))} (hO : okW w) (hl9 : l.stackTraces = false) (h : f_C_verdict x1 d = some zE) : gMX w l yX11_verdict cX11_verdict 2 (Option.some Jvm.ClassFile.FieldType.char) 7 1 6 [.ref (w_r w 0), .int x1] d (oW zE) := by
  refine gMX_of (by decide) [(0, .ref (w_r w 0)), (1, .int x1)] rfl rfl ?_ hO
  intro p e R s m args below meth c C hR hr hlk hx
  unfold f_C_verdict at h
  refine g_aload_n C dX11_verdict_0 0 rfl ?_
  refine g_iload_n C dX11_verdict_1 1 rfl ?_
  obtain ⟨z6, hc5, h⟩ := ocU_1 h
  refine g_callVU C 1 6 0 q_0 vk_C_93 hR rfl (m_C_checkLantern C.2.2.2.2.2.2.1 hl9 hc5) rfl rfl rfl dX11_verdict_2 rfl rfl rfl rfl (fun e8 => ?_) (fun et3 e8 => ?_)
  · subst e8
    replace h := ocU_i h
    refine g_aload_n C dX11_verdict_5 0 rfl ?_
    refine g_get C (.ref (w_r w 281)) 0 q_0 fk_C_36 rfl dX11_verdict_6 ?_
    refine g_aload_n C dX11_verdict_9 0 rfl ?_
    refine g_get C (.ref (w_r w 2)) 0 q_0 fk_C_10 rfl dX11_verdict_10 ?_
    refine g_get C (.ref (w_r w 3)) 2 q_2 fk_C_68 rfl dX11_verdict_13 ?_
    refine g_aload_n C dX11_verdict_16 0 rfl ?_
    refine g_get C (.ref (w_r w 2)) 0 q_0 fk_C_10 rfl dX11_verdict_17 ?_
    refine g_get C (.ref (w_r w 22)) 2 q_2 fk_C_128 rfl dX11_verdict_20 ?_
    refine g_iconst C dX11_verdict_23 (v := (-1)) (by decide) ?_
    obtain ⟨d9, hc10, h⟩ := ob1_1 h
    refine g_callVv C 281 q_281 vk_C_262 hR rfl (m_G_find C.2.2.2.2.2.2.1 hc10) rfl rfl rfl dX11_verdict_24 rfl rfl ?_
    refine g_aload_n C dX11_verdict_27 0 rfl ?_
    refine g_get C (.ref (w_r w 281)) 0 q_0 fk_C_36 rfl dX11_verdict_28 ?_
    refine g_iload_n C dX11_verdict_31 1 rfl ?_
    obtain ⟨r11, hc12, h⟩ := ob1_1 h
    refine g_callVi C 281 q_281 vk_C_284 hR rfl (m_G_verdictOn C.2.2.2.2.2.2.1 hc12) rfl rfl rfl dX11_verdict_32 rfl rfl ?_
    have hg13 := gd_1 h
    replace h := gd_2 h
    exact g_iretX C hr hlk (nar_n hg13) rfl rfl (oW_i h) dX11_verdict_35
  · subst e8
    replace h := ocU_t h
    exact g_prop C hx hlk rfl rfl (oW_t h)
set_option maxHeartbeats 4000000 in
set_option maxRecDepth 100000 in
theorem m_C_verdictByExplanations {w : wT} {l : Launch} {x1 : Int32} {d : Dt} {zE : ((Int32 × Dt) ⊕ (Nat × Dt))} (hO : okW w) (hl9 : l.stackTraces = false) (h : f_C_verdictByExplanations x1 d = some zE) : gMX w l yX11_verdictByExplanations cX11_verdictByExplanations 2 (Option.some Jvm.ClassFile.FieldType.char) 7 1 6 [.ref (w_r w 0), .int x1] d (oW zE) := by
  refine gMX_of (by decide) [(0, .ref (w_r w 0)), (1, .int x1)] rfl rfl ?_ hO
  intro p e R s m args below meth c C hR hr hlk hx
  unfold f_C_verdictByExplanations at h
  refine g_aload_n C dX11_verdictByExplanations_0 0 rfl ?_
  refine g_iload_n C dX11_verdictByExplanations_1 1 rfl ?_
  obtain ⟨z6, hc5, h⟩ := ocU_1 h
  refine g_callVU C 1 6 0 q_0 vk_C_93 hR rfl (m_C_checkLantern C.2.2.2.2.2.2.1 hl9 hc5) rfl rfl rfl dX11_verdictByExplanations_2 rfl rfl rfl rfl (fun e8 => ?_) (fun et3 e8 => ?_)
  · subst e8
    replace h := ocU_i h
    refine g_aload_n C dX11_verdictByExplanations_5 0 rfl ?_
    refine g_get C (.ref (w_r w 286)) 0 q_0 fk_C_43 rfl dX11_verdictByExplanations_6 ?_
    refine g_iload_n C dX11_verdictByExplanations_9 1 rfl ?_
    refine g_aload_n C dX11_verdictByExplanations_10 0 rfl ?_
    refine g_get C (.ref (w_r w 2)) 0 q_0 fk_C_10 rfl dX11_verdictByExplanations_11 ?_
    refine g_get C (.ref (w_r w 3)) 2 q_2 fk_C_68 rfl dX11_verdictByExplanations_14 ?_
    refine g_aload_n C dX11_verdictByExplanations_17 0 rfl ?_
    refine g_get C (.ref (w_r w 2)) 0 q_0 fk_C_10 rfl dX11_verdictByExplanations_18 ?_
    refine g_get C (.ref (w_r w 22)) 2 q_2 fk_C_128 rfl dX11_verdictByExplanations_21 ?_
    obtain ⟨r9, d10, hc11, h⟩ := ob2_1 h
    refine g_callVi C 286 q_286 vk_C_288 hR rfl (m_R_verdictOn C.2.2.2.2.2.2.1 hc11) rfl rfl rfl dX11_verdictByExplanations_24 rfl rfl ?_
    have hg12 := gd_1 h
    replace h := gd_2 h
    exact g_iretX C hr hlk (nar_n hg12) rfl rfl (oW_i h) dX11_verdictByExplanations_27
  · subst e8
    replace h := ocU_t h
    exact g_prop C hx hlk rfl rfl (oW_t h)
set_option maxHeartbeats 4000000 in
set_option maxRecDepth 100000 in
theorem m_C_withdraw {w : wT} {l : Launch} {x1 : Int32} {d : Dt} {zE : ((Int32 × Dt) ⊕ (Nat × Dt))} (hO : okW w) (hl9 : l.stackTraces = false) (h : f_C_withdraw x1 d = some zE) : gMX w l yX11_withdraw cX11_withdraw 3 (Option.some Jvm.ClassFile.FieldType.int) 7 1 6 [.ref (w_r w 0), .int x1] d (oW zE) := by
  refine gMX_of (by decide) [(0, .ref (w_r w 0)), (1, .int x1)] rfl rfl ?_ hO
  intro p e R s m args below meth c C hR hr hlk hx
  unfold f_C_withdraw at h
  refine g_aload_n C dX11_withdraw_0 0 rfl ?_
  refine g_iload_n C dX11_withdraw_1 1 rfl ?_
  obtain ⟨z9, hc8, h⟩ := ocR_1 h
  refine g_callVR C 1 6 0 q_0 vk_C_119 hR rfl (m_C_checkedBrief C.2.2.2.2.2.2.1 hl9 hc8) rfl rfl rfl dX11_withdraw_2 rfl rfl rfl rfl (fun r6 e11 => ?_) (fun et6 e11 => ?_)
  · subst e11
    replace h := ocR_i h
    refine g_istore_n C (lv' := [(2, .int r6), (0, .ref (w_r w 0)), (1, .int x1)]) dX11_withdraw_5 (by decide) rfl ?_
    refine g_aload_n C dX11_withdraw_6 1 rfl ?_
    refine g_aload_n C dX11_withdraw_7 1 rfl ?_
    refine g_get C (.ref (w_r w 2)) 0 q_0 fk_C_10 rfl dX11_withdraw_8 ?_
    obtain ⟨d12, hc13, h⟩ := ob1_1 h
    refine g_callVv C 0 q_0 vk_C_85 hR rfl (m_C_remember C.2.2.2.2.2.2.1 hc13) rfl rfl rfl dX11_withdraw_11 rfl rfl ?_
    refine g_aload_n C dX11_withdraw_14 1 rfl ?_
    refine g_get C (.ref (w_r w 2)) 0 q_0 fk_C_10 rfl dX11_withdraw_15 ?_
    refine g_iload_n C dX11_withdraw_18 0 rfl ?_
    obtain ⟨r14, d15, hc16, h⟩ := ob2_1 h
    refine g_callVi C 2 q_2 vk_C_123 hR rfl (m_S_giveBack C.2.2.2.2.2.2.1 hc16) rfl rfl rfl dX11_withdraw_19 rfl rfl ?_
    exact g_iretX C hr hlk rfl rfl rfl (oW_i h) dX11_withdraw_22
  · subst e11
    replace h := ocR_t h
    exact g_prop C hx hlk rfl rfl (oW_t h)
set_option maxHeartbeats 4000000 in
set_option maxRecDepth 100000 in
theorem m_O_put {w : wT} {l : Launch} {x1 : Int32} {d : Dt} {dE : Dt} (hO : okW w) (h : f_O_put x1 d = some dE) : gM w l yX6_put cX6_put 2 (Option.none : Option Jvm.ClassFile.FieldType) 0 [.ref (w_r w 290), .int x1] d dE none := by
  refine gM_of (by decide) [(0, .ref (w_r w 290)), (1, .int x1)] rfl rfl ?_ hO
  intro p e R s m args below meth c C hR hr hlk
  unfold f_O_put at h
  refine g_aload_n C dX6_put_0 0 rfl ?_
  refine g_get C (.int (d 290 1)) 290 q_290 fk_O_15 rfl dX6_put_1 ?_
  refine g_aload_n C dX6_put_4 0 rfl ?_
  refine g_get C (.ref (w_r w 291)) 290 q_290 fk_O_9 rfl dX6_put_5 ?_
  refine g_alen C 128 291 q_291 rfl 1 rfl (by decide) dX6_put_8 ?_
  refine g_icmp_ge C dX6_put_9 (tgt := 32) rfl (fun q => ?_) (fun q => ?_)
  · replace h := it_t q h
    exact g_vret C hr hlk (Option.some.inj h) rfl dX6_put_32
  · replace h := it_f q h
    refine g_aload_n C dX6_put_12 0 rfl ?_
    refine g_get C (.ref (w_r w 291)) 290 q_290 fk_O_9 rfl dX6_put_13 ?_
    refine g_aload_n C dX6_put_16 0 rfl ?_
    refine g_get C (.int (d 290 1)) 290 q_290 fk_O_15 rfl dX6_put_17 ?_
    refine g_iload_n C dX6_put_20 1 rfl ?_
    have hg1 := gd_1 h
    replace h := gd_2 h
    have hg2 := gd_1 h
    replace h := gd_2 h
    refine g_cast C 291 q_291 hg1 _ rfl (nar_v hg2) dX6_put_21 ?_
    refine g_aload_n C dX6_put_22 0 rfl ?_
    refine g_dup C dX6_put_23 rfl ?_
    refine g_get C (.int ((wr d 291 (d 290 1).toNatClampNeg x1) 290 1)) 290 q_290 fk_O_15 rfl dX6_put_24 ?_
    refine g_iconst C dX6_put_27 (v := 1) rfl ?_
    refine g_iadd C dX6_put_28  ?_
    refine g_put C 290 q_290 pk_O_15 rfl rfl dX6_put_29 ?_
    exact g_vret C hr hlk (Option.some.inj h) rfl dX6_put_32
set_option maxHeartbeats 4000000 in
set_option maxRecDepth 100000 in
theorem m_O_putNumber {w : wT} {l : Launch} {x1 : Int32} {d : Dt} {dE : Dt} (hO : okW w) (h : f_O_putNumber x1 d = some dE) : gM w l yX6_putNumber cX6_putNumber 3 (Option.none : Option Jvm.ClassFile.FieldType) 1 [.ref (w_r w 290), .int x1] d dE none := by
  refine gM_of (by decide) [(0, .ref (w_r w 290)), (1, .int x1)] rfl rfl ?_ hO
  intro p e R s m args below meth c C hR hr hlk
  have R3 : ∀ (x1 : Int32) (x2 : Int32) (d : Dt), f_O_putNumber_3 x1 x2 d = some dE → gG w p l e R s m args below meth c 3 0 0 (gE w below args s dE none) d [(0, .ref (w_r w 290)), (1, .int x1), (2, .int x2)] 3 [] := by
    intro x1 x2 d  h
    refine iter_ind (G := fun s_ : (Int32 × Dt) => gG w p l e R s m args below meth c 3 0 0 (gE w below args s dE none) s_.2 [(0, .ref (w_r w 290)), (1, .int x1), (2, .int s_.1)] 3 []) ?_ fu _ h
    clear h
    intro s_ y1 h hl1 hx1
    obtain ⟨x2, d⟩ := s_
    show gG w p l e R s m args below meth c 3 0 0 (gE w below args s dE none) d [(0, .ref (w_r w 290)), (1, .int x1), (2, .int x2)] 3 []
    dsimp only at h
    unfold st_O_putNumber_3 at h
    have R18 : ∀ (x2 : Int32) (d : Dt), f_O_putNumber_18 x1 x2  d = some y1 → gG w p l e R s m args below meth c 3 0 0 (gE w below args s dE none) d [(0, .ref (w_r w 290)), (1, .int x1), (2, .int x2)] 18 [] := by
      intro x2  d  h
      unfold f_O_putNumber_18 at h
      refine g_aload_n C dX6_putNumber_18 0 rfl ?_
      refine g_bipush C dX6_putNumber_19 (v := 48) (by decide) ?_
      refine g_iload_n C dX6_putNumber_21 1 rfl ?_
      refine g_iload_n C dX6_putNumber_22 2 rfl ?_
      have hg2 := of_decide_eq_true (gd_1 h)
      replace h := gd_2 h
      refine g_idiv C dX6_putNumber_23 hg2 ?_
      refine g_bipush C dX6_putNumber_24 (v := 10) (by decide) ?_
      refine g_irem C dX6_putNumber_26 (by decide) ?_
      refine g_iadd C dX6_putNumber_27  ?_
      refine g_i2c C dX6_putNumber_28  ?_
      obtain ⟨d3, hc4, h⟩ := ob1_1 h
      refine g_callVv C 290 q_290 vk_O_20 hR rfl (m_O_put C.2.2.2.2.2.2.1 hc4) rfl rfl rfl dX6_putNumber_29 rfl rfl ?_
      refine g_iload_n C dX6_putNumber_32 2 rfl ?_
      refine g_bipush C dX6_putNumber_33 (v := 10) (by decide) ?_
      refine g_idiv C dX6_putNumber_35 (by decide) ?_
      refine g_istore_n C (lv' := [(2, .int (x2 / 10)), (0, .ref (w_r w 290)), (1, .int x1)]) dX6_putNumber_36 (by decide) rfl ?_
      refine g_goto C dX6_putNumber_37 (tgt := 3) rfl ?_
      refine g_sub [1, 2, 0] (lv' := [(0, .ref (w_r w 290)), (1, .int x1), (2, .int (x2 / 10))]) rfl ?_
      exact hl1 ((x2 / 10), d3) (Option.some.inj h).symm
    refine g_iload_n C dX6_putNumber_3 2 rfl ?_
    refine g_iconst C dX6_putNumber_4 (v := 1) rfl ?_
    refine g_icmp_lt C dX6_putNumber_5 (tgt := 40) rfl (fun q => ?_) (fun q => ?_)
    · replace h := it_t q h
      replace h := ir_2 h hx1
      exact g_vret C hr hlk (Option.some.inj h) rfl dX6_putNumber_40
    · replace h := it_f q h
      refine g_iload_n C dX6_putNumber_8 1 rfl ?_
      refine g_iload_n C dX6_putNumber_9 2 rfl ?_
      refine g_icmp_ge C dX6_putNumber_10 (tgt := 18) rfl (fun q => ?_) (fun q => ?_)
      · replace h := it_t q h
        exact R18 x2 d h
      · replace h := it_f q h
        refine g_iload_n C dX6_putNumber_13 2 rfl ?_
        refine g_iconst C dX6_putNumber_14 (v := 1) rfl ?_
        refine g_icmp_ne C dX6_putNumber_15 (tgt := 32) rfl (fun q => ?_) (fun q => ?_)
        · replace h := it_f q h
          refine g_iload_n C dX6_putNumber_32 2 rfl ?_
          refine g_bipush C dX6_putNumber_33 (v := 10) (by decide) ?_
          refine g_idiv C dX6_putNumber_35 (by decide) ?_
          refine g_istore_n C (lv' := [(2, .int (x2 / 10)), (0, .ref (w_r w 290)), (1, .int x1)]) dX6_putNumber_36 (by decide) rfl ?_
          refine g_goto C dX6_putNumber_37 (tgt := 3) rfl ?_
          refine g_sub [1, 2, 0] (lv' := [(0, .ref (w_r w 290)), (1, .int x1), (2, .int (x2 / 10))]) rfl ?_
          exact hl1 ((x2 / 10), d) (Option.some.inj h).symm
        · replace h := it_t q h
          exact R18 x2 d h
  unfold f_O_putNumber at h
  refine g_ldc C (v := 1000000000) (wA 609 (by decide +kernel) (by decide +kernel)) dX6_putNumber_0 ?_
  refine g_istore_n C (lv' := [(2, .int 1000000000), (0, .ref (w_r w 290)), (1, .int x1)]) dX6_putNumber_2 (by decide) rfl ?_
  refine g_sub [1, 2, 0] (lv' := [(0, .ref (w_r w 290)), (1, .int x1), (2, .int 1000000000)]) rfl ?_
  exact R3 x1 1000000000 d h
set_option maxHeartbeats 4000000 in
set_option maxRecDepth 100000 in
theorem m_O_empty {w : wT} {l : Launch} {d : Dt} {dE : Dt} (hO : okW w) (h : f_O_empty  d = some dE) : gM w l yX6_empty cX6_empty 1 (Option.none : Option Jvm.ClassFile.FieldType) 0 [.ref (w_r w 290)] d dE none := by
  refine gM_of (by decide) [(0, .ref (w_r w 290))] rfl rfl ?_ hO
  intro p e R s m args below meth c C hR hr hlk
  unfold f_O_empty at h
  refine g_aload_n C dX6_empty_0 0 rfl ?_
  refine g_iconst C dX6_empty_1 (v := 0) rfl ?_
  refine g_put C 290 q_290 pk_O_15 rfl rfl dX6_empty_2 ?_
  exact g_vret C hr hlk (Option.some.inj h) rfl dX6_empty_5
set_option maxHeartbeats 4000000 in
set_option maxRecDepth 100000 in
theorem m_C_writeLantern {w : wT} {l : Launch} {x1 : Int32} {d : Dt} {zE : ((Int32 × Dt) ⊕ (Nat × Dt))} (hO : okW w) (hl9 : l.stackTraces = false) (h : f_C_writeLantern x1 d = some zE) : gMX w l yX11_writeLantern cX11_writeLantern 3 (Option.some Jvm.ClassFile.FieldType.int) 7 1 6 [.ref (w_r w 0), .int x1] d (oW zE) := by
  refine gMX_of (by decide) [(0, .ref (w_r w 0)), (1, .int x1)] rfl rfl ?_ hO
  intro p e R s m args below meth c C hR hr hlk hx
  have R99 : ∀ (x1 : Int32) (x2 : Int32) (d : Dt), f_C_writeLantern_99 x1 x2 d = some zE → gG w p l e R s m args below meth c 3 1 6 (gEX w below args s 1 6 (oW zE)) d [(0, .ref (w_r w 0)), (1, .int x1), (2, .int x2)] 99 [] := by
    intro x1 x2 d  h
    refine iter_ind (G := fun s_ : (Int32 × Dt) => gG w p l e R s m args below meth c 3 1 6 (gEX w below args s 1 6 (oW zE)) s_.2 [(0, .ref (w_r w 0)), (1, .int x1), (2, .int s_.1)] 99 []) ?_ fu _ h
    clear h
    intro s_ y1 h hl1 hx1
    obtain ⟨x2, d⟩ := s_
    show gG w p l e R s m args below meth c 3 1 6 (gEX w below args s 1 6 (oW zE)) d [(0, .ref (w_r w 0)), (1, .int x1), (2, .int x2)] 99 []
    dsimp only at h
    unfold st_C_writeLantern_99 at h
    refine g_iload_n C dX11_writeLantern_99 2 rfl ?_
    refine g_aload_n C dX11_writeLantern_100 0 rfl ?_
    refine g_get C (.ref (w_r w 2)) 0 q_0 fk_C_10 rfl dX11_writeLantern_101 ?_
    refine g_get C (.ref (w_r w 3)) 2 q_2 fk_C_68 rfl dX11_writeLantern_104 ?_
    refine g_get C (.ref (w_r w 6)) 3 q_3 fk_C_189 rfl dX11_writeLantern_107 ?_
    refine g_iload_n C dX11_writeLantern_110 1 rfl ?_
    have hg9 := gd_1 h
    replace h := gd_2 h
    refine g_iald C 6 q_6 hg9 _ rfl dX11_writeLantern_111 ?_
    refine g_icmp_ge C dX11_writeLantern_112 (tgt := 151) rfl (fun q => ?_) (fun q => ?_)
    · replace h := it_t q h
      replace h := ir_2 h hx1
      refine g_aload_n C dX11_writeLantern_151 0 rfl ?_
      refine g_get C (.ref (w_r w 290)) 0 q_0 fk_C_57 rfl dX11_writeLantern_152 ?_
      refine g_get C (.int (d 290 1)) 290 q_290 fk_C_400 rfl dX11_writeLantern_155 ?_
      exact g_iretX C hr hlk rfl rfl rfl (oW_i h) dX11_writeLantern_158
    · replace h := it_f q h
      refine g_aload_n C dX11_writeLantern_115 0 rfl ?_
      refine g_get C (.ref (w_r w 290)) 0 q_0 fk_C_57 rfl dX11_writeLantern_116 ?_
      refine g_bipush C dX11_writeLantern_119 (v := 47) (by decide) ?_
      obtain ⟨d10, hc11, h⟩ := ob1_1 h
      refine g_callVv C 290 q_290 vk_C_396 hR rfl (m_O_put C.2.2.2.2.2.2.1 hc11) rfl rfl rfl dX11_writeLantern_121 rfl rfl ?_
      refine g_aload_n C dX11_writeLantern_124 0 rfl ?_
      refine g_get C (.ref (w_r w 290)) 0 q_0 fk_C_57 rfl dX11_writeLantern_125 ?_
      refine g_aload_n C dX11_writeLantern_128 0 rfl ?_
      refine g_get C (.ref (w_r w 2)) 0 q_0 fk_C_10 rfl dX11_writeLantern_129 ?_
      refine g_get C (.ref (w_r w 3)) 2 q_2 fk_C_68 rfl dX11_writeLantern_132 ?_
      refine g_get C (.ref (w_r w 7)) 3 q_3 fk_C_192 rfl dX11_writeLantern_135 ?_
      refine g_iload_n C dX11_writeLantern_138 1 rfl ?_
      have hg12 := gd_1 h
      replace h := gd_2 h
      refine g_aald C 7 q_7 hg12 dX11_writeLantern_139 ?_
      refine g_iload_n C dX11_writeLantern_140 2 rfl ?_
      have hg13 := gd_1 h
      replace h := gd_2 h
      refine g_iald C (8 + x1.toNatClampNeg) (isC_row8 hg12) hg13 _ rfl dX11_writeLantern_141 ?_
      obtain ⟨d14, hc15, h⟩ := ob1_1 h
      refine g_callVv C 290 q_290 vk_C_393 hR rfl (m_O_putNumber C.2.2.2.2.2.2.1 hc15) rfl rfl rfl dX11_writeLantern_142 rfl rfl ?_
      refine g_iinc C (lv' := [(2, .int (x2 + 1)), (0, .ref (w_r w 0)), (1, .int x1)]) (v := (x2 + 1)) dX11_writeLantern_145 2 rfl rfl (by decide) rfl ?_
      refine g_goto C dX11_writeLantern_148 (tgt := 99) rfl ?_
      refine g_sub [1, 2, 0] (lv' := [(0, .ref (w_r w 0)), (1, .int x1), (2, .int (x2 + 1))]) rfl ?_
      exact hl1 ((x2 + 1), d14) (Option.some.inj h).symm
  have R94 : ∀ (x1 : Int32) (v1 : Int32) (d : Dt), f_C_writeLantern_94 x1 v1 d = some zE → gG w p l e R s m args below meth c 3 1 6 (gEX w below args s 1 6 (oW zE)) d [(0, .ref (w_r w 0)), (1, .int x1)] 94 [.int v1, .ref (w_r w 290)] := by
    intro x1 v1 d  h
    unfold f_C_writeLantern_94 at h
    obtain ⟨d16, hc17, h⟩ := ob1_1 h
    refine g_callVv C 290 q_290 vk_C_396 hR rfl (m_O_put C.2.2.2.2.2.2.1 hc17) rfl rfl rfl dX11_writeLantern_94 rfl rfl ?_
    refine g_iconst C dX11_writeLantern_97 (v := 0) rfl ?_
    refine g_istore_n C (lv' := [(2, .int 0), (0, .ref (w_r w 0)), (1, .int x1)]) dX11_writeLantern_98 (by decide) rfl ?_
    refine g_sub [1, 2, 0] (lv' := [(0, .ref (w_r w 0)), (1, .int x1), (2, .int 0)]) rfl ?_
    exact R99 x1 0 d16 h
  have R22 : ∀ (x1 : Int32) (x2 : Int32) (d : Dt), f_C_writeLantern_22 x1 x2 d = some zE → gG w p l e R s m args below meth c 3 1 6 (gEX w below args s 1 6 (oW zE)) d [(0, .ref (w_r w 0)), (1, .int x1), (2, .int x2)] 22 [] := by
    intro x1 x2 d  h
    refine iter_ind (G := fun s_ : (Int32 × Dt) => gG w p l e R s m args below meth c 3 1 6 (gEX w below args s 1 6 (oW zE)) s_.2 [(0, .ref (w_r w 0)), (1, .int x1), (2, .int s_.1)] 22 []) ?_ fu _ h
    clear h
    intro s_ y1 h hl1 hx1
    obtain ⟨x2, d⟩ := s_
    show gG w p l e R s m args below meth c 3 1 6 (gEX w below args s 1 6 (oW zE)) d [(0, .ref (w_r w 0)), (1, .int x1), (2, .int x2)] 22 []
    dsimp only at h
    unfold st_C_writeLantern_22 at h
    refine g_iload_n C dX11_writeLantern_22 2 rfl ?_
    refine g_aload_n C dX11_writeLantern_23 0 rfl ?_
    refine g_get C (.ref (w_r w 2)) 0 q_0 fk_C_10 rfl dX11_writeLantern_24 ?_
    refine g_get C (.ref (w_r w 3)) 2 q_2 fk_C_68 rfl dX11_writeLantern_27 ?_
    refine g_get C (.ref (w_r w 4)) 3 q_3 fk_C_186 rfl dX11_writeLantern_30 ?_
    refine g_iload_n C dX11_writeLantern_33 1 rfl ?_
    have hg18 := gd_1 h
    replace h := gd_2 h
    refine g_iald C 4 q_4 hg18 _ rfl dX11_writeLantern_34 ?_
    refine g_icmp_ge C dX11_writeLantern_35 (tgt := 53) rfl (fun q => ?_) (fun q => ?_)
    · replace h := it_t q h
      replace h := ir_2 h hx1
      refine g_aload_n C dX11_writeLantern_53 0 rfl ?_
      refine g_get C (.ref (w_r w 2)) 0 q_0 fk_C_10 rfl dX11_writeLantern_54 ?_
      refine g_get C (.ref (w_r w 3)) 2 q_2 fk_C_68 rfl dX11_writeLantern_57 ?_
      refine g_get C (.ref (w_r w 5)) 3 q_3 fk_C_156 rfl dX11_writeLantern_60 ?_
      refine g_iload_n C dX11_writeLantern_63 1 rfl ?_
      have hg19 := gd_1 h
      replace h := gd_2 h
      refine g_iald C 5 q_5 hg19 _ rfl dX11_writeLantern_64 ?_
      refine g_if_eq C dX11_writeLantern_65 (tgt := 97) rfl (fun q => ?_) (fun q => ?_)
      · replace h := it_t q h
        refine g_iconst C dX11_writeLantern_97 (v := 0) rfl ?_
        refine g_istore_n C (lv' := [(2, .int 0), (0, .ref (w_r w 0)), (1, .int x1)]) dX11_writeLantern_98 (by decide) rfl ?_
        refine g_sub [1, 2, 0] (lv' := [(0, .ref (w_r w 0)), (1, .int x1), (2, .int 0)]) rfl ?_
        exact R99 x1 0 d h
      · replace h := it_f q h
        refine g_aload_n C dX11_writeLantern_68 0 rfl ?_
        refine g_get C (.ref (w_r w 290)) 0 q_0 fk_C_57 rfl dX11_writeLantern_69 ?_
        refine g_aload_n C dX11_writeLantern_72 0 rfl ?_
        refine g_get C (.ref (w_r w 2)) 0 q_0 fk_C_10 rfl dX11_writeLantern_73 ?_
        refine g_get C (.ref (w_r w 3)) 2 q_2 fk_C_68 rfl dX11_writeLantern_76 ?_
        refine g_iload_n C dX11_writeLantern_79 1 rfl ?_
        refine g_iconst C dX11_writeLantern_80 (v := 1) rfl ?_
        obtain ⟨r20, hc21, h⟩ := ob1_1 h
        refine g_callVi C 3 q_3 vk_C_146 hR rfl (m_L_admits C.2.2.2.2.2.2.1 hc21) rfl rfl rfl dX11_writeLantern_81 rfl rfl ?_
        refine g_if_eq C dX11_writeLantern_84 (tgt := 92) rfl (fun q => ?_) (fun q => ?_)
        · replace h := it_t q h
          refine g_bipush C dX11_writeLantern_92 (v := 105) (by decide) ?_
          refine g_sub [0, 1] (lv' := [(0, .ref (w_r w 0)), (1, .int x1)]) rfl ?_
          exact R94 x1 105 d h
        · replace h := it_f q h
          refine g_bipush C dX11_writeLantern_87 (v := 103) (by decide) ?_
          refine g_goto C dX11_writeLantern_89 (tgt := 94) rfl ?_
          refine g_sub [0, 1] (lv' := [(0, .ref (w_r w 0)), (1, .int x1)]) rfl ?_
          exact R94 x1 103 d h
    · replace h := it_f q h
      refine g_aload_n C dX11_writeLantern_38 0 rfl ?_
      refine g_get C (.ref (w_r w 290)) 0 q_0 fk_C_57 rfl dX11_writeLantern_39 ?_
      refine g_bipush C dX11_writeLantern_42 (v := 42) (by decide) ?_
      obtain ⟨d22, hc23, h⟩ := ob1_1 h
      refine g_callVv C 290 q_290 vk_C_396 hR rfl (m_O_put C.2.2.2.2.2.2.1 hc23) rfl rfl rfl dX11_writeLantern_44 rfl rfl ?_
      refine g_iinc C (lv' := [(2, .int (x2 + 1)), (0, .ref (w_r w 0)), (1, .int x1)]) (v := (x2 + 1)) dX11_writeLantern_47 2 rfl rfl (by decide) rfl ?_
      refine g_goto C dX11_writeLantern_50 (tgt := 22) rfl ?_
      refine g_sub [1, 2, 0] (lv' := [(0, .ref (w_r w 0)), (1, .int x1), (2, .int (x2 + 1))]) rfl ?_
      exact hl1 ((x2 + 1), d22) (Option.some.inj h).symm
  unfold f_C_writeLantern at h
  refine g_aload_n C dX11_writeLantern_0 0 rfl ?_
  refine g_iload_n C dX11_writeLantern_1 1 rfl ?_
  obtain ⟨z26, hc25, h⟩ := ocU_1 h
  refine g_callVU C 1 6 0 q_0 vk_C_93 hR rfl (m_C_checkLantern C.2.2.2.2.2.2.1 hl9 hc25) rfl rfl rfl dX11_writeLantern_2 rfl rfl rfl rfl (fun e28 => ?_) (fun et23 e28 => ?_)
  · subst e28
    replace h := ocU_i h
    refine g_aload_n C dX11_writeLantern_5 0 rfl ?_
    refine g_get C (.ref (w_r w 290)) 0 q_0 fk_C_57 rfl dX11_writeLantern_6 ?_
    obtain ⟨d29, hc30, h⟩ := ob1_1 h
    refine g_callVv C 290 q_290 vk_C_392 hR rfl (m_O_empty C.2.2.2.2.2.2.1 hc30) rfl rfl rfl dX11_writeLantern_9 rfl rfl ?_
    refine g_aload_n C dX11_writeLantern_12 0 rfl ?_
    refine g_get C (.ref (w_r w 290)) 0 q_0 fk_C_57 rfl dX11_writeLantern_13 ?_
    refine g_iload_n C dX11_writeLantern_16 1 rfl ?_
    obtain ⟨d31, hc32, h⟩ := ob1_1 h
    refine g_callVv C 290 q_290 vk_C_393 hR rfl (m_O_putNumber C.2.2.2.2.2.2.1 hc32) rfl rfl rfl dX11_writeLantern_17 rfl rfl ?_
    refine g_iconst C dX11_writeLantern_20 (v := 0) rfl ?_
    refine g_istore_n C (lv' := [(2, .int 0), (0, .ref (w_r w 0)), (1, .int x1)]) dX11_writeLantern_21 (by decide) rfl ?_
    refine g_sub [1, 2, 0] (lv' := [(0, .ref (w_r w 0)), (1, .int x1), (2, .int 0)]) rfl ?_
    exact R22 x1 0 d31 h
  · subst e28
    replace h := ocU_t h
    exact g_prop C hx hlk rfl rfl (oW_t h)
set_option maxHeartbeats 4000000 in
set_option maxRecDepth 100000 in
theorem m_C_writePlan {w : wT} {l : Launch} {d : Dt} {rE : Int32} {dE : Dt} (hO : okW w) (h : f_C_writePlan  d = some (rE, dE)) : gM w l yX11_writePlan cX11_writePlan 2 (Option.some Jvm.ClassFile.FieldType.int) 3 [.ref (w_r w 0)] d dE (some (.int rE)) := by
  refine gM_of (by decide) [(0, .ref (w_r w 0))] rfl rfl ?_ hO
  intro p e R s m args below meth c C hR hr hlk
  have R30 : ∀ (x1 : Int32) (d : Dt), f_C_writePlan_30 x1 d = some (rE, dE) → gG w p l e R s m args below meth c 2 0 0 (gE w below args s dE (some (.int rE))) d [(0, .ref (w_r w 0)), (1, .int x1)] 30 [] := by
    intro x1 d  h
    refine iter_ind (G := fun s_ : (Int32 × Dt) => gG w p l e R s m args below meth c 2 0 0 (gE w below args s dE (some (.int rE))) s_.2 [(0, .ref (w_r w 0)), (1, .int s_.1)] 30 []) ?_ fu _ h
    clear h
    intro s_ y1 h hl1 hx1
    obtain ⟨x1, d⟩ := s_
    show gG w p l e R s m args below meth c 2 0 0 (gE w below args s dE (some (.int rE))) d [(0, .ref (w_r w 0)), (1, .int x1)] 30 []
    dsimp only at h
    unfold st_C_writePlan_30 at h
    have R54 : ∀ (x1 : Int32) (d : Dt), f_C_writePlan_54 x1  d = some y1 → gG w p l e R s m args below meth c 2 0 0 (gE w below args s dE (some (.int rE))) d [(0, .ref (w_r w 0)), (1, .int x1)] 54 [] := by
      intro x1  d  h
      unfold f_C_writePlan_54 at h
      refine g_aload_n C dX11_writePlan_54 0 rfl ?_
      refine g_get C (.ref (w_r w 290)) 0 q_0 fk_C_57 rfl dX11_writePlan_55 ?_
      refine g_aload_n C dX11_writePlan_58 0 rfl ?_
      refine g_get C (.ref (w_r w 2)) 0 q_0 fk_C_10 rfl dX11_writePlan_59 ?_
      refine g_get C (.ref (w_r w 16)) 2 q_2 fk_C_108 rfl dX11_writePlan_62 ?_
      refine g_get C (.ref (w_r w 17)) 16 q_16 fk_C_218 rfl dX11_writePlan_65 ?_
      refine g_aload_n C dX11_writePlan_68 0 rfl ?_
      refine g_get C (.ref (w_r w 277)) 0 q_0 fk_C_29 rfl dX11_writePlan_69 ?_
      refine g_get C (.ref (w_r w 278)) 277 q_277 fk_C_404 rfl dX11_writePlan_72 ?_
      refine g_iload_n C dX11_writePlan_75 1 rfl ?_
      have hg5 := gd_1 h
      replace h := gd_2 h
      refine g_iald C 278 q_278 hg5 _ rfl dX11_writePlan_76 ?_
      have hg6 := gd_1 h
      replace h := gd_2 h
      refine g_iald C 17 q_17 hg6 _ rfl dX11_writePlan_77 ?_
      obtain ⟨d7, hc8, h⟩ := ob1_1 h
      refine g_callVv C 290 q_290 vk_C_393 hR rfl (m_O_putNumber C.2.2.2.2.2.2.1 hc8) rfl rfl rfl dX11_writePlan_78 rfl rfl ?_
      refine g_iinc C (lv' := [(1, .int (x1 + 1)), (0, .ref (w_r w 0))]) (v := (x1 + 1)) dX11_writePlan_81 1 rfl rfl (by decide) rfl ?_
      refine g_goto C dX11_writePlan_84 (tgt := 30) rfl ?_
      refine g_sub [1, 0] (lv' := [(0, .ref (w_r w 0)), (1, .int (x1 + 1))]) rfl ?_
      exact hl1 ((x1 + 1), d7) (Option.some.inj h).symm
    refine g_iload_n C dX11_writePlan_30 1 rfl ?_
    refine g_aload_n C dX11_writePlan_31 0 rfl ?_
    refine g_get C (.ref (w_r w 277)) 0 q_0 fk_C_29 rfl dX11_writePlan_32 ?_
    refine g_get C (.int (d 277 0)) 277 q_277 fk_C_403 rfl dX11_writePlan_35 ?_
    refine g_icmp_ge C dX11_writePlan_38 (tgt := 87) rfl (fun q => ?_) (fun q => ?_)
    · replace h := it_t q h
      replace h := ir_2 h hx1
      refine g_aload_n C dX11_writePlan_87 0 rfl ?_
      refine g_get C (.ref (w_r w 290)) 0 q_0 fk_C_57 rfl dX11_writePlan_88 ?_
      refine g_get C (.int (d 290 1)) 290 q_290 fk_C_400 rfl dX11_writePlan_91 ?_
      exact g_iret C hr hlk rfl (congrArg Prod.snd (Option.some.inj h)) (congrArg (fun z => some (Value.int z.1)) (Option.some.inj h)) dX11_writePlan_94
    · replace h := it_f q h
      refine g_iload_n C dX11_writePlan_41 1 rfl ?_
      refine g_if_le C dX11_writePlan_42 (tgt := 54) rfl (fun q => ?_) (fun q => ?_)
      · replace h := it_t q h
        exact R54 x1 d h
      · replace h := it_f q h
        refine g_aload_n C dX11_writePlan_45 0 rfl ?_
        refine g_get C (.ref (w_r w 290)) 0 q_0 fk_C_57 rfl dX11_writePlan_46 ?_
        refine g_bipush C dX11_writePlan_49 (v := 32) (by decide) ?_
        obtain ⟨d9, hc10, h⟩ := ob1_1 h
        refine g_callVv C 290 q_290 vk_C_396 hR rfl (m_O_put C.2.2.2.2.2.2.1 hc10) rfl rfl rfl dX11_writePlan_51 rfl rfl ?_
        exact R54 x1 d9 h
  unfold f_C_writePlan at h
  refine g_aload_n C dX11_writePlan_0 0 rfl ?_
  refine g_get C (.ref (w_r w 277)) 0 q_0 fk_C_29 rfl dX11_writePlan_1 ?_
  refine g_aload_n C dX11_writePlan_4 0 rfl ?_
  refine g_get C (.ref (w_r w 2)) 0 q_0 fk_C_10 rfl dX11_writePlan_5 ?_
  refine g_get C (.ref (w_r w 16)) 2 q_2 fk_C_108 rfl dX11_writePlan_8 ?_
  refine g_aload_n C dX11_writePlan_11 0 rfl ?_
  refine g_get C (.ref (w_r w 2)) 0 q_0 fk_C_10 rfl dX11_writePlan_12 ?_
  refine g_get C (.int (d 2 0)) 2 q_2 fk_C_180 rfl dX11_writePlan_15 ?_
  obtain ⟨d11, hc12, h⟩ := ob1_1 h
  refine g_callVv C 277 q_277 vk_C_232 hR rfl (m_P_make C.2.2.2.2.2.2.1 hc12) rfl rfl rfl dX11_writePlan_18 rfl rfl ?_
  refine g_aload_n C dX11_writePlan_21 0 rfl ?_
  refine g_get C (.ref (w_r w 290)) 0 q_0 fk_C_57 rfl dX11_writePlan_22 ?_
  obtain ⟨d13, hc14, h⟩ := ob1_1 h
  refine g_callVv C 290 q_290 vk_C_392 hR rfl (m_O_empty C.2.2.2.2.2.2.1 hc14) rfl rfl rfl dX11_writePlan_25 rfl rfl ?_
  refine g_iconst C dX11_writePlan_28 (v := 0) rfl ?_
  refine g_istore_n C (lv' := [(1, .int 0), (0, .ref (w_r w 0))]) dX11_writePlan_29 (by decide) rfl ?_
  refine g_sub [1, 0] (lv' := [(0, .ref (w_r w 0)), (1, .int 0)]) rfl ?_
  exact R30 0 d13 h
