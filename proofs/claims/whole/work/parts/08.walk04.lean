/-! 08: walks -/
set_option maxHeartbeats 4000000 in
set_option maxRecDepth 100000 in
theorem m_M_lastDay {w : wT} {l : Launch} {x1 : Int32} {d : Dt} {rE : Int32} {dE : Dt} (hO : okW w) (h : f_M_lastDay x1 d = some (rE, dE)) : gM w l yX12_lastDay cX12_lastDay 2 (Option.some Jvm.ClassFile.FieldType.int) 3 [.ref (w_r w 292), .int x1] d dE (some (.int rE)) := by
  refine gM_of (by decide) [(0, .ref (w_r w 292)), (1, .int x1)] rfl rfl ?_ hO
  intro p e R s m args below meth c C hR hr hlk
  unfold f_M_lastDay at h
  refine g_aload_n C dX12_lastDay_0 0 rfl ?_
  refine g_iload_n C dX12_lastDay_1 1 rfl ?_
  refine g_iconst C dX12_lastDay_2 (v := 2) rfl ?_
  obtain ⟨r3, d4, hc5, h⟩ := ob2_1 h
  refine g_callVi C 292 q_292 vk_M_140 hR rfl (m_M_ofBrief C.2.2.2.2.2.2.1 hc5) rfl rfl rfl dX12_lastDay_3 rfl rfl ?_
  exact g_iret C hr hlk rfl (congrArg Prod.snd (Option.some.inj h)) (congrArg (fun z => some (Value.int z.1)) (Option.some.inj h)) dX12_lastDay_6
set_option maxHeartbeats 4000000 in
set_option maxRecDepth 100000 in
theorem m_M_leastFalse {w : wT} {l : Launch} {d : Dt} {rE : Int32} {dE : Dt} (hO : okW w) (h : f_M_leastFalse  d = some (rE, dE)) : gM w l yX12_leastFalse cX12_leastFalse 1 (Option.some Jvm.ClassFile.FieldType.int) 3 [.ref (w_r w 292)] d dE (some (.int rE)) := by
  refine gM_of (by decide) [(0, .ref (w_r w 292))] rfl rfl ?_ hO
  intro p e R s m args below meth c C hR hr hlk
  unfold f_M_leastFalse at h
  refine g_aload_n C dX12_leastFalse_0 0 rfl ?_
  refine g_iconst C dX12_leastFalse_1 (v := 0) rfl ?_
  refine g_put C 292 q_292 pk_M_39 rfl rfl dX12_leastFalse_2 ?_
  obtain ⟨d3, hd3, h⟩ := bnd_1 h
  refine g_nmD hd3 ?_
  refine g_aload_n C dX12_leastFalse_5 0 rfl ?_
  obtain ⟨r4, hc5, h⟩ := ob1_1 h
  refine g_callVi C 292 q_292 vk_M_160 hR rfl (m_M_fewestFalse C.2.2.2.2.2.2.1 hc5) rfl rfl rfl dX12_leastFalse_6 rfl rfl ?_
  exact g_iret C hr hlk rfl (congrArg Prod.snd (Option.some.inj h)) (congrArg (fun z => some (Value.int z.1)) (Option.some.inj h)) dX12_leastFalse_9
set_option maxHeartbeats 4000000 in
set_option maxRecDepth 100000 in
theorem m_M_leastFalseBySets {w : wT} {l : Launch} {d : Dt} {rE : Int32} {dE : Dt} (hO : okW w) (h : f_M_leastFalseBySets  d = some (rE, dE)) : gM w l yX12_leastFalseBySets cX12_leastFalseBySets 1 (Option.some Jvm.ClassFile.FieldType.int) 3 [.ref (w_r w 292)] d dE (some (.int rE)) := by
  refine gM_of (by decide) [(0, .ref (w_r w 292))] rfl rfl ?_ hO
  intro p e R s m args below meth c C hR hr hlk
  unfold f_M_leastFalseBySets at h
  refine g_aload_n C dX12_leastFalseBySets_0 0 rfl ?_
  refine g_iconst C dX12_leastFalseBySets_1 (v := 0) rfl ?_
  refine g_put C 292 q_292 pk_M_39 rfl rfl dX12_leastFalseBySets_2 ?_
  obtain ⟨d3, hd3, h⟩ := bnd_1 h
  refine g_nmD hd3 ?_
  refine g_aload_n C dX12_leastFalseBySets_5 0 rfl ?_
  obtain ⟨r4, hc5, h⟩ := ob1_1 h
  refine g_callVi C 292 q_292 vk_M_160 hR rfl (m_M_fewestFalse C.2.2.2.2.2.2.1 hc5) rfl rfl rfl dX12_leastFalseBySets_6 rfl rfl ?_
  exact g_iret C hr hlk rfl (congrArg Prod.snd (Option.some.inj h)) (congrArg (fun z => some (Value.int z.1)) (Option.some.inj h)) dX12_leastFalseBySets_9
set_option maxHeartbeats 4000000 in
set_option maxRecDepth 100000 in
theorem m_M_meanBrightness {w : wT} {l : Launch} {d : Dt} {rE : UInt64} {dE : Dt} (hO : okW w) (h : f_M_meanBrightness  d = some (rE, dE)) : gM w l yX12_meanBrightness cX12_meanBrightness 3 (Option.some Jvm.ClassFile.FieldType.double) 1 [.ref (w_r w 292)] d dE (some (.double rE)) := by
  refine gM_of (by decide) [(0, .ref (w_r w 292))] rfl rfl ?_ hO
  intro p e R s m args below meth c C hR hr hlk
  have R27 : ∀ (x1 : Int32) (x2 : Int32) (d : Dt), f_M_meanBrightness_27 x1 x2 d = some (rE, dE) → gG w p l e R s m args below meth c 3 0 0 (gE w below args s dE (some (.double rE))) d [(0, .ref (w_r w 292)), (1, .int x1), (2, .int x2)] 27 [] := by
    intro x1 x2 d  h
    refine iter_ind (G := fun s_ : (Int32 × Int32) => gG w p l e R s m args below meth c 3 0 0 (gE w below args s dE (some (.double rE))) d [(0, .ref (w_r w 292)), (1, .int s_.1), (2, .int s_.2)] 27 []) ?_ fu _ h
    clear h
    intro s_ y1 h hl1 hx1
    obtain ⟨x1, x2⟩ := s_
    show gG w p l e R s m args below meth c 3 0 0 (gE w below args s dE (some (.double rE))) d [(0, .ref (w_r w 292)), (1, .int x1), (2, .int x2)] 27 []
    dsimp only at h
    unfold st_M_meanBrightness_27 at h
    refine g_iload_n C dX12_meanBrightness_27 2 rfl ?_
    refine g_aload_n C dX12_meanBrightness_28 0 rfl ?_
    refine g_get C (.ref (w_r w 293)) 292 q_292 fk_M_7 rfl dX12_meanBrightness_29 ?_
    refine g_iconst C dX12_meanBrightness_32 (v := 0) rfl ?_
    refine g_iald C 293 q_293 (by decide) 0 (by decide) dX12_meanBrightness_33 ?_
    refine g_icmp_ge C dX12_meanBrightness_34 (tgt := 52) rfl (fun q => ?_) (fun q => ?_)
    · replace h := it_t q h
      replace h := ir_2 h hx1
      refine g_iload_n C dX12_meanBrightness_52 1 rfl ?_
      refine g_i2d C dX12_meanBrightness_53  ?_
      refine g_aload_n C dX12_meanBrightness_54 0 rfl ?_
      refine g_get C (.ref (w_r w 293)) 292 q_292 fk_M_7 rfl dX12_meanBrightness_55 ?_
      refine g_iconst C dX12_meanBrightness_58 (v := 0) rfl ?_
      refine g_iald C 293 q_293 (by decide) 0 (by decide) dX12_meanBrightness_59 ?_
      refine g_i2d C dX12_meanBrightness_60  ?_
      have hg4 := gd_1 h
      replace h := gd_2 h
      refine g_ddiv C dX12_meanBrightness_61 (vn64_1 hg4) ?_
      exact g_dret C hr hlk (congrArg Prod.snd (Option.some.inj h)) (congrArg (fun z => some (Value.double z.1)) (Option.some.inj h)) dX12_meanBrightness_62
    · replace h := it_f q h
      refine g_iload_n C dX12_meanBrightness_37 1 rfl ?_
      refine g_aload_n C dX12_meanBrightness_38 0 rfl ?_
      refine g_iload_n C dX12_meanBrightness_39 2 rfl ?_
      refine g_iconst C dX12_meanBrightness_40 (v := 0) rfl ?_
      obtain ⟨r5, hc6, h⟩ := ob1_1 h
      refine g_callVi C 292 q_292 vk_M_87 hR rfl (m_M_of C.2.2.2.2.2.2.1 hc6) rfl rfl rfl dX12_meanBrightness_41 rfl rfl ?_
      refine g_iadd C dX12_meanBrightness_44  ?_
      refine g_istore_n C (lv' := [(1, .int (x1 + r5)), (0, .ref (w_r w 292)), (2, .int x2)]) dX12_meanBrightness_45 (by decide) rfl ?_
      refine g_iinc C (lv' := [(2, .int (x2 + 1)), (1, .int (x1 + r5)), (0, .ref (w_r w 292))]) (v := (x2 + 1)) dX12_meanBrightness_46 2 rfl rfl (by decide) rfl ?_
      refine g_goto C dX12_meanBrightness_49 (tgt := 27) rfl ?_
      refine g_sub [2, 1, 0] (lv' := [(0, .ref (w_r w 292)), (1, .int (x1 + r5)), (2, .int (x2 + 1))]) rfl ?_
      exact hl1 ((x1 + r5), (x2 + 1)) (Option.some.inj h).symm
  have R15 : ∀ (v1 : Int32) (d : Dt), f_M_meanBrightness_15  v1 d = some (rE, dE) → gG w p l e R s m args below meth c 3 0 0 (gE w below args s dE (some (.double rE))) d [(0, .ref (w_r w 292))] 15 [.int v1, .ref (w_r w 292)] := by
    intro  v1 d  h
    unfold f_M_meanBrightness_15 at h
    obtain ⟨r7, d8, hc9, h⟩ := ob2_1 h
    refine g_callVi C 292 q_292 vk_M_61 hR rfl (m_M_fails C.2.2.2.2.2.2.1 hc9) rfl rfl rfl dX12_meanBrightness_15 rfl rfl ?_
    refine g_if_eq C dX12_meanBrightness_18 (tgt := 23) rfl (fun q => ?_) (fun q => ?_)
    · replace h := it_t q h
      refine g_iconst C dX12_meanBrightness_23 (v := 0) rfl ?_
      refine g_istore_n C (lv' := [(1, .int 0), (0, .ref (w_r w 292))]) dX12_meanBrightness_24 (by decide) rfl ?_
      refine g_iconst C dX12_meanBrightness_25 (v := 0) rfl ?_
      refine g_istore_n C (lv' := [(2, .int 0), (1, .int 0), (0, .ref (w_r w 292))]) dX12_meanBrightness_26 (by decide) rfl ?_
      refine g_sub [2, 1, 0] (lv' := [(0, .ref (w_r w 292)), (1, .int 0), (2, .int 0)]) rfl ?_
      exact R27 0 0 d8 h
    · replace h := it_f q h
      refine g_dconst0 C dX12_meanBrightness_21  ?_
      exact g_dret C hr hlk (congrArg Prod.snd (Option.some.inj h)) (congrArg (fun z => some (Value.double z.1)) (Option.some.inj h)) dX12_meanBrightness_22
  unfold f_M_meanBrightness at h
  refine g_aload_n C dX12_meanBrightness_0 0 rfl ?_
  refine g_aload_n C dX12_meanBrightness_1 0 rfl ?_
  refine g_get C (.ref (w_r w 293)) 292 q_292 fk_M_7 rfl dX12_meanBrightness_2 ?_
  refine g_iconst C dX12_meanBrightness_5 (v := 0) rfl ?_
  refine g_iald C 293 q_293 (by decide) 0 (by decide) dX12_meanBrightness_6 ?_
  refine g_if_ne C dX12_meanBrightness_7 (tgt := 14) rfl (fun q => ?_) (fun q => ?_)
  · replace h := it_f q h
    refine g_iconst C dX12_meanBrightness_14 (v := 0) rfl ?_
    exact R15 0 d h
  · replace h := it_t q h
    refine g_iconst C dX12_meanBrightness_10 (v := 1) rfl ?_
    refine g_goto C dX12_meanBrightness_11 (tgt := 15) rfl ?_
    exact R15 1 d h
set_option maxHeartbeats 4000000 in
set_option maxRecDepth 100000 in
theorem m_M_outputChar {w : wT} {l : Launch} {x1 : Int32} {d : Dt} {rE : Int32} {dE : Dt} (hO : okW w) (h : f_M_outputChar x1 d = some (rE, dE)) : gM w l yX12_outputChar cX12_outputChar 2 (Option.some Jvm.ClassFile.FieldType.char) 1 [.ref (w_r w 292), .int x1] d dE (some (.int rE)) := by
  refine gM_of (by decide) [(0, .ref (w_r w 292)), (1, .int x1)] rfl rfl ?_ hO
  intro p e R s m args below meth c C hR hr hlk
  have R20 : ∀ (x1 : Int32) (v1 : Int32) (d : Dt), f_M_outputChar_20 x1 v1 d = some (rE, dE) → gG w p l e R s m args below meth c 2 0 0 (gE w below args s dE (some (.int rE))) d [(0, .ref (w_r w 292)), (1, .int x1)] 20 [.int v1, .ref (w_r w 292)] := by
    intro x1 v1 d  h
    unfold f_M_outputChar_20 at h
    obtain ⟨r4, d5, hc6, h⟩ := ob2_1 h
    refine g_callVi C 292 q_292 vk_M_61 hR rfl (m_M_fails C.2.2.2.2.2.2.1 hc6) rfl rfl rfl dX12_outputChar_20 rfl rfl ?_
    refine g_if_eq C dX12_outputChar_23 (tgt := 31) rfl (fun q => ?_) (fun q => ?_)
    · replace h := it_t q h
      refine g_aload_n C dX12_outputChar_31 0 rfl ?_
      refine g_get C (.ref (w_r w 298)) 292 q_292 fk_M_32 rfl dX12_outputChar_32 ?_
      refine g_iload_n C dX12_outputChar_35 1 rfl ?_
      have hg7 := gd_1 h
      replace h := gd_2 h
      refine g_cald C 298 q_298 hg7 _ rfl dX12_outputChar_36 ?_
      have hg8 := gd_1 h
      replace h := gd_2 h
      exact g_iret C hr hlk (nar_n hg8) (congrArg Prod.snd (Option.some.inj h)) (congrArg (fun z => some (Value.int z.1)) (Option.some.inj h)) dX12_outputChar_37
    · replace h := it_f q h
      refine g_bipush C dX12_outputChar_26 (v := 32) (by decide) ?_
      refine g_goto C dX12_outputChar_28 (tgt := 37) rfl ?_
      exact g_iret C hr hlk rfl (congrArg Prod.snd (Option.some.inj h)) (congrArg (fun z => some (Value.int z.1)) (Option.some.inj h)) dX12_outputChar_37
  unfold f_M_outputChar at h
  refine g_aload_n C dX12_outputChar_0 0 rfl ?_
  refine g_iload_n C dX12_outputChar_1 1 rfl ?_
  refine g_iconst C dX12_outputChar_2 (v := 0) rfl ?_
  refine g_aload_n C dX12_outputChar_3 0 rfl ?_
  refine g_get C (.int (d 292 13)) 292 q_292 fk_M_252 rfl dX12_outputChar_4 ?_
  refine g_iconst C dX12_outputChar_7 (v := 1) rfl ?_
  refine g_isub C dX12_outputChar_8  ?_
  obtain ⟨r9, hc10, h⟩ := ob1_1 h
  refine g_callSi C sk_M_53 hR rfl (m_M_in C.2.2.2.2.2.2.1 hc10) rfl rfl rfl dX12_outputChar_9 rfl rfl ?_
  refine g_if_eq C dX12_outputChar_12 (tgt := 19) rfl (fun q => ?_) (fun q => ?_)
  · replace h := it_t q h
    refine g_iconst C dX12_outputChar_19 (v := 1) rfl ?_
    exact R20 x1 1 d h
  · replace h := it_f q h
    refine g_iconst C dX12_outputChar_15 (v := 0) rfl ?_
    refine g_goto C dX12_outputChar_16 (tgt := 20) rfl ?_
    exact R20 x1 0 d h
set_option maxHeartbeats 4000000 in
set_option maxRecDepth 100000 in
theorem m_M_paidBack {w : wT} {l : Launch} {d : Dt} {rE : Int32} {dE : Dt} (hO : okW w) (h : f_M_paidBack  d = some (rE, dE)) : gM w l yX12_paidBack cX12_paidBack 1 (Option.some Jvm.ClassFile.FieldType.int) 0 [.ref (w_r w 292)] d dE (some (.int rE)) := by
  refine gM_of (by decide) [(0, .ref (w_r w 292))] rfl rfl ?_ hO
  intro p e R s m args below meth c C hR hr hlk
  unfold f_M_paidBack at h
  refine g_aload_n C dX12_paidBack_0 0 rfl ?_
  refine g_iconst C dX12_paidBack_1 (v := 0) rfl ?_
  refine g_put C 292 q_292 pk_M_39 rfl rfl dX12_paidBack_2 ?_
  obtain ⟨d2, hd2, h⟩ := bnd_1 h
  refine g_nmD hd2 ?_
  refine g_aload_n C dX12_paidBack_5 0 rfl ?_
  refine g_get C (.ref (w_r w 293)) 292 q_292 fk_M_7 rfl dX12_paidBack_6 ?_
  refine g_iconst C dX12_paidBack_9 (v := 5) rfl ?_
  refine g_iald C 293 q_293 (by decide) 5 (by decide) dX12_paidBack_10 ?_
  exact g_iret C hr hlk rfl (congrArg Prod.snd (Option.some.inj h)) (congrArg (fun z => some (Value.int z.1)) (Option.some.inj h)) dX12_paidBack_11
set_option maxHeartbeats 4000000 in
set_option maxRecDepth 100000 in
theorem m_M_planFee {w : wT} {l : Launch} {d : Dt} {rE : Int32} {dE : Dt} (hO : okW w) (h : f_M_planFee  d = some (rE, dE)) : gM w l yX12_planFee cX12_planFee 1 (Option.some Jvm.ClassFile.FieldType.int) 3 [.ref (w_r w 292)] d dE (some (.int rE)) := by
  refine gM_of (by decide) [(0, .ref (w_r w 292))] rfl rfl ?_ hO
  intro p e R s m args below meth c C hR hr hlk
  unfold f_M_planFee at h
  refine g_aload_n C dX12_planFee_0 0 rfl ?_
  refine g_iconst C dX12_planFee_1 (v := 0) rfl ?_
  refine g_put C 292 q_292 pk_M_39 rfl rfl dX12_planFee_2 ?_
  obtain ⟨d4, hd4, h⟩ := bnd_1 h
  refine g_nmD hd4 ?_
  refine g_aload_n C dX12_planFee_5 0 rfl ?_
  refine g_aload_n C dX12_planFee_6 0 rfl ?_
  obtain ⟨r5, hc6, h⟩ := ob1_1 h
  refine g_callVi C 292 q_292 vk_M_118 hR rfl (m_M_plan C.2.2.2.2.2.2.1 hc6) rfl rfl rfl dX12_planFee_7 rfl rfl ?_
  obtain ⟨r7, hc8, h⟩ := ob1_1 h
  refine g_callVi C 292 q_292 vk_M_143 hR rfl (m_M_feesOf C.2.2.2.2.2.2.1 hc8) rfl rfl rfl dX12_planFee_10 rfl rfl ?_
  exact g_iret C hr hlk rfl (congrArg Prod.snd (Option.some.inj h)) (congrArg (fun z => some (Value.int z.1)) (Option.some.inj h)) dX12_planFee_13
set_option maxHeartbeats 4000000 in
set_option maxRecDepth 100000 in
theorem m_M_planFeeBySets {w : wT} {l : Launch} {d : Dt} {rE : Int32} {dE : Dt} (hO : okW w) (h : f_M_planFeeBySets  d = some (rE, dE)) : gM w l yX12_planFeeBySets cX12_planFeeBySets 1 (Option.some Jvm.ClassFile.FieldType.int) 3 [.ref (w_r w 292)] d dE (some (.int rE)) := by
  refine gM_of (by decide) [(0, .ref (w_r w 292))] rfl rfl ?_ hO
  intro p e R s m args below meth c C hR hr hlk
  unfold f_M_planFeeBySets at h
  refine g_aload_n C dX12_planFeeBySets_0 0 rfl ?_
  refine g_iconst C dX12_planFeeBySets_1 (v := 0) rfl ?_
  refine g_put C 292 q_292 pk_M_39 rfl rfl dX12_planFeeBySets_2 ?_
  obtain ⟨d4, hd4, h⟩ := bnd_1 h
  refine g_nmD hd4 ?_
  refine g_aload_n C dX12_planFeeBySets_5 0 rfl ?_
  refine g_aload_n C dX12_planFeeBySets_6 0 rfl ?_
  obtain ⟨r5, hc6, h⟩ := ob1_1 h
  refine g_callVi C 292 q_292 vk_M_118 hR rfl (m_M_plan C.2.2.2.2.2.2.1 hc6) rfl rfl rfl dX12_planFeeBySets_7 rfl rfl ?_
  obtain ⟨r7, hc8, h⟩ := ob1_1 h
  refine g_callVi C 292 q_292 vk_M_143 hR rfl (m_M_feesOf C.2.2.2.2.2.2.1 hc8) rfl rfl rfl dX12_planFeeBySets_10 rfl rfl ?_
  exact g_iret C hr hlk rfl (congrArg Prod.snd (Option.some.inj h)) (congrArg (fun z => some (Value.int z.1)) (Option.some.inj h)) dX12_planFeeBySets_13
set_option maxHeartbeats 4000000 in
set_option maxRecDepth 100000 in
theorem m_M_relation {w : wT} {l : Launch} {x1 x2 : Int32} {d : Dt} {rE : Int32} {dE : Dt} (hO : okW w) (h : f_M_relation x1 x2 d = some (rE, dE)) : gM w l yX12_relation cX12_relation 5 (Option.some Jvm.ClassFile.FieldType.char) 3 [.ref (w_r w 292), .int x1, .int x2] d dE (some (.int rE)) := by
  refine gM_of (by decide) [(0, .ref (w_r w 292)), (1, .int x1), (2, .int x2)] rfl rfl ?_ hO
  intro p e R s m args below meth c C hR hr hlk
  have R51 : ∀ (x1 : Int32) (x2 : Int32) (x3 : Int32) (x4 : Int32) (d : Dt), f_M_relation_51 x1 x2 x3 x4 d = some (rE, dE) → gG w p l e R s m args below meth c 5 0 0 (gE w below args s dE (some (.int rE))) d [(0, .ref (w_r w 292)), (1, .int x1), (2, .int x2), (3, .int x3), (4, .int x4)] 51 [] := by
    intro x1 x2 x3 x4 d  h
    refine iter_ind (G := fun s_ : (Int32) => gG w p l e R s m args below meth c 5 0 0 (gE w below args s dE (some (.int rE))) d [(0, .ref (w_r w 292)), (1, .int x1), (2, .int x2), (3, .int x3), (4, .int s_)] 51 []) ?_ fu _ h
    clear h
    intro x4 y1 h hl1 hx1
    show gG w p l e R s m args below meth c 5 0 0 (gE w below args s dE (some (.int rE))) d [(0, .ref (w_r w 292)), (1, .int x1), (2, .int x2), (3, .int x3), (4, .int x4)] 51 []
    unfold st_M_relation_51 at h
    refine g_iload C dX12_relation_51 4 rfl ?_
    refine g_iconst C dX12_relation_53 (v := 1) rfl ?_
    refine g_aload_n C dX12_relation_54 0 rfl ?_
    refine g_get C (.ref (w_r w 293)) 292 q_292 fk_M_7 rfl dX12_relation_55 ?_
    refine g_iconst C dX12_relation_58 (v := 0) rfl ?_
    refine g_iald C 293 q_293 (by decide) 0 (by decide) dX12_relation_59 ?_
    refine g_ishl C dX12_relation_60  ?_
    refine g_icmp_ge C dX12_relation_61 (tgt := 112) rfl (fun q => ?_) (fun q => ?_)
    · replace h := it_t q h
      replace h := ir_2 h hx1
      refine g_aload_n C dX12_relation_112 0 rfl ?_
      refine g_iconst C dX12_relation_113 (v := 2) rfl ?_
      refine g_put C 292 q_292 pk_M_39 rfl rfl dX12_relation_114 ?_
      obtain ⟨d8, hd8, h⟩ := bnd_1 h
      refine g_nmD hd8 ?_
      refine g_bipush C dX12_relation_117 (v := 32) (by decide) ?_
      exact g_iret C hr hlk rfl (congrArg Prod.snd (Option.some.inj h)) (congrArg (fun z => some (Value.int z.1)) (Option.some.inj h)) dX12_relation_119
    · replace h := it_f q h
      refine g_iload C dX12_relation_64 4 rfl ?_
      refine g_iload_n C dX12_relation_66 3 rfl ?_
      refine g_iconst C dX12_relation_67 (v := (-1)) (by decide) ?_
      refine g_ixor C dX12_relation_68  ?_
      refine g_iand C dX12_relation_69  ?_
      refine g_if_ne C dX12_relation_70 (tgt := 106) rfl (fun q => ?_) (fun q => ?_)
      · replace h := it_f q h
        refine g_iinc C (lv' := [(4, .int (x4 + 1)), (0, .ref (w_r w 292)), (1, .int x1), (2, .int x2), (3, .int x3)]) (v := (x4 + 1)) dX12_relation_106 4 rfl rfl (by decide) rfl ?_
        refine g_goto C dX12_relation_109 (tgt := 51) rfl ?_
        refine g_sub [1, 2, 3, 4, 0] (lv' := [(0, .ref (w_r w 292)), (1, .int x1), (2, .int x2), (3, .int x3), (4, .int (x4 + 1))]) rfl ?_
        exact hl1 (x4 + 1) (Option.some.inj h).symm
      · replace h := it_t q h
        refine g_aload_n C dX12_relation_73 0 rfl ?_
        refine g_iload_n C dX12_relation_74 3 rfl ?_
        refine g_iload C dX12_relation_75 4 rfl ?_
        obtain ⟨r9, hc10, h⟩ := ob1_1 h
        refine g_callVi C 292 q_292 vk_M_106 hR rfl (m_M_areTrue C.2.2.2.2.2.2.1 hc10) rfl rfl rfl dX12_relation_77 rfl rfl ?_
        refine g_if_eq C dX12_relation_80 (tgt := 106) rfl (fun q => ?_) (fun q => ?_)
        · replace h := it_t q h
          refine g_iinc C (lv' := [(4, .int (x4 + 1)), (0, .ref (w_r w 292)), (1, .int x1), (2, .int x2), (3, .int x3)]) (v := (x4 + 1)) dX12_relation_106 4 rfl rfl (by decide) rfl ?_
          refine g_goto C dX12_relation_109 (tgt := 51) rfl ?_
          refine g_sub [1, 2, 3, 4, 0] (lv' := [(0, .ref (w_r w 292)), (1, .int x1), (2, .int x2), (3, .int x3), (4, .int (x4 + 1))]) rfl ?_
          exact hl1 (x4 + 1) (Option.some.inj h).symm
        · replace h := it_f q h
          replace h := ir_2 h hx1
          refine g_iload C dX12_relation_83 4 rfl ?_
          refine g_iload_n C dX12_relation_85 1 rfl ?_
          refine g_ishr C dX12_relation_86  ?_
          refine g_iconst C dX12_relation_87 (v := 1) rfl ?_
          refine g_iand C dX12_relation_88  ?_
          refine g_iload C dX12_relation_89 4 rfl ?_
          refine g_iload_n C dX12_relation_91 2 rfl ?_
          refine g_ishr C dX12_relation_92  ?_
          refine g_iconst C dX12_relation_93 (v := 1) rfl ?_
          refine g_iand C dX12_relation_94  ?_
          refine g_icmp_ne C dX12_relation_95 (tgt := 103) rfl (fun q => ?_) (fun q => ?_)
          · replace h := it_f q h
            refine g_bipush C dX12_relation_103 (v := 45) (by decide) ?_
            exact g_iret C hr hlk rfl (congrArg Prod.snd (Option.some.inj h)) (congrArg (fun z => some (Value.int z.1)) (Option.some.inj h)) dX12_relation_105
          · replace h := it_t q h
            refine g_bipush C dX12_relation_98 (v := 43) (by decide) ?_
            refine g_goto C dX12_relation_100 (tgt := 105) rfl ?_
            exact g_iret C hr hlk rfl (congrArg Prod.snd (Option.some.inj h)) (congrArg (fun z => some (Value.int z.1)) (Option.some.inj h)) dX12_relation_105
  have R22 : ∀ (x1 : Int32) (x2 : Int32) (v1 : Int32) (d : Dt), f_M_relation_22 x1 x2 v1 d = some (rE, dE) → gG w p l e R s m args below meth c 5 0 0 (gE w below args s dE (some (.int rE))) d [(0, .ref (w_r w 292)), (1, .int x1), (2, .int x2)] 22 [.int v1, .ref (w_r w 292)] := by
    intro x1 x2 v1 d  h
    unfold f_M_relation_22 at h
    obtain ⟨r11, d12, hc13, h⟩ := ob2_1 h
    refine g_callVi C 292 q_292 vk_M_61 hR rfl (m_M_fails C.2.2.2.2.2.2.1 hc13) rfl rfl rfl dX12_relation_22 rfl rfl ?_
    refine g_if_eq C dX12_relation_25 (tgt := 31) rfl (fun q => ?_) (fun q => ?_)
    · replace h := it_t q h
      refine g_aload_n C dX12_relation_31 0 rfl ?_
      refine g_iload_n C dX12_relation_32 1 rfl ?_
      obtain ⟨r14, hc15, h⟩ := ob1_1 h
      refine g_callVi C 292 q_292 vk_M_103 hR rfl (m_M_group C.2.2.2.2.2.2.1 hc15) rfl rfl rfl dX12_relation_33 rfl rfl ?_
      refine g_istore_n C (lv' := [(3, .int r14), (0, .ref (w_r w 292)), (1, .int x1), (2, .int x2)]) dX12_relation_36 (by decide) rfl ?_
      refine g_iload_n C dX12_relation_37 0 rfl ?_
      refine g_iload_n C dX12_relation_38 3 rfl ?_
      refine g_ishr C dX12_relation_39  ?_
      refine g_iconst C dX12_relation_40 (v := 1) rfl ?_
      refine g_iand C dX12_relation_41  ?_
      refine g_if_ne C dX12_relation_42 (tgt := 48) rfl (fun q => ?_) (fun q => ?_)
      · replace h := it_f q h
        refine g_iconst C dX12_relation_48 (v := 0) rfl ?_
        refine g_istore C (lv' := [(4, .int 0), (3, .int r14), (0, .ref (w_r w 292)), (1, .int x1), (2, .int x2)]) dX12_relation_49 (by decide) rfl ?_
        refine g_sub [2, 3, 4, 1, 0] (lv' := [(0, .ref (w_r w 292)), (1, .int x1), (2, .int x2), (3, .int r14), (4, .int 0)]) rfl ?_
        exact R51 x1 x2 r14 0 d12 h
      · replace h := it_t q h
        refine g_bipush C dX12_relation_45 (v := 63) (by decide) ?_
        exact g_iret C hr hlk rfl (congrArg Prod.snd (Option.some.inj h)) (congrArg (fun z => some (Value.int z.1)) (Option.some.inj h)) dX12_relation_47
    · replace h := it_f q h
      refine g_bipush C dX12_relation_28 (v := 32) (by decide) ?_
      exact g_iret C hr hlk rfl (congrArg Prod.snd (Option.some.inj h)) (congrArg (fun z => some (Value.int z.1)) (Option.some.inj h)) dX12_relation_30
  have R21 : ∀ (x1 : Int32) (x2 : Int32) (d : Dt), f_M_relation_21 x1 x2  d = some (rE, dE) → gG w p l e R s m args below meth c 5 0 0 (gE w below args s dE (some (.int rE))) d [(0, .ref (w_r w 292)), (1, .int x1), (2, .int x2)] 21 [.ref (w_r w 292)] := by
    intro x1 x2  d  h
    unfold f_M_relation_21 at h
    refine g_iconst C dX12_relation_21 (v := 1) rfl ?_
    exact R22 x1 x2 1 d h
  unfold f_M_relation at h
  refine g_aload_n C dX12_relation_0 0 rfl ?_
  refine g_aload_n C dX12_relation_1 0 rfl ?_
  refine g_iload_n C dX12_relation_2 1 rfl ?_
  obtain ⟨r16, hc17, h⟩ := ob1_1 h
  refine g_callVi C 292 q_292 vk_M_57 hR rfl (m_M_isLantern C.2.2.2.2.2.2.1 hc17) rfl rfl rfl dX12_relation_3 rfl rfl ?_
  refine g_if_eq C dX12_relation_6 (tgt := 21) rfl (fun q => ?_) (fun q => ?_)
  · replace h := it_t q h
    exact R21 x1 x2 d h
  · replace h := it_f q h
    refine g_aload_n C dX12_relation_9 0 rfl ?_
    refine g_iload_n C dX12_relation_10 2 rfl ?_
    obtain ⟨r18, hc19, h⟩ := ob1_1 h
    refine g_callVi C 292 q_292 vk_M_57 hR rfl (m_M_isLantern C.2.2.2.2.2.2.1 hc19) rfl rfl rfl dX12_relation_11 rfl rfl ?_
    refine g_if_eq C dX12_relation_14 (tgt := 21) rfl (fun q => ?_) (fun q => ?_)
    · replace h := it_t q h
      exact R21 x1 x2 d h
    · replace h := it_f q h
      refine g_iconst C dX12_relation_17 (v := 0) rfl ?_
      refine g_goto C dX12_relation_18 (tgt := 22) rfl ?_
      exact R22 x1 x2 0 d h
set_option maxHeartbeats 4000000 in
set_option maxRecDepth 100000 in
theorem m_M_copies_295_293 {w : wT} {l : Launch} {x1 x3 : Int32} {d : Dt} {dE : Dt} (hO : okW w) (h : f_M_copies_295_293 x1 x3 d = some dE) : gM w l yX12_copies cX12_copies 5 (Option.none : Option Jvm.ClassFile.FieldType) 0 [.ref (w_r w 295), .int x1, .ref (w_r w 293), .int x3] d dE none := by
  refine gM_of (by decide) [(0, .ref (w_r w 295)), (1, .int x1), (2, .ref (w_r w 293)), (3, .int x3)] rfl rfl ?_ hO
  intro p e R s m args below meth c C hR hr hlk
  have R3 : ∀ (x1 : Int32) (x3 : Int32) (x4 : Int32) (d : Dt), f_M_copies_295_293_3 x1 x3 x4 d = some dE → gG w p l e R s m args below meth c 5 0 0 (gE w below args s dE none) d [(0, .ref (w_r w 295)), (1, .int x1), (2, .ref (w_r w 293)), (3, .int x3), (4, .int x4)] 3 [] := by
    intro x1 x3 x4 d  h
    refine iter_ind (G := fun s_ : (Int32 × Dt) => gG w p l e R s m args below meth c 5 0 0 (gE w below args s dE none) s_.2 [(0, .ref (w_r w 295)), (1, .int x1), (2, .ref (w_r w 293)), (3, .int x3), (4, .int s_.1)] 3 []) ?_ fu _ h
    clear h
    intro s_ y1 h hl1 hx1
    obtain ⟨x4, d⟩ := s_
    show gG w p l e R s m args below meth c 5 0 0 (gE w below args s dE none) d [(0, .ref (w_r w 295)), (1, .int x1), (2, .ref (w_r w 293)), (3, .int x3), (4, .int x4)] 3 []
    dsimp only at h
    unfold st_M_copies_295_293_3 at h
    refine g_iload C dX12_copies_3 4 rfl ?_
    refine g_sipush C dX12_copies_5 (v := 187) (by decide) ?_
    refine g_icmp_ge C dX12_copies_8 (tgt := 29) rfl (fun q => ?_) (fun q => ?_)
    · replace h := it_t q h
      replace h := ir_2 h hx1
      exact g_vret C hr hlk (Option.some.inj h) rfl dX12_copies_29
    · replace h := it_f q h
      refine g_aload_n C dX12_copies_11 2 rfl ?_
      refine g_iload_n C dX12_copies_12 3 rfl ?_
      refine g_iload C dX12_copies_13 4 rfl ?_
      refine g_iadd C dX12_copies_15  ?_
      refine g_aload_n C dX12_copies_16 0 rfl ?_
      refine g_iload_n C dX12_copies_17 1 rfl ?_
      refine g_iload C dX12_copies_18 4 rfl ?_
      refine g_iadd C dX12_copies_20  ?_
      have hg2 := gd_1 h
      replace h := gd_2 h
      refine g_iald C 295 q_295 hg2 _ rfl dX12_copies_21 ?_
      have hg3 := gd_1 h
      replace h := gd_2 h
      refine g_iast C 293 q_293 hg3 _ rfl  dX12_copies_22 ?_
      obtain ⟨d4, hd4, h⟩ := bnd_1 h
      refine g_nmD hd4 ?_
      refine g_iinc C (lv' := [(4, .int (x4 + 1)), (0, .ref (w_r w 295)), (1, .int x1), (2, .ref (w_r w 293)), (3, .int x3)]) (v := (x4 + 1)) dX12_copies_23 4 rfl rfl (by decide) rfl ?_
      refine g_goto C dX12_copies_26 (tgt := 3) rfl ?_
      refine g_sub [1, 2, 3, 4, 0] (lv' := [(0, .ref (w_r w 295)), (1, .int x1), (2, .ref (w_r w 293)), (3, .int x3), (4, .int (x4 + 1))]) rfl ?_
      exact hl1 ((x4 + 1), d4) (Option.some.inj h).symm
  unfold f_M_copies_295_293 at h
  refine g_iconst C dX12_copies_0 (v := 0) rfl ?_
  refine g_istore C (lv' := [(4, .int 0), (0, .ref (w_r w 295)), (1, .int x1), (2, .ref (w_r w 293)), (3, .int x3)]) dX12_copies_1 (by decide) rfl ?_
  refine g_sub [1, 2, 3, 4, 0] (lv' := [(0, .ref (w_r w 295)), (1, .int x1), (2, .ref (w_r w 293)), (3, .int x3), (4, .int 0)]) rfl ?_
  exact R3 x1 x3 0 d h
set_option maxHeartbeats 4000000 in
set_option maxRecDepth 100000 in
theorem m_M_restore {w : wT} {l : Launch} {d : Dt} {rE : Int32} {dE : Dt} (hO : okW w) (h : f_M_restore  d = some (rE, dE)) : gM w l yX12_restore cX12_restore 1 (Option.some Jvm.ClassFile.FieldType.int) 1 [.ref (w_r w 292)] d dE (some (.int rE)) := by
  refine gM_of (by decide) [(0, .ref (w_r w 292))] rfl rfl ?_ hO
  intro p e R s m args below meth c C hR hr hlk
  have R13 : ∀ (v1 : Int32) (d : Dt), f_M_restore_13  v1 d = some (rE, dE) → gG w p l e R s m args below meth c 1 0 0 (gE w below args s dE (some (.int rE))) d [(0, .ref (w_r w 292))] 13 [.int v1, .ref (w_r w 292)] := by
    intro  v1 d  h
    unfold f_M_restore_13 at h
    obtain ⟨r5, d6, hc7, h⟩ := ob2_1 h
    refine g_callVi C 292 q_292 vk_M_61 hR rfl (m_M_fails C.2.2.2.2.2.2.1 hc7) rfl rfl rfl dX12_restore_13 rfl rfl ?_
    refine g_if_eq C dX12_restore_16 (tgt := 21) rfl (fun q => ?_) (fun q => ?_)
    · replace h := it_t q h
      refine g_aload_n C dX12_restore_21 0 rfl ?_
      refine g_get C (.ref (w_r w 295)) 292 q_292 fk_M_16 rfl dX12_restore_22 ?_
      refine g_iconst C dX12_restore_25 (v := 0) rfl ?_
      refine g_aload_n C dX12_restore_26 0 rfl ?_
      refine g_get C (.ref (w_r w 293)) 292 q_292 fk_M_7 rfl dX12_restore_27 ?_
      refine g_iconst C dX12_restore_30 (v := 0) rfl ?_
      obtain ⟨d8, hc9, h⟩ := ob1_1 h
      refine g_callSv C sk_M_49 hR rfl (m_M_copies_295_293 C.2.2.2.2.2.2.1 hc9) rfl rfl rfl dX12_restore_31 rfl rfl ?_
      refine g_aload_n C dX12_restore_34 0 rfl ?_
      refine g_iconst C dX12_restore_35 (v := 0) rfl ?_
      refine g_put C 292 q_292 pk_M_46 rfl rfl dX12_restore_36 ?_
      obtain ⟨d10, hd10, h⟩ := bnd_1 h
      refine g_nmD hd10 ?_
      refine g_aload_n C dX12_restore_39 0 rfl ?_
      refine g_get C (.ref (w_r w 293)) 292 q_292 fk_M_7 rfl dX12_restore_40 ?_
      refine g_iconst C dX12_restore_43 (v := 0) rfl ?_
      refine g_iald C 293 q_293 (by decide) 0 (by decide) dX12_restore_44 ?_
      exact g_iret C hr hlk rfl (congrArg Prod.snd (Option.some.inj h)) (congrArg (fun z => some (Value.int z.1)) (Option.some.inj h)) dX12_restore_45
    · replace h := it_f q h
      refine g_iconst C dX12_restore_19 (v := 0) rfl ?_
      exact g_iret C hr hlk rfl (congrArg Prod.snd (Option.some.inj h)) (congrArg (fun z => some (Value.int z.1)) (Option.some.inj h)) dX12_restore_20
  unfold f_M_restore at h
  refine g_aload_n C dX12_restore_0 0 rfl ?_
  refine g_aload_n C dX12_restore_1 0 rfl ?_
  refine g_get C (.int (d 292 4)) 292 q_292 fk_M_264 rfl dX12_restore_2 ?_
  refine g_if_eq C dX12_restore_5 (tgt := 12) rfl (fun q => ?_) (fun q => ?_)
  · replace h := it_t q h
    refine g_iconst C dX12_restore_12 (v := 1) rfl ?_
    exact R13 1 d h
  · replace h := it_f q h
    refine g_iconst C dX12_restore_8 (v := 0) rfl ?_
    refine g_goto C dX12_restore_9 (tgt := 13) rfl ?_
    exact R13 0 d h
set_option maxHeartbeats 4000000 in
set_option maxRecDepth 100000 in
theorem m_M_retract {w : wT} {l : Launch} {x1 : Int32} {d : Dt} {rE : Int32} {dE : Dt} (hO : okW w) (h : f_M_retract x1 d = some (rE, dE)) : gM w l yX12_retract cX12_retract 3 (Option.some Jvm.ClassFile.FieldType.boolean) 2 [.ref (w_r w 292), .int x1] d dE (some (.int rE)) := by
  refine gM_of (by decide) [(0, .ref (w_r w 292)), (1, .int x1)] rfl rfl ?_ hO
  intro p e R s m args below meth c C hR hr hlk
  have R27 : ∀ (x1 : Int32) (v1 : Int32) (d : Dt), f_M_retract_27 x1 v1 d = some (rE, dE) → gG w p l e R s m args below meth c 3 0 0 (gE w below args s dE (some (.int rE))) d [(0, .ref (w_r w 292)), (1, .int x1)] 27 [.int v1, .ref (w_r w 292)] := by
    intro x1 v1 d  h
    unfold f_M_retract_27 at h
    obtain ⟨r8, d9, hc10, h⟩ := ob2_1 h
    refine g_callVi C 292 q_292 vk_M_61 hR rfl (m_M_fails C.2.2.2.2.2.2.1 hc10) rfl rfl rfl dX12_retract_27 rfl rfl ?_
    refine g_if_eq C dX12_retract_30 (tgt := 35) rfl (fun q => ?_) (fun q => ?_)
    · replace h := it_t q h
      refine g_aload_n C dX12_retract_35 0 rfl ?_
      refine g_iload_n C dX12_retract_36 1 rfl ?_
      refine g_iconst C dX12_retract_37 (v := 1) rfl ?_
      obtain ⟨r11, hc12, h⟩ := ob1_1 h
      refine g_callVi C 292 q_292 vk_M_87 hR rfl (m_M_of C.2.2.2.2.2.2.1 hc12) rfl rfl rfl dX12_retract_38 rfl rfl ?_
      refine g_istore_n C (lv' := [(2, .int r11), (0, .ref (w_r w 292)), (1, .int x1)]) dX12_retract_41 (by decide) rfl ?_
      refine g_aload_n C dX12_retract_42 1 rfl ?_
      refine g_aload_n C dX12_retract_43 1 rfl ?_
      refine g_get C (.ref (w_r w 293)) 292 q_292 fk_M_7 rfl dX12_retract_44 ?_
      obtain ⟨d13, hc14, h⟩ := ob1_1 h
      refine g_callVv C 292 q_292 vk_M_64 hR rfl (m_M_keeps C.2.2.2.2.2.2.1 hc14) rfl rfl rfl dX12_retract_47 rfl rfl ?_
      refine g_aload_n C dX12_retract_50 1 rfl ?_
      refine g_iload_n C dX12_retract_51 2 rfl ?_
      refine g_iconst C dX12_retract_52 (v := 1) rfl ?_
      refine g_iconst C dX12_retract_53 (v := 0) rfl ?_
      obtain ⟨d15, hc16, h⟩ := ob1_1 h
      refine g_callVv C 292 q_292 vk_M_68 hR rfl (m_M_lays C.2.2.2.2.2.2.1 hc16) rfl rfl rfl dX12_retract_54 rfl rfl ?_
      refine g_iload_n C dX12_retract_57 0 rfl ?_
      refine g_iconst C dX12_retract_58 (v := 1) rfl ?_
      refine g_icmp_ne C dX12_retract_59 (tgt := 66) rfl (fun q => ?_) (fun q => ?_)
      · replace h := it_f q h
        refine g_iconst C dX12_retract_66 (v := 0) rfl ?_
        exact g_iret C hr hlk rfl (congrArg Prod.snd (Option.some.inj h)) (congrArg (fun z => some (Value.int z.1)) (Option.some.inj h)) dX12_retract_67
      · replace h := it_t q h
        refine g_iconst C dX12_retract_62 (v := 1) rfl ?_
        refine g_goto C dX12_retract_63 (tgt := 67) rfl ?_
        exact g_iret C hr hlk rfl (congrArg Prod.snd (Option.some.inj h)) (congrArg (fun z => some (Value.int z.1)) (Option.some.inj h)) dX12_retract_67
    · replace h := it_f q h
      refine g_iconst C dX12_retract_33 (v := 0) rfl ?_
      exact g_iret C hr hlk rfl (congrArg Prod.snd (Option.some.inj h)) (congrArg (fun z => some (Value.int z.1)) (Option.some.inj h)) dX12_retract_34
  unfold f_M_retract at h
  refine g_aload_n C dX12_retract_0 0 rfl ?_
  refine g_aload_n C dX12_retract_1 0 rfl ?_
  refine g_iload_n C dX12_retract_2 1 rfl ?_
  obtain ⟨r17, hc18, h⟩ := ob1_1 h
  refine g_callVi C 292 q_292 vk_M_57 hR rfl (m_M_isLantern C.2.2.2.2.2.2.1 hc18) rfl rfl rfl dX12_retract_3 rfl rfl ?_
  refine g_if_ne C dX12_retract_6 (tgt := 13) rfl (fun q => ?_) (fun q => ?_)
  · replace h := it_f q h
    refine g_aload_n C dX12_retract_13 0 rfl ?_
    refine g_iload_n C dX12_retract_14 1 rfl ?_
    refine g_iconst C dX12_retract_15 (v := 1) rfl ?_
    obtain ⟨r19, hc20, h⟩ := ob1_1 h
    refine g_callVi C 292 q_292 vk_M_87 hR rfl (m_M_of C.2.2.2.2.2.2.1 hc20) rfl rfl rfl dX12_retract_16 rfl rfl ?_
    refine g_if_ne C dX12_retract_19 (tgt := 26) rfl (fun q => ?_) (fun q => ?_)
    · replace h := it_f q h
      refine g_iconst C dX12_retract_26 (v := 0) rfl ?_
      exact R27 x1 0 d h
    · replace h := it_t q h
      refine g_iconst C dX12_retract_22 (v := 2) rfl ?_
      refine g_goto C dX12_retract_23 (tgt := 27) rfl ?_
      exact R27 x1 2 d h
  · replace h := it_t q h
    refine g_iconst C dX12_retract_9 (v := 1) rfl ?_
    refine g_goto C dX12_retract_10 (tgt := 27) rfl ?_
    exact R27 x1 1 d h
set_option maxHeartbeats 4000000 in
set_option maxRecDepth 100000 in
theorem m_M_copies_296_294 {w : wT} {l : Launch} {x1 x3 : Int32} {d : Dt} {dE : Dt} (hO : okW w) (h : f_M_copies_296_294 x1 x3 d = some dE) : gM w l yX12_copies cX12_copies 5 (Option.none : Option Jvm.ClassFile.FieldType) 0 [.ref (w_r w 296), .int x1, .ref (w_r w 294), .int x3] d dE none := by
  refine gM_of (by decide) [(0, .ref (w_r w 296)), (1, .int x1), (2, .ref (w_r w 294)), (3, .int x3)] rfl rfl ?_ hO
  intro p e R s m args below meth c C hR hr hlk
  have R3 : ∀ (x1 : Int32) (x3 : Int32) (x4 : Int32) (d : Dt), f_M_copies_296_294_3 x1 x3 x4 d = some dE → gG w p l e R s m args below meth c 5 0 0 (gE w below args s dE none) d [(0, .ref (w_r w 296)), (1, .int x1), (2, .ref (w_r w 294)), (3, .int x3), (4, .int x4)] 3 [] := by
    intro x1 x3 x4 d  h
    refine iter_ind (G := fun s_ : (Int32 × Dt) => gG w p l e R s m args below meth c 5 0 0 (gE w below args s dE none) s_.2 [(0, .ref (w_r w 296)), (1, .int x1), (2, .ref (w_r w 294)), (3, .int x3), (4, .int s_.1)] 3 []) ?_ fu _ h
    clear h
    intro s_ y1 h hl1 hx1
    obtain ⟨x4, d⟩ := s_
    show gG w p l e R s m args below meth c 5 0 0 (gE w below args s dE none) d [(0, .ref (w_r w 296)), (1, .int x1), (2, .ref (w_r w 294)), (3, .int x3), (4, .int x4)] 3 []
    dsimp only at h
    unfold st_M_copies_296_294_3 at h
    refine g_iload C dX12_copies_3 4 rfl ?_
    refine g_sipush C dX12_copies_5 (v := 187) (by decide) ?_
    refine g_icmp_ge C dX12_copies_8 (tgt := 29) rfl (fun q => ?_) (fun q => ?_)
    · replace h := it_t q h
      replace h := ir_2 h hx1
      exact g_vret C hr hlk (Option.some.inj h) rfl dX12_copies_29
    · replace h := it_f q h
      refine g_aload_n C dX12_copies_11 2 rfl ?_
      refine g_iload_n C dX12_copies_12 3 rfl ?_
      refine g_iload C dX12_copies_13 4 rfl ?_
      refine g_iadd C dX12_copies_15  ?_
      refine g_aload_n C dX12_copies_16 0 rfl ?_
      refine g_iload_n C dX12_copies_17 1 rfl ?_
      refine g_iload C dX12_copies_18 4 rfl ?_
      refine g_iadd C dX12_copies_20  ?_
      have hg2 := gd_1 h
      replace h := gd_2 h
      refine g_iald C 296 q_296 hg2 _ rfl dX12_copies_21 ?_
      have hg3 := gd_1 h
      replace h := gd_2 h
      refine g_iast C 294 q_294 hg3 _ rfl  dX12_copies_22 ?_
      obtain ⟨d4, hd4, h⟩ := bnd_1 h
      refine g_nmD hd4 ?_
      refine g_iinc C (lv' := [(4, .int (x4 + 1)), (0, .ref (w_r w 296)), (1, .int x1), (2, .ref (w_r w 294)), (3, .int x3)]) (v := (x4 + 1)) dX12_copies_23 4 rfl rfl (by decide) rfl ?_
      refine g_goto C dX12_copies_26 (tgt := 3) rfl ?_
      refine g_sub [1, 2, 3, 4, 0] (lv' := [(0, .ref (w_r w 296)), (1, .int x1), (2, .ref (w_r w 294)), (3, .int x3), (4, .int (x4 + 1))]) rfl ?_
      exact hl1 ((x4 + 1), d4) (Option.some.inj h).symm
  unfold f_M_copies_296_294 at h
  refine g_iconst C dX12_copies_0 (v := 0) rfl ?_
  refine g_istore C (lv' := [(4, .int 0), (0, .ref (w_r w 296)), (1, .int x1), (2, .ref (w_r w 294)), (3, .int x3)]) dX12_copies_1 (by decide) rfl ?_
  refine g_sub [1, 2, 3, 4, 0] (lv' := [(0, .ref (w_r w 296)), (1, .int x1), (2, .ref (w_r w 294)), (3, .int x3), (4, .int 0)]) rfl ?_
  exact R3 x1 x3 0 d h
set_option maxHeartbeats 4000000 in
set_option maxRecDepth 100000 in
theorem m_M_keeps_292_296 {w : wT} {l : Launch} {d : Dt} {dE : Dt} (hO : okW w) (h : f_M_keeps_292_296  d = some dE) : gM w l yX12_keeps cX12_keeps 3 (Option.none : Option Jvm.ClassFile.FieldType) 1 [.ref (w_r w 292), .ref (w_r w 296)] d dE none := by
  refine gM_of (by decide) [(0, .ref (w_r w 292)), (1, .ref (w_r w 296))] rfl rfl ?_ hO
  intro p e R s m args below meth c C hR hr hlk
  have R63 : ∀ (d : Dt), f_M_keeps_292_296_63   d = some dE → gG w p l e R s m args below meth c 3 0 0 (gE w below args s dE none) d [(0, .ref (w_r w 292)), (1, .ref (w_r w 296))] 63 [] := by
    intro   d  h
    unfold f_M_keeps_292_296_63 at h
    refine g_aload_n C dX12_keeps_63 1 rfl ?_
    refine g_iconst C dX12_keeps_64 (v := 0) rfl ?_
    refine g_aload_n C dX12_keeps_65 0 rfl ?_
    refine g_get C (.ref (w_r w 294)) 292 q_292 fk_M_13 rfl dX12_keeps_66 ?_
    refine g_sipush C dX12_keeps_69 (v := 187) (by decide) ?_
    refine g_aload_n C dX12_keeps_72 0 rfl ?_
    refine g_get C (.int (d 292 5)) 292 q_292 fk_M_46 rfl dX12_keeps_73 ?_
    refine g_imul C dX12_keeps_76  ?_
    obtain ⟨d6, hc7, h⟩ := ob1_1 h
    refine g_callSv C sk_M_49 hR rfl (m_M_copies_296_294 C.2.2.2.2.2.2.1 hc7) rfl rfl rfl dX12_keeps_77 rfl rfl ?_
    refine g_aload_n C dX12_keeps_80 0 rfl ?_
    refine g_dup C dX12_keeps_81 rfl ?_
    refine g_get C (.int (d6 292 5)) 292 q_292 fk_M_46 rfl dX12_keeps_82 ?_
    refine g_iconst C dX12_keeps_85 (v := 1) rfl ?_
    refine g_iadd C dX12_keeps_86  ?_
    refine g_put C 292 q_292 pk_M_46 rfl rfl dX12_keeps_87 ?_
    obtain ⟨d8, hd8, h⟩ := bnd_1 h
    refine g_nmD hd8 ?_
    exact g_vret C hr hlk (Option.some.inj h) rfl dX12_keeps_90
  have R24 : ∀ (x2 : Int32) (d : Dt), f_M_keeps_292_296_24 x2 d = some dE → gG w p l e R s m args below meth c 3 0 0 (gE w below args s dE none) d [(0, .ref (w_r w 292)), (1, .ref (w_r w 296)), (2, .int x2)] 24 [] := by
    intro x2 d  h
    refine iter_ind (G := fun s_ : (Int32 × Dt) => gG w p l e R s m args below meth c 3 0 0 (gE w below args s dE none) s_.2 [(0, .ref (w_r w 292)), (1, .ref (w_r w 296)), (2, .int s_.1)] 24 []) ?_ fu _ h
    clear h
    intro s_ y1 h hl1 hx1
    obtain ⟨x2, d⟩ := s_
    show gG w p l e R s m args below meth c 3 0 0 (gE w below args s dE none) d [(0, .ref (w_r w 292)), (1, .ref (w_r w 296)), (2, .int x2)] 24 []
    dsimp only at h
    unfold st_M_keeps_292_296_24 at h
    refine g_iload_n C dX12_keeps_24 2 rfl ?_
    refine g_sipush C dX12_keeps_25 (v := 1309) (by decide) ?_
    refine g_icmp_ge C dX12_keeps_28 (tgt := 53) rfl (fun q => ?_) (fun q => ?_)
    · replace h := it_t q h
      replace h := ir_2 h hx1
      refine g_aload_n C dX12_keeps_53 0 rfl ?_
      refine g_dup C dX12_keeps_54 rfl ?_
      refine g_get C (.int (d 292 5)) 292 q_292 fk_M_46 rfl dX12_keeps_55 ?_
      refine g_iconst C dX12_keeps_58 (v := 1) rfl ?_
      refine g_isub C dX12_keeps_59  ?_
      refine g_put C 292 q_292 pk_M_46 rfl rfl dX12_keeps_60 ?_
      obtain ⟨d9, hd9, h⟩ := bnd_1 h
      refine g_nmD hd9 ?_
      refine g_sub [0, 1] (lv' := [(0, .ref (w_r w 292)), (1, .ref (w_r w 296))]) rfl ?_
      exact R63 d9 h
    · replace h := it_f q h
      refine g_aload_n C dX12_keeps_31 0 rfl ?_
      refine g_get C (.ref (w_r w 294)) 292 q_292 fk_M_13 rfl dX12_keeps_32 ?_
      refine g_iload_n C dX12_keeps_35 2 rfl ?_
      refine g_aload_n C dX12_keeps_36 0 rfl ?_
      refine g_get C (.ref (w_r w 294)) 292 q_292 fk_M_13 rfl dX12_keeps_37 ?_
      refine g_iload_n C dX12_keeps_40 2 rfl ?_
      refine g_sipush C dX12_keeps_41 (v := 187) (by decide) ?_
      refine g_iadd C dX12_keeps_44  ?_
      have hg10 := gd_1 h
      replace h := gd_2 h
      refine g_iald C 294 q_294 hg10 _ rfl dX12_keeps_45 ?_
      have hg11 := gd_1 h
      replace h := gd_2 h
      refine g_iast C 294 q_294 hg11 _ rfl  dX12_keeps_46 ?_
      obtain ⟨d12, hd12, h⟩ := bnd_1 h
      refine g_nmD hd12 ?_
      refine g_iinc C (lv' := [(2, .int (x2 + 1)), (0, .ref (w_r w 292)), (1, .ref (w_r w 296))]) (v := (x2 + 1)) dX12_keeps_47 2 rfl rfl (by decide) rfl ?_
      refine g_goto C dX12_keeps_50 (tgt := 24) rfl ?_
      refine g_sub [1, 2, 0] (lv' := [(0, .ref (w_r w 292)), (1, .ref (w_r w 296)), (2, .int (x2 + 1))]) rfl ?_
      exact hl1 ((x2 + 1), d12) (Option.some.inj h).symm
  unfold f_M_keeps_292_296 at h
  refine g_aload_n C dX12_keeps_0 0 rfl ?_
  refine g_iconst C dX12_keeps_1 (v := 0) rfl ?_
  refine g_put C 292 q_292 pk_M_39 rfl rfl dX12_keeps_2 ?_
  obtain ⟨d13, hd13, h⟩ := bnd_1 h
  refine g_nmD hd13 ?_
  refine g_aload_n C dX12_keeps_5 0 rfl ?_
  refine g_get C (.int (d13 292 6)) 292 q_292 fk_M_42 rfl dX12_keeps_6 ?_
  refine g_if_eq C dX12_keeps_9 (tgt := 13) rfl (fun q => ?_) (fun q => ?_)
  · replace h := it_t q h
    refine g_aload_n C dX12_keeps_13 0 rfl ?_
    refine g_get C (.int (d13 292 5)) 292 q_292 fk_M_46 rfl dX12_keeps_14 ?_
    refine g_bipush C dX12_keeps_17 (v := 8) (by decide) ?_
    refine g_icmp_ne C dX12_keeps_19 (tgt := 63) rfl (fun q => ?_) (fun q => ?_)
    · replace h := it_f q h
      exact R63 d13 h
    · replace h := it_t q h
      refine g_iconst C dX12_keeps_22 (v := 0) rfl ?_
      refine g_istore_n C (lv' := [(2, .int 0), (0, .ref (w_r w 292)), (1, .ref (w_r w 296))]) dX12_keeps_23 (by decide) rfl ?_
      refine g_sub [1, 2, 0] (lv' := [(0, .ref (w_r w 292)), (1, .ref (w_r w 296)), (2, .int 0)]) rfl ?_
      exact R24 0 d13 h
  · replace h := it_f q h
    exact g_vret C hr hlk (Option.some.inj h) rfl dX12_keeps_12
set_option maxHeartbeats 4000000 in
set_option maxRecDepth 100000 in
theorem m_M_copies_296_293 {w : wT} {l : Launch} {x1 x3 : Int32} {d : Dt} {dE : Dt} (hO : okW w) (h : f_M_copies_296_293 x1 x3 d = some dE) : gM w l yX12_copies cX12_copies 5 (Option.none : Option Jvm.ClassFile.FieldType) 0 [.ref (w_r w 296), .int x1, .ref (w_r w 293), .int x3] d dE none := by
  refine gM_of (by decide) [(0, .ref (w_r w 296)), (1, .int x1), (2, .ref (w_r w 293)), (3, .int x3)] rfl rfl ?_ hO
  intro p e R s m args below meth c C hR hr hlk
  have R3 : ∀ (x1 : Int32) (x3 : Int32) (x4 : Int32) (d : Dt), f_M_copies_296_293_3 x1 x3 x4 d = some dE → gG w p l e R s m args below meth c 5 0 0 (gE w below args s dE none) d [(0, .ref (w_r w 296)), (1, .int x1), (2, .ref (w_r w 293)), (3, .int x3), (4, .int x4)] 3 [] := by
    intro x1 x3 x4 d  h
    refine iter_ind (G := fun s_ : (Int32 × Dt) => gG w p l e R s m args below meth c 5 0 0 (gE w below args s dE none) s_.2 [(0, .ref (w_r w 296)), (1, .int x1), (2, .ref (w_r w 293)), (3, .int x3), (4, .int s_.1)] 3 []) ?_ fu _ h
    clear h
    intro s_ y1 h hl1 hx1
    obtain ⟨x4, d⟩ := s_
    show gG w p l e R s m args below meth c 5 0 0 (gE w below args s dE none) d [(0, .ref (w_r w 296)), (1, .int x1), (2, .ref (w_r w 293)), (3, .int x3), (4, .int x4)] 3 []
    dsimp only at h
    unfold st_M_copies_296_293_3 at h
    refine g_iload C dX12_copies_3 4 rfl ?_
    refine g_sipush C dX12_copies_5 (v := 187) (by decide) ?_
    refine g_icmp_ge C dX12_copies_8 (tgt := 29) rfl (fun q => ?_) (fun q => ?_)
    · replace h := it_t q h
      replace h := ir_2 h hx1
      exact g_vret C hr hlk (Option.some.inj h) rfl dX12_copies_29
    · replace h := it_f q h
      refine g_aload_n C dX12_copies_11 2 rfl ?_
      refine g_iload_n C dX12_copies_12 3 rfl ?_
      refine g_iload C dX12_copies_13 4 rfl ?_
      refine g_iadd C dX12_copies_15  ?_
      refine g_aload_n C dX12_copies_16 0 rfl ?_
      refine g_iload_n C dX12_copies_17 1 rfl ?_
      refine g_iload C dX12_copies_18 4 rfl ?_
      refine g_iadd C dX12_copies_20  ?_
      have hg2 := gd_1 h
      replace h := gd_2 h
      refine g_iald C 296 q_296 hg2 _ rfl dX12_copies_21 ?_
      have hg3 := gd_1 h
      replace h := gd_2 h
      refine g_iast C 293 q_293 hg3 _ rfl  dX12_copies_22 ?_
      obtain ⟨d4, hd4, h⟩ := bnd_1 h
      refine g_nmD hd4 ?_
      refine g_iinc C (lv' := [(4, .int (x4 + 1)), (0, .ref (w_r w 296)), (1, .int x1), (2, .ref (w_r w 293)), (3, .int x3)]) (v := (x4 + 1)) dX12_copies_23 4 rfl rfl (by decide) rfl ?_
      refine g_goto C dX12_copies_26 (tgt := 3) rfl ?_
      refine g_sub [1, 2, 3, 4, 0] (lv' := [(0, .ref (w_r w 296)), (1, .int x1), (2, .ref (w_r w 293)), (3, .int x3), (4, .int (x4 + 1))]) rfl ?_
      exact hl1 ((x4 + 1), d4) (Option.some.inj h).symm
  unfold f_M_copies_296_293 at h
  refine g_iconst C dX12_copies_0 (v := 0) rfl ?_
  refine g_istore C (lv' := [(4, .int 0), (0, .ref (w_r w 296)), (1, .int x1), (2, .ref (w_r w 293)), (3, .int x3)]) dX12_copies_1 (by decide) rfl ?_
  refine g_sub [1, 2, 3, 4, 0] (lv' := [(0, .ref (w_r w 296)), (1, .int x1), (2, .ref (w_r w 293)), (3, .int x3), (4, .int 0)]) rfl ?_
  exact R3 x1 x3 0 d h
set_option maxHeartbeats 4000000 in
set_option maxRecDepth 100000 in
theorem m_M_copies_293_296 {w : wT} {l : Launch} {x1 x3 : Int32} {d : Dt} {dE : Dt} (hO : okW w) (h : f_M_copies_293_296 x1 x3 d = some dE) : gM w l yX12_copies cX12_copies 5 (Option.none : Option Jvm.ClassFile.FieldType) 0 [.ref (w_r w 293), .int x1, .ref (w_r w 296), .int x3] d dE none := by
  refine gM_of (by decide) [(0, .ref (w_r w 293)), (1, .int x1), (2, .ref (w_r w 296)), (3, .int x3)] rfl rfl ?_ hO
  intro p e R s m args below meth c C hR hr hlk
  have R3 : ∀ (x1 : Int32) (x3 : Int32) (x4 : Int32) (d : Dt), f_M_copies_293_296_3 x1 x3 x4 d = some dE → gG w p l e R s m args below meth c 5 0 0 (gE w below args s dE none) d [(0, .ref (w_r w 293)), (1, .int x1), (2, .ref (w_r w 296)), (3, .int x3), (4, .int x4)] 3 [] := by
    intro x1 x3 x4 d  h
    refine iter_ind (G := fun s_ : (Int32 × Dt) => gG w p l e R s m args below meth c 5 0 0 (gE w below args s dE none) s_.2 [(0, .ref (w_r w 293)), (1, .int x1), (2, .ref (w_r w 296)), (3, .int x3), (4, .int s_.1)] 3 []) ?_ fu _ h
    clear h
    intro s_ y1 h hl1 hx1
    obtain ⟨x4, d⟩ := s_
    show gG w p l e R s m args below meth c 5 0 0 (gE w below args s dE none) d [(0, .ref (w_r w 293)), (1, .int x1), (2, .ref (w_r w 296)), (3, .int x3), (4, .int x4)] 3 []
    dsimp only at h
    unfold st_M_copies_293_296_3 at h
    refine g_iload C dX12_copies_3 4 rfl ?_
    refine g_sipush C dX12_copies_5 (v := 187) (by decide) ?_
    refine g_icmp_ge C dX12_copies_8 (tgt := 29) rfl (fun q => ?_) (fun q => ?_)
    · replace h := it_t q h
      replace h := ir_2 h hx1
      exact g_vret C hr hlk (Option.some.inj h) rfl dX12_copies_29
    · replace h := it_f q h
      refine g_aload_n C dX12_copies_11 2 rfl ?_
      refine g_iload_n C dX12_copies_12 3 rfl ?_
      refine g_iload C dX12_copies_13 4 rfl ?_
      refine g_iadd C dX12_copies_15  ?_
      refine g_aload_n C dX12_copies_16 0 rfl ?_
      refine g_iload_n C dX12_copies_17 1 rfl ?_
      refine g_iload C dX12_copies_18 4 rfl ?_
      refine g_iadd C dX12_copies_20  ?_
      have hg2 := gd_1 h
      replace h := gd_2 h
      refine g_iald C 293 q_293 hg2 _ rfl dX12_copies_21 ?_
      have hg3 := gd_1 h
      replace h := gd_2 h
      refine g_iast C 296 q_296 hg3 _ rfl  dX12_copies_22 ?_
      obtain ⟨d4, hd4, h⟩ := bnd_1 h
      refine g_nmD hd4 ?_
      refine g_iinc C (lv' := [(4, .int (x4 + 1)), (0, .ref (w_r w 293)), (1, .int x1), (2, .ref (w_r w 296)), (3, .int x3)]) (v := (x4 + 1)) dX12_copies_23 4 rfl rfl (by decide) rfl ?_
      refine g_goto C dX12_copies_26 (tgt := 3) rfl ?_
      refine g_sub [1, 2, 3, 4, 0] (lv' := [(0, .ref (w_r w 293)), (1, .int x1), (2, .ref (w_r w 296)), (3, .int x3), (4, .int (x4 + 1))]) rfl ?_
      exact hl1 ((x4 + 1), d4) (Option.some.inj h).symm
  unfold f_M_copies_293_296 at h
  refine g_iconst C dX12_copies_0 (v := 0) rfl ?_
  refine g_istore C (lv' := [(4, .int 0), (0, .ref (w_r w 293)), (1, .int x1), (2, .ref (w_r w 296)), (3, .int x3)]) dX12_copies_1 (by decide) rfl ?_
  refine g_sub [1, 2, 3, 4, 0] (lv' := [(0, .ref (w_r w 293)), (1, .int x1), (2, .ref (w_r w 296)), (3, .int x3), (4, .int 0)]) rfl ?_
  exact R3 x1 x3 0 d h
set_option maxHeartbeats 4000000 in
set_option maxRecDepth 100000 in
theorem m_M_runCommands {w : wT} {l : Launch} {d : Dt} {rE : Int32} {dE : Dt} (hO : okW w) (h : f_M_runCommands  d = some (rE, dE)) : gM w l yX12_runCommands cX12_runCommands 4 (Option.some Jvm.ClassFile.FieldType.int) 8 [.ref (w_r w 292)] d dE (some (.int rE)) := by
  refine gM_of (by decide) [(0, .ref (w_r w 292))] rfl rfl ?_ hO
  intro p e R s m args below meth c C hR hr hlk
  have R98 : ∀ (x2 : Int32) (x3 : Int32) (d : Dt), f_M_runCommands_98 x2 x3  d = some (rE, dE) → gG w p l e R s m args below meth c 4 0 0 (gE w below args s dE (some (.int rE))) d [(0, .ref (w_r w 292)), (2, .int x2), (3, .int x3)] 98 [] := by
    intro x2 x3  d  h
    unfold f_M_runCommands_98 at h
    refine g_aload_n C dX12_runCommands_98 0 rfl ?_
    refine g_iconst C dX12_runCommands_99 (v := 0) rfl ?_
    refine g_put C 292 q_292 pk_M_42 rfl rfl dX12_runCommands_100 ?_
    obtain ⟨d16, hd16, h⟩ := bnd_1 h
    refine g_nmD hd16 ?_
    refine g_aload_n C dX12_runCommands_103 0 rfl ?_
    refine g_get C (.int (d16 292 7)) 292 q_292 fk_M_39 rfl dX12_runCommands_104 ?_
    refine g_if_le C dX12_runCommands_107 (tgt := 143) rfl (fun q => ?_) (fun q => ?_)
    · replace h := it_t q h
      refine g_aload_n C dX12_runCommands_143 0 rfl ?_
      refine g_aload_n C dX12_runCommands_144 0 rfl ?_
      refine g_get C (.ref (w_r w 296)) 292 q_292 fk_M_19 rfl dX12_runCommands_145 ?_
      obtain ⟨d17, hc18, h⟩ := ob1_1 h
      refine g_callVv C 292 q_292 vk_M_64 hR rfl (m_M_keeps_292_296 C.2.2.2.2.2.2.1 hc18) rfl rfl rfl dX12_runCommands_148 rfl rfl ?_
      refine g_aload_n C dX12_runCommands_151 0 rfl ?_
      refine g_get C (.int (d17 292 16)) 292 q_292 fk_M_178 rfl dX12_runCommands_152 ?_
      exact g_iret C hr hlk rfl (congrArg Prod.snd (Option.some.inj h)) (congrArg (fun z => some (Value.int z.1)) (Option.some.inj h)) dX12_runCommands_155
    · replace h := it_f q h
      refine g_aload_n C dX12_runCommands_110 0 rfl ?_
      refine g_get C (.ref (w_r w 296)) 292 q_292 fk_M_19 rfl dX12_runCommands_111 ?_
      refine g_iconst C dX12_runCommands_114 (v := 0) rfl ?_
      refine g_aload_n C dX12_runCommands_115 0 rfl ?_
      refine g_get C (.ref (w_r w 293)) 292 q_292 fk_M_7 rfl dX12_runCommands_116 ?_
      refine g_iconst C dX12_runCommands_119 (v := 0) rfl ?_
      obtain ⟨d19, hc20, h⟩ := ob1_1 h
      refine g_callSv C sk_M_49 hR rfl (m_M_copies_296_293 C.2.2.2.2.2.2.1 hc20) rfl rfl rfl dX12_runCommands_120 rfl rfl ?_
      refine g_aload_n C dX12_runCommands_123 0 rfl ?_
      refine g_iload_n C dX12_runCommands_124 1 rfl ?_
      refine g_put C 292 q_292 pk_M_29 rfl rfl dX12_runCommands_125 ?_
      obtain ⟨d21, hd21, h⟩ := bnd_1 h
      refine g_nmD hd21 ?_
      refine g_aload_n C dX12_runCommands_128 0 rfl ?_
      refine g_iconst C dX12_runCommands_129 (v := 2) rfl ?_
      refine g_put C 292 q_292 pk_M_39 rfl rfl dX12_runCommands_130 ?_
      obtain ⟨d22, hd22, h⟩ := bnd_1 h
      refine g_nmD hd22 ?_
      refine g_iload_n C dX12_runCommands_133 2 rfl ?_
      refine g_if_le C dX12_runCommands_134 (tgt := 141) rfl (fun q => ?_) (fun q => ?_)
      · replace h := it_t q h
        refine g_iload_n C dX12_runCommands_141 2 rfl ?_
        exact g_iret C hr hlk rfl (congrArg Prod.snd (Option.some.inj h)) (congrArg (fun z => some (Value.int z.1)) (Option.some.inj h)) dX12_runCommands_142
      · replace h := it_f q h
        refine g_iconst C dX12_runCommands_137 (v := 0) rfl ?_
        refine g_goto C dX12_runCommands_138 (tgt := 142) rfl ?_
        exact g_iret C hr hlk rfl (congrArg Prod.snd (Option.some.inj h)) (congrArg (fun z => some (Value.int z.1)) (Option.some.inj h)) dX12_runCommands_142
  have R62 : ∀ (x2 : Int32) (x3 : Int32) (d : Dt), f_M_runCommands_62 x2 x3 d = some (rE, dE) → gG w p l e R s m args below meth c 4 0 0 (gE w below args s dE (some (.int rE))) d [(0, .ref (w_r w 292)), (2, .int x2), (3, .int x3)] 62 [] := by
    intro x2 x3 d  h
    refine iter_ind (G := fun s_ : (Int32 × Int32 × Dt) => gG w p l e R s m args below meth c 4 0 0 (gE w below args s dE (some (.int rE))) s_.2.2 [(0, .ref (w_r w 292)), (2, .int s_.1), (3, .int s_.2.1)] 62 []) ?_ fu _ h
    clear h
    intro s_ y1 h hl1 hx1
    obtain ⟨x2, x3, d⟩ := s_
    show gG w p l e R s m args below meth c 4 0 0 (gE w below args s dE (some (.int rE))) d [(0, .ref (w_r w 292)), (2, .int x2), (3, .int x3)] 62 []
    dsimp only at h
    unfold st_M_runCommands_62 at h
    refine g_iload_n C dX12_runCommands_62 1 rfl ?_
    refine g_aload_n C dX12_runCommands_63 0 rfl ?_
    refine g_get C (.int (d 292 16)) 292 q_292 fk_M_178 rfl dX12_runCommands_64 ?_
    refine g_icmp_ge C dX12_runCommands_67 (tgt := 98) rfl (fun q => ?_) (fun q => ?_)
    · replace h := it_t q h
      replace h := ir_2 h hx1
      exact R98 x2 x3 d h
    · replace h := it_f q h
      refine g_aload_n C dX12_runCommands_70 0 rfl ?_
      refine g_get C (.int (d 292 7)) 292 q_292 fk_M_39 rfl dX12_runCommands_71 ?_
      refine g_if_ne C dX12_runCommands_74 (tgt := 98) rfl (fun q => ?_) (fun q => ?_)
      · replace h := it_f q h
        replace h := ir_2 h hx1
        exact R98 x2 x3 d h
      · replace h := it_t q h
        refine g_aload_n C dX12_runCommands_77 0 rfl ?_
        refine g_iconst C dX12_runCommands_78 (v := 5) rfl ?_
        refine g_iload_n C dX12_runCommands_79 1 rfl ?_
        refine g_imul C dX12_runCommands_80  ?_
        obtain ⟨r23, d24, hc25, h⟩ := ob2_1 h
        refine g_callVi C 292 q_292 vk_M_249 hR rfl (m_M_carries C.2.2.2.2.2.2.1 hc25) rfl rfl rfl dX12_runCommands_81 rfl rfl ?_
        refine g_istore_n C (lv' := [(3, .int r23), (0, .ref (w_r w 292)), (2, .int x2)]) dX12_runCommands_84 (by decide) rfl ?_
        refine g_aload_n C dX12_runCommands_85 1 rfl ?_
        refine g_get C (.int (d24 292 7)) 292 q_292 fk_M_39 rfl dX12_runCommands_86 ?_
        refine g_if_ne C dX12_runCommands_89 (tgt := 62) rfl (fun q => ?_) (fun q => ?_)
        · replace h := it_f q h
          refine g_sub [1, 2, 0] (lv' := [(0, .ref (w_r w 292)), (2, .int x2), (3, .int r23)]) rfl ?_
          exact hl1 (x2, r23, d24) (Option.some.inj h).symm
        · replace h := it_t q h
          refine g_iinc C (lv' := [(2, .int (x2 + 1)), (3, .int r23), (0, .ref (w_r w 292))]) (v := (x2 + 1)) dX12_runCommands_92 2 rfl rfl (by decide) rfl ?_
          refine g_goto C dX12_runCommands_95 (tgt := 62) rfl ?_
          refine g_sub [2, 0, 1] (lv' := [(0, .ref (w_r w 292)), (2, .int (x2 + 1)), (3, .int r23)]) rfl ?_
          exact hl1 ((x2 + 1), r23, d24) (Option.some.inj h).symm
  have R32 : ∀ (v1 : Int32) (d : Dt), f_M_runCommands_32  v1 d = some (rE, dE) → gG w p l e R s m args below meth c 4 0 0 (gE w below args s dE (some (.int rE))) d [(0, .ref (w_r w 292))] 32 [.int v1, .ref (w_r w 292)] := by
    intro  v1 d  h
    unfold f_M_runCommands_32 at h
    obtain ⟨r26, d27, hc28, h⟩ := ob2_1 h
    refine g_callVi C 292 q_292 vk_M_61 hR rfl (m_M_fails C.2.2.2.2.2.2.1 hc28) rfl rfl rfl dX12_runCommands_32 rfl rfl ?_
    refine g_if_eq C dX12_runCommands_35 (tgt := 40) rfl (fun q => ?_) (fun q => ?_)
    · replace h := it_t q h
      refine g_aload_n C dX12_runCommands_40 0 rfl ?_
      refine g_get C (.ref (w_r w 293)) 292 q_292 fk_M_7 rfl dX12_runCommands_41 ?_
      refine g_iconst C dX12_runCommands_44 (v := 0) rfl ?_
      refine g_aload_n C dX12_runCommands_45 0 rfl ?_
      refine g_get C (.ref (w_r w 296)) 292 q_292 fk_M_19 rfl dX12_runCommands_46 ?_
      refine g_iconst C dX12_runCommands_49 (v := 0) rfl ?_
      obtain ⟨d29, hc30, h⟩ := ob1_1 h
      refine g_callSv C sk_M_49 hR rfl (m_M_copies_293_296 C.2.2.2.2.2.2.1 hc30) rfl rfl rfl dX12_runCommands_50 rfl rfl ?_
      refine g_aload_n C dX12_runCommands_53 0 rfl ?_
      refine g_iconst C dX12_runCommands_54 (v := 1) rfl ?_
      refine g_put C 292 q_292 pk_M_42 rfl rfl dX12_runCommands_55 ?_
      obtain ⟨d31, hd31, h⟩ := bnd_1 h
      refine g_nmD hd31 ?_
      refine g_iconst C dX12_runCommands_58 (v := 0) rfl ?_
      refine g_istore_n C (lv' := [(2, .int 0), (0, .ref (w_r w 292))]) dX12_runCommands_59 (by decide) rfl ?_
      refine g_iconst C dX12_runCommands_60 (v := 0) rfl ?_
      refine g_istore_n C (lv' := [(3, .int 0), (2, .int 0), (0, .ref (w_r w 292))]) dX12_runCommands_61 (by decide) rfl ?_
      refine g_sub [2, 1, 0] (lv' := [(0, .ref (w_r w 292)), (2, .int 0), (3, .int 0)]) rfl ?_
      exact R62 0 0 d31 h
    · replace h := it_f q h
      refine g_iconst C dX12_runCommands_38 (v := 0) rfl ?_
      exact g_iret C hr hlk rfl (congrArg Prod.snd (Option.some.inj h)) (congrArg (fun z => some (Value.int z.1)) (Option.some.inj h)) dX12_runCommands_39
  have R17 : ∀ (x1 : Int32) (d : Dt), f_M_runCommands_17 x1  d = some (rE, dE) → gG w p l e R s m args below meth c 4 0 0 (gE w below args s dE (some (.int rE))) d [(0, .ref (w_r w 292)), (1, .int x1)] 17 [] := by
    intro x1  d  h
    unfold f_M_runCommands_17 at h
    refine g_aload_n C dX12_runCommands_17 0 rfl ?_
    refine g_iconst C dX12_runCommands_18 (v := 0) rfl ?_
    refine g_put C 292 q_292 pk_M_169 rfl rfl dX12_runCommands_19 ?_
    obtain ⟨d32, hd32, h⟩ := bnd_1 h
    refine g_nmD hd32 ?_
    refine g_aload_n C dX12_runCommands_22 0 rfl ?_
    refine g_iload_n C dX12_runCommands_23 1 rfl ?_
    refine g_if_eq C dX12_runCommands_24 (tgt := 31) rfl (fun q => ?_) (fun q => ?_)
    · replace h := it_t q h
      refine g_iconst C dX12_runCommands_31 (v := 1) rfl ?_
      refine g_sub [0] (lv' := [(0, .ref (w_r w 292))]) rfl ?_
      exact R32 1 d32 h
    · replace h := it_f q h
      refine g_iconst C dX12_runCommands_27 (v := 0) rfl ?_
      refine g_goto C dX12_runCommands_28 (tgt := 32) rfl ?_
      refine g_sub [0] (lv' := [(0, .ref (w_r w 292))]) rfl ?_
      exact R32 0 d32 h
  unfold f_M_runCommands at h
  refine g_aload_n C dX12_runCommands_0 0 rfl ?_
  obtain ⟨r33, d34, hc35, h⟩ := ob2_1 h
  refine g_callVi C 292 q_292 vk_M_246 hR rfl (m_M_isText C.2.2.2.2.2.2.1 hc35) rfl rfl rfl dX12_runCommands_1 rfl rfl ?_
  refine g_istore_n C (lv' := [(1, .int r33), (0, .ref (w_r w 292))]) dX12_runCommands_4 (by decide) rfl ?_
  refine g_iload_n C dX12_runCommands_5 0 rfl ?_
  refine g_if_ne C dX12_runCommands_6 (tgt := 17) rfl (fun q => ?_) (fun q => ?_)
  · replace h := it_f q h
    refine g_sub [1, 0] (lv' := [(0, .ref (w_r w 292)), (1, .int r33)]) rfl ?_
    exact R17 r33 d34 h
  · replace h := it_t q h
    refine g_aload_n C dX12_runCommands_9 1 rfl ?_
    refine g_aload_n C dX12_runCommands_10 1 rfl ?_
    refine g_get C (.int (d34 292 14)) 292 q_292 fk_M_172 rfl dX12_runCommands_11 ?_
    refine g_put C 292 q_292 pk_M_25 rfl rfl dX12_runCommands_14 ?_
    obtain ⟨d36, hd36, h⟩ := bnd_1 h
    refine g_nmD hd36 ?_
    refine g_sub [1, 0] (lv' := [(0, .ref (w_r w 292)), (1, .int r33)]) rfl ?_
    exact R17 r33 d36 h
set_option maxHeartbeats 4000000 in
set_option maxRecDepth 100000 in
theorem m_M_copies_293_295 {w : wT} {l : Launch} {x1 x3 : Int32} {d : Dt} {dE : Dt} (hO : okW w) (h : f_M_copies_293_295 x1 x3 d = some dE) : gM w l yX12_copies cX12_copies 5 (Option.none : Option Jvm.ClassFile.FieldType) 0 [.ref (w_r w 293), .int x1, .ref (w_r w 295), .int x3] d dE none := by
  refine gM_of (by decide) [(0, .ref (w_r w 293)), (1, .int x1), (2, .ref (w_r w 295)), (3, .int x3)] rfl rfl ?_ hO
  intro p e R s m args below meth c C hR hr hlk
  have R3 : ∀ (x1 : Int32) (x3 : Int32) (x4 : Int32) (d : Dt), f_M_copies_293_295_3 x1 x3 x4 d = some dE → gG w p l e R s m args below meth c 5 0 0 (gE w below args s dE none) d [(0, .ref (w_r w 293)), (1, .int x1), (2, .ref (w_r w 295)), (3, .int x3), (4, .int x4)] 3 [] := by
    intro x1 x3 x4 d  h
    refine iter_ind (G := fun s_ : (Int32 × Dt) => gG w p l e R s m args below meth c 5 0 0 (gE w below args s dE none) s_.2 [(0, .ref (w_r w 293)), (1, .int x1), (2, .ref (w_r w 295)), (3, .int x3), (4, .int s_.1)] 3 []) ?_ fu _ h
    clear h
    intro s_ y1 h hl1 hx1
    obtain ⟨x4, d⟩ := s_
    show gG w p l e R s m args below meth c 5 0 0 (gE w below args s dE none) d [(0, .ref (w_r w 293)), (1, .int x1), (2, .ref (w_r w 295)), (3, .int x3), (4, .int x4)] 3 []
    dsimp only at h
    unfold st_M_copies_293_295_3 at h
    refine g_iload C dX12_copies_3 4 rfl ?_
    refine g_sipush C dX12_copies_5 (v := 187) (by decide) ?_
    refine g_icmp_ge C dX12_copies_8 (tgt := 29) rfl (fun q => ?_) (fun q => ?_)
    · replace h := it_t q h
      replace h := ir_2 h hx1
      exact g_vret C hr hlk (Option.some.inj h) rfl dX12_copies_29
    · replace h := it_f q h
      refine g_aload_n C dX12_copies_11 2 rfl ?_
      refine g_iload_n C dX12_copies_12 3 rfl ?_
      refine g_iload C dX12_copies_13 4 rfl ?_
      refine g_iadd C dX12_copies_15  ?_
      refine g_aload_n C dX12_copies_16 0 rfl ?_
      refine g_iload_n C dX12_copies_17 1 rfl ?_
      refine g_iload C dX12_copies_18 4 rfl ?_
      refine g_iadd C dX12_copies_20  ?_
      have hg2 := gd_1 h
      replace h := gd_2 h
      refine g_iald C 293 q_293 hg2 _ rfl dX12_copies_21 ?_
      have hg3 := gd_1 h
      replace h := gd_2 h
      refine g_iast C 295 q_295 hg3 _ rfl  dX12_copies_22 ?_
      obtain ⟨d4, hd4, h⟩ := bnd_1 h
      refine g_nmD hd4 ?_
      refine g_iinc C (lv' := [(4, .int (x4 + 1)), (0, .ref (w_r w 293)), (1, .int x1), (2, .ref (w_r w 295)), (3, .int x3)]) (v := (x4 + 1)) dX12_copies_23 4 rfl rfl (by decide) rfl ?_
      refine g_goto C dX12_copies_26 (tgt := 3) rfl ?_
      refine g_sub [1, 2, 3, 4, 0] (lv' := [(0, .ref (w_r w 293)), (1, .int x1), (2, .ref (w_r w 295)), (3, .int x3), (4, .int (x4 + 1))]) rfl ?_
      exact hl1 ((x4 + 1), d4) (Option.some.inj h).symm
  unfold f_M_copies_293_295 at h
  refine g_iconst C dX12_copies_0 (v := 0) rfl ?_
  refine g_istore C (lv' := [(4, .int 0), (0, .ref (w_r w 293)), (1, .int x1), (2, .ref (w_r w 295)), (3, .int x3)]) dX12_copies_1 (by decide) rfl ?_
  refine g_sub [1, 2, 3, 4, 0] (lv' := [(0, .ref (w_r w 293)), (1, .int x1), (2, .ref (w_r w 295)), (3, .int x3), (4, .int 0)]) rfl ?_
  exact R3 x1 x3 0 d h
set_option maxHeartbeats 4000000 in
set_option maxRecDepth 100000 in
theorem m_M_save {w : wT} {l : Launch} {d : Dt} {rE : Int32} {dE : Dt} (hO : okW w) (h : f_M_save  d = some (rE, dE)) : gM w l yX12_save cX12_save 1 (Option.some Jvm.ClassFile.FieldType.int) 1 [.ref (w_r w 292)] d dE (some (.int rE)) := by
  refine gM_of (by decide) [(0, .ref (w_r w 292))] rfl rfl ?_ hO
  intro p e R s m args below meth c C hR hr hlk
  unfold f_M_save at h
  refine g_aload_n C dX12_save_0 0 rfl ?_
  refine g_iconst C dX12_save_1 (v := 0) rfl ?_
  refine g_put C 292 q_292 pk_M_39 rfl rfl dX12_save_2 ?_
  obtain ⟨d4, hd4, h⟩ := bnd_1 h
  refine g_nmD hd4 ?_
  refine g_aload_n C dX12_save_5 0 rfl ?_
  refine g_iconst C dX12_save_6 (v := 1) rfl ?_
  refine g_put C 292 q_292 pk_M_264 rfl rfl dX12_save_7 ?_
  obtain ⟨d5, hd5, h⟩ := bnd_1 h
  refine g_nmD hd5 ?_
  refine g_aload_n C dX12_save_10 0 rfl ?_
  refine g_get C (.ref (w_r w 293)) 292 q_292 fk_M_7 rfl dX12_save_11 ?_
  refine g_iconst C dX12_save_14 (v := 0) rfl ?_
  refine g_aload_n C dX12_save_15 0 rfl ?_
  refine g_get C (.ref (w_r w 295)) 292 q_292 fk_M_16 rfl dX12_save_16 ?_
  refine g_iconst C dX12_save_19 (v := 0) rfl ?_
  obtain ⟨d6, hc7, h⟩ := ob1_1 h
  refine g_callSv C sk_M_49 hR rfl (m_M_copies_293_295 C.2.2.2.2.2.2.1 hc7) rfl rfl rfl dX12_save_20 rfl rfl ?_
  refine g_aload_n C dX12_save_23 0 rfl ?_
  refine g_get C (.ref (w_r w 293)) 292 q_292 fk_M_7 rfl dX12_save_24 ?_
  refine g_iconst C dX12_save_27 (v := 0) rfl ?_
  refine g_iald C 293 q_293 (by decide) 0 (by decide) dX12_save_28 ?_
  exact g_iret C hr hlk rfl (congrArg Prod.snd (Option.some.inj h)) (congrArg (fun z => some (Value.int z.1)) (Option.some.inj h)) dX12_save_29
set_option maxHeartbeats 4000000 in
set_option maxRecDepth 100000 in
theorem m_M_secondOf {w : wT} {l : Launch} {x1 : Int32} {d : Dt} {rE : Int32} {dE : Dt} (hO : okW w) (h : f_M_secondOf x1 d = some (rE, dE)) : gM w l yX12_secondOf cX12_secondOf 2 (Option.some Jvm.ClassFile.FieldType.int) 2 [.ref (w_r w 292), .int x1] d dE (some (.int rE)) := by
  refine gM_of (by decide) [(0, .ref (w_r w 292)), (1, .int x1)] rfl rfl ?_ hO
  intro p e R s m args below meth c C hR hr hlk
  have R14 : ∀ (x1 : Int32) (v1 : Int32) (d : Dt), f_M_secondOf_14 x1 v1 d = some (rE, dE) → gG w p l e R s m args below meth c 2 0 0 (gE w below args s dE (some (.int rE))) d [(0, .ref (w_r w 292)), (1, .int x1)] 14 [.int v1, .ref (w_r w 292)] := by
    intro x1 v1 d  h
    unfold f_M_secondOf_14 at h
    obtain ⟨r5, d6, hc7, h⟩ := ob2_1 h
    refine g_callVi C 292 q_292 vk_M_61 hR rfl (m_M_fails C.2.2.2.2.2.2.1 hc7) rfl rfl rfl dX12_secondOf_14 rfl rfl ?_
    refine g_if_eq C dX12_secondOf_17 (tgt := 24) rfl (fun q => ?_) (fun q => ?_)
    · replace h := it_t q h
      refine g_aload_n C dX12_secondOf_24 0 rfl ?_
      refine g_iload_n C dX12_secondOf_25 1 rfl ?_
      refine g_iconst C dX12_secondOf_26 (v := 1) rfl ?_
      obtain ⟨r8, hc9, h⟩ := ob1_1 h
      refine g_callVi C 292 q_292 vk_M_97 hR rfl (m_M_says C.2.2.2.2.2.2.1 hc9) rfl rfl rfl dX12_secondOf_27 rfl rfl ?_
      exact g_iret C hr hlk rfl (congrArg Prod.snd (Option.some.inj h)) (congrArg (fun z => some (Value.int z.1)) (Option.some.inj h)) dX12_secondOf_30
    · replace h := it_f q h
      refine g_iconst C dX12_secondOf_20 (v := 0) rfl ?_
      refine g_goto C dX12_secondOf_21 (tgt := 30) rfl ?_
      exact g_iret C hr hlk rfl (congrArg Prod.snd (Option.some.inj h)) (congrArg (fun z => some (Value.int z.1)) (Option.some.inj h)) dX12_secondOf_30
  unfold f_M_secondOf at h
  refine g_aload_n C dX12_secondOf_0 0 rfl ?_
  refine g_aload_n C dX12_secondOf_1 0 rfl ?_
  refine g_iload_n C dX12_secondOf_2 1 rfl ?_
  obtain ⟨r10, hc11, h⟩ := ob1_1 h
  refine g_callVi C 292 q_292 vk_M_84 hR rfl (m_M_isStatement C.2.2.2.2.2.2.1 hc11) rfl rfl rfl dX12_secondOf_3 rfl rfl ?_
  refine g_if_eq C dX12_secondOf_6 (tgt := 13) rfl (fun q => ?_) (fun q => ?_)
  · replace h := it_t q h
    refine g_iconst C dX12_secondOf_13 (v := 1) rfl ?_
    exact R14 x1 1 d h
  · replace h := it_f q h
    refine g_iconst C dX12_secondOf_9 (v := 0) rfl ?_
    refine g_goto C dX12_secondOf_10 (tgt := 14) rfl ?_
    exact R14 x1 0 d h
set_option maxHeartbeats 4000000 in
set_option maxRecDepth 100000 in
theorem m_M_sentenceCount {w : wT} {l : Launch} {x1 : Int32} {d : Dt} {rE : Int32} {dE : Dt} (hO : okW w) (h : f_M_sentenceCount x1 d = some (rE, dE)) : gM w l yX12_sentenceCount cX12_sentenceCount 2 (Option.some Jvm.ClassFile.FieldType.int) 3 [.ref (w_r w 292), .int x1] d dE (some (.int rE)) := by
  refine gM_of (by decide) [(0, .ref (w_r w 292)), (1, .int x1)] rfl rfl ?_ hO
  intro p e R s m args below meth c C hR hr hlk
  unfold f_M_sentenceCount at h
  refine g_aload_n C dX12_sentenceCount_0 0 rfl ?_
  refine g_iload_n C dX12_sentenceCount_1 1 rfl ?_
  obtain ⟨r4, d5, hc6, h⟩ := ob2_1 h
  refine g_callVi C 292 q_292 vk_M_134 hR rfl (m_M_isNone C.2.2.2.2.2.2.1 hc6) rfl rfl rfl dX12_sentenceCount_2 rfl rfl ?_
  refine g_if_eq C dX12_sentenceCount_5 (tgt := 12) rfl (fun q => ?_) (fun q => ?_)
  · replace h := it_t q h
    refine g_aload_n C dX12_sentenceCount_12 0 rfl ?_
    refine g_iload_n C dX12_sentenceCount_13 1 rfl ?_
    refine g_iconst C dX12_sentenceCount_14 (v := 2) rfl ?_
    obtain ⟨r7, hc8, h⟩ := ob1_1 h
    refine g_callVi C 292 q_292 vk_M_87 hR rfl (m_M_of C.2.2.2.2.2.2.1 hc8) rfl rfl rfl dX12_sentenceCount_15 rfl rfl ?_
    exact g_iret C hr hlk rfl (congrArg Prod.snd (Option.some.inj h)) (congrArg (fun z => some (Value.int z.1)) (Option.some.inj h)) dX12_sentenceCount_18
  · replace h := it_f q h
    refine g_iconst C dX12_sentenceCount_8 (v := 0) rfl ?_
    refine g_goto C dX12_sentenceCount_9 (tgt := 18) rfl ?_
    exact g_iret C hr hlk rfl (congrArg Prod.snd (Option.some.inj h)) (congrArg (fun z => some (Value.int z.1)) (Option.some.inj h)) dX12_sentenceCount_18
set_option maxHeartbeats 4000000 in
set_option maxRecDepth 100000 in
theorem m_M_servedDays {w : wT} {l : Launch} {d : Dt} {rE : Int32} {dE : Dt} (hO : okW w) (h : f_M_servedDays  d = some (rE, dE)) : gM w l yX12_servedDays cX12_servedDays 1 (Option.some Jvm.ClassFile.FieldType.int) 0 [.ref (w_r w 292)] d dE (some (.int rE)) := by
  refine gM_of (by decide) [(0, .ref (w_r w 292))] rfl rfl ?_ hO
  intro p e R s m args below meth c C hR hr hlk
  unfold f_M_servedDays at h
  refine g_aload_n C dX12_servedDays_0 0 rfl ?_
  refine g_iconst C dX12_servedDays_1 (v := 0) rfl ?_
  refine g_put C 292 q_292 pk_M_39 rfl rfl dX12_servedDays_2 ?_
  obtain ⟨d2, hd2, h⟩ := bnd_1 h
  refine g_nmD hd2 ?_
  refine g_aload_n C dX12_servedDays_5 0 rfl ?_
  refine g_get C (.ref (w_r w 293)) 292 q_292 fk_M_7 rfl dX12_servedDays_6 ?_
  refine g_bipush C dX12_servedDays_9 (v := 12) (by decide) ?_
  refine g_iald C 293 q_293 (by decide) 12 (by decide) dX12_servedDays_11 ?_
  exact g_iret C hr hlk rfl (congrArg Prod.snd (Option.some.inj h)) (congrArg (fun z => some (Value.int z.1)) (Option.some.inj h)) dX12_servedDays_12
set_option maxHeartbeats 4000000 in
set_option maxRecDepth 100000 in
theorem m_M_severity {w : wT} {l : Launch} {x1 : Int32} {d : Dt} {rE : Int32} {dE : Dt} (hO : okW w) (h : f_M_severity x1 d = some (rE, dE)) : gM w l yX12_severity cX12_severity 2 (Option.some Jvm.ClassFile.FieldType.int) 3 [.ref (w_r w 292), .int x1] d dE (some (.int rE)) := by
  refine gM_of (by decide) [(0, .ref (w_r w 292)), (1, .int x1)] rfl rfl ?_ hO
  intro p e R s m args below meth c C hR hr hlk
  unfold f_M_severity at h
  refine g_aload_n C dX12_severity_0 0 rfl ?_
  refine g_iload_n C dX12_severity_1 1 rfl ?_
  refine g_iconst C dX12_severity_2 (v := 4) rfl ?_
  obtain ⟨r3, d4, hc5, h⟩ := ob2_1 h
  refine g_callVi C 292 q_292 vk_M_140 hR rfl (m_M_ofBrief C.2.2.2.2.2.2.1 hc5) rfl rfl rfl dX12_severity_3 rfl rfl ?_
  exact g_iret C hr hlk rfl (congrArg Prod.snd (Option.some.inj h)) (congrArg (fun z => some (Value.int z.1)) (Option.some.inj h)) dX12_severity_6
set_option maxHeartbeats 4000000 in
set_option maxRecDepth 100000 in
theorem m_M_statementCount {w : wT} {l : Launch} {d : Dt} {rE : Int32} {dE : Dt} (hO : okW w) (h : f_M_statementCount  d = some (rE, dE)) : gM w l yX12_statementCount cX12_statementCount 1 (Option.some Jvm.ClassFile.FieldType.int) 0 [.ref (w_r w 292)] d dE (some (.int rE)) := by
  refine gM_of (by decide) [(0, .ref (w_r w 292))] rfl rfl ?_ hO
  intro p e R s m args below meth c C hR hr hlk
  unfold f_M_statementCount at h
  refine g_aload_n C dX12_statementCount_0 0 rfl ?_
  refine g_iconst C dX12_statementCount_1 (v := 0) rfl ?_
  refine g_put C 292 q_292 pk_M_39 rfl rfl dX12_statementCount_2 ?_
  obtain ⟨d2, hd2, h⟩ := bnd_1 h
  refine g_nmD hd2 ?_
  refine g_aload_n C dX12_statementCount_5 0 rfl ?_
  refine g_get C (.ref (w_r w 293)) 292 q_292 fk_M_7 rfl dX12_statementCount_6 ?_
  refine g_iconst C dX12_statementCount_9 (v := 4) rfl ?_
  refine g_iald C 293 q_293 (by decide) 4 (by decide) dX12_statementCount_10 ?_
  exact g_iret C hr hlk rfl (congrArg Prod.snd (Option.some.inj h)) (congrArg (fun z => some (Value.int z.1)) (Option.some.inj h)) dX12_statementCount_11
set_option maxHeartbeats 4000000 in
set_option maxRecDepth 100000 in
theorem m_M_thrown {w : wT} {l : Launch} {d : Dt} {rE : Int32} (hO : okW w) (h : f_M_thrown  d = some rE) : gM w l yX12_thrown cX12_thrown 1 (Option.some Jvm.ClassFile.FieldType.int) 0 [.ref (w_r w 292)] d d (some (.int rE)) := by
  refine gM_of (by decide) [(0, .ref (w_r w 292))] rfl rfl ?_ hO
  intro p e R s m args below meth c C hR hr hlk
  unfold f_M_thrown at h
  refine g_aload_n C dX12_thrown_0 0 rfl ?_
  refine g_get C (.int (d 292 7)) 292 q_292 fk_M_39 rfl dX12_thrown_1 ?_
  exact g_iret C hr hlk rfl rfl (congrArg (fun z => some (Value.int z)) (Option.some.inj h)) dX12_thrown_4
set_option maxHeartbeats 4000000 in
set_option maxRecDepth 100000 in
theorem m_M_copies_294_293 {w : wT} {l : Launch} {x1 x3 : Int32} {d : Dt} {dE : Dt} (hO : okW w) (h : f_M_copies_294_293 x1 x3 d = some dE) : gM w l yX12_copies cX12_copies 5 (Option.none : Option Jvm.ClassFile.FieldType) 0 [.ref (w_r w 294), .int x1, .ref (w_r w 293), .int x3] d dE none := by
  refine gM_of (by decide) [(0, .ref (w_r w 294)), (1, .int x1), (2, .ref (w_r w 293)), (3, .int x3)] rfl rfl ?_ hO
  intro p e R s m args below meth c C hR hr hlk
  have R3 : ∀ (x1 : Int32) (x3 : Int32) (x4 : Int32) (d : Dt), f_M_copies_294_293_3 x1 x3 x4 d = some dE → gG w p l e R s m args below meth c 5 0 0 (gE w below args s dE none) d [(0, .ref (w_r w 294)), (1, .int x1), (2, .ref (w_r w 293)), (3, .int x3), (4, .int x4)] 3 [] := by
    intro x1 x3 x4 d  h
    refine iter_ind (G := fun s_ : (Int32 × Dt) => gG w p l e R s m args below meth c 5 0 0 (gE w below args s dE none) s_.2 [(0, .ref (w_r w 294)), (1, .int x1), (2, .ref (w_r w 293)), (3, .int x3), (4, .int s_.1)] 3 []) ?_ fu _ h
    clear h
    intro s_ y1 h hl1 hx1
    obtain ⟨x4, d⟩ := s_
    show gG w p l e R s m args below meth c 5 0 0 (gE w below args s dE none) d [(0, .ref (w_r w 294)), (1, .int x1), (2, .ref (w_r w 293)), (3, .int x3), (4, .int x4)] 3 []
    dsimp only at h
    unfold st_M_copies_294_293_3 at h
    refine g_iload C dX12_copies_3 4 rfl ?_
    refine g_sipush C dX12_copies_5 (v := 187) (by decide) ?_
    refine g_icmp_ge C dX12_copies_8 (tgt := 29) rfl (fun q => ?_) (fun q => ?_)
    · replace h := it_t q h
      replace h := ir_2 h hx1
      exact g_vret C hr hlk (Option.some.inj h) rfl dX12_copies_29
    · replace h := it_f q h
      refine g_aload_n C dX12_copies_11 2 rfl ?_
      refine g_iload_n C dX12_copies_12 3 rfl ?_
      refine g_iload C dX12_copies_13 4 rfl ?_
      refine g_iadd C dX12_copies_15  ?_
      refine g_aload_n C dX12_copies_16 0 rfl ?_
      refine g_iload_n C dX12_copies_17 1 rfl ?_
      refine g_iload C dX12_copies_18 4 rfl ?_
      refine g_iadd C dX12_copies_20  ?_
      have hg2 := gd_1 h
      replace h := gd_2 h
      refine g_iald C 294 q_294 hg2 _ rfl dX12_copies_21 ?_
      have hg3 := gd_1 h
      replace h := gd_2 h
      refine g_iast C 293 q_293 hg3 _ rfl  dX12_copies_22 ?_
      obtain ⟨d4, hd4, h⟩ := bnd_1 h
      refine g_nmD hd4 ?_
      refine g_iinc C (lv' := [(4, .int (x4 + 1)), (0, .ref (w_r w 294)), (1, .int x1), (2, .ref (w_r w 293)), (3, .int x3)]) (v := (x4 + 1)) dX12_copies_23 4 rfl rfl (by decide) rfl ?_
      refine g_goto C dX12_copies_26 (tgt := 3) rfl ?_
      refine g_sub [1, 2, 3, 4, 0] (lv' := [(0, .ref (w_r w 294)), (1, .int x1), (2, .ref (w_r w 293)), (3, .int x3), (4, .int (x4 + 1))]) rfl ?_
      exact hl1 ((x4 + 1), d4) (Option.some.inj h).symm
  unfold f_M_copies_294_293 at h
  refine g_iconst C dX12_copies_0 (v := 0) rfl ?_
  refine g_istore C (lv' := [(4, .int 0), (0, .ref (w_r w 294)), (1, .int x1), (2, .ref (w_r w 293)), (3, .int x3)]) dX12_copies_1 (by decide) rfl ?_
  refine g_sub [1, 2, 3, 4, 0] (lv' := [(0, .ref (w_r w 294)), (1, .int x1), (2, .ref (w_r w 293)), (3, .int x3), (4, .int 0)]) rfl ?_
  exact R3 x1 x3 0 d h
set_option maxHeartbeats 4000000 in
set_option maxRecDepth 100000 in
theorem m_M_undo {w : wT} {l : Launch} {d : Dt} {rE : Int32} {dE : Dt} (hO : okW w) (h : f_M_undo  d = some (rE, dE)) : gM w l yX12_undo cX12_undo 1 (Option.some Jvm.ClassFile.FieldType.int) 1 [.ref (w_r w 292)] d dE (some (.int rE)) := by
  refine gM_of (by decide) [(0, .ref (w_r w 292))] rfl rfl ?_ hO
  intro p e R s m args below meth c C hR hr hlk
  have R13 : ∀ (v1 : Int32) (d : Dt), f_M_undo_13  v1 d = some (rE, dE) → gG w p l e R s m args below meth c 1 0 0 (gE w below args s dE (some (.int rE))) d [(0, .ref (w_r w 292))] 13 [.int v1, .ref (w_r w 292)] := by
    intro  v1 d  h
    unfold f_M_undo_13 at h
    obtain ⟨r5, d6, hc7, h⟩ := ob2_1 h
    refine g_callVi C 292 q_292 vk_M_61 hR rfl (m_M_fails C.2.2.2.2.2.2.1 hc7) rfl rfl rfl dX12_undo_13 rfl rfl ?_
    refine g_if_eq C dX12_undo_16 (tgt := 21) rfl (fun q => ?_) (fun q => ?_)
    · replace h := it_t q h
      refine g_aload_n C dX12_undo_21 0 rfl ?_
      refine g_dup C dX12_undo_22 rfl ?_
      refine g_get C (.int (d6 292 5)) 292 q_292 fk_M_46 rfl dX12_undo_23 ?_
      refine g_iconst C dX12_undo_26 (v := 1) rfl ?_
      refine g_isub C dX12_undo_27  ?_
      refine g_put C 292 q_292 pk_M_46 rfl rfl dX12_undo_28 ?_
      obtain ⟨d8, hd8, h⟩ := bnd_1 h
      refine g_nmD hd8 ?_
      refine g_aload_n C dX12_undo_31 0 rfl ?_
      refine g_get C (.ref (w_r w 294)) 292 q_292 fk_M_13 rfl dX12_undo_32 ?_
      refine g_sipush C dX12_undo_35 (v := 187) (by decide) ?_
      refine g_aload_n C dX12_undo_38 0 rfl ?_
      refine g_get C (.int (d8 292 5)) 292 q_292 fk_M_46 rfl dX12_undo_39 ?_
      refine g_imul C dX12_undo_42  ?_
      refine g_aload_n C dX12_undo_43 0 rfl ?_
      refine g_get C (.ref (w_r w 293)) 292 q_292 fk_M_7 rfl dX12_undo_44 ?_
      refine g_iconst C dX12_undo_47 (v := 0) rfl ?_
      obtain ⟨d9, hc10, h⟩ := ob1_1 h
      refine g_callSv C sk_M_49 hR rfl (m_M_copies_294_293 C.2.2.2.2.2.2.1 hc10) rfl rfl rfl dX12_undo_48 rfl rfl ?_
      refine g_aload_n C dX12_undo_51 0 rfl ?_
      refine g_get C (.int (d9 292 5)) 292 q_292 fk_M_46 rfl dX12_undo_52 ?_
      exact g_iret C hr hlk rfl (congrArg Prod.snd (Option.some.inj h)) (congrArg (fun z => some (Value.int z.1)) (Option.some.inj h)) dX12_undo_55
    · replace h := it_f q h
      refine g_iconst C dX12_undo_19 (v := 0) rfl ?_
      exact g_iret C hr hlk rfl (congrArg Prod.snd (Option.some.inj h)) (congrArg (fun z => some (Value.int z.1)) (Option.some.inj h)) dX12_undo_20
  unfold f_M_undo at h
  refine g_aload_n C dX12_undo_0 0 rfl ?_
  refine g_aload_n C dX12_undo_1 0 rfl ?_
  refine g_get C (.int (d 292 5)) 292 q_292 fk_M_46 rfl dX12_undo_2 ?_
  refine g_if_ne C dX12_undo_5 (tgt := 12) rfl (fun q => ?_) (fun q => ?_)
  · replace h := it_f q h
    refine g_iconst C dX12_undo_12 (v := 0) rfl ?_
    exact R13 0 d h
  · replace h := it_t q h
    refine g_iconst C dX12_undo_8 (v := 1) rfl ?_
    refine g_goto C dX12_undo_9 (tgt := 13) rfl ?_
    exact R13 1 d h
set_option maxHeartbeats 4000000 in
set_option maxRecDepth 100000 in
theorem m_M_undoCount {w : wT} {l : Launch} {d : Dt} {rE : Int32} {dE : Dt} (hO : okW w) (h : f_M_undoCount  d = some (rE, dE)) : gM w l yX12_undoCount cX12_undoCount 1 (Option.some Jvm.ClassFile.FieldType.int) 0 [.ref (w_r w 292)] d dE (some (.int rE)) := by
  refine gM_of (by decide) [(0, .ref (w_r w 292))] rfl rfl ?_ hO
  intro p e R s m args below meth c C hR hr hlk
  unfold f_M_undoCount at h
  refine g_aload_n C dX12_undoCount_0 0 rfl ?_
  refine g_iconst C dX12_undoCount_1 (v := 0) rfl ?_
  refine g_put C 292 q_292 pk_M_39 rfl rfl dX12_undoCount_2 ?_
  obtain ⟨d2, hd2, h⟩ := bnd_1 h
  refine g_nmD hd2 ?_
  refine g_aload_n C dX12_undoCount_5 0 rfl ?_
  refine g_get C (.int (d2 292 5)) 292 q_292 fk_M_46 rfl dX12_undoCount_6 ?_
  exact g_iret C hr hlk rfl (congrArg Prod.snd (Option.some.inj h)) (congrArg (fun z => some (Value.int z.1)) (Option.some.inj h)) dX12_undoCount_9
set_option maxHeartbeats 4000000 in
set_option maxRecDepth 100000 in
theorem m_M_verdictOf {w : wT} {l : Launch} {x1 : Int32} {d : Dt} {rE : Int32} {dE : Dt} (hO : okW w) (h : f_M_verdictOf x1 d = some (rE, dE)) : gM w l yX12_verdictOf cX12_verdictOf 2 (Option.some Jvm.ClassFile.FieldType.char) 4 [.ref (w_r w 292), .int x1] d dE (some (.int rE)) := by
  refine gM_of (by decide) [(0, .ref (w_r w 292)), (1, .int x1)] rfl rfl ?_ hO
  intro p e R s m args below meth c C hR hr hlk
  unfold f_M_verdictOf at h
  refine g_aload_n C dX12_verdictOf_0 0 rfl ?_
  refine g_iload_n C dX12_verdictOf_1 1 rfl ?_
  obtain ⟨r5, d6, hc7, h⟩ := ob2_1 h
  refine g_callVi C 292 q_292 vk_M_134 hR rfl (m_M_isNone C.2.2.2.2.2.2.1 hc7) rfl rfl rfl dX12_verdictOf_2 rfl rfl ?_
  refine g_if_eq C dX12_verdictOf_5 (tgt := 13) rfl (fun q => ?_) (fun q => ?_)
  · replace h := it_t q h
    refine g_ldcS C 29 (by decide) (by decide +kernel) (by decide +kernel) dX12_verdictOf_13 ?_
    refine g_aload_n C dX12_verdictOf_15 0 rfl ?_
    refine g_iload_n C dX12_verdictOf_16 1 rfl ?_
    obtain ⟨r8, hc9, h⟩ := ob1_1 h
    refine g_callVi C 292 q_292 vk_M_112 hR rfl (m_M_judges C.2.2.2.2.2.2.1 hc9) rfl rfl rfl dX12_verdictOf_17 rfl rfl ?_
    obtain ⟨r10, hc11, h⟩ := ob1_1 h
    refine g_callO C _ (ks_obj C (by decide)) yk_J0_charAt_5068e rfl (wA 1786 (by decide +kernel) (by decide +kernel)) (wA 1335 (by decide +kernel) (by decide +kernel)) (wA 1336 (by decide +kernel) (by decide +kernel)) hR rfl (m_JS_charAt C.2.2.2.2.2.2.1 (by decide) hc11) rfl rfl rfl dX12_verdictOf_20 rfl rfl ?_
    have hg12 := gd_1 h
    replace h := gd_2 h
    exact g_iret C hr hlk (nar_n hg12) (congrArg Prod.snd (Option.some.inj h)) (congrArg (fun z => some (Value.int z.1)) (Option.some.inj h)) dX12_verdictOf_23
  · replace h := it_f q h
    refine g_bipush C dX12_verdictOf_8 (v := 32) (by decide) ?_
    refine g_goto C dX12_verdictOf_10 (tgt := 23) rfl ?_
    exact g_iret C hr hlk rfl (congrArg Prod.snd (Option.some.inj h)) (congrArg (fun z => some (Value.int z.1)) (Option.some.inj h)) dX12_verdictOf_23
set_option maxHeartbeats 4000000 in
set_option maxRecDepth 100000 in
theorem m_M_verdict {w : wT} {l : Launch} {x1 : Int32} {d : Dt} {rE : Int32} {dE : Dt} (hO : okW w) (h : f_M_verdict x1 d = some (rE, dE)) : gM w l yX12_verdict cX12_verdict 2 (Option.some Jvm.ClassFile.FieldType.char) 5 [.ref (w_r w 292), .int x1] d dE (some (.int rE)) := by
  refine gM_of (by decide) [(0, .ref (w_r w 292)), (1, .int x1)] rfl rfl ?_ hO
  intro p e R s m args below meth c C hR hr hlk
  unfold f_M_verdict at h
  refine g_aload_n C dX12_verdict_0 0 rfl ?_
  refine g_iload_n C dX12_verdict_1 1 rfl ?_
  obtain ⟨r3, d4, hc5, h⟩ := ob2_1 h
  refine g_callVi C 292 q_292 vk_M_154 hR rfl (m_M_verdictOf C.2.2.2.2.2.2.1 hc5) rfl rfl rfl dX12_verdict_2 rfl rfl ?_
  have hg6 := gd_1 h
  replace h := gd_2 h
  exact g_iret C hr hlk (nar_n hg6) (congrArg Prod.snd (Option.some.inj h)) (congrArg (fun z => some (Value.int z.1)) (Option.some.inj h)) dX12_verdict_5
set_option maxHeartbeats 4000000 in
set_option maxRecDepth 100000 in
theorem m_M_verdictByExplanations {w : wT} {l : Launch} {x1 : Int32} {d : Dt} {rE : Int32} {dE : Dt} (hO : okW w) (h : f_M_verdictByExplanations x1 d = some (rE, dE)) : gM w l yX12_verdictByExplanations cX12_verdictByExplanations 2 (Option.some Jvm.ClassFile.FieldType.char) 5 [.ref (w_r w 292), .int x1] d dE (some (.int rE)) := by
  refine gM_of (by decide) [(0, .ref (w_r w 292)), (1, .int x1)] rfl rfl ?_ hO
  intro p e R s m args below meth c C hR hr hlk
  unfold f_M_verdictByExplanations at h
  refine g_aload_n C dX12_verdictByExplanations_0 0 rfl ?_
  refine g_iload_n C dX12_verdictByExplanations_1 1 rfl ?_
  obtain ⟨r3, d4, hc5, h⟩ := ob2_1 h
  refine g_callVi C 292 q_292 vk_M_154 hR rfl (m_M_verdictOf C.2.2.2.2.2.2.1 hc5) rfl rfl rfl dX12_verdictByExplanations_2 rfl rfl ?_
  have hg6 := gd_1 h
  replace h := gd_2 h
  exact g_iret C hr hlk (nar_n hg6) (congrArg Prod.snd (Option.some.inj h)) (congrArg (fun z => some (Value.int z.1)) (Option.some.inj h)) dX12_verdictByExplanations_5
set_option maxHeartbeats 4000000 in
set_option maxRecDepth 100000 in
theorem m_M_writes {w : wT} {l : Launch} {x1 : Int32} {d : Dt} {dE : Dt} (hO : okW w) (h : f_M_writes x1 d = some dE) : gM w l yX12_writes cX12_writes 2 (Option.none : Option Jvm.ClassFile.FieldType) 0 [.ref (w_r w 292), .int x1] d dE none := by
  refine gM_of (by decide) [(0, .ref (w_r w 292)), (1, .int x1)] rfl rfl ?_ hO
  intro p e R s m args below meth c C hR hr hlk
  unfold f_M_writes at h
  refine g_aload_n C dX12_writes_0 0 rfl ?_
  refine g_get C (.ref (w_r w 298)) 292 q_292 fk_M_32 rfl dX12_writes_1 ?_
  refine g_aload_n C dX12_writes_4 0 rfl ?_
  refine g_get C (.int (d 292 13)) 292 q_292 fk_M_252 rfl dX12_writes_5 ?_
  refine g_iload_n C dX12_writes_8 1 rfl ?_
  refine g_i2c C dX12_writes_9  ?_
  have hg3 := gd_1 h
  replace h := gd_2 h
  have hg4 := gd_1 h
  replace h := gd_2 h
  refine g_cast C 298 q_298 hg3 _ rfl (nar_v hg4) dX12_writes_10 ?_
  obtain ⟨d5, hd5, h⟩ := bnd_1 h
  refine g_nmD hd5 ?_
  refine g_aload_n C dX12_writes_11 0 rfl ?_
  refine g_dup C dX12_writes_12 rfl ?_
  refine g_get C (.int (d5 292 13)) 292 q_292 fk_M_252 rfl dX12_writes_13 ?_
  refine g_iconst C dX12_writes_16 (v := 1) rfl ?_
  refine g_iadd C dX12_writes_17  ?_
  refine g_put C 292 q_292 pk_M_252 rfl rfl dX12_writes_18 ?_
  obtain ⟨d6, hd6, h⟩ := bnd_1 h
  refine g_nmD hd6 ?_
  exact g_vret C hr hlk (Option.some.inj h) rfl dX12_writes_21
set_option maxHeartbeats 4000000 in
set_option maxRecDepth 100000 in
theorem m_M_writesNumber_r0 {w : wT} {l : Launch} {x1 : Int32} {d : Dt} {dE : Dt} (hO : okW w) (h : f_M_writesNumber_r0 x1 d = some dE) : gM w l yX12_writesNumber cX12_writesNumber 2 (Option.none : Option Jvm.ClassFile.FieldType) 1 [.ref (w_r w 292), .int x1] d dE none := by
  refine gM_of (by decide) [(0, .ref (w_r w 292)), (1, .int x1)] rfl rfl ?_ hO
  intro p e R s m args below meth c C hR hr hlk
  have R14 : ∀ (x1 : Int32) (d : Dt), f_M_writesNumber_r0_14 x1  d = some dE → gG w p l e R s m args below meth c 2 0 0 (gE w below args s dE none) d [(0, .ref (w_r w 292)), (1, .int x1)] 14 [] := by
    intro x1  d  h
    unfold f_M_writesNumber_r0_14 at h
    refine g_aload_n C dX12_writesNumber_14 0 rfl ?_
    refine g_bipush C dX12_writesNumber_15 (v := 48) (by decide) ?_
    refine g_iload_n C dX12_writesNumber_17 1 rfl ?_
    refine g_bipush C dX12_writesNumber_18 (v := 10) (by decide) ?_
    refine g_irem C dX12_writesNumber_20 (by decide) ?_
    refine g_iadd C dX12_writesNumber_21  ?_
    obtain ⟨d2, hc3, h⟩ := ob1_1 h
    refine g_callVv C 292 q_292 vk_M_258 hR rfl (m_M_writes C.2.2.2.2.2.2.1 hc3) rfl rfl rfl dX12_writesNumber_22 rfl rfl ?_
    exact g_vret C hr hlk (Option.some.inj h) rfl dX12_writesNumber_25
  unfold f_M_writesNumber_r0 at h
  refine g_iload_n C dX12_writesNumber_0 1 rfl ?_
  refine g_bipush C dX12_writesNumber_1 (v := 9) (by decide) ?_
  refine g_icmp_le C dX12_writesNumber_3 (tgt := 14) rfl (fun q => ?_) (fun q => ?_)
  · replace h := it_t q h
    exact R14 x1 d h
  · replace h := it_f q h
    refine g_aload_n C dX12_writesNumber_6 0 rfl ?_
    refine g_iload_n C dX12_writesNumber_7 1 rfl ?_
    refine g_bipush C dX12_writesNumber_8 (v := 10) (by decide) ?_
    refine g_idiv C dX12_writesNumber_10 (by decide) ?_
    cases h
set_option maxHeartbeats 4000000 in
set_option maxRecDepth 100000 in
theorem m_M_writesNumber_r1 {w : wT} {l : Launch} {x1 : Int32} {d : Dt} {dE : Dt} (hO : okW w) (h : f_M_writesNumber_r1 x1 d = some dE) : gM w l yX12_writesNumber cX12_writesNumber 2 (Option.none : Option Jvm.ClassFile.FieldType) 2 [.ref (w_r w 292), .int x1] d dE none := by
  refine gM_of (by decide) [(0, .ref (w_r w 292)), (1, .int x1)] rfl rfl ?_ hO
  intro p e R s m args below meth c C hR hr hlk
  have R14 : ∀ (x1 : Int32) (d : Dt), f_M_writesNumber_r1_14 x1  d = some dE → gG w p l e R s m args below meth c 2 0 0 (gE w below args s dE none) d [(0, .ref (w_r w 292)), (1, .int x1)] 14 [] := by
    intro x1  d  h
    unfold f_M_writesNumber_r1_14 at h
    refine g_aload_n C dX12_writesNumber_14 0 rfl ?_
    refine g_bipush C dX12_writesNumber_15 (v := 48) (by decide) ?_
    refine g_iload_n C dX12_writesNumber_17 1 rfl ?_
    refine g_bipush C dX12_writesNumber_18 (v := 10) (by decide) ?_
    refine g_irem C dX12_writesNumber_20 (by decide) ?_
    refine g_iadd C dX12_writesNumber_21  ?_
    obtain ⟨d3, hc4, h⟩ := ob1_1 h
    refine g_callVv C 292 q_292 vk_M_258 hR rfl (m_M_writes C.2.2.2.2.2.2.1 hc4) rfl rfl rfl dX12_writesNumber_22 rfl rfl ?_
    exact g_vret C hr hlk (Option.some.inj h) rfl dX12_writesNumber_25
  unfold f_M_writesNumber_r1 at h
  refine g_iload_n C dX12_writesNumber_0 1 rfl ?_
  refine g_bipush C dX12_writesNumber_1 (v := 9) (by decide) ?_
  refine g_icmp_le C dX12_writesNumber_3 (tgt := 14) rfl (fun q => ?_) (fun q => ?_)
  · replace h := it_t q h
    exact R14 x1 d h
  · replace h := it_f q h
    refine g_aload_n C dX12_writesNumber_6 0 rfl ?_
    refine g_iload_n C dX12_writesNumber_7 1 rfl ?_
    refine g_bipush C dX12_writesNumber_8 (v := 10) (by decide) ?_
    refine g_idiv C dX12_writesNumber_10 (by decide) ?_
    obtain ⟨d5, hc6, h⟩ := ob1_1 h
    refine g_callVv C 292 q_292 vk_M_255 hR rfl (m_M_writesNumber_r0 C.2.2.2.2.2.2.1 hc6) rfl rfl rfl dX12_writesNumber_11 rfl rfl ?_
    exact R14 x1 d5 h
set_option maxHeartbeats 4000000 in
set_option maxRecDepth 100000 in
theorem m_M_writesNumber_r2 {w : wT} {l : Launch} {x1 : Int32} {d : Dt} {dE : Dt} (hO : okW w) (h : f_M_writesNumber_r2 x1 d = some dE) : gM w l yX12_writesNumber cX12_writesNumber 2 (Option.none : Option Jvm.ClassFile.FieldType) 3 [.ref (w_r w 292), .int x1] d dE none := by
  refine gM_of (by decide) [(0, .ref (w_r w 292)), (1, .int x1)] rfl rfl ?_ hO
  intro p e R s m args below meth c C hR hr hlk
  have R14 : ∀ (x1 : Int32) (d : Dt), f_M_writesNumber_r2_14 x1  d = some dE → gG w p l e R s m args below meth c 2 0 0 (gE w below args s dE none) d [(0, .ref (w_r w 292)), (1, .int x1)] 14 [] := by
    intro x1  d  h
    unfold f_M_writesNumber_r2_14 at h
    refine g_aload_n C dX12_writesNumber_14 0 rfl ?_
    refine g_bipush C dX12_writesNumber_15 (v := 48) (by decide) ?_
    refine g_iload_n C dX12_writesNumber_17 1 rfl ?_
    refine g_bipush C dX12_writesNumber_18 (v := 10) (by decide) ?_
    refine g_irem C dX12_writesNumber_20 (by decide) ?_
    refine g_iadd C dX12_writesNumber_21  ?_
    obtain ⟨d3, hc4, h⟩ := ob1_1 h
    refine g_callVv C 292 q_292 vk_M_258 hR rfl (m_M_writes C.2.2.2.2.2.2.1 hc4) rfl rfl rfl dX12_writesNumber_22 rfl rfl ?_
    exact g_vret C hr hlk (Option.some.inj h) rfl dX12_writesNumber_25
  unfold f_M_writesNumber_r2 at h
  refine g_iload_n C dX12_writesNumber_0 1 rfl ?_
  refine g_bipush C dX12_writesNumber_1 (v := 9) (by decide) ?_
  refine g_icmp_le C dX12_writesNumber_3 (tgt := 14) rfl (fun q => ?_) (fun q => ?_)
  · replace h := it_t q h
    exact R14 x1 d h
  · replace h := it_f q h
    refine g_aload_n C dX12_writesNumber_6 0 rfl ?_
    refine g_iload_n C dX12_writesNumber_7 1 rfl ?_
    refine g_bipush C dX12_writesNumber_8 (v := 10) (by decide) ?_
    refine g_idiv C dX12_writesNumber_10 (by decide) ?_
    obtain ⟨d5, hc6, h⟩ := ob1_1 h
    refine g_callVv C 292 q_292 vk_M_255 hR rfl (m_M_writesNumber_r1 C.2.2.2.2.2.2.1 hc6) rfl rfl rfl dX12_writesNumber_11 rfl rfl ?_
    exact R14 x1 d5 h
set_option maxHeartbeats 4000000 in
set_option maxRecDepth 100000 in
theorem m_M_writesNumber_r3 {w : wT} {l : Launch} {x1 : Int32} {d : Dt} {dE : Dt} (hO : okW w) (h : f_M_writesNumber_r3 x1 d = some dE) : gM w l yX12_writesNumber cX12_writesNumber 2 (Option.none : Option Jvm.ClassFile.FieldType) 4 [.ref (w_r w 292), .int x1] d dE none := by
  refine gM_of (by decide) [(0, .ref (w_r w 292)), (1, .int x1)] rfl rfl ?_ hO
  intro p e R s m args below meth c C hR hr hlk
  have R14 : ∀ (x1 : Int32) (d : Dt), f_M_writesNumber_r3_14 x1  d = some dE → gG w p l e R s m args below meth c 2 0 0 (gE w below args s dE none) d [(0, .ref (w_r w 292)), (1, .int x1)] 14 [] := by
    intro x1  d  h
    unfold f_M_writesNumber_r3_14 at h
    refine g_aload_n C dX12_writesNumber_14 0 rfl ?_
    refine g_bipush C dX12_writesNumber_15 (v := 48) (by decide) ?_
    refine g_iload_n C dX12_writesNumber_17 1 rfl ?_
    refine g_bipush C dX12_writesNumber_18 (v := 10) (by decide) ?_
    refine g_irem C dX12_writesNumber_20 (by decide) ?_
    refine g_iadd C dX12_writesNumber_21  ?_
    obtain ⟨d3, hc4, h⟩ := ob1_1 h
    refine g_callVv C 292 q_292 vk_M_258 hR rfl (m_M_writes C.2.2.2.2.2.2.1 hc4) rfl rfl rfl dX12_writesNumber_22 rfl rfl ?_
    exact g_vret C hr hlk (Option.some.inj h) rfl dX12_writesNumber_25
  unfold f_M_writesNumber_r3 at h
  refine g_iload_n C dX12_writesNumber_0 1 rfl ?_
  refine g_bipush C dX12_writesNumber_1 (v := 9) (by decide) ?_
  refine g_icmp_le C dX12_writesNumber_3 (tgt := 14) rfl (fun q => ?_) (fun q => ?_)
  · replace h := it_t q h
    exact R14 x1 d h
  · replace h := it_f q h
    refine g_aload_n C dX12_writesNumber_6 0 rfl ?_
    refine g_iload_n C dX12_writesNumber_7 1 rfl ?_
    refine g_bipush C dX12_writesNumber_8 (v := 10) (by decide) ?_
    refine g_idiv C dX12_writesNumber_10 (by decide) ?_
    obtain ⟨d5, hc6, h⟩ := ob1_1 h
    refine g_callVv C 292 q_292 vk_M_255 hR rfl (m_M_writesNumber_r2 C.2.2.2.2.2.2.1 hc6) rfl rfl rfl dX12_writesNumber_11 rfl rfl ?_
    exact R14 x1 d5 h
set_option maxHeartbeats 4000000 in
set_option maxRecDepth 100000 in
theorem m_M_writesNumber_r4 {w : wT} {l : Launch} {x1 : Int32} {d : Dt} {dE : Dt} (hO : okW w) (h : f_M_writesNumber_r4 x1 d = some dE) : gM w l yX12_writesNumber cX12_writesNumber 2 (Option.none : Option Jvm.ClassFile.FieldType) 5 [.ref (w_r w 292), .int x1] d dE none := by
  refine gM_of (by decide) [(0, .ref (w_r w 292)), (1, .int x1)] rfl rfl ?_ hO
  intro p e R s m args below meth c C hR hr hlk
  have R14 : ∀ (x1 : Int32) (d : Dt), f_M_writesNumber_r4_14 x1  d = some dE → gG w p l e R s m args below meth c 2 0 0 (gE w below args s dE none) d [(0, .ref (w_r w 292)), (1, .int x1)] 14 [] := by
    intro x1  d  h
    unfold f_M_writesNumber_r4_14 at h
    refine g_aload_n C dX12_writesNumber_14 0 rfl ?_
    refine g_bipush C dX12_writesNumber_15 (v := 48) (by decide) ?_
    refine g_iload_n C dX12_writesNumber_17 1 rfl ?_
    refine g_bipush C dX12_writesNumber_18 (v := 10) (by decide) ?_
    refine g_irem C dX12_writesNumber_20 (by decide) ?_
    refine g_iadd C dX12_writesNumber_21  ?_
    obtain ⟨d3, hc4, h⟩ := ob1_1 h
    refine g_callVv C 292 q_292 vk_M_258 hR rfl (m_M_writes C.2.2.2.2.2.2.1 hc4) rfl rfl rfl dX12_writesNumber_22 rfl rfl ?_
    exact g_vret C hr hlk (Option.some.inj h) rfl dX12_writesNumber_25
  unfold f_M_writesNumber_r4 at h
  refine g_iload_n C dX12_writesNumber_0 1 rfl ?_
  refine g_bipush C dX12_writesNumber_1 (v := 9) (by decide) ?_
  refine g_icmp_le C dX12_writesNumber_3 (tgt := 14) rfl (fun q => ?_) (fun q => ?_)
  · replace h := it_t q h
    exact R14 x1 d h
  · replace h := it_f q h
    refine g_aload_n C dX12_writesNumber_6 0 rfl ?_
    refine g_iload_n C dX12_writesNumber_7 1 rfl ?_
    refine g_bipush C dX12_writesNumber_8 (v := 10) (by decide) ?_
    refine g_idiv C dX12_writesNumber_10 (by decide) ?_
    obtain ⟨d5, hc6, h⟩ := ob1_1 h
    refine g_callVv C 292 q_292 vk_M_255 hR rfl (m_M_writesNumber_r3 C.2.2.2.2.2.2.1 hc6) rfl rfl rfl dX12_writesNumber_11 rfl rfl ?_
    exact R14 x1 d5 h
set_option maxHeartbeats 4000000 in
set_option maxRecDepth 100000 in
theorem m_M_writesNumber_r5 {w : wT} {l : Launch} {x1 : Int32} {d : Dt} {dE : Dt} (hO : okW w) (h : f_M_writesNumber_r5 x1 d = some dE) : gM w l yX12_writesNumber cX12_writesNumber 2 (Option.none : Option Jvm.ClassFile.FieldType) 6 [.ref (w_r w 292), .int x1] d dE none := by
  refine gM_of (by decide) [(0, .ref (w_r w 292)), (1, .int x1)] rfl rfl ?_ hO
  intro p e R s m args below meth c C hR hr hlk
  have R14 : ∀ (x1 : Int32) (d : Dt), f_M_writesNumber_r5_14 x1  d = some dE → gG w p l e R s m args below meth c 2 0 0 (gE w below args s dE none) d [(0, .ref (w_r w 292)), (1, .int x1)] 14 [] := by
    intro x1  d  h
    unfold f_M_writesNumber_r5_14 at h
    refine g_aload_n C dX12_writesNumber_14 0 rfl ?_
    refine g_bipush C dX12_writesNumber_15 (v := 48) (by decide) ?_
    refine g_iload_n C dX12_writesNumber_17 1 rfl ?_
    refine g_bipush C dX12_writesNumber_18 (v := 10) (by decide) ?_
    refine g_irem C dX12_writesNumber_20 (by decide) ?_
    refine g_iadd C dX12_writesNumber_21  ?_
    obtain ⟨d3, hc4, h⟩ := ob1_1 h
    refine g_callVv C 292 q_292 vk_M_258 hR rfl (m_M_writes C.2.2.2.2.2.2.1 hc4) rfl rfl rfl dX12_writesNumber_22 rfl rfl ?_
    exact g_vret C hr hlk (Option.some.inj h) rfl dX12_writesNumber_25
  unfold f_M_writesNumber_r5 at h
  refine g_iload_n C dX12_writesNumber_0 1 rfl ?_
  refine g_bipush C dX12_writesNumber_1 (v := 9) (by decide) ?_
  refine g_icmp_le C dX12_writesNumber_3 (tgt := 14) rfl (fun q => ?_) (fun q => ?_)
  · replace h := it_t q h
    exact R14 x1 d h
  · replace h := it_f q h
    refine g_aload_n C dX12_writesNumber_6 0 rfl ?_
    refine g_iload_n C dX12_writesNumber_7 1 rfl ?_
    refine g_bipush C dX12_writesNumber_8 (v := 10) (by decide) ?_
    refine g_idiv C dX12_writesNumber_10 (by decide) ?_
    obtain ⟨d5, hc6, h⟩ := ob1_1 h
    refine g_callVv C 292 q_292 vk_M_255 hR rfl (m_M_writesNumber_r4 C.2.2.2.2.2.2.1 hc6) rfl rfl rfl dX12_writesNumber_11 rfl rfl ?_
    exact R14 x1 d5 h
set_option maxHeartbeats 4000000 in
set_option maxRecDepth 100000 in
theorem m_M_writeLantern {w : wT} {l : Launch} {x1 : Int32} {d : Dt} {rE : Int32} {dE : Dt} (hO : okW w) (h : f_M_writeLantern x1 d = some (rE, dE)) : gM w l yX12_writeLantern cX12_writeLantern 3 (Option.some Jvm.ClassFile.FieldType.int) 7 [.ref (w_r w 292), .int x1] d dE (some (.int rE)) := by
  refine gM_of (by decide) [(0, .ref (w_r w 292)), (1, .int x1)] rfl rfl ?_ hO
  intro p e R s m args below meth c C hR hr hlk
  have R76 : ∀ (x1 : Int32) (x2 : Int32) (d : Dt), f_M_writeLantern_76 x1 x2 d = some (rE, dE) → gG w p l e R s m args below meth c 3 0 0 (gE w below args s dE (some (.int rE))) d [(0, .ref (w_r w 292)), (1, .int x1), (2, .int x2)] 76 [] := by
    intro x1 x2 d  h
    refine iter_ind (G := fun s_ : (Int32 × Dt) => gG w p l e R s m args below meth c 3 0 0 (gE w below args s dE (some (.int rE))) s_.2 [(0, .ref (w_r w 292)), (1, .int x1), (2, .int s_.1)] 76 []) ?_ fu _ h
    clear h
    intro s_ y1 h hl1 hx1
    obtain ⟨x2, d⟩ := s_
    show gG w p l e R s m args below meth c 3 0 0 (gE w below args s dE (some (.int rE))) d [(0, .ref (w_r w 292)), (1, .int x1), (2, .int x2)] 76 []
    dsimp only at h
    unfold st_M_writeLantern_76 at h
    refine g_iload_n C dX12_writeLantern_76 2 rfl ?_
    refine g_aload_n C dX12_writeLantern_77 0 rfl ?_
    refine g_iload_n C dX12_writeLantern_78 1 rfl ?_
    refine g_iconst C dX12_writeLantern_79 (v := 2) rfl ?_
    obtain ⟨r14, hc15, h⟩ := ob1_1 h
    refine g_callVi C 292 q_292 vk_M_87 hR rfl (m_M_of C.2.2.2.2.2.2.1 hc15) rfl rfl rfl dX12_writeLantern_80 rfl rfl ?_
    refine g_icmp_ge C dX12_writeLantern_83 (tgt := 110) rfl (fun q => ?_) (fun q => ?_)
    · replace h := it_t q h
      replace h := ir_2 h hx1
      refine g_aload_n C dX12_writeLantern_110 0 rfl ?_
      refine g_get C (.int (d 292 13)) 292 q_292 fk_M_252 rfl dX12_writeLantern_111 ?_
      exact g_iret C hr hlk rfl (congrArg Prod.snd (Option.some.inj h)) (congrArg (fun z => some (Value.int z.1)) (Option.some.inj h)) dX12_writeLantern_114
    · replace h := it_f q h
      refine g_aload_n C dX12_writeLantern_86 0 rfl ?_
      refine g_bipush C dX12_writeLantern_87 (v := 47) (by decide) ?_
      obtain ⟨d16, hc17, h⟩ := ob1_1 h
      refine g_callVv C 292 q_292 vk_M_258 hR rfl (m_M_writes C.2.2.2.2.2.2.1 hc17) rfl rfl rfl dX12_writeLantern_89 rfl rfl ?_
      refine g_aload_n C dX12_writeLantern_92 0 rfl ?_
      refine g_aload_n C dX12_writeLantern_93 0 rfl ?_
      refine g_iload_n C dX12_writeLantern_94 1 rfl ?_
      refine g_iconst C dX12_writeLantern_95 (v := 3) rfl ?_
      refine g_iload_n C dX12_writeLantern_96 2 rfl ?_
      refine g_iadd C dX12_writeLantern_97  ?_
      obtain ⟨r18, hc19, h⟩ := ob1_1 h
      refine g_callVi C 292 q_292 vk_M_87 hR rfl (m_M_of C.2.2.2.2.2.2.1 hc19) rfl rfl rfl dX12_writeLantern_98 rfl rfl ?_
      obtain ⟨d20, hc21, h⟩ := ob1_1 h
      refine g_callVv C 292 q_292 vk_M_255 hR rfl (m_M_writesNumber_r5 C.2.2.2.2.2.2.1 hc21) rfl rfl rfl dX12_writeLantern_101 rfl rfl ?_
      refine g_iinc C (lv' := [(2, .int (x2 + 1)), (0, .ref (w_r w 292)), (1, .int x1)]) (v := (x2 + 1)) dX12_writeLantern_104 2 rfl rfl (by decide) rfl ?_
      refine g_goto C dX12_writeLantern_107 (tgt := 76) rfl ?_
      refine g_sub [1, 2, 0] (lv' := [(0, .ref (w_r w 292)), (1, .int x1), (2, .int (x2 + 1))]) rfl ?_
      exact hl1 ((x2 + 1), d20) (Option.some.inj h).symm
  have R71 : ∀ (x1 : Int32) (v1 : Int32) (d : Dt), f_M_writeLantern_71 x1 v1 d = some (rE, dE) → gG w p l e R s m args below meth c 3 0 0 (gE w below args s dE (some (.int rE))) d [(0, .ref (w_r w 292)), (1, .int x1)] 71 [.int v1, .ref (w_r w 292)] := by
    intro x1 v1 d  h
    unfold f_M_writeLantern_71 at h
    obtain ⟨d22, hc23, h⟩ := ob1_1 h
    refine g_callVv C 292 q_292 vk_M_258 hR rfl (m_M_writes C.2.2.2.2.2.2.1 hc23) rfl rfl rfl dX12_writeLantern_71 rfl rfl ?_
    refine g_iconst C dX12_writeLantern_74 (v := 0) rfl ?_
    refine g_istore_n C (lv' := [(2, .int 0), (0, .ref (w_r w 292)), (1, .int x1)]) dX12_writeLantern_75 (by decide) rfl ?_
    refine g_sub [1, 2, 0] (lv' := [(0, .ref (w_r w 292)), (1, .int x1), (2, .int 0)]) rfl ?_
    exact R76 x1 0 d22 h
  have R22 : ∀ (x1 : Int32) (x2 : Int32) (d : Dt), f_M_writeLantern_22 x1 x2 d = some (rE, dE) → gG w p l e R s m args below meth c 3 0 0 (gE w below args s dE (some (.int rE))) d [(0, .ref (w_r w 292)), (1, .int x1), (2, .int x2)] 22 [] := by
    intro x1 x2 d  h
    refine iter_ind (G := fun s_ : (Int32 × Dt) => gG w p l e R s m args below meth c 3 0 0 (gE w below args s dE (some (.int rE))) s_.2 [(0, .ref (w_r w 292)), (1, .int x1), (2, .int s_.1)] 22 []) ?_ fu _ h
    clear h
    intro s_ y1 h hl1 hx1
    obtain ⟨x2, d⟩ := s_
    show gG w p l e R s m args below meth c 3 0 0 (gE w below args s dE (some (.int rE))) d [(0, .ref (w_r w 292)), (1, .int x1), (2, .int x2)] 22 []
    dsimp only at h
    unfold st_M_writeLantern_22 at h
    refine g_iload_n C dX12_writeLantern_22 2 rfl ?_
    refine g_aload_n C dX12_writeLantern_23 0 rfl ?_
    refine g_iload_n C dX12_writeLantern_24 1 rfl ?_
    refine g_iconst C dX12_writeLantern_25 (v := 0) rfl ?_
    obtain ⟨r24, hc25, h⟩ := ob1_1 h
    refine g_callVi C 292 q_292 vk_M_87 hR rfl (m_M_of C.2.2.2.2.2.2.1 hc25) rfl rfl rfl dX12_writeLantern_26 rfl rfl ?_
    refine g_icmp_ge C dX12_writeLantern_29 (tgt := 44) rfl (fun q => ?_) (fun q => ?_)
    · replace h := it_t q h
      replace h := ir_2 h hx1
      refine g_aload_n C dX12_writeLantern_44 0 rfl ?_
      refine g_iload_n C dX12_writeLantern_45 1 rfl ?_
      refine g_iconst C dX12_writeLantern_46 (v := 1) rfl ?_
      obtain ⟨r26, hc27, h⟩ := ob1_1 h
      refine g_callVi C 292 q_292 vk_M_87 hR rfl (m_M_of C.2.2.2.2.2.2.1 hc27) rfl rfl rfl dX12_writeLantern_47 rfl rfl ?_
      refine g_if_le C dX12_writeLantern_50 (tgt := 74) rfl (fun q => ?_) (fun q => ?_)
      · replace h := it_t q h
        refine g_iconst C dX12_writeLantern_74 (v := 0) rfl ?_
        refine g_istore_n C (lv' := [(2, .int 0), (0, .ref (w_r w 292)), (1, .int x1)]) dX12_writeLantern_75 (by decide) rfl ?_
        refine g_sub [1, 2, 0] (lv' := [(0, .ref (w_r w 292)), (1, .int x1), (2, .int 0)]) rfl ?_
        exact R76 x1 0 d h
      · replace h := it_f q h
        refine g_aload_n C dX12_writeLantern_53 0 rfl ?_
        refine g_aload_n C dX12_writeLantern_54 0 rfl ?_
        refine g_iload_n C dX12_writeLantern_55 1 rfl ?_
        refine g_iconst C dX12_writeLantern_56 (v := 1) rfl ?_
        obtain ⟨r28, hc29, h⟩ := ob1_1 h
        refine g_callVi C 292 q_292 vk_M_87 hR rfl (m_M_of C.2.2.2.2.2.2.1 hc29) rfl rfl rfl dX12_writeLantern_57 rfl rfl ?_
        refine g_iconst C dX12_writeLantern_60 (v := 1) rfl ?_
        refine g_icmp_ne C dX12_writeLantern_61 (tgt := 69) rfl (fun q => ?_) (fun q => ?_)
        · replace h := it_f q h
          refine g_bipush C dX12_writeLantern_69 (v := 105) (by decide) ?_
          refine g_sub [0, 1] (lv' := [(0, .ref (w_r w 292)), (1, .int x1)]) rfl ?_
          exact R71 x1 105 d h
        · replace h := it_t q h
          refine g_bipush C dX12_writeLantern_64 (v := 103) (by decide) ?_
          refine g_goto C dX12_writeLantern_66 (tgt := 71) rfl ?_
          refine g_sub [0, 1] (lv' := [(0, .ref (w_r w 292)), (1, .int x1)]) rfl ?_
          exact R71 x1 103 d h
    · replace h := it_f q h
      refine g_aload_n C dX12_writeLantern_32 0 rfl ?_
      refine g_bipush C dX12_writeLantern_33 (v := 42) (by decide) ?_
      obtain ⟨d30, hc31, h⟩ := ob1_1 h
      refine g_callVv C 292 q_292 vk_M_258 hR rfl (m_M_writes C.2.2.2.2.2.2.1 hc31) rfl rfl rfl dX12_writeLantern_35 rfl rfl ?_
      refine g_iinc C (lv' := [(2, .int (x2 + 1)), (0, .ref (w_r w 292)), (1, .int x1)]) (v := (x2 + 1)) dX12_writeLantern_38 2 rfl rfl (by decide) rfl ?_
      refine g_goto C dX12_writeLantern_41 (tgt := 22) rfl ?_
      refine g_sub [1, 2, 0] (lv' := [(0, .ref (w_r w 292)), (1, .int x1), (2, .int (x2 + 1))]) rfl ?_
      exact hl1 ((x2 + 1), d30) (Option.some.inj h).symm
  unfold f_M_writeLantern at h
  refine g_aload_n C dX12_writeLantern_0 0 rfl ?_
  refine g_iload_n C dX12_writeLantern_1 1 rfl ?_
  obtain ⟨r32, d33, hc34, h⟩ := ob2_1 h
  refine g_callVi C 292 q_292 vk_M_134 hR rfl (m_M_isNone C.2.2.2.2.2.2.1 hc34) rfl rfl rfl dX12_writeLantern_2 rfl rfl ?_
  refine g_if_eq C dX12_writeLantern_5 (tgt := 10) rfl (fun q => ?_) (fun q => ?_)
  · replace h := it_t q h
    refine g_aload_n C dX12_writeLantern_10 0 rfl ?_
    refine g_iconst C dX12_writeLantern_11 (v := 0) rfl ?_
    refine g_put C 292 q_292 pk_M_252 rfl rfl dX12_writeLantern_12 ?_
    obtain ⟨d35, hd35, h⟩ := bnd_1 h
    refine g_nmD hd35 ?_
    refine g_aload_n C dX12_writeLantern_15 0 rfl ?_
    refine g_iload_n C dX12_writeLantern_16 1 rfl ?_
    obtain ⟨d36, hc37, h⟩ := ob1_1 h
    refine g_callVv C 292 q_292 vk_M_255 hR rfl (m_M_writesNumber_r5 C.2.2.2.2.2.2.1 hc37) rfl rfl rfl dX12_writeLantern_17 rfl rfl ?_
    refine g_iconst C dX12_writeLantern_20 (v := 0) rfl ?_
    refine g_istore_n C (lv' := [(2, .int 0), (0, .ref (w_r w 292)), (1, .int x1)]) dX12_writeLantern_21 (by decide) rfl ?_
    refine g_sub [1, 2, 0] (lv' := [(0, .ref (w_r w 292)), (1, .int x1), (2, .int 0)]) rfl ?_
    exact R22 x1 0 d36 h
  · replace h := it_f q h
    refine g_iconst C dX12_writeLantern_8 (v := 0) rfl ?_
    exact g_iret C hr hlk rfl (congrArg Prod.snd (Option.some.inj h)) (congrArg (fun z => some (Value.int z.1)) (Option.some.inj h)) dX12_writeLantern_9
set_option maxHeartbeats 4000000 in
set_option maxRecDepth 100000 in
theorem m_M_writePlan {w : wT} {l : Launch} {d : Dt} {rE : Int32} {dE : Dt} (hO : okW w) (h : f_M_writePlan  d = some (rE, dE)) : gM w l yX12_writePlan cX12_writePlan 3 (Option.some Jvm.ClassFile.FieldType.int) 7 [.ref (w_r w 292)] d dE (some (.int rE)) := by
  refine gM_of (by decide) [(0, .ref (w_r w 292))] rfl rfl ?_ hO
  intro p e R s m args below meth c C hR hr hlk
  have R17 : ∀ (x1 : Int32) (x2 : Int32) (d : Dt), f_M_writePlan_17 x1 x2 d = some (rE, dE) → gG w p l e R s m args below meth c 3 0 0 (gE w below args s dE (some (.int rE))) d [(0, .ref (w_r w 292)), (1, .int x1), (2, .int x2)] 17 [] := by
    intro x1 x2 d  h
    refine iter_ind (G := fun s_ : (Int32 × Dt) => gG w p l e R s m args below meth c 3 0 0 (gE w below args s dE (some (.int rE))) s_.2 [(0, .ref (w_r w 292)), (1, .int x1), (2, .int s_.1)] 17 []) ?_ fu _ h
    clear h
    intro s_ y1 h hl1 hx1
    obtain ⟨x2, d⟩ := s_
    show gG w p l e R s m args below meth c 3 0 0 (gE w below args s dE (some (.int rE))) d [(0, .ref (w_r w 292)), (1, .int x1), (2, .int x2)] 17 []
    dsimp only at h
    unfold st_M_writePlan_17 at h
    have R35 : ∀ (x2 : Int32) (d : Dt), f_M_writePlan_35 x1 x2  d = some y1 → gG w p l e R s m args below meth c 3 0 0 (gE w below args s dE (some (.int rE))) d [(0, .ref (w_r w 292)), (1, .int x1), (2, .int x2)] 35 [] := by
      intro x2  d  h
      unfold f_M_writePlan_35 at h
      refine g_aload_n C dX12_writePlan_35 0 rfl ?_
      refine g_aload_n C dX12_writePlan_36 0 rfl ?_
      refine g_aload_n C dX12_writePlan_37 0 rfl ?_
      refine g_iload_n C dX12_writePlan_38 1 rfl ?_
      refine g_iload_n C dX12_writePlan_39 2 rfl ?_
      obtain ⟨r9, hc10, h⟩ := ob1_1 h
      refine g_callVi C 292 q_292 vk_M_122 hR rfl (m_M_hearing C.2.2.2.2.2.2.1 hc10) rfl rfl rfl dX12_writePlan_40 rfl rfl ?_
      refine g_iconst C dX12_writePlan_43 (v := 0) rfl ?_
      obtain ⟨r11, hc12, h⟩ := ob1_1 h
      refine g_callVi C 292 q_292 vk_M_72 hR rfl (m_M_brief C.2.2.2.2.2.2.1 hc12) rfl rfl rfl dX12_writePlan_44 rfl rfl ?_
      obtain ⟨d13, hc14, h⟩ := ob1_1 h
      refine g_callVv C 292 q_292 vk_M_255 hR rfl (m_M_writesNumber_r5 C.2.2.2.2.2.2.1 hc14) rfl rfl rfl dX12_writePlan_47 rfl rfl ?_
      refine g_iinc C (lv' := [(2, .int (x2 + 1)), (0, .ref (w_r w 292)), (1, .int x1)]) (v := (x2 + 1)) dX12_writePlan_50 2 rfl rfl (by decide) rfl ?_
      refine g_goto C dX12_writePlan_53 (tgt := 17) rfl ?_
      refine g_sub [1, 2, 0] (lv' := [(0, .ref (w_r w 292)), (1, .int x1), (2, .int (x2 + 1))]) rfl ?_
      exact hl1 ((x2 + 1), d13) (Option.some.inj h).symm
    refine g_iload_n C dX12_writePlan_17 2 rfl ?_
    refine g_iload_n C dX12_writePlan_18 1 rfl ?_
    obtain ⟨r15, hc16, h⟩ := ob1_1 h
    refine g_callSi C sk_M_261 hR rfl (m_M_bits C.2.2.2.2.2.2.1 hc16) rfl rfl rfl dX12_writePlan_19 rfl rfl ?_
    refine g_icmp_ge C dX12_writePlan_22 (tgt := 56) rfl (fun q => ?_) (fun q => ?_)
    · replace h := it_t q h
      replace h := ir_2 h hx1
      refine g_aload_n C dX12_writePlan_56 0 rfl ?_
      refine g_get C (.int (d 292 13)) 292 q_292 fk_M_252 rfl dX12_writePlan_57 ?_
      exact g_iret C hr hlk rfl (congrArg Prod.snd (Option.some.inj h)) (congrArg (fun z => some (Value.int z.1)) (Option.some.inj h)) dX12_writePlan_60
    · replace h := it_f q h
      refine g_iload_n C dX12_writePlan_25 2 rfl ?_
      refine g_if_le C dX12_writePlan_26 (tgt := 35) rfl (fun q => ?_) (fun q => ?_)
      · replace h := it_t q h
        exact R35 x2 d h
      · replace h := it_f q h
        refine g_aload_n C dX12_writePlan_29 0 rfl ?_
        refine g_bipush C dX12_writePlan_30 (v := 32) (by decide) ?_
        obtain ⟨d17, hc18, h⟩ := ob1_1 h
        refine g_callVv C 292 q_292 vk_M_258 hR rfl (m_M_writes C.2.2.2.2.2.2.1 hc18) rfl rfl rfl dX12_writePlan_32 rfl rfl ?_
        exact R35 x2 d17 h
  unfold f_M_writePlan at h
  refine g_aload_n C dX12_writePlan_0 0 rfl ?_
  refine g_iconst C dX12_writePlan_1 (v := 0) rfl ?_
  refine g_put C 292 q_292 pk_M_39 rfl rfl dX12_writePlan_2 ?_
  obtain ⟨d19, hd19, h⟩ := bnd_1 h
  refine g_nmD hd19 ?_
  refine g_aload_n C dX12_writePlan_5 0 rfl ?_
  obtain ⟨r20, hc21, h⟩ := ob1_1 h
  refine g_callVi C 292 q_292 vk_M_118 hR rfl (m_M_plan C.2.2.2.2.2.2.1 hc21) rfl rfl rfl dX12_writePlan_6 rfl rfl ?_
  refine g_istore_n C (lv' := [(1, .int r20), (0, .ref (w_r w 292))]) dX12_writePlan_9 (by decide) rfl ?_
  refine g_aload_n C dX12_writePlan_10 1 rfl ?_
  refine g_iconst C dX12_writePlan_11 (v := 0) rfl ?_
  refine g_put C 292 q_292 pk_M_252 rfl rfl dX12_writePlan_12 ?_
  obtain ⟨d22, hd22, h⟩ := bnd_1 h
  refine g_nmD hd22 ?_
  refine g_iconst C dX12_writePlan_15 (v := 0) rfl ?_
  refine g_istore_n C (lv' := [(2, .int 0), (1, .int r20), (0, .ref (w_r w 292))]) dX12_writePlan_16 (by decide) rfl ?_
  refine g_sub [2, 1, 0] (lv' := [(0, .ref (w_r w 292)), (1, .int r20), (2, .int 0)]) rfl ?_
  exact R17 r20 0 d22 h
set_option maxHeartbeats 4000000 in
set_option maxRecDepth 100000 in
theorem m_L_isFull {w : wT} {l : Launch} {d : Dt} {rE : Int32} (hO : okW w) (h : f_L_isFull  d = some rE) : gM w l yX5_isFull cX5_isFull 1 (Option.some Jvm.ClassFile.FieldType.boolean) 0 [.ref (w_r w 3)] d d (some (.int rE)) := by
  refine gM_of (by decide) [(0, .ref (w_r w 3))] rfl rfl ?_ hO
  intro p e R s m args below meth c C hR hr hlk
  unfold f_L_isFull at h
  refine g_aload_n C dX5_isFull_0 0 rfl ?_
  refine g_get C (.int (d 3 0)) 3 q_3 fk_L_26 rfl dX5_isFull_1 ?_
  refine g_bipush C dX5_isFull_4 (v := 8) (by decide) ?_
  refine g_icmp_lt C dX5_isFull_6 (tgt := 13) rfl (fun q => ?_) (fun q => ?_)
  · replace h := it_t q h
    refine g_iconst C dX5_isFull_13 (v := 0) rfl ?_
    exact g_iret C hr hlk rfl rfl (congrArg (fun z => some (Value.int z)) (Option.some.inj h)) dX5_isFull_14
  · replace h := it_f q h
    refine g_iconst C dX5_isFull_9 (v := 1) rfl ?_
    refine g_goto C dX5_isFull_10 (tgt := 14) rfl ?_
    exact g_iret C hr hlk rfl rfl (congrArg (fun z => some (Value.int z)) (Option.some.inj h)) dX5_isFull_14
set_option maxHeartbeats 4000000 in
set_option maxRecDepth 100000 in
theorem m_L_copyFrom {w : wT} {l : Launch} {a : Nat} {b : Nat} {d : Dt} {dE : Dt} (hO : okW w) (ha : stB a) (hb : stB b) (h : f_L_copyFrom a b  d = some dE) : gM w l yX5_copyFrom cX5_copyFrom 3 (Option.none : Option Jvm.ClassFile.FieldType) 1 [.ref (w_r w (a + 1)), .ref (w_r w (b + 1))] d dE none := by
  refine gM_of (by decide) [(0, .ref (w_r w (a + 1))), (1, .ref (w_r w (b + 1)))] rfl rfl ?_ hO
  intro p e R s m args below meth c C hR hr hlk
  have R55 : ∀ (x2 : Int32) (d : Dt), f_L_copyFrom_55 a b x2 d = some dE → gG w p l e R s m args below meth c 3 0 0 (gE w below args s dE none) d [(0, .ref (w_r w (a + 1))), (1, .ref (w_r w (b + 1))), (2, .int x2)] 55 [] := by
    intro x2 d  h
    refine iter_ind (G := fun s_ : (Int32 × Dt) => gG w p l e R s m args below meth c 3 0 0 (gE w below args s dE none) s_.2 [(0, .ref (w_r w (a + 1))), (1, .ref (w_r w (b + 1))), (2, .int s_.1)] 55 []) ?_ fu _ h
    clear h
    intro s_ y1 h hl1 hx1
    obtain ⟨x2, d⟩ := s_
    show gG w p l e R s m args below meth c 3 0 0 (gE w below args s dE none) d [(0, .ref (w_r w (a + 1))), (1, .ref (w_r w (b + 1))), (2, .int x2)] 55 []
    dsimp only at h
    unfold st_L_copyFrom_55 at h
    refine g_iload_n C dX5_copyFrom_55 2 rfl ?_
    refine g_bipush C dX5_copyFrom_56 (v := 8) (by decide) ?_
    refine g_icmp_ge C dX5_copyFrom_58 (tgt := 86) rfl (fun q => ?_) (fun q => ?_)
    · replace h := it_t q h
      replace h := ir_2 h hx1
      exact g_vret C hr hlk (Option.some.inj h) rfl dX5_copyFrom_86
    · replace h := it_f q h
      refine g_aload_n C dX5_copyFrom_61 1 rfl ?_
      refine g_get C (.ref (w_r w (b + 5))) (b + 1) (show isC (b + 1) 5 0 from hb 1 (by decide)) fk_L_23 rfl dX5_copyFrom_62 ?_
      refine g_iload_n C dX5_copyFrom_65 2 rfl ?_
      have hg6 := gd_1 h
      replace h := gd_2 h
      refine g_aald C (b + 5) (show isC (b + 5) 24 8 from hb 5 (by decide)) hg6 dX5_copyFrom_66 ?_
      refine g_iconst C dX5_copyFrom_67 (v := 0) rfl ?_
      refine g_aload_n C dX5_copyFrom_68 0 rfl ?_
      refine g_get C (.ref (w_r w (a + 5))) (a + 1) (show isC (a + 1) 5 0 from ha 1 (by decide)) fk_L_23 rfl dX5_copyFrom_69 ?_
      refine g_iload_n C dX5_copyFrom_72 2 rfl ?_
      have hg7 := gd_1 h
      replace h := gd_2 h
      refine g_aald C (a + 5) (show isC (a + 5) 24 8 from ha 5 (by decide)) hg7 dX5_copyFrom_73 ?_
      refine g_iconst C dX5_copyFrom_74 (v := 0) rfl ?_
      refine g_bipush C dX5_copyFrom_75 (v := 8) (by decide) ?_
      refine g_copy C ((b + 5) + 1 + x2.toNatClampNeg) ((a + 5) + 1 + x2.toNatClampNeg) (isC_rowS hb hg6) (isC_rowS ha hg7) 8 (by decide) (by decide) rfl rfl ac_L_30 ac_nat ac_sta ac_ini hR rfl dX5_copyFrom_77 ?_
      obtain ⟨d8, hd8, h⟩ := bnd_1 h
      refine g_nmD hd8 ?_
      refine g_iinc C (lv' := [(2, .int (x2 + 1)), (0, .ref (w_r w (a + 1))), (1, .ref (w_r w (b + 1)))]) (v := (x2 + 1)) dX5_copyFrom_80 2 rfl rfl (by decide) rfl ?_
      refine g_goto C dX5_copyFrom_83 (tgt := 55) rfl ?_
      refine g_sub [1, 2, 0] (lv' := [(0, .ref (w_r w (a + 1))), (1, .ref (w_r w (b + 1))), (2, .int (x2 + 1))]) rfl ?_
      exact hl1 ((x2 + 1), d8) (Option.some.inj h).symm
  unfold f_L_copyFrom at h
  refine g_aload_n C dX5_copyFrom_0 0 rfl ?_
  refine g_aload_n C dX5_copyFrom_1 1 rfl ?_
  refine g_get C (.int (d (b + 1) 0)) (b + 1) (show isC (b + 1) 5 0 from hb 1 (by decide)) fk_L_26 rfl dX5_copyFrom_2 ?_
  refine g_put C (a + 1) (show isC (a + 1) 5 0 from ha 1 (by decide)) pk_L_26 rfl rfl dX5_copyFrom_5 ?_
  obtain ⟨d9, hd9, h⟩ := bnd_1 h
  refine g_nmD hd9 ?_
  refine g_aload_n C dX5_copyFrom_8 1 rfl ?_
  refine g_get C (.ref (w_r w (b + 2))) (b + 1) (show isC (b + 1) 5 0 from hb 1 (by decide)) fk_L_9 rfl dX5_copyFrom_9 ?_
  refine g_iconst C dX5_copyFrom_12 (v := 0) rfl ?_
  refine g_aload_n C dX5_copyFrom_13 0 rfl ?_
  refine g_get C (.ref (w_r w (a + 2))) (a + 1) (show isC (a + 1) 5 0 from ha 1 (by decide)) fk_L_9 rfl dX5_copyFrom_14 ?_
  refine g_iconst C dX5_copyFrom_17 (v := 0) rfl ?_
  refine g_bipush C dX5_copyFrom_18 (v := 8) (by decide) ?_
  refine g_copy C (b + 2) (a + 2) (show isC (b + 2) 20 8 from hb 2 (by decide)) (show isC (a + 2) 20 8 from ha 2 (by decide)) 8 (by decide) (by decide) rfl rfl ac_L_30 ac_nat ac_sta ac_ini hR rfl dX5_copyFrom_20 ?_
  obtain ⟨d10, hd10, h⟩ := bnd_1 h
  refine g_nmD hd10 ?_
  refine g_aload_n C dX5_copyFrom_23 1 rfl ?_
  refine g_get C (.ref (w_r w (b + 3))) (b + 1) (show isC (b + 1) 5 0 from hb 1 (by decide)) fk_L_15 rfl dX5_copyFrom_24 ?_
  refine g_iconst C dX5_copyFrom_27 (v := 0) rfl ?_
  refine g_aload_n C dX5_copyFrom_28 0 rfl ?_
  refine g_get C (.ref (w_r w (a + 3))) (a + 1) (show isC (a + 1) 5 0 from ha 1 (by decide)) fk_L_15 rfl dX5_copyFrom_29 ?_
  refine g_iconst C dX5_copyFrom_32 (v := 0) rfl ?_
  refine g_bipush C dX5_copyFrom_33 (v := 8) (by decide) ?_
  refine g_copy C (b + 3) (a + 3) (show isC (b + 3) 20 8 from hb 3 (by decide)) (show isC (a + 3) 20 8 from ha 3 (by decide)) 8 (by decide) (by decide) rfl rfl ac_L_30 ac_nat ac_sta ac_ini hR rfl dX5_copyFrom_35 ?_
  obtain ⟨d11, hd11, h⟩ := bnd_1 h
  refine g_nmD hd11 ?_
  refine g_aload_n C dX5_copyFrom_38 1 rfl ?_
  refine g_get C (.ref (w_r w (b + 4))) (b + 1) (show isC (b + 1) 5 0 from hb 1 (by decide)) fk_L_18 rfl dX5_copyFrom_39 ?_
  refine g_iconst C dX5_copyFrom_42 (v := 0) rfl ?_
  refine g_aload_n C dX5_copyFrom_43 0 rfl ?_
  refine g_get C (.ref (w_r w (a + 4))) (a + 1) (show isC (a + 1) 5 0 from ha 1 (by decide)) fk_L_18 rfl dX5_copyFrom_44 ?_
  refine g_iconst C dX5_copyFrom_47 (v := 0) rfl ?_
  refine g_bipush C dX5_copyFrom_48 (v := 8) (by decide) ?_
  refine g_copy C (b + 4) (a + 4) (show isC (b + 4) 20 8 from hb 4 (by decide)) (show isC (a + 4) 20 8 from ha 4 (by decide)) 8 (by decide) (by decide) rfl rfl ac_L_30 ac_nat ac_sta ac_ini hR rfl dX5_copyFrom_50 ?_
  obtain ⟨d12, hd12, h⟩ := bnd_1 h
  refine g_nmD hd12 ?_
  refine g_iconst C dX5_copyFrom_53 (v := 0) rfl ?_
  refine g_istore_n C (lv' := [(2, .int 0), (0, .ref (w_r w (a + 1))), (1, .ref (w_r w (b + 1)))]) dX5_copyFrom_54 (by decide) rfl ?_
  refine g_sub [1, 2, 0] (lv' := [(0, .ref (w_r w (a + 1))), (1, .ref (w_r w (b + 1))), (2, .int 0)]) rfl ?_
  exact R55 0 d12 h
set_option maxHeartbeats 4000000 in
set_option maxRecDepth 100000 in
theorem m_B_copyFrom {w : wT} {l : Launch} {a : Nat} {b : Nat} {d : Dt} {dE : Dt} (hO : okW w) (ha : stB a) (hb : stB b) (h : f_B_copyFrom a b  d = some dE) : gM w l yX1_copyFrom cX1_copyFrom 2 (Option.none : Option Jvm.ClassFile.FieldType) 1 [.ref (w_r w (a + 14)), .ref (w_r w (b + 14))] d dE none := by
  refine gM_of (by decide) [(0, .ref (w_r w (a + 14))), (1, .ref (w_r w (b + 14)))] rfl rfl ?_ hO
  intro p e R s m args below meth c C hR hr hlk
  unfold f_B_copyFrom at h
  refine g_aload_n C dX1_copyFrom_0 0 rfl ?_
  refine g_aload_n C dX1_copyFrom_1 1 rfl ?_
  refine g_get C (.int (d (b + 14) 0)) (b + 14) (show isC (b + 14) 2 0 from hb 14 (by decide)) fk_B_27 rfl dX1_copyFrom_2 ?_
  refine g_put C (a + 14) (show isC (a + 14) 2 0 from ha 14 (by decide)) pk_B_27 rfl rfl dX1_copyFrom_5 ?_
  obtain ⟨d8, hd8, h⟩ := bnd_1 h
  refine g_nmD hd8 ?_
  refine g_aload_n C dX1_copyFrom_8 0 rfl ?_
  refine g_aload_n C dX1_copyFrom_9 1 rfl ?_
  refine g_get C (.int (d8 (b + 14) 1)) (b + 14) (show isC (b + 14) 2 0 from hb 14 (by decide)) fk_B_31 rfl dX1_copyFrom_10 ?_
  refine g_put C (a + 14) (show isC (a + 14) 2 0 from ha 14 (by decide)) pk_B_31 rfl rfl dX1_copyFrom_13 ?_
  obtain ⟨d9, hd9, h⟩ := bnd_1 h
  refine g_nmD hd9 ?_
  refine g_aload_n C dX1_copyFrom_16 1 rfl ?_
  refine g_get C (.ref (w_r w (b + 15))) (b + 14) (show isC (b + 14) 2 0 from hb 14 (by decide)) fk_B_9 rfl dX1_copyFrom_17 ?_
  refine g_iconst C dX1_copyFrom_20 (v := 0) rfl ?_
  refine g_aload_n C dX1_copyFrom_21 0 rfl ?_
  refine g_get C (.ref (w_r w (a + 15))) (a + 14) (show isC (a + 14) 2 0 from ha 14 (by decide)) fk_B_9 rfl dX1_copyFrom_22 ?_
  refine g_iconst C dX1_copyFrom_25 (v := 0) rfl ?_
  refine g_bipush C dX1_copyFrom_26 (v := 10) (by decide) ?_
  refine g_copy C (b + 15) (a + 15) (show isC (b + 15) 20 10 from hb 15 (by decide)) (show isC (a + 15) 20 10 from ha 15 (by decide)) 10 (by decide) (by decide) rfl rfl ac_B_34 ac_nat ac_sta ac_ini hR rfl dX1_copyFrom_28 ?_
  obtain ⟨d10, hd10, h⟩ := bnd_1 h
  refine g_nmD hd10 ?_
  refine g_aload_n C dX1_copyFrom_31 1 rfl ?_
  refine g_get C (.ref (w_r w (b + 16))) (b + 14) (show isC (b + 14) 2 0 from hb 14 (by decide)) fk_B_15 rfl dX1_copyFrom_32 ?_
  refine g_iconst C dX1_copyFrom_35 (v := 0) rfl ?_
  refine g_aload_n C dX1_copyFrom_36 0 rfl ?_
  refine g_get C (.ref (w_r w (a + 16))) (a + 14) (show isC (a + 14) 2 0 from ha 14 (by decide)) fk_B_15 rfl dX1_copyFrom_37 ?_
  refine g_iconst C dX1_copyFrom_40 (v := 0) rfl ?_
  refine g_bipush C dX1_copyFrom_41 (v := 10) (by decide) ?_
  refine g_copy C (b + 16) (a + 16) (show isC (b + 16) 20 10 from hb 16 (by decide)) (show isC (a + 16) 20 10 from ha 16 (by decide)) 10 (by decide) (by decide) rfl rfl ac_B_34 ac_nat ac_sta ac_ini hR rfl dX1_copyFrom_43 ?_
  obtain ⟨d11, hd11, h⟩ := bnd_1 h
  refine g_nmD hd11 ?_
  refine g_aload_n C dX1_copyFrom_46 1 rfl ?_
  refine g_get C (.ref (w_r w (b + 17))) (b + 14) (show isC (b + 14) 2 0 from hb 14 (by decide)) fk_B_18 rfl dX1_copyFrom_47 ?_
  refine g_iconst C dX1_copyFrom_50 (v := 0) rfl ?_
  refine g_aload_n C dX1_copyFrom_51 0 rfl ?_
  refine g_get C (.ref (w_r w (a + 17))) (a + 14) (show isC (a + 14) 2 0 from ha 14 (by decide)) fk_B_18 rfl dX1_copyFrom_52 ?_
  refine g_iconst C dX1_copyFrom_55 (v := 0) rfl ?_
  refine g_bipush C dX1_copyFrom_56 (v := 10) (by decide) ?_
  refine g_copy C (b + 17) (a + 17) (show isC (b + 17) 20 10 from hb 17 (by decide)) (show isC (a + 17) 20 10 from ha 17 (by decide)) 10 (by decide) (by decide) rfl rfl ac_B_34 ac_nat ac_sta ac_ini hR rfl dX1_copyFrom_58 ?_
  obtain ⟨d12, hd12, h⟩ := bnd_1 h
  refine g_nmD hd12 ?_
  refine g_aload_n C dX1_copyFrom_61 1 rfl ?_
  refine g_get C (.ref (w_r w (b + 18))) (b + 14) (show isC (b + 14) 2 0 from hb 14 (by decide)) fk_B_21 rfl dX1_copyFrom_62 ?_
  refine g_iconst C dX1_copyFrom_65 (v := 0) rfl ?_
  refine g_aload_n C dX1_copyFrom_66 0 rfl ?_
  refine g_get C (.ref (w_r w (a + 18))) (a + 14) (show isC (a + 14) 2 0 from ha 14 (by decide)) fk_B_21 rfl dX1_copyFrom_67 ?_
  refine g_iconst C dX1_copyFrom_70 (v := 0) rfl ?_
  refine g_bipush C dX1_copyFrom_71 (v := 10) (by decide) ?_
  refine g_copy C (b + 18) (a + 18) (show isC (b + 18) 20 10 from hb 18 (by decide)) (show isC (a + 18) 20 10 from ha 18 (by decide)) 10 (by decide) (by decide) rfl rfl ac_B_34 ac_nat ac_sta ac_ini hR rfl dX1_copyFrom_73 ?_
  obtain ⟨d13, hd13, h⟩ := bnd_1 h
  refine g_nmD hd13 ?_
  refine g_aload_n C dX1_copyFrom_76 1 rfl ?_
  refine g_get C (.ref (w_r w (b + 19))) (b + 14) (show isC (b + 14) 2 0 from hb 14 (by decide)) fk_B_24 rfl dX1_copyFrom_77 ?_
  refine g_iconst C dX1_copyFrom_80 (v := 0) rfl ?_
  refine g_aload_n C dX1_copyFrom_81 0 rfl ?_
  refine g_get C (.ref (w_r w (a + 19))) (a + 14) (show isC (a + 14) 2 0 from ha 14 (by decide)) fk_B_24 rfl dX1_copyFrom_82 ?_
  refine g_iconst C dX1_copyFrom_85 (v := 0) rfl ?_
  refine g_bipush C dX1_copyFrom_86 (v := 10) (by decide) ?_
  refine g_copy C (b + 19) (a + 19) (show isC (b + 19) 20 10 from hb 19 (by decide)) (show isC (a + 19) 20 10 from ha 19 (by decide)) 10 (by decide) (by decide) rfl rfl ac_B_34 ac_nat ac_sta ac_ini hR rfl dX1_copyFrom_88 ?_
  obtain ⟨d14, hd14, h⟩ := bnd_1 h
  refine g_nmD hd14 ?_
  exact g_vret C hr hlk (Option.some.inj h) rfl dX1_copyFrom_91
