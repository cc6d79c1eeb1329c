/-! 08: walks -/
set_option maxHeartbeats 4000000 in
set_option maxRecDepth 100000 in
theorem m_R_fewestFalse {w : wT} {l : Launch} {d : Dt} {rE : Int32} {dE : Dt} (hO : okW w) (h : f_R_fewestFalse  d = some (rE, dE)) : gM w l yX10_fewestFalse cX10_fewestFalse 5 (Option.some Jvm.ClassFile.FieldType.int) 2 [.ref (w_r w 286), .ref (w_r w 3), .ref (w_r w 22)] d dE (some (.int rE)) := by
  refine gM_of (by decide) [(0, .ref (w_r w 286)), (1, .ref (w_r w 3)), (2, .ref (w_r w 22))] rfl rfl ?_ hO
  intro p e R s m args below meth c C hR hr hlk
  have R13 : ∀ (x3 : Int32) (x4 : Int32) (d : Dt), f_R_fewestFalse_13 x3 x4 d = some (rE, dE) → gG w p l e R s m args below meth c 5 0 0 (gE w below args s dE (some (.int rE))) d [(0, .ref (w_r w 286)), (1, .ref (w_r w 3)), (2, .ref (w_r w 22)), (3, .int x3), (4, .int x4)] 13 [] := by
    intro x3 x4 d  h
    refine iter_ind (G := fun s_ : (Int32 × Int32) => gG w p l e R s m args below meth c 5 0 0 (gE w below args s dE (some (.int rE))) d [(0, .ref (w_r w 286)), (1, .ref (w_r w 3)), (2, .ref (w_r w 22)), (3, .int s_.1), (4, .int s_.2)] 13 []) ?_ fu _ h
    clear h
    intro s_ y1 h hl1 hx1
    obtain ⟨x3, x4⟩ := s_
    show gG w p l e R s m args below meth c 5 0 0 (gE w below args s dE (some (.int rE))) d [(0, .ref (w_r w 286)), (1, .ref (w_r w 3)), (2, .ref (w_r w 22)), (3, .int x3), (4, .int x4)] 13 []
    dsimp only at h
    unfold st_R_fewestFalse_13 at h
    refine g_iload C dX10_fewestFalse_13 4 rfl ?_
    refine g_iconst C dX10_fewestFalse_15 (v := 1) rfl ?_
    refine g_aload_n C dX10_fewestFalse_16 1 rfl ?_
    refine g_get C (.int (d 3 0)) 3 q_3 fk_R_33 rfl dX10_fewestFalse_17 ?_
    refine g_ishl C dX10_fewestFalse_20  ?_
    refine g_icmp_ge C dX10_fewestFalse_21 (tgt := 52) rfl (fun q => ?_) (fun q => ?_)
    · replace h := it_t q h
      replace h := ir_2 h hx1
      refine g_iload_n C dX10_fewestFalse_52 3 rfl ?_
      exact g_iret C hr hlk rfl (congrArg Prod.snd (Option.some.inj h)) (congrArg (fun z => some (Value.int z.1)) (Option.some.inj h)) dX10_fewestFalse_53
    · replace h := it_f q h
      refine g_aload_n C dX10_fewestFalse_24 0 rfl ?_
      refine g_iconst C dX10_fewestFalse_25 (v := (-1)) (by decide) ?_
      refine g_iload C dX10_fewestFalse_26 4 rfl ?_
      obtain ⟨r4, hc5, h⟩ := ob1_1 h
      refine g_callVi C 286 q_286 vk_R_36 hR rfl (m_R_keepsAdmissions C.2.2.2.2.2.2.1 hc5) rfl rfl rfl dX10_fewestFalse_28 rfl rfl ?_
      refine g_if_eq C dX10_fewestFalse_31 (tgt := 46) rfl (fun q => ?_) (fun q => ?_)
      · replace h := it_t q h
        refine g_iinc C (lv' := [(4, .int (x4 + 1)), (0, .ref (w_r w 286)), (1, .ref (w_r w 3)), (2, .ref (w_r w 22)), (3, .int x3)]) (v := (x4 + 1)) dX10_fewestFalse_46 4 rfl rfl (by decide) rfl ?_
        refine g_goto C dX10_fewestFalse_49 (tgt := 13) rfl ?_
        refine g_sub [1, 2, 3, 4, 0] (lv' := [(0, .ref (w_r w 286)), (1, .ref (w_r w 3)), (2, .ref (w_r w 22)), (3, .int x3), (4, .int (x4 + 1))]) rfl ?_
        exact hl1 (x3, (x4 + 1)) (Option.some.inj h).symm
      · replace h := it_f q h
        refine g_iload_n C dX10_fewestFalse_34 3 rfl ?_
        refine g_aload_n C dX10_fewestFalse_35 2 rfl ?_
        refine g_iconst C dX10_fewestFalse_36 (v := (-1)) (by decide) ?_
        refine g_iload C dX10_fewestFalse_37 4 rfl ?_
        obtain ⟨r6, hc7, h⟩ := ob1_1 h
        refine g_callVi C 22 q_22 vk_R_40 hR rfl (m_T_countFalse C.2.2.2.2.2.2.1 hc7) rfl rfl rfl dX10_fewestFalse_39 rfl rfl ?_
        refine g_mmin C mm_R_45 mm_sta_min mm_ini mm_cod_min hR rfl rfl dX10_fewestFalse_42 rfl rfl ?_
        refine g_istore_n C (lv' := [(3, .int (mnI x3 r6)), (0, .ref (w_r w 286)), (1, .ref (w_r w 3)), (2, .ref (w_r w 22)), (4, .int x4)]) dX10_fewestFalse_45 (by decide) rfl ?_
        refine g_iinc C (lv' := [(4, .int (x4 + 1)), (3, .int (mnI x3 r6)), (0, .ref (w_r w 286)), (1, .ref (w_r w 3)), (2, .ref (w_r w 22))]) (v := (x4 + 1)) dX10_fewestFalse_46 4 rfl rfl (by decide) rfl ?_
        refine g_goto C dX10_fewestFalse_49 (tgt := 13) rfl ?_
        refine g_sub [2, 3, 4, 1, 0] (lv' := [(0, .ref (w_r w 286)), (1, .ref (w_r w 3)), (2, .ref (w_r w 22)), (3, .int (mnI x3 r6)), (4, .int (x4 + 1))]) rfl ?_
        exact hl1 ((mnI x3 r6), (x4 + 1)) (Option.some.inj h).symm
  unfold f_R_fewestFalse at h
  refine g_aload_n C dX10_fewestFalse_0 0 rfl ?_
  refine g_aload_n C dX10_fewestFalse_1 1 rfl ?_
  obtain ⟨d8, hc9, h⟩ := ob1_1 h
  refine g_callVv C 286 q_286 vk_R_24 hR rfl (m_R_readAdmissions C.2.2.2.2.2.2.1 hc9) rfl rfl rfl dX10_fewestFalse_2 rfl rfl ?_
  refine g_aload_n C dX10_fewestFalse_5 2 rfl ?_
  refine g_get C (.int (d8 22 0)) 22 q_22 fk_R_44 rfl dX10_fewestFalse_6 ?_
  refine g_istore_n C (lv' := [(3, .int (d8 22 0)), (0, .ref (w_r w 286)), (1, .ref (w_r w 3)), (2, .ref (w_r w 22))]) dX10_fewestFalse_9 (by decide) rfl ?_
  refine g_iconst C dX10_fewestFalse_10 (v := 0) rfl ?_
  refine g_istore C (lv' := [(4, .int 0), (3, .int (d8 22 0)), (0, .ref (w_r w 286)), (1, .ref (w_r w 3)), (2, .ref (w_r w 22))]) dX10_fewestFalse_11 (by decide) rfl ?_
  refine g_sub [2, 3, 4, 1, 0] (lv' := [(0, .ref (w_r w 286)), (1, .ref (w_r w 3)), (2, .ref (w_r w 22)), (3, .int (d8 22 0)), (4, .int 0)]) rfl ?_
  exact R13 (d8 22 0) 0 d8 h
set_option maxHeartbeats 4000000 in
set_option maxRecDepth 100000 in
theorem m_C_leastFalse {w : wT} {l : Launch} {d : Dt} {rE : Int32} {dE : Dt} (hO : okW w) (h : f_C_leastFalse  d = some (rE, dE)) : gM w l yX11_leastFalse cX11_leastFalse 1 (Option.some Jvm.ClassFile.FieldType.int) 3 [.ref (w_r w 0)] d dE (some (.int rE)) := by
  refine gM_of (by decide) [(0, .ref (w_r w 0))] rfl rfl ?_ hO
  intro p e R s m args below meth c C hR hr hlk
  unfold f_C_leastFalse at h
  refine g_aload_n C dX11_leastFalse_0 0 rfl ?_
  refine g_get C (.ref (w_r w 286)) 0 q_0 fk_C_43 rfl dX11_leastFalse_1 ?_
  refine g_aload_n C dX11_leastFalse_4 0 rfl ?_
  refine g_get C (.ref (w_r w 2)) 0 q_0 fk_C_10 rfl dX11_leastFalse_5 ?_
  refine g_get C (.ref (w_r w 3)) 2 q_2 fk_C_68 rfl dX11_leastFalse_8 ?_
  refine g_aload_n C dX11_leastFalse_11 0 rfl ?_
  refine g_get C (.ref (w_r w 2)) 0 q_0 fk_C_10 rfl dX11_leastFalse_12 ?_
  refine g_get C (.ref (w_r w 22)) 2 q_2 fk_C_128 rfl dX11_leastFalse_15 ?_
  obtain ⟨r3, d4, hc5, h⟩ := ob2_1 h
  refine g_callVi C 286 q_286 vk_C_298 hR rfl (m_R_fewestFalse C.2.2.2.2.2.2.1 hc5) rfl rfl rfl dX11_leastFalse_18 rfl rfl ?_
  exact g_iret C hr hlk rfl (congrArg Prod.snd (Option.some.inj h)) (congrArg (fun z => some (Value.int z.1)) (Option.some.inj h)) dX11_leastFalse_21
set_option maxHeartbeats 4000000 in
set_option maxRecDepth 100000 in
theorem m_C_leastFalseBySets {w : wT} {l : Launch} {d : Dt} {rE : Int32} {dE : Dt} (hO : okW w) (h : f_C_leastFalseBySets  d = some (rE, dE)) : gM w l yX11_leastFalseBySets cX11_leastFalseBySets 5 (Option.some Jvm.ClassFile.FieldType.int) 2 [.ref (w_r w 0)] d dE (some (.int rE)) := by
  refine gM_of (by decide) [(0, .ref (w_r w 0))] rfl rfl ?_ hO
  intro p e R s m args below meth c C hR hr hlk
  have R15 : ∀ (x1 : Int32) (x2 : Int32) (x3 : Int32) (d : Dt), f_C_leastFalseBySets_15 x1 x2 x3 d = some (rE, dE) → gG w p l e R s m args below meth c 5 0 0 (gE w below args s dE (some (.int rE))) d [(0, .ref (w_r w 0)), (1, .int x1), (2, .int x2), (3, .int x3)] 15 [] := by
    intro x1 x2 x3 d  h
    refine iter_ind (G := fun s_ : (Int32 × Int32 × Dt) => gG w p l e R s m args below meth c 5 0 0 (gE w below args s dE (some (.int rE))) s_.2.2 [(0, .ref (w_r w 0)), (1, .int x1), (2, .int s_.1), (3, .int s_.2.1)] 15 []) ?_ fu _ h
    clear h
    intro s_ y1 h hl1 hx1
    obtain ⟨x2, x3, d⟩ := s_
    show gG w p l e R s m args below meth c 5 0 0 (gE w below args s dE (some (.int rE))) d [(0, .ref (w_r w 0)), (1, .int x1), (2, .int x2), (3, .int x3)] 15 []
    dsimp only at h
    unfold st_C_leastFalseBySets_15 at h
    refine g_iload_n C dX11_leastFalseBySets_15 3 rfl ?_
    refine g_iconst C dX11_leastFalseBySets_16 (v := 1) rfl ?_
    refine g_iload_n C dX11_leastFalseBySets_17 1 rfl ?_
    refine g_ishl C dX11_leastFalseBySets_18  ?_
    refine g_icmp_ge C dX11_leastFalseBySets_19 (tgt := 77) rfl (fun q => ?_) (fun q => ?_)
    · replace h := it_t q h
      replace h := ir_2 h hx1
      refine g_iload_n C dX11_leastFalseBySets_77 2 rfl ?_
      exact g_iret C hr hlk rfl (congrArg Prod.snd (Option.some.inj h)) (congrArg (fun z => some (Value.int z.1)) (Option.some.inj h)) dX11_leastFalseBySets_78
    · replace h := it_f q h
      refine g_iload_n C dX11_leastFalseBySets_22 3 rfl ?_
      obtain ⟨r4, hc5, h⟩ := ob1_1 h
      refine g_callSi C sk_C_301 hR rfl (m_JI_bitCount C.2.2.2.2.2.2.1 hc5) rfl rfl rfl dX11_leastFalseBySets_23 rfl rfl ?_
      refine g_istore C (lv' := [(4, .int r4), (0, .ref (w_r w 0)), (1, .int x1), (2, .int x2), (3, .int x3)]) dX11_leastFalseBySets_26 (by decide) rfl ?_
      refine g_iload C dX11_leastFalseBySets_28 0 rfl ?_
      refine g_iload_n C dX11_leastFalseBySets_30 3 rfl ?_
      refine g_icmp_ge C dX11_leastFalseBySets_31 (tgt := 71) rfl (fun q => ?_) (fun q => ?_)
      · replace h := it_t q h
        refine g_iinc C (lv' := [(3, .int (x3 + 1)), (4, .int r4), (0, .ref (w_r w 0)), (1, .int x1), (2, .int x2)]) (v := (x3 + 1)) dX11_leastFalseBySets_71 4 rfl rfl (by decide) rfl ?_
        refine g_goto C dX11_leastFalseBySets_74 (tgt := 15) rfl ?_
        refine g_sub [2, 3, 4, 0] (lv' := [(0, .ref (w_r w 0)), (1, .int x1), (2, .int x2), (3, .int (x3 + 1))]) rfl ?_
        exact hl1 (x2, (x3 + 1), d) (Option.some.inj h).symm
      · replace h := it_f q h
        refine g_aload_n C dX11_leastFalseBySets_34 1 rfl ?_
        refine g_get C (.ref (w_r w 281)) 0 q_0 fk_C_36 rfl dX11_leastFalseBySets_35 ?_
        refine g_aload_n C dX11_leastFalseBySets_38 1 rfl ?_
        refine g_get C (.ref (w_r w 2)) 0 q_0 fk_C_10 rfl dX11_leastFalseBySets_39 ?_
        refine g_get C (.ref (w_r w 3)) 2 q_2 fk_C_68 rfl dX11_leastFalseBySets_42 ?_
        refine g_aload_n C dX11_leastFalseBySets_45 1 rfl ?_
        refine g_get C (.ref (w_r w 2)) 0 q_0 fk_C_10 rfl dX11_leastFalseBySets_46 ?_
        refine g_get C (.ref (w_r w 22)) 2 q_2 fk_C_128 rfl dX11_leastFalseBySets_49 ?_
        refine g_iload_n C dX11_leastFalseBySets_52 4 rfl ?_
        refine g_iconst C dX11_leastFalseBySets_53 (v := (-1)) (by decide) ?_
        refine g_ixor C dX11_leastFalseBySets_54  ?_
        obtain ⟨d6, hc7, h⟩ := ob1_1 h
        refine g_callVv C 281 q_281 vk_C_262 hR rfl (m_G_find C.2.2.2.2.2.2.1 hc7) rfl rfl rfl dX11_leastFalseBySets_55 rfl rfl ?_
        refine g_aload_n C dX11_leastFalseBySets_58 1 rfl ?_
        refine g_get C (.ref (w_r w 281)) 0 q_0 fk_C_36 rfl dX11_leastFalseBySets_59 ?_
        obtain ⟨r8, hc9, h⟩ := ob1_1 h
        refine g_callVi C 281 q_281 vk_C_291 hR rfl (m_G_waysToExplain C.2.2.2.2.2.2.1 hc9) rfl rfl rfl dX11_leastFalseBySets_62 rfl rfl ?_
        refine g_if_le C dX11_leastFalseBySets_65 (tgt := 71) rfl (fun q => ?_) (fun q => ?_)
        · replace h := it_t q h
          refine g_iinc C (lv' := [(3, .int (x3 + 1)), (4, .int r4), (0, .ref (w_r w 0)), (1, .int x1), (2, .int x2)]) (v := (x3 + 1)) dX11_leastFalseBySets_71 4 rfl rfl (by decide) rfl ?_
          refine g_goto C dX11_leastFalseBySets_74 (tgt := 15) rfl ?_
          refine g_sub [2, 3, 4, 0] (lv' := [(0, .ref (w_r w 0)), (1, .int x1), (2, .int x2), (3, .int (x3 + 1))]) rfl ?_
          exact hl1 (x2, (x3 + 1), d6) (Option.some.inj h).symm
        · replace h := it_f q h
          refine g_iload C dX11_leastFalseBySets_68 0 rfl ?_
          refine g_istore_n C (lv' := [(2, .int r4), (4, .int r4), (0, .ref (w_r w 0)), (1, .int x1), (3, .int x3)]) dX11_leastFalseBySets_70 (by decide) rfl ?_
          refine g_iinc C (lv' := [(3, .int (x3 + 1)), (2, .int r4), (4, .int r4), (0, .ref (w_r w 0)), (1, .int x1)]) (v := (x3 + 1)) dX11_leastFalseBySets_71 4 rfl rfl (by decide) rfl ?_
          refine g_goto C dX11_leastFalseBySets_74 (tgt := 15) rfl ?_
          refine g_sub [3, 4, 1, 0] (lv' := [(0, .ref (w_r w 0)), (1, .int x1), (2, .int r4), (3, .int (x3 + 1))]) rfl ?_
          exact hl1 (r4, (x3 + 1), d6) (Option.some.inj h).symm
  unfold f_C_leastFalseBySets at h
  refine g_aload_n C dX11_leastFalseBySets_0 0 rfl ?_
  refine g_get C (.ref (w_r w 2)) 0 q_0 fk_C_10 rfl dX11_leastFalseBySets_1 ?_
  refine g_get C (.ref (w_r w 22)) 2 q_2 fk_C_128 rfl dX11_leastFalseBySets_4 ?_
  refine g_get C (.int (d 22 0)) 22 q_22 fk_C_251 rfl dX11_leastFalseBySets_7 ?_
  refine g_istore_n C (lv' := [(1, .int (d 22 0)), (0, .ref (w_r w 0))]) dX11_leastFalseBySets_10 (by decide) rfl ?_
  refine g_iload_n C dX11_leastFalseBySets_11 0 rfl ?_
  refine g_istore_n C (lv' := [(2, .int (d 22 0)), (1, .int (d 22 0)), (0, .ref (w_r w 0))]) dX11_leastFalseBySets_12 (by decide) rfl ?_
  refine g_iconst C dX11_leastFalseBySets_13 (v := 0) rfl ?_
  refine g_istore_n C (lv' := [(3, .int 0), (2, .int (d 22 0)), (1, .int (d 22 0)), (0, .ref (w_r w 0))]) dX11_leastFalseBySets_14 (by decide) rfl ?_
  refine g_sub [3, 2, 1, 0] (lv' := [(0, .ref (w_r w 0)), (1, .int (d 22 0)), (2, .int (d 22 0)), (3, .int 0)]) rfl ?_
  exact R15 (d 22 0) (d 22 0) 0 d h
set_option maxHeartbeats 4000000 in
set_option maxRecDepth 100000 in
theorem m_C_isConsistent {w : wT} {l : Launch} {d : Dt} {rE : Int32} {dE : Dt} (hO : okW w) (h : f_C_isConsistent  d = some (rE, dE)) : gM w l yX11_isConsistent cX11_isConsistent 1 (Option.some Jvm.ClassFile.FieldType.boolean) 4 [.ref (w_r w 0)] d dE (some (.int rE)) := by
  refine gM_of (by decide) [(0, .ref (w_r w 0))] rfl rfl ?_ hO
  intro p e R s m args below meth c C hR hr hlk
  unfold f_C_isConsistent at h
  refine g_aload_n C dX11_isConsistent_0 0 rfl ?_
  obtain ⟨r15, d16, hc17, h⟩ := ob2_1 h
  refine g_callVi C 0 q_0 vk_C_339 hR rfl (m_C_planFee C.2.2.2.2.2.2.1 hc17) rfl rfl rfl dX11_isConsistent_1 rfl rfl ?_
  refine g_aload_n C dX11_isConsistent_4 0 rfl ?_
  obtain ⟨r18, d19, hc20, h⟩ := ob2_1 h
  refine g_callVi C 0 q_0 vk_C_342 hR rfl (m_C_planFeeBySets C.2.2.2.2.2.2.1 hc20) rfl rfl rfl dX11_isConsistent_5 rfl rfl ?_
  refine g_icmp_ne C dX11_isConsistent_8 (tgt := 44) rfl (fun q => ?_) (fun q => ?_)
  · replace h := it_f q h
    refine g_iconst C dX11_isConsistent_44 (v := 0) rfl ?_
    exact g_iret C hr hlk rfl (congrArg Prod.snd (Option.some.inj h)) (congrArg (fun z => some (Value.int z.1)) (Option.some.inj h)) dX11_isConsistent_45
  · replace h := it_t q h
    refine g_aload_n C dX11_isConsistent_11 0 rfl ?_
    obtain ⟨r21, d22, hc23, h⟩ := ob2_1 h
    refine g_callVi C 0 q_0 vk_C_345 hR rfl (m_C_doVerdictsAgree C.2.2.2.2.2.2.1 hc23) rfl rfl rfl dX11_isConsistent_12 rfl rfl ?_
    refine g_if_eq C dX11_isConsistent_15 (tgt := 44) rfl (fun q => ?_) (fun q => ?_)
    · replace h := it_t q h
      refine g_iconst C dX11_isConsistent_44 (v := 0) rfl ?_
      exact g_iret C hr hlk rfl (congrArg Prod.snd (Option.some.inj h)) (congrArg (fun z => some (Value.int z.1)) (Option.some.inj h)) dX11_isConsistent_45
    · replace h := it_f q h
      refine g_aload_n C dX11_isConsistent_18 0 rfl ?_
      obtain ⟨r24, d25, hc26, h⟩ := ob2_1 h
      refine g_callVi C 0 q_0 vk_C_348 hR rfl (m_C_explanations C.2.2.2.2.2.2.1 hc26) rfl rfl rfl dX11_isConsistent_19 rfl rfl ?_
      refine g_aload_n C dX11_isConsistent_22 0 rfl ?_
      obtain ⟨r27, d28, hc29, h⟩ := ob2_1 h
      refine g_callVi C 0 q_0 vk_C_351 hR rfl (m_C_explanationsByTrial C.2.2.2.2.2.2.1 hc29) rfl rfl rfl dX11_isConsistent_23 rfl rfl ?_
      refine g_icmp_ne C dX11_isConsistent_26 (tgt := 44) rfl (fun q => ?_) (fun q => ?_)
      · replace h := it_f q h
        refine g_iconst C dX11_isConsistent_44 (v := 0) rfl ?_
        exact g_iret C hr hlk rfl (congrArg Prod.snd (Option.some.inj h)) (congrArg (fun z => some (Value.int z.1)) (Option.some.inj h)) dX11_isConsistent_45
      · replace h := it_t q h
        refine g_aload_n C dX11_isConsistent_29 0 rfl ?_
        obtain ⟨r30, d31, hc32, h⟩ := ob2_1 h
        refine g_callVi C 0 q_0 vk_C_354 hR rfl (m_C_leastFalse C.2.2.2.2.2.2.1 hc32) rfl rfl rfl dX11_isConsistent_30 rfl rfl ?_
        refine g_aload_n C dX11_isConsistent_33 0 rfl ?_
        obtain ⟨r33, d34, hc35, h⟩ := ob2_1 h
        refine g_callVi C 0 q_0 vk_C_357 hR rfl (m_C_leastFalseBySets C.2.2.2.2.2.2.1 hc35) rfl rfl rfl dX11_isConsistent_34 rfl rfl ?_
        refine g_icmp_ne C dX11_isConsistent_37 (tgt := 44) rfl (fun q => ?_) (fun q => ?_)
        · replace h := it_f q h
          refine g_iconst C dX11_isConsistent_44 (v := 0) rfl ?_
          exact g_iret C hr hlk rfl (congrArg Prod.snd (Option.some.inj h)) (congrArg (fun z => some (Value.int z.1)) (Option.some.inj h)) dX11_isConsistent_45
        · replace h := it_t q h
          refine g_iconst C dX11_isConsistent_40 (v := 1) rfl ?_
          refine g_goto C dX11_isConsistent_41 (tgt := 45) rfl ?_
          exact g_iret C hr hlk rfl (congrArg Prod.snd (Option.some.inj h)) (congrArg (fun z => some (Value.int z.1)) (Option.some.inj h)) dX11_isConsistent_45
set_option maxHeartbeats 4000000 in
set_option maxRecDepth 100000 in
theorem m_C_isContradictory {w : wT} {l : Launch} {x1 : Int32} {d : Dt} {zE : ((Int32 × Dt) ⊕ (Nat × Dt))} (hO : okW w) (hl9 : l.stackTraces = false) (h : f_C_isContradictory x1 d = some zE) : gMX w l yX11_isContradictory cX11_isContradictory 2 (Option.some Jvm.ClassFile.FieldType.boolean) 7 1 6 [.ref (w_r w 0), .int x1] d (oW zE) := by
  refine gMX_of (by decide) [(0, .ref (w_r w 0)), (1, .int x1)] rfl rfl ?_ hO
  intro p e R s m args below meth c C hR hr hlk hx
  unfold f_C_isContradictory at h
  refine g_aload_n C dX11_isContradictory_0 0 rfl ?_
  refine g_iload_n C dX11_isContradictory_1 1 rfl ?_
  obtain ⟨z6, hc5, h⟩ := ocU_1 h
  refine g_callVU C 1 6 0 q_0 vk_C_93 hR rfl (m_C_checkLantern C.2.2.2.2.2.2.1 hl9 hc5) rfl rfl rfl dX11_isContradictory_2 rfl rfl rfl rfl (fun e8 => ?_) (fun et3 e8 => ?_)
  · subst e8
    replace h := ocU_i h
    refine g_aload_n C dX11_isContradictory_5 0 rfl ?_
    refine g_get C (.ref (w_r w 281)) 0 q_0 fk_C_36 rfl dX11_isContradictory_6 ?_
    refine g_aload_n C dX11_isContradictory_9 0 rfl ?_
    refine g_get C (.ref (w_r w 2)) 0 q_0 fk_C_10 rfl dX11_isContradictory_10 ?_
    refine g_get C (.ref (w_r w 3)) 2 q_2 fk_C_68 rfl dX11_isContradictory_13 ?_
    refine g_aload_n C dX11_isContradictory_16 0 rfl ?_
    refine g_get C (.ref (w_r w 2)) 0 q_0 fk_C_10 rfl dX11_isContradictory_17 ?_
    refine g_get C (.ref (w_r w 22)) 2 q_2 fk_C_128 rfl dX11_isContradictory_20 ?_
    refine g_iconst C dX11_isContradictory_23 (v := (-1)) (by decide) ?_
    obtain ⟨d9, hc10, h⟩ := ob1_1 h
    refine g_callVv C 281 q_281 vk_C_262 hR rfl (m_G_find C.2.2.2.2.2.2.1 hc10) rfl rfl rfl dX11_isContradictory_24 rfl rfl ?_
    refine g_aload_n C dX11_isContradictory_27 0 rfl ?_
    refine g_get C (.ref (w_r w 281)) 0 q_0 fk_C_36 rfl dX11_isContradictory_28 ?_
    refine g_iload_n C dX11_isContradictory_31 1 rfl ?_
    obtain ⟨r11, hc12, h⟩ := ob1_1 h
    refine g_callVi C 281 q_281 vk_C_269 hR rfl (m_G_isBroken C.2.2.2.2.2.2.1 hc12) rfl rfl rfl dX11_isContradictory_32 rfl rfl ?_
    have hg13 := gd_1 h
    replace h := gd_2 h
    exact g_iretX C hr hlk (nar_n hg13) rfl rfl (oW_i h) dX11_isContradictory_35
  · subst e8
    replace h := ocU_t h
    exact g_prop C hx hlk rfl rfl (oW_t h)
set_option maxHeartbeats 4000000 in
set_option maxRecDepth 100000 in
theorem m_C_isInPlan {w : wT} {l : Launch} {x1 : Int32} {d : Dt} {zE : ((Int32 × Dt) ⊕ (Nat × Dt))} (hO : okW w) (hl9 : l.stackTraces = false) (h : f_C_isInPlan x1 d = some zE) : gMX w l yX11_isInPlan cX11_isInPlan 3 (Option.some Jvm.ClassFile.FieldType.boolean) 7 1 6 [.ref (w_r w 0), .int x1] d (oW zE) := by
  refine gMX_of (by decide) [(0, .ref (w_r w 0)), (1, .int x1)] rfl rfl ?_ hO
  intro p e R s m args below meth c C hR hr hlk hx
  unfold f_C_isInPlan at h
  refine g_aload_n C dX11_isInPlan_0 0 rfl ?_
  refine g_iload_n C dX11_isInPlan_1 1 rfl ?_
  obtain ⟨z8, hc7, h⟩ := ocR_1 h
  refine g_callVR C 1 6 0 q_0 vk_C_119 hR rfl (m_C_checkedBrief C.2.2.2.2.2.2.1 hl9 hc7) rfl rfl rfl dX11_isInPlan_2 rfl rfl rfl rfl (fun r5 e10 => ?_) (fun et5 e10 => ?_)
  · subst e10
    replace h := ocR_i h
    refine g_istore_n C (lv' := [(2, .int r5), (0, .ref (w_r w 0)), (1, .int x1)]) dX11_isInPlan_5 (by decide) rfl ?_
    refine g_aload_n C dX11_isInPlan_6 1 rfl ?_
    refine g_get C (.ref (w_r w 277)) 0 q_0 fk_C_29 rfl dX11_isInPlan_7 ?_
    refine g_aload_n C dX11_isInPlan_10 1 rfl ?_
    refine g_get C (.ref (w_r w 2)) 0 q_0 fk_C_10 rfl dX11_isInPlan_11 ?_
    refine g_get C (.ref (w_r w 16)) 2 q_2 fk_C_108 rfl dX11_isInPlan_14 ?_
    refine g_aload_n C dX11_isInPlan_17 1 rfl ?_
    refine g_get C (.ref (w_r w 2)) 0 q_0 fk_C_10 rfl dX11_isInPlan_18 ?_
    refine g_get C (.int (d 2 0)) 2 q_2 fk_C_180 rfl dX11_isInPlan_21 ?_
    obtain ⟨d11, hc12, h⟩ := ob1_1 h
    refine g_callVv C 277 q_277 vk_C_232 hR rfl (m_P_make C.2.2.2.2.2.2.1 hc12) rfl rfl rfl dX11_isInPlan_24 rfl rfl ?_
    refine g_aload_n C dX11_isInPlan_27 1 rfl ?_
    refine g_get C (.ref (w_r w 277)) 0 q_0 fk_C_29 rfl dX11_isInPlan_28 ?_
    refine g_iload_n C dX11_isInPlan_31 0 rfl ?_
    obtain ⟨r13, hc14, h⟩ := ob1_1 h
    refine g_callVi C 277 q_277 vk_C_236 hR rfl (m_P_placeOf C.2.2.2.2.2.2.1 hc14) rfl rfl rfl dX11_isInPlan_32 rfl rfl ?_
    refine g_iconst C dX11_isInPlan_35 (v := (-1)) (by decide) ?_
    refine g_icmp_eq C dX11_isInPlan_36 (tgt := 43) rfl (fun q => ?_) (fun q => ?_)
    · replace h := it_t q h
      refine g_iconst C dX11_isInPlan_43 (v := 0) rfl ?_
      exact g_iretX C hr hlk rfl rfl rfl (oW_i h) dX11_isInPlan_44
    · replace h := it_f q h
      refine g_iconst C dX11_isInPlan_39 (v := 1) rfl ?_
      refine g_goto C dX11_isInPlan_40 (tgt := 44) rfl ?_
      exact g_iretX C hr hlk rfl rfl rfl (oW_i h) dX11_isInPlan_44
  · subst e10
    replace h := ocR_t h
    exact g_prop C hx hlk rfl rfl (oW_t h)
set_option maxHeartbeats 4000000 in
set_option maxRecDepth 100000 in
theorem m_C_isTogether {w : wT} {l : Launch} {x1 : Int32} {d : Dt} {zE : (Int32 ⊕ Nat)} (hO : okW w) (hl9 : l.stackTraces = false) (h : f_C_isTogether x1 d = some zE) : gMX w l yX11_isTogether cX11_isTogether 2 (Option.some Jvm.ClassFile.FieldType.boolean) 7 1 6 [.ref (w_r w 0), .int x1] d (oR d zE) := by
  refine gMX_of (by decide) [(0, .ref (w_r w 0)), (1, .int x1)] rfl rfl ?_ hO
  intro p e R s m args below meth c C hR hr hlk hx
  unfold f_C_isTogether at h
  refine g_aload_n C dX11_isTogether_0 0 rfl ?_
  refine g_iload_n C dX11_isTogether_1 1 rfl ?_
  obtain ⟨z4, hc3, h⟩ := ocU_1 h
  refine g_callVU C 1 6 0 q_0 vk_C_140 hR rfl (m_C_checkStatement C.2.2.2.2.2.2.1 hl9 hc3) rfl rfl rfl dX11_isTogether_2 rfl rfl rfl rfl (fun e6 => ?_) (fun et1 e6 => ?_)
  · subst e6
    replace h := ocU_i h
    refine g_aload_n C dX11_isTogether_5 0 rfl ?_
    refine g_get C (.ref (w_r w 2)) 0 q_0 fk_C_10 rfl dX11_isTogether_6 ?_
    refine g_get C (.ref (w_r w 22)) 2 q_2 fk_C_128 rfl dX11_isTogether_9 ?_
    refine g_get C (.ref (w_r w 25)) 22 q_22 fk_C_258 rfl dX11_isTogether_12 ?_
    refine g_iload_n C dX11_isTogether_15 1 rfl ?_
    have hg7 := gd_1 h
    replace h := gd_2 h
    refine g_zald C 25 q_25 hg7 _ rfl dX11_isTogether_16 ?_
    have hg8 := gd_1 h
    replace h := gd_2 h
    exact g_iretX C hr hlk (nar_n hg8) rfl rfl (oR_i h) dX11_isTogether_17
  · subst e6
    replace h := ocU_t h
    exact g_prop C hx hlk rfl rfl (oR_t h)
set_option maxHeartbeats 4000000 in
set_option maxRecDepth 100000 in
theorem m_L_comesBefore {w : wT} {l : Launch} {x1 x2 : Int32} {d : Dt} {rE : Int32} (hO : okW w) (h : f_L_comesBefore x1 x2 d = some rE) : gM w l yX5_comesBefore cX5_comesBefore 5 (Option.some Jvm.ClassFile.FieldType.boolean) 1 [.ref (w_r w 3), .int x1, .int x2] d d (some (.int rE)) := by
  refine gM_of (by decide) [(0, .ref (w_r w 3)), (1, .int x1), (2, .int x2)] rfl rfl ?_ hO
  intro p e R s m args below meth c C hR hr hlk
  unfold f_L_comesBefore at h
  refine g_aload_n C dX5_comesBefore_0 0 rfl ?_
  refine g_get C (.ref (w_r w 4)) 3 q_3 fk_L_9 rfl dX5_comesBefore_1 ?_
  refine g_iload_n C dX5_comesBefore_4 1 rfl ?_
  have hg3 := gd_1 h
  replace h := gd_2 h
  refine g_iald C 4 q_4 hg3 _ rfl dX5_comesBefore_5 ?_
  refine g_aload_n C dX5_comesBefore_6 0 rfl ?_
  refine g_get C (.ref (w_r w 4)) 3 q_3 fk_L_9 rfl dX5_comesBefore_7 ?_
  refine g_iload_n C dX5_comesBefore_10 2 rfl ?_
  have hg4 := gd_1 h
  replace h := gd_2 h
  refine g_iald C 4 q_4 hg4 _ rfl dX5_comesBefore_11 ?_
  refine g_icmp_eq C dX5_comesBefore_12 (tgt := 36) rfl (fun q => ?_) (fun q => ?_)
  · replace h := it_t q h
    refine g_aload_n C dX5_comesBefore_36 0 rfl ?_
    refine g_iload_n C dX5_comesBefore_37 1 rfl ?_
    obtain ⟨r5, hc6, h⟩ := ob1_1 h
    refine g_callVi C 3 q_3 vk_L_57 hR rfl (m_L_daysToServe C.2.2.2.2.2.2.1 hc6) rfl rfl rfl dX5_comesBefore_38 rfl rfl ?_
    refine g_istore_n C (lv' := [(3, .int r5), (0, .ref (w_r w 3)), (1, .int x1), (2, .int x2)]) dX5_comesBefore_41 (by decide) rfl ?_
    refine g_aload_n C dX5_comesBefore_42 1 rfl ?_
    refine g_iload_n C dX5_comesBefore_43 3 rfl ?_
    obtain ⟨r7, hc8, h⟩ := ob1_1 h
    refine g_callVi C 3 q_3 vk_L_57 hR rfl (m_L_daysToServe C.2.2.2.2.2.2.1 hc8) rfl rfl rfl dX5_comesBefore_44 rfl rfl ?_
    refine g_istore C (lv' := [(4, .int r7), (3, .int r5), (0, .ref (w_r w 3)), (1, .int x1), (2, .int x2)]) dX5_comesBefore_47 (by decide) rfl ?_
    refine g_iload_n C dX5_comesBefore_49 1 rfl ?_
    refine g_iload C dX5_comesBefore_50 0 rfl ?_
    refine g_icmp_eq C dX5_comesBefore_52 (tgt := 69) rfl (fun q => ?_) (fun q => ?_)
    · replace h := it_t q h
      refine g_iload_n C dX5_comesBefore_69 3 rfl ?_
      refine g_iload_n C dX5_comesBefore_70 4 rfl ?_
      refine g_icmp_ge C dX5_comesBefore_71 (tgt := 78) rfl (fun q => ?_) (fun q => ?_)
      · replace h := it_t q h
        refine g_iconst C dX5_comesBefore_78 (v := 0) rfl ?_
        exact g_iret C hr hlk rfl rfl (congrArg (fun z => some (Value.int z)) (Option.some.inj h)) dX5_comesBefore_79
      · replace h := it_f q h
        refine g_iconst C dX5_comesBefore_74 (v := 1) rfl ?_
        refine g_goto C dX5_comesBefore_75 (tgt := 79) rfl ?_
        exact g_iret C hr hlk rfl rfl (congrArg (fun z => some (Value.int z)) (Option.some.inj h)) dX5_comesBefore_79
    · replace h := it_f q h
      refine g_iload_n C dX5_comesBefore_55 1 rfl ?_
      refine g_iload C dX5_comesBefore_56 0 rfl ?_
      refine g_icmp_le C dX5_comesBefore_58 (tgt := 65) rfl (fun q => ?_) (fun q => ?_)
      · replace h := it_t q h
        refine g_iconst C dX5_comesBefore_65 (v := 0) rfl ?_
        refine g_goto C dX5_comesBefore_66 (tgt := 79) rfl ?_
        exact g_iret C hr hlk rfl rfl (congrArg (fun z => some (Value.int z)) (Option.some.inj h)) dX5_comesBefore_79
      · replace h := it_f q h
        refine g_iconst C dX5_comesBefore_61 (v := 1) rfl ?_
        refine g_goto C dX5_comesBefore_62 (tgt := 79) rfl ?_
        exact g_iret C hr hlk rfl rfl (congrArg (fun z => some (Value.int z)) (Option.some.inj h)) dX5_comesBefore_79
  · replace h := it_f q h
    refine g_aload_n C dX5_comesBefore_15 0 rfl ?_
    refine g_get C (.ref (w_r w 4)) 3 q_3 fk_L_9 rfl dX5_comesBefore_16 ?_
    refine g_iload_n C dX5_comesBefore_19 1 rfl ?_
    have hg9 := gd_1 h
    replace h := gd_2 h
    refine g_iald C 4 q_4 hg9 _ rfl dX5_comesBefore_20 ?_
    refine g_aload_n C dX5_comesBefore_21 0 rfl ?_
    refine g_get C (.ref (w_r w 4)) 3 q_3 fk_L_9 rfl dX5_comesBefore_22 ?_
    refine g_iload_n C dX5_comesBefore_25 2 rfl ?_
    have hg10 := gd_1 h
    replace h := gd_2 h
    refine g_iald C 4 q_4 hg10 _ rfl dX5_comesBefore_26 ?_
    refine g_icmp_ge C dX5_comesBefore_27 (tgt := 34) rfl (fun q => ?_) (fun q => ?_)
    · replace h := it_t q h
      refine g_iconst C dX5_comesBefore_34 (v := 0) rfl ?_
      exact g_iret C hr hlk rfl rfl (congrArg (fun z => some (Value.int z)) (Option.some.inj h)) dX5_comesBefore_35
    · replace h := it_f q h
      refine g_iconst C dX5_comesBefore_30 (v := 1) rfl ?_
      refine g_goto C dX5_comesBefore_31 (tgt := 35) rfl ?_
      exact g_iret C hr hlk rfl rfl (congrArg (fun z => some (Value.int z)) (Option.some.inj h)) dX5_comesBefore_35
set_option maxHeartbeats 4000000 in
set_option maxRecDepth 100000 in
theorem m_L_atRank {w : wT} {l : Launch} {x1 : Int32} {d : Dt} {rE : Int32} (hO : okW w) (h : f_L_atRank x1 d = some rE) : gM w l yX5_atRank cX5_atRank 5 (Option.some Jvm.ClassFile.FieldType.int) 2 [.ref (w_r w 3), .int x1] d d (some (.int rE)) := by
  refine gM_of (by decide) [(0, .ref (w_r w 3)), (1, .int x1)] rfl rfl ?_ hO
  intro p e R s m args below meth c C hR hr hlk
  have R2 : ∀ (x1 : Int32) (x2 : Int32), f_L_atRank_2 x1 x2 d = some rE → gG w p l e R s m args below meth c 5 0 0 (gE w below args s d (some (.int rE))) d [(0, .ref (w_r w 3)), (1, .int x1), (2, .int x2)] 2 [] := by
    intro x1 x2   h
    refine iter_ind (G := fun s_ : (Int32) => gG w p l e R s m args below meth c 5 0 0 (gE w below args s d (some (.int rE))) d [(0, .ref (w_r w 3)), (1, .int x1), (2, .int s_)] 2 []) ?_ fu _ h
    clear h
    intro x2 y1 h hl1 hx1
    show gG w p l e R s m args below meth c 5 0 0 (gE w below args s d (some (.int rE))) d [(0, .ref (w_r w 3)), (1, .int x1), (2, .int x2)] 2 []
    unfold st_L_atRank_2 at h
    have R15 : ∀ (x2 : Int32) (x3 : Int32) (x4 : Int32), f_L_atRank_15 x1 x2 x3 x4 d = some y1 → gG w p l e R s m args below meth c 5 0 0 (gE w below args s d (some (.int rE))) d [(0, .ref (w_r w 3)), (1, .int x1), (2, .int x2), (3, .int x3), (4, .int x4)] 15 [] := by
      intro x2 x3 x4   h
      refine iter_ind (G := fun s_ : (Int32 × Int32) => gG w p l e R s m args below meth c 5 0 0 (gE w below args s d (some (.int rE))) d [(0, .ref (w_r w 3)), (1, .int x1), (2, .int x2), (3, .int s_.1), (4, .int s_.2)] 15 []) ?_ fu _ h
      clear h
      intro s_ y2 h hl2 hx2
      obtain ⟨x3, x4⟩ := s_
      show gG w p l e R s m args below meth c 5 0 0 (gE w below args s d (some (.int rE))) d [(0, .ref (w_r w 3)), (1, .int x1), (2, .int x2), (3, .int x3), (4, .int x4)] 15 []
      dsimp only at h
      unfold st_L_atRank_15 at h
      refine g_iload C dX5_atRank_15 4 rfl ?_
      refine g_aload_n C dX5_atRank_17 0 rfl ?_
      refine g_get C (.int (d 3 0)) 3 q_3 fk_L_26 rfl dX5_atRank_18 ?_
      refine g_icmp_ge C dX5_atRank_21 (tgt := 43) rfl (fun q => ?_) (fun q => ?_)
      · replace h := it_t q h
        replace h := ir_2 h hx2
        refine g_iload_n C dX5_atRank_43 3 rfl ?_
        refine g_iload_n C dX5_atRank_44 1 rfl ?_
        refine g_icmp_ne C dX5_atRank_45 (tgt := 50) rfl (fun q => ?_) (fun q => ?_)
        · replace h := it_f q h
          refine g_iinc C (lv' := [(2, .int (x2 + 1)), (0, .ref (w_r w 3)), (1, .int x1), (3, .int x3), (4, .int x4)]) (v := (x2 + 1)) dX5_atRank_50 2 rfl rfl (by decide) rfl ?_
          refine g_goto C dX5_atRank_53 (tgt := 2) rfl ?_
          refine g_sub [1, 2, 0] (lv' := [(0, .ref (w_r w 3)), (1, .int x1), (2, .int (x2 + 1))]) rfl ?_
          exact hl1 (x2 + 1) (Option.some.inj h).symm
        · replace h := it_t q h
          replace h := ir_2 h hx1
          refine g_iload_n C dX5_atRank_48 2 rfl ?_
          exact g_iret C hr hlk rfl rfl (congrArg (fun z => some (Value.int z)) (Option.some.inj h)) dX5_atRank_49
      · replace h := it_f q h
        refine g_aload_n C dX5_atRank_24 0 rfl ?_
        refine g_iload C dX5_atRank_25 4 rfl ?_
        refine g_iload_n C dX5_atRank_27 2 rfl ?_
        obtain ⟨r2, hc3, h⟩ := ob1_1 h
        refine g_callVi C 3 q_3 vk_L_53 hR rfl (m_L_comesBefore C.2.2.2.2.2.2.1 hc3) rfl rfl rfl dX5_atRank_28 rfl rfl ?_
        refine g_if_eq C dX5_atRank_31 (tgt := 37) rfl (fun q => ?_) (fun q => ?_)
        · replace h := it_t q h
          refine g_iinc C (lv' := [(4, .int (x4 + 1)), (0, .ref (w_r w 3)), (1, .int x1), (2, .int x2), (3, .int x3)]) (v := (x4 + 1)) dX5_atRank_37 4 rfl rfl (by decide) rfl ?_
          refine g_goto C dX5_atRank_40 (tgt := 15) rfl ?_
          refine g_sub [1, 2, 3, 4, 0] (lv' := [(0, .ref (w_r w 3)), (1, .int x1), (2, .int x2), (3, .int x3), (4, .int (x4 + 1))]) rfl ?_
          exact hl2 (x3, (x4 + 1)) (Option.some.inj h).symm
        · replace h := it_f q h
          refine g_iinc C (lv' := [(3, .int (x3 + 1)), (0, .ref (w_r w 3)), (1, .int x1), (2, .int x2), (4, .int x4)]) (v := (x3 + 1)) dX5_atRank_34 3 rfl rfl (by decide) rfl ?_
          refine g_iinc C (lv' := [(4, .int (x4 + 1)), (3, .int (x3 + 1)), (0, .ref (w_r w 3)), (1, .int x1), (2, .int x2)]) (v := (x4 + 1)) dX5_atRank_37 4 rfl rfl (by decide) rfl ?_
          refine g_goto C dX5_atRank_40 (tgt := 15) rfl ?_
          refine g_sub [2, 3, 4, 1, 0] (lv' := [(0, .ref (w_r w 3)), (1, .int x1), (2, .int x2), (3, .int (x3 + 1)), (4, .int (x4 + 1))]) rfl ?_
          exact hl2 ((x3 + 1), (x4 + 1)) (Option.some.inj h).symm
    refine g_iload_n C dX5_atRank_2 2 rfl ?_
    refine g_aload_n C dX5_atRank_3 0 rfl ?_
    refine g_get C (.int (d 3 0)) 3 q_3 fk_L_26 rfl dX5_atRank_4 ?_
    refine g_icmp_ge C dX5_atRank_7 (tgt := 56) rfl (fun q => ?_) (fun q => ?_)
    · replace h := it_t q h
      replace h := ir_2 h hx1
      refine g_iconst C dX5_atRank_56 (v := (-1)) (by decide) ?_
      exact g_iret C hr hlk rfl rfl (congrArg (fun z => some (Value.int z)) (Option.some.inj h)) dX5_atRank_57
    · replace h := it_f q h
      refine g_iconst C dX5_atRank_10 (v := 0) rfl ?_
      refine g_istore_n C (lv' := [(3, .int 0), (0, .ref (w_r w 3)), (1, .int x1), (2, .int x2)]) dX5_atRank_11 (by decide) rfl ?_
      refine g_iconst C dX5_atRank_12 (v := 0) rfl ?_
      refine g_istore C (lv' := [(4, .int 0), (3, .int 0), (0, .ref (w_r w 3)), (1, .int x1), (2, .int x2)]) dX5_atRank_13 (by decide) rfl ?_
      refine g_sub [2, 3, 4, 1, 0] (lv' := [(0, .ref (w_r w 3)), (1, .int x1), (2, .int x2), (3, .int 0), (4, .int 0)]) rfl ?_
      exact R15 x2 0 0 h
  unfold f_L_atRank at h
  refine g_iconst C dX5_atRank_0 (v := 0) rfl ?_
  refine g_istore_n C (lv' := [(2, .int 0), (0, .ref (w_r w 3)), (1, .int x1)]) dX5_atRank_1 (by decide) rfl ?_
  refine g_sub [1, 2, 0] (lv' := [(0, .ref (w_r w 3)), (1, .int x1), (2, .int 0)]) rfl ?_
  exact R2 x1 0 h
set_option maxHeartbeats 4000000 in
set_option maxRecDepth 100000 in
theorem m_C_lanternByBrightness {w : wT} {l : Launch} {x1 : Int32} {d : Dt} {zE : (Int32 ⊕ Nat)} (hO : okW w) (hl9 : l.stackTraces = false) (h : f_C_lanternByBrightness x1 d = some zE) : gMX w l yX11_lanternByBrightness cX11_lanternByBrightness 2 (Option.some Jvm.ClassFile.FieldType.int) 6 1 6 [.ref (w_r w 0), .int x1] d (oR d zE) := by
  refine gMX_of (by decide) [(0, .ref (w_r w 0)), (1, .int x1)] rfl rfl ?_ hO
  intro p e R s m args below meth c C hR hr hlk hx
  unfold f_C_lanternByBrightness at h
  refine g_aload_n C dX11_lanternByBrightness_0 0 rfl ?_
  refine g_get C (.ref (w_r w 2)) 0 q_0 fk_C_10 rfl dX11_lanternByBrightness_1 ?_
  refine g_get C (.ref (w_r w 3)) 2 q_2 fk_C_68 rfl dX11_lanternByBrightness_4 ?_
  refine g_iload_n C dX11_lanternByBrightness_7 1 rfl ?_
  obtain ⟨r3, hc4, h⟩ := ob1_1 h
  refine g_callVi C 3 q_3 vk_C_199 hR rfl (m_L_has C.2.2.2.2.2.2.1 hc4) rfl rfl rfl dX11_lanternByBrightness_8 rfl rfl ?_
  refine g_if_ne C dX11_lanternByBrightness_11 (tgt := 24) rfl (fun q => ?_) (fun q => ?_)
  · replace h := it_f q h
    refine g_aload_n C dX11_lanternByBrightness_24 0 rfl ?_
    refine g_get C (.ref (w_r w 2)) 0 q_0 fk_C_10 rfl dX11_lanternByBrightness_25 ?_
    refine g_get C (.ref (w_r w 3)) 2 q_2 fk_C_68 rfl dX11_lanternByBrightness_28 ?_
    refine g_iload_n C dX11_lanternByBrightness_31 1 rfl ?_
    obtain ⟨r5, hc6, h⟩ := ob1_1 h
    refine g_callVi C 3 q_3 vk_C_204 hR rfl (m_L_atRank C.2.2.2.2.2.2.1 hc6) rfl rfl rfl dX11_lanternByBrightness_32 rfl rfl ?_
    exact g_iretX C hr hlk rfl rfl rfl (oR_i h) dX11_lanternByBrightness_35
  · replace h := it_t q h
    exact g_throwSy C hl9 th_C_160_164 (i := 16) (by decide) (by decide +kernel) (by decide +kernel) hx hlk hR rfl dX11_lanternByBrightness_14 dX11_lanternByBrightness_17 dX11_lanternByBrightness_18 dX11_lanternByBrightness_20 dX11_lanternByBrightness_23 rfl rfl rfl rfl rfl (oR_t h)
set_option maxHeartbeats 4000000 in
set_option maxRecDepth 100000 in
theorem m_C_lanternCount {w : wT} {l : Launch} {d : Dt} {rE : Int32} (hO : okW w) (h : f_C_lanternCount  d = some rE) : gM w l yX11_lanternCount cX11_lanternCount 1 (Option.some Jvm.ClassFile.FieldType.int) 0 [.ref (w_r w 0)] d d (some (.int rE)) := by
  refine gM_of (by decide) [(0, .ref (w_r w 0))] rfl rfl ?_ hO
  intro p e R s m args below meth c C hR hr hlk
  unfold f_C_lanternCount at h
  refine g_aload_n C dX11_lanternCount_0 0 rfl ?_
  refine g_get C (.ref (w_r w 2)) 0 q_0 fk_C_10 rfl dX11_lanternCount_1 ?_
  refine g_get C (.ref (w_r w 3)) 2 q_2 fk_C_68 rfl dX11_lanternCount_4 ?_
  refine g_get C (.int (d 3 0)) 3 q_3 fk_C_183 rfl dX11_lanternCount_7 ?_
  exact g_iret C hr hlk rfl rfl (congrArg (fun z => some (Value.int z)) (Option.some.inj h)) dX11_lanternCount_10
set_option maxHeartbeats 4000000 in
set_option maxRecDepth 100000 in
theorem m_C_lanternOf {w : wT} {l : Launch} {x1 : Int32} {d : Dt} {zE : (Int32 ⊕ Nat)} (hO : okW w) (hl9 : l.stackTraces = false) (h : f_C_lanternOf x1 d = some zE) : gMX w l yX11_lanternOf cX11_lanternOf 2 (Option.some Jvm.ClassFile.FieldType.int) 7 1 6 [.ref (w_r w 0), .int x1] d (oR d zE) := by
  refine gMX_of (by decide) [(0, .ref (w_r w 0)), (1, .int x1)] rfl rfl ?_ hO
  intro p e R s m args below meth c C hR hr hlk hx
  unfold f_C_lanternOf at h
  refine g_aload_n C dX11_lanternOf_0 0 rfl ?_
  refine g_get C (.ref (w_r w 2)) 0 q_0 fk_C_10 rfl dX11_lanternOf_1 ?_
  refine g_get C (.ref (w_r w 16)) 2 q_2 fk_C_108 rfl dX11_lanternOf_4 ?_
  refine g_get C (.ref (w_r w 18)) 16 q_16 fk_C_221 rfl dX11_lanternOf_7 ?_
  refine g_aload_n C dX11_lanternOf_10 0 rfl ?_
  refine g_iload_n C dX11_lanternOf_11 1 rfl ?_
  obtain ⟨z6, hc5, h⟩ := ocR_1 h
  refine g_callVR C 1 6 0 q_0 vk_C_119 hR rfl (m_C_checkedBrief C.2.2.2.2.2.2.1 hl9 hc5) rfl rfl rfl dX11_lanternOf_12 rfl rfl rfl rfl (fun r3 e8 => ?_) (fun et3 e8 => ?_)
  · subst e8
    replace h := ocR_i h
    have hg9 := gd_1 h
    replace h := gd_2 h
    refine g_iald C 18 q_18 hg9 _ rfl dX11_lanternOf_15 ?_
    exact g_iretX C hr hlk rfl rfl rfl (oR_i h) dX11_lanternOf_16
  · subst e8
    replace h := ocR_t h
    exact g_prop C hx hlk rfl rfl (oR_t h)
set_option maxHeartbeats 4000000 in
set_option maxRecDepth 100000 in
theorem m_C_lapsedCount {w : wT} {l : Launch} {d : Dt} {rE : Int32} (hO : okW w) (h : f_C_lapsedCount  d = some rE) : gM w l yX11_lapsedCount cX11_lapsedCount 1 (Option.some Jvm.ClassFile.FieldType.int) 0 [.ref (w_r w 0)] d d (some (.int rE)) := by
  refine gM_of (by decide) [(0, .ref (w_r w 0))] rfl rfl ?_ hO
  intro p e R s m args below meth c C hR hr hlk
  unfold f_C_lapsedCount at h
  refine g_aload_n C dX11_lapsedCount_0 0 rfl ?_
  refine g_get C (.ref (w_r w 2)) 0 q_0 fk_C_10 rfl dX11_lapsedCount_1 ?_
  refine g_get C (.int (d 2 7)) 2 q_2 fk_C_324 rfl dX11_lapsedCount_4 ?_
  exact g_iret C hr hlk rfl rfl (congrArg (fun z => some (Value.int z)) (Option.some.inj h)) dX11_lapsedCount_7
set_option maxHeartbeats 4000000 in
set_option maxRecDepth 100000 in
theorem m_C_lastDay {w : wT} {l : Launch} {x1 : Int32} {d : Dt} {zE : (Int32 ⊕ Nat)} (hO : okW w) (hl9 : l.stackTraces = false) (h : f_C_lastDay x1 d = some zE) : gMX w l yX11_lastDay cX11_lastDay 2 (Option.some Jvm.ClassFile.FieldType.int) 7 1 6 [.ref (w_r w 0), .int x1] d (oR d zE) := by
  refine gMX_of (by decide) [(0, .ref (w_r w 0)), (1, .int x1)] rfl rfl ?_ hO
  intro p e R s m args below meth c C hR hr hlk hx
  unfold f_C_lastDay at h
  refine g_aload_n C dX11_lastDay_0 0 rfl ?_
  refine g_get C (.ref (w_r w 2)) 0 q_0 fk_C_10 rfl dX11_lastDay_1 ?_
  refine g_get C (.ref (w_r w 16)) 2 q_2 fk_C_108 rfl dX11_lastDay_4 ?_
  refine g_get C (.ref (w_r w 19)) 16 q_16 fk_C_223 rfl dX11_lastDay_7 ?_
  refine g_aload_n C dX11_lastDay_10 0 rfl ?_
  refine g_iload_n C dX11_lastDay_11 1 rfl ?_
  obtain ⟨z6, hc5, h⟩ := ocR_1 h
  refine g_callVR C 1 6 0 q_0 vk_C_119 hR rfl (m_C_checkedBrief C.2.2.2.2.2.2.1 hl9 hc5) rfl rfl rfl dX11_lastDay_12 rfl rfl rfl rfl (fun r3 e8 => ?_) (fun et3 e8 => ?_)
  · subst e8
    replace h := ocR_i h
    have hg9 := gd_1 h
    replace h := gd_2 h
    refine g_iald C 19 q_19 hg9 _ rfl dX11_lastDay_15 ?_
    exact g_iretX C hr hlk rfl rfl rfl (oR_i h) dX11_lastDay_16
  · subst e8
    replace h := ocR_t h
    exact g_prop C hx hlk rfl rfl (oR_t h)
set_option maxHeartbeats 4000000 in
set_option maxRecDepth 100000 in
theorem m_C_makeStatement {w : wT} {l : Launch} {x1 x2 x3 : Int32} {d : Dt} {zE : ((Int32 × Dt) ⊕ (Nat × Dt))} (hO : okW w) (hl9 : l.stackTraces = false) (h : f_C_makeStatement x1 x2 x3 d = some zE) : gMX w l yX11_makeStatement cX11_makeStatement 4 (Option.some Jvm.ClassFile.FieldType.int) 7 3 18 [.ref (w_r w 0), .int x1, .int x2, .int x3] d (oW zE) := by
  refine gMX_of (by decide) [(0, .ref (w_r w 0)), (1, .int x1), (2, .int x2), (3, .int x3)] rfl rfl ?_ hO
  intro p e R s m args below meth c C hR hr hlk hx
  unfold f_C_makeStatement at h
  refine g_aload_n C dX11_makeStatement_0 0 rfl ?_
  refine g_iload_n C dX11_makeStatement_1 1 rfl ?_
  obtain ⟨z9, hc8, h⟩ := ocU_1 h
  refine g_callVU C 1 6 0 q_0 vk_C_93 hR rfl (m_C_checkLantern C.2.2.2.2.2.2.1 hl9 hc8) rfl rfl rfl dX11_makeStatement_2 rfl rfl rfl rfl (fun e11 => ?_) (fun et6 e11 => ?_)
  · subst e11
    replace h := ocU_i h
    refine g_aload_n C dX11_makeStatement_5 0 rfl ?_
    refine g_iload_n C dX11_makeStatement_6 2 rfl ?_
    obtain ⟨z14, hc13, h⟩ := ocU_1 h
    refine g_callVU C 2 12 0 q_0 vk_C_93 hR rfl (m_C_checkLantern C.2.2.2.2.2.2.1 hl9 hc13) rfl rfl rfl dX11_makeStatement_7 rfl rfl rfl rfl (fun e16 => ?_) (fun et11 e16 => ?_)
    · subst e16
      replace h := ocU_i h
      refine g_iload_n C dX11_makeStatement_10 1 rfl ?_
      refine g_iload_n C dX11_makeStatement_11 2 rfl ?_
      refine g_icmp_ne C dX11_makeStatement_12 (tgt := 25) rfl (fun q => ?_) (fun q => ?_)
      · replace h := it_f q h
        refine g_aload_n C dX11_makeStatement_25 0 rfl ?_
        refine g_get C (.ref (w_r w 2)) 0 q_0 fk_C_10 rfl dX11_makeStatement_26 ?_
        refine g_get C (.ref (w_r w 22)) 2 q_2 fk_C_128 rfl dX11_makeStatement_29 ?_
        obtain ⟨r17, hc18, h⟩ := ob1_1 h
        refine g_callVi C 22 q_22 vk_C_132 hR rfl (m_T_isFull C.2.2.2.2.2.2.1 hc18) rfl rfl rfl dX11_makeStatement_32 rfl rfl ?_
        refine g_if_eq C dX11_makeStatement_35 (tgt := 48) rfl (fun q => ?_) (fun q => ?_)
        · replace h := it_t q h
          refine g_aload_n C dX11_makeStatement_48 0 rfl ?_
          refine g_aload_n C dX11_makeStatement_49 0 rfl ?_
          refine g_get C (.ref (w_r w 2)) 0 q_0 fk_C_10 rfl dX11_makeStatement_50 ?_
          obtain ⟨d19, hc20, h⟩ := ob1_1 h
          refine g_callVv C 0 q_0 vk_C_85 hR rfl (m_C_remember C.2.2.2.2.2.2.1 hc20) rfl rfl rfl dX11_makeStatement_53 rfl rfl ?_
          refine g_aload_n C dX11_makeStatement_56 0 rfl ?_
          refine g_get C (.ref (w_r w 2)) 0 q_0 fk_C_10 rfl dX11_makeStatement_57 ?_
          refine g_get C (.ref (w_r w 22)) 2 q_2 fk_C_128 rfl dX11_makeStatement_60 ?_
          refine g_iload_n C dX11_makeStatement_63 1 rfl ?_
          refine g_iload_n C dX11_makeStatement_64 2 rfl ?_
          refine g_iload_n C dX11_makeStatement_65 3 rfl ?_
          obtain ⟨r21, d22, hc23, h⟩ := ob2_1 h
          refine g_callVi C 22 q_22 vk_C_137 hR rfl (m_T_add C.2.2.2.2.2.2.1 hc23) rfl rfl rfl dX11_makeStatement_66 rfl rfl ?_
          exact g_iretX C hr hlk rfl rfl rfl (oW_i h) dX11_makeStatement_69
        · replace h := it_f q h
          exact g_throwS C hl9 th_C_78_82 (i := 6) (by decide) (by decide +kernel) (by decide +kernel) hx hlk hR rfl dX11_makeStatement_38 dX11_makeStatement_41 dX11_makeStatement_42 dX11_makeStatement_44 dX11_makeStatement_47 rfl rfl rfl rfl rfl (oW_t h)
      · replace h := it_t q h
        exact g_throwS C hl9 th_C_103_107 (i := 5) (by decide) (by decide +kernel) (by decide +kernel) hx hlk hR rfl dX11_makeStatement_15 dX11_makeStatement_18 dX11_makeStatement_19 dX11_makeStatement_21 dX11_makeStatement_24 rfl rfl rfl rfl rfl (oW_t h)
    · subst e16
      replace h := ocU_t h
      exact g_prop C hx hlk rfl rfl (oW_t h)
  · subst e11
    replace h := ocU_t h
    exact g_prop C hx hlk rfl rfl (oW_t h)
set_option maxHeartbeats 4000000 in
set_option maxRecDepth 100000 in
theorem m_L_brightnessSum {w : wT} {l : Launch} {d : Dt} {rE : Int32} (hO : okW w) (h : f_L_brightnessSum  d = some rE) : gM w l yX5_brightnessSum cX5_brightnessSum 3 (Option.some Jvm.ClassFile.FieldType.int) 0 [.ref (w_r w 3)] d d (some (.int rE)) := by
  refine gM_of (by decide) [(0, .ref (w_r w 3))] rfl rfl ?_ hO
  intro p e R s m args below meth c C hR hr hlk
  have R4 : ∀ (x1 : Int32) (x2 : Int32), f_L_brightnessSum_4 x1 x2 d = some rE → gG w p l e R s m args below meth c 3 0 0 (gE w below args s d (some (.int rE))) d [(0, .ref (w_r w 3)), (1, .int x1), (2, .int x2)] 4 [] := by
    intro x1 x2   h
    refine iter_ind (G := fun s_ : (Int32 × Int32) => gG w p l e R s m args below meth c 3 0 0 (gE w below args s d (some (.int rE))) d [(0, .ref (w_r w 3)), (1, .int s_.1), (2, .int s_.2)] 4 []) ?_ fu _ h
    clear h
    intro s_ y1 h hl1 hx1
    obtain ⟨x1, x2⟩ := s_
    show gG w p l e R s m args below meth c 3 0 0 (gE w below args s d (some (.int rE))) d [(0, .ref (w_r w 3)), (1, .int x1), (2, .int x2)] 4 []
    dsimp only at h
    unfold st_L_brightnessSum_4 at h
    refine g_iload_n C dX5_brightnessSum_4 2 rfl ?_
    refine g_aload_n C dX5_brightnessSum_5 0 rfl ?_
    refine g_get C (.int (d 3 0)) 3 q_3 fk_L_26 rfl dX5_brightnessSum_6 ?_
    refine g_icmp_ge C dX5_brightnessSum_9 (tgt := 27) rfl (fun q => ?_) (fun q => ?_)
    · replace h := it_t q h
      replace h := ir_2 h hx1
      refine g_iload_n C dX5_brightnessSum_27 1 rfl ?_
      exact g_iret C hr hlk rfl rfl (congrArg (fun z => some (Value.int z)) (Option.some.inj h)) dX5_brightnessSum_28
    · replace h := it_f q h
      refine g_iload_n C dX5_brightnessSum_12 1 rfl ?_
      refine g_aload_n C dX5_brightnessSum_13 0 rfl ?_
      refine g_get C (.ref (w_r w 4)) 3 q_3 fk_L_9 rfl dX5_brightnessSum_14 ?_
      refine g_iload_n C dX5_brightnessSum_17 2 rfl ?_
      have hg1 := gd_1 h
      replace h := gd_2 h
      refine g_iald C 4 q_4 hg1 _ rfl dX5_brightnessSum_18 ?_
      refine g_iadd C dX5_brightnessSum_19  ?_
      refine g_istore_n C (lv' := [(1, .int (x1 + (d 4 x2.toNatClampNeg))), (0, .ref (w_r w 3)), (2, .int x2)]) dX5_brightnessSum_20 (by decide) rfl ?_
      refine g_iinc C (lv' := [(2, .int (x2 + 1)), (1, .int (x1 + (d 4 x2.toNatClampNeg))), (0, .ref (w_r w 3))]) (v := (x2 + 1)) dX5_brightnessSum_21 2 rfl rfl (by decide) rfl ?_
      refine g_goto C dX5_brightnessSum_24 (tgt := 4) rfl ?_
      refine g_sub [2, 1, 0] (lv' := [(0, .ref (w_r w 3)), (1, .int (x1 + (d 4 x2.toNatClampNeg))), (2, .int (x2 + 1))]) rfl ?_
      exact hl1 ((x1 + (d 4 x2.toNatClampNeg)), (x2 + 1)) (Option.some.inj h).symm
  unfold f_L_brightnessSum at h
  refine g_iconst C dX5_brightnessSum_0 (v := 0) rfl ?_
  refine g_istore_n C (lv' := [(1, .int 0), (0, .ref (w_r w 3))]) dX5_brightnessSum_1 (by decide) rfl ?_
  refine g_iconst C dX5_brightnessSum_2 (v := 0) rfl ?_
  refine g_istore_n C (lv' := [(2, .int 0), (1, .int 0), (0, .ref (w_r w 3))]) dX5_brightnessSum_3 (by decide) rfl ?_
  refine g_sub [2, 1, 0] (lv' := [(0, .ref (w_r w 3)), (1, .int 0), (2, .int 0)]) rfl ?_
  exact R4 0 0 h
set_option maxHeartbeats 4000000 in
set_option maxRecDepth 100000 in
theorem m_C_meanBrightness {w : wT} {l : Launch} {d : Dt} {zE : (UInt64 ⊕ Nat)} (hO : okW w) (hl9 : l.stackTraces = false) (h : f_C_meanBrightness  d = some zE) : gMX w l yX11_meanBrightness cX11_meanBrightness 1 (Option.some Jvm.ClassFile.FieldType.double) 6 1 6 [.ref (w_r w 0)] d (oRD d zE) := by
  refine gMX_of (by decide) [(0, .ref (w_r w 0))] rfl rfl ?_ hO
  intro p e R s m args below meth c C hR hr hlk hx
  unfold f_C_meanBrightness at h
  refine g_aload_n C dX11_meanBrightness_0 0 rfl ?_
  refine g_get C (.ref (w_r w 2)) 0 q_0 fk_C_10 rfl dX11_meanBrightness_1 ?_
  refine g_get C (.ref (w_r w 3)) 2 q_2 fk_C_68 rfl dX11_meanBrightness_4 ?_
  refine g_get C (.int (d 3 0)) 3 q_3 fk_C_183 rfl dX11_meanBrightness_7 ?_
  refine g_if_ne C dX11_meanBrightness_10 (tgt := 23) rfl (fun q => ?_) (fun q => ?_)
  · replace h := it_f q h
    refine g_aload_n C dX11_meanBrightness_23 0 rfl ?_
    refine g_get C (.ref (w_r w 2)) 0 q_0 fk_C_10 rfl dX11_meanBrightness_24 ?_
    refine g_get C (.ref (w_r w 3)) 2 q_2 fk_C_68 rfl dX11_meanBrightness_27 ?_
    obtain ⟨r2, hc3, h⟩ := ob1_1 h
    refine g_callVi C 3 q_3 vk_C_212 hR rfl (m_L_brightnessSum C.2.2.2.2.2.2.1 hc3) rfl rfl rfl dX11_meanBrightness_30 rfl rfl ?_
    refine g_i2d C dX11_meanBrightness_33  ?_
    refine g_aload_n C dX11_meanBrightness_34 0 rfl ?_
    refine g_get C (.ref (w_r w 2)) 0 q_0 fk_C_10 rfl dX11_meanBrightness_35 ?_
    refine g_get C (.ref (w_r w 3)) 2 q_2 fk_C_68 rfl dX11_meanBrightness_38 ?_
    refine g_get C (.int (d 3 0)) 3 q_3 fk_C_183 rfl dX11_meanBrightness_41 ?_
    refine g_i2d C dX11_meanBrightness_44  ?_
    have hg4 := gd_1 h
    replace h := gd_2 h
    refine g_ddiv C dX11_meanBrightness_45 (vn64_1 hg4) ?_
    exact g_dretX C hr hlk rfl rfl (oRD_i h) dX11_meanBrightness_46
  · replace h := it_t q h
    exact g_throwS C hl9 th_C_207_211 (i := 19) (by decide) (by decide +kernel) (by decide +kernel) hx hlk hR rfl dX11_meanBrightness_13 dX11_meanBrightness_16 dX11_meanBrightness_17 dX11_meanBrightness_19 dX11_meanBrightness_22 rfl rfl rfl rfl rfl (oRD_t h)
set_option maxHeartbeats 4000000 in
set_option maxRecDepth 100000 in
theorem m_C_outputChar {w : wT} {l : Launch} {x1 : Int32} {d : Dt} {zE : (Int32 ⊕ Nat)} (hO : okW w) (hl9 : l.stackTraces = false) (h : f_C_outputChar x1 d = some zE) : gMX w l yX11_outputChar cX11_outputChar 2 (Option.some Jvm.ClassFile.FieldType.char) 6 1 6 [.ref (w_r w 0), .int x1] d (oR d zE) := by
  refine gMX_of (by decide) [(0, .ref (w_r w 0)), (1, .int x1)] rfl rfl ?_ hO
  intro p e R s m args below meth c C hR hr hlk hx
  have R15 : f_C_outputChar_15   d = some zE → gG w p l e R s m args below meth c 2 0 0 (gEX w below args s 1 6 (oR d zE)) d [] 15 [] := by
    intro     h
    unfold f_C_outputChar_15 at h
    exact g_throwSW C hl9 th_C_405_409 (i := 26) (by decide) (by decide +kernel) (by decide +kernel) hx hlk hR rfl dX11_outputChar_15 dX11_outputChar_18 dX11_outputChar_19 dX11_outputChar_22 dX11_outputChar_25 rfl rfl rfl rfl rfl (oR_t h)
  unfold f_C_outputChar at h
  refine g_iload_n C dX11_outputChar_0 1 rfl ?_
  refine g_if_lt C dX11_outputChar_1 (tgt := 15) rfl (fun q => ?_) (fun q => ?_)
  · replace h := it_t q h
    refine g_sub [] (lv' := []) rfl ?_
    exact R15  h
  · replace h := it_f q h
    refine g_iload_n C dX11_outputChar_4 1 rfl ?_
    refine g_aload_n C dX11_outputChar_5 0 rfl ?_
    refine g_get C (.ref (w_r w 290)) 0 q_0 fk_C_57 rfl dX11_outputChar_6 ?_
    refine g_get C (.int (d 290 1)) 290 q_290 fk_C_400 rfl dX11_outputChar_9 ?_
    refine g_icmp_lt C dX11_outputChar_12 (tgt := 26) rfl (fun q => ?_) (fun q => ?_)
    · replace h := it_t q h
      refine g_aload_n C dX11_outputChar_26 0 rfl ?_
      refine g_get C (.ref (w_r w 290)) 0 q_0 fk_C_57 rfl dX11_outputChar_27 ?_
      refine g_get C (.ref (w_r w 291)) 290 q_290 fk_C_410 rfl dX11_outputChar_30 ?_
      refine g_iload_n C dX11_outputChar_33 1 rfl ?_
      have hg1 := gd_1 h
      replace h := gd_2 h
      refine g_cald C 291 q_291 hg1 _ rfl dX11_outputChar_34 ?_
      have hg2 := gd_1 h
      replace h := gd_2 h
      exact g_iretX C hr hlk (nar_n hg2) rfl rfl (oR_i h) dX11_outputChar_35
    · replace h := it_f q h
      refine g_sub [] (lv' := []) rfl ?_
      exact R15  h
set_option maxHeartbeats 4000000 in
set_option maxRecDepth 100000 in
theorem m_C_paidBack {w : wT} {l : Launch} {d : Dt} {rE : Int32} (hO : okW w) (h : f_C_paidBack  d = some rE) : gM w l yX11_paidBack cX11_paidBack 1 (Option.some Jvm.ClassFile.FieldType.int) 0 [.ref (w_r w 0)] d d (some (.int rE)) := by
  refine gM_of (by decide) [(0, .ref (w_r w 0))] rfl rfl ?_ hO
  intro p e R s m args below meth c C hR hr hlk
  unfold f_C_paidBack at h
  refine g_aload_n C dX11_paidBack_0 0 rfl ?_
  refine g_get C (.ref (w_r w 2)) 0 q_0 fk_C_10 rfl dX11_paidBack_1 ?_
  refine g_get C (.int (d 2 5)) 2 q_2 fk_C_309 rfl dX11_paidBack_4 ?_
  exact g_iret C hr hlk rfl rfl (congrArg (fun z => some (Value.int z)) (Option.some.inj h)) dX11_paidBack_7
set_option maxHeartbeats 4000000 in
set_option maxRecDepth 100000 in
theorem m_C_pardon {w : wT} {l : Launch} {x1 : Int32} {d : Dt} {zE : ((Int32 × Dt) ⊕ (Nat × Dt))} (hO : okW w) (hl9 : l.stackTraces = false) (h : f_C_pardon x1 d = some zE) : gMX w l yX11_pardon cX11_pardon 2 (Option.some Jvm.ClassFile.FieldType.int) 8 2 12 [.ref (w_r w 0), .int x1] d (oW zE) := by
  refine gMX_of (by decide) [(0, .ref (w_r w 0)), (1, .int x1)] rfl rfl ?_ hO
  intro p e R s m args below meth c C hR hr hlk hx
  unfold f_C_pardon at h
  refine g_aload_n C dX11_pardon_0 0 rfl ?_
  refine g_iload_n C dX11_pardon_1 1 rfl ?_
  obtain ⟨z7, hc6, h⟩ := ocU_1 h
  refine g_callVU C 2 12 0 q_0 vk_C_174 hR rfl (m_C_checkServing C.2.2.2.2.2.2.1 hl9 hc6) rfl rfl rfl dX11_pardon_2 rfl rfl rfl rfl (fun e9 => ?_) (fun et4 e9 => ?_)
  · subst e9
    replace h := ocU_i h
    refine g_aload_n C dX11_pardon_5 0 rfl ?_
    refine g_aload_n C dX11_pardon_6 0 rfl ?_
    refine g_get C (.ref (w_r w 2)) 0 q_0 fk_C_10 rfl dX11_pardon_7 ?_
    obtain ⟨d10, hc11, h⟩ := ob1_1 h
    refine g_callVv C 0 q_0 vk_C_85 hR rfl (m_C_remember C.2.2.2.2.2.2.1 hc11) rfl rfl rfl dX11_pardon_10 rfl rfl ?_
    refine g_aload_n C dX11_pardon_13 0 rfl ?_
    refine g_get C (.ref (w_r w 2)) 0 q_0 fk_C_10 rfl dX11_pardon_14 ?_
    refine g_get C (.ref (w_r w 3)) 2 q_2 fk_C_68 rfl dX11_pardon_17 ?_
    refine g_iload_n C dX11_pardon_20 1 rfl ?_
    obtain ⟨r12, d13, hc14, h⟩ := ob2_1 h
    refine g_callVi C 3 q_3 vk_C_177 hR rfl (m_L_endSentence C.2.2.2.2.2.2.1 hc14) rfl rfl rfl dX11_pardon_21 rfl rfl ?_
    exact g_iretX C hr hlk rfl rfl rfl (oW_i h) dX11_pardon_24
  · subst e9
    replace h := ocU_t h
    exact g_prop C hx hlk rfl rfl (oW_t h)
set_option maxHeartbeats 4000000 in
set_option maxRecDepth 100000 in
theorem m_C_passDays {w : wT} {l : Launch} {x1 : Int32} {d : Dt} {zE : ((Int32 × Dt) ⊕ (Nat × Dt))} (hO : okW w) (hl9 : l.stackTraces = false) (h : f_C_passDays x1 d = some zE) : gMX w l yX11_passDays cX11_passDays 2 (Option.some Jvm.ClassFile.FieldType.int) 7 1 6 [.ref (w_r w 0), .int x1] d (oW zE) := by
  refine gMX_of (by decide) [(0, .ref (w_r w 0)), (1, .int x1)] rfl rfl ?_ hO
  intro p e R s m args below meth c C hR hr hlk hx
  unfold f_C_passDays at h
  refine g_iload_n C dX11_passDays_0 1 rfl ?_
  obtain ⟨r5, hc6, h⟩ := ob1_1 h
  refine g_callSi C sk_C_165 hR rfl (m_C_canPass C.2.2.2.2.2.2.1 hc6) rfl rfl rfl dX11_passDays_1 rfl rfl ?_
  refine g_if_ne C dX11_passDays_4 (tgt := 17) rfl (fun q => ?_) (fun q => ?_)
  · replace h := it_f q h
    refine g_aload_n C dX11_passDays_17 0 rfl ?_
    refine g_aload_n C dX11_passDays_18 0 rfl ?_
    refine g_get C (.ref (w_r w 2)) 0 q_0 fk_C_10 rfl dX11_passDays_19 ?_
    obtain ⟨d7, hc8, h⟩ := ob1_1 h
    refine g_callVv C 0 q_0 vk_C_85 hR rfl (m_C_remember C.2.2.2.2.2.2.1 hc8) rfl rfl rfl dX11_passDays_22 rfl rfl ?_
    refine g_aload_n C dX11_passDays_25 0 rfl ?_
    refine g_iload_n C dX11_passDays_26 1 rfl ?_
    obtain ⟨r9, d10, hc11, h⟩ := ob2_1 h
    refine g_callVi C 0 q_0 vk_C_171 hR rfl (m_C_letPass C.2.2.2.2.2.2.1 hc11) rfl rfl rfl dX11_passDays_27 rfl rfl ?_
    exact g_iretX C hr hlk rfl rfl rfl (oW_i h) dX11_passDays_30
  · replace h := it_t q h
    exact g_throwS C hl9 th_C_103_107 (i := 10) (by decide) (by decide +kernel) (by decide +kernel) hx hlk hR rfl dX11_passDays_7 dX11_passDays_10 dX11_passDays_11 dX11_passDays_13 dX11_passDays_16 rfl rfl rfl rfl rfl (oW_t h)
set_option maxHeartbeats 4000000 in
set_option maxRecDepth 100000 in
theorem m_G_areJoined {w : wT} {l : Launch} {x1 x2 : Int32} {d : Dt} {rE : Int32} (hO : okW w) (h : f_G_areJoined x1 x2 d = some rE) : gM w l yX2_areJoined cX2_areJoined 3 (Option.some Jvm.ClassFile.FieldType.boolean) 0 [.ref (w_r w 281), .int x1, .int x2] d d (some (.int rE)) := by
  refine gM_of (by decide) [(0, .ref (w_r w 281)), (1, .int x1), (2, .int x2)] rfl rfl ?_ hO
  intro p e R s m args below meth c C hR hr hlk
  unfold f_G_areJoined at h
  refine g_aload_n C dX2_areJoined_0 0 rfl ?_
  refine g_get C (.ref (w_r w 282)) 281 q_281 fk_G_9 rfl dX2_areJoined_1 ?_
  refine g_iload_n C dX2_areJoined_4 1 rfl ?_
  have hg1 := gd_1 h
  replace h := gd_2 h
  refine g_iald C 282 q_282 hg1 _ rfl dX2_areJoined_5 ?_
  refine g_aload_n C dX2_areJoined_6 0 rfl ?_
  refine g_get C (.ref (w_r w 282)) 281 q_281 fk_G_9 rfl dX2_areJoined_7 ?_
  refine g_iload_n C dX2_areJoined_10 2 rfl ?_
  have hg2 := gd_1 h
  replace h := gd_2 h
  refine g_iald C 282 q_282 hg2 _ rfl dX2_areJoined_11 ?_
  refine g_icmp_ne C dX2_areJoined_12 (tgt := 19) rfl (fun q => ?_) (fun q => ?_)
  · replace h := it_f q h
    refine g_iconst C dX2_areJoined_19 (v := 0) rfl ?_
    exact g_iret C hr hlk rfl rfl (congrArg (fun z => some (Value.int z)) (Option.some.inj h)) dX2_areJoined_20
  · replace h := it_t q h
    refine g_iconst C dX2_areJoined_15 (v := 1) rfl ?_
    refine g_goto C dX2_areJoined_16 (tgt := 20) rfl ?_
    exact g_iret C hr hlk rfl rfl (congrArg (fun z => some (Value.int z)) (Option.some.inj h)) dX2_areJoined_20
set_option maxHeartbeats 4000000 in
set_option maxRecDepth 100000 in
theorem m_G_hasClash {w : wT} {l : Launch} {x1 : Int32} {d : Dt} {rE : Int32} (hO : okW w) (h : f_G_hasClash x1 d = some rE) : gM w l yX2_hasClash cX2_hasClash 2 (Option.some Jvm.ClassFile.FieldType.boolean) 0 [.ref (w_r w 281), .int x1] d d (some (.int rE)) := by
  refine gM_of (by decide) [(0, .ref (w_r w 281)), (1, .int x1)] rfl rfl ?_ hO
  intro p e R s m args below meth c C hR hr hlk
  unfold f_G_hasClash at h
  refine g_aload_n C dX2_hasClash_0 0 rfl ?_
  refine g_get C (.ref (w_r w 284)) 281 q_281 fk_G_18 rfl dX2_hasClash_1 ?_
  refine g_aload_n C dX2_hasClash_4 0 rfl ?_
  refine g_get C (.ref (w_r w 282)) 281 q_281 fk_G_9 rfl dX2_hasClash_5 ?_
  refine g_iload_n C dX2_hasClash_8 1 rfl ?_
  have hg1 := gd_1 h
  replace h := gd_2 h
  refine g_iald C 282 q_282 hg1 _ rfl dX2_hasClash_9 ?_
  have hg2 := gd_1 h
  replace h := gd_2 h
  refine g_zald C 284 q_284 hg2 _ rfl dX2_hasClash_10 ?_
  have hg3 := gd_1 h
  replace h := gd_2 h
  exact g_iret C hr hlk (nar_n hg3) rfl (congrArg (fun z => some (Value.int z)) (Option.some.inj h)) dX2_hasClash_11
set_option maxHeartbeats 4000000 in
set_option maxRecDepth 100000 in
theorem m_G_areOnOneSide {w : wT} {l : Launch} {x1 x2 : Int32} {d : Dt} {rE : Int32} (hO : okW w) (h : f_G_areOnOneSide x1 x2 d = some rE) : gM w l yX2_areOnOneSide cX2_areOnOneSide 3 (Option.some Jvm.ClassFile.FieldType.boolean) 0 [.ref (w_r w 281), .int x1, .int x2] d d (some (.int rE)) := by
  refine gM_of (by decide) [(0, .ref (w_r w 281)), (1, .int x1), (2, .int x2)] rfl rfl ?_ hO
  intro p e R s m args below meth c C hR hr hlk
  unfold f_G_areOnOneSide at h
  refine g_aload_n C dX2_areOnOneSide_0 0 rfl ?_
  refine g_get C (.ref (w_r w 283)) 281 q_281 fk_G_15 rfl dX2_areOnOneSide_1 ?_
  refine g_iload_n C dX2_areOnOneSide_4 1 rfl ?_
  have hg1 := gd_1 h
  replace h := gd_2 h
  refine g_iald C 283 q_283 hg1 _ rfl dX2_areOnOneSide_5 ?_
  refine g_aload_n C dX2_areOnOneSide_6 0 rfl ?_
  refine g_get C (.ref (w_r w 283)) 281 q_281 fk_G_15 rfl dX2_areOnOneSide_7 ?_
  refine g_iload_n C dX2_areOnOneSide_10 2 rfl ?_
  have hg2 := gd_1 h
  replace h := gd_2 h
  refine g_iald C 283 q_283 hg2 _ rfl dX2_areOnOneSide_11 ?_
  refine g_icmp_ne C dX2_areOnOneSide_12 (tgt := 19) rfl (fun q => ?_) (fun q => ?_)
  · replace h := it_f q h
    refine g_iconst C dX2_areOnOneSide_19 (v := 0) rfl ?_
    exact g_iret C hr hlk rfl rfl (congrArg (fun z => some (Value.int z)) (Option.some.inj h)) dX2_areOnOneSide_20
  · replace h := it_t q h
    refine g_iconst C dX2_areOnOneSide_15 (v := 1) rfl ?_
    refine g_goto C dX2_areOnOneSide_16 (tgt := 20) rfl ?_
    exact g_iret C hr hlk rfl rfl (congrArg (fun z => some (Value.int z)) (Option.some.inj h)) dX2_areOnOneSide_20
set_option maxHeartbeats 4000000 in
set_option maxRecDepth 100000 in
theorem m_C_relation {w : wT} {l : Launch} {x1 x2 : Int32} {d : Dt} {zE : ((Int32 × Dt) ⊕ (Nat × Dt))} (hO : okW w) (hl9 : l.stackTraces = false) (h : f_C_relation x1 x2 d = some zE) : gMX w l yX11_relation cX11_relation 3 (Option.some Jvm.ClassFile.FieldType.char) 7 3 18 [.ref (w_r w 0), .int x1, .int x2] d (oW zE) := by
  refine gMX_of (by decide) [(0, .ref (w_r w 0)), (1, .int x1), (2, .int x2)] rfl rfl ?_ hO
  intro p e R s m args below meth c C hR hr hlk hx
  unfold f_C_relation at h
  refine g_aload_n C dX11_relation_0 0 rfl ?_
  refine g_iload_n C dX11_relation_1 1 rfl ?_
  obtain ⟨z9, hc8, h⟩ := ocU_1 h
  refine g_callVU C 1 6 0 q_0 vk_C_93 hR rfl (m_C_checkLantern C.2.2.2.2.2.2.1 hl9 hc8) rfl rfl rfl dX11_relation_2 rfl rfl rfl rfl (fun e11 => ?_) (fun et6 e11 => ?_)
  · subst e11
    replace h := ocU_i h
    refine g_aload_n C dX11_relation_5 0 rfl ?_
    refine g_iload_n C dX11_relation_6 2 rfl ?_
    obtain ⟨z14, hc13, h⟩ := ocU_1 h
    refine g_callVU C 2 12 0 q_0 vk_C_93 hR rfl (m_C_checkLantern C.2.2.2.2.2.2.1 hl9 hc13) rfl rfl rfl dX11_relation_7 rfl rfl rfl rfl (fun e16 => ?_) (fun et11 e16 => ?_)
    · subst e16
      replace h := ocU_i h
      refine g_aload_n C dX11_relation_10 0 rfl ?_
      refine g_get C (.ref (w_r w 281)) 0 q_0 fk_C_36 rfl dX11_relation_11 ?_
      refine g_aload_n C dX11_relation_14 0 rfl ?_
      refine g_get C (.ref (w_r w 2)) 0 q_0 fk_C_10 rfl dX11_relation_15 ?_
      refine g_get C (.ref (w_r w 3)) 2 q_2 fk_C_68 rfl dX11_relation_18 ?_
      refine g_aload_n C dX11_relation_21 0 rfl ?_
      refine g_get C (.ref (w_r w 2)) 0 q_0 fk_C_10 rfl dX11_relation_22 ?_
      refine g_get C (.ref (w_r w 22)) 2 q_2 fk_C_128 rfl dX11_relation_25 ?_
      refine g_iconst C dX11_relation_28 (v := (-1)) (by decide) ?_
      obtain ⟨d17, hc18, h⟩ := ob1_1 h
      refine g_callVv C 281 q_281 vk_C_262 hR rfl (m_G_find C.2.2.2.2.2.2.1 hc18) rfl rfl rfl dX11_relation_29 rfl rfl ?_
      refine g_aload_n C dX11_relation_32 0 rfl ?_
      refine g_get C (.ref (w_r w 281)) 0 q_0 fk_C_36 rfl dX11_relation_33 ?_
      refine g_iload_n C dX11_relation_36 1 rfl ?_
      refine g_iload_n C dX11_relation_37 2 rfl ?_
      obtain ⟨r19, hc20, h⟩ := ob1_1 h
      refine g_callVi C 281 q_281 vk_C_272 hR rfl (m_G_areJoined C.2.2.2.2.2.2.1 hc20) rfl rfl rfl dX11_relation_38 rfl rfl ?_
      refine g_if_ne C dX11_relation_41 (tgt := 47) rfl (fun q => ?_) (fun q => ?_)
      · replace h := it_f q h
        refine g_aload_n C dX11_relation_47 0 rfl ?_
        refine g_get C (.ref (w_r w 281)) 0 q_0 fk_C_36 rfl dX11_relation_48 ?_
        refine g_iload_n C dX11_relation_51 1 rfl ?_
        obtain ⟨r21, hc22, h⟩ := ob1_1 h
        refine g_callVi C 281 q_281 vk_C_276 hR rfl (m_G_hasClash C.2.2.2.2.2.2.1 hc22) rfl rfl rfl dX11_relation_52 rfl rfl ?_
        refine g_if_eq C dX11_relation_55 (tgt := 69) rfl (fun q => ?_) (fun q => ?_)
        · replace h := it_t q h
          refine g_aload_n C dX11_relation_69 0 rfl ?_
          refine g_get C (.ref (w_r w 281)) 0 q_0 fk_C_36 rfl dX11_relation_70 ?_
          refine g_iload_n C dX11_relation_73 1 rfl ?_
          refine g_iload_n C dX11_relation_74 2 rfl ?_
          obtain ⟨r23, hc24, h⟩ := ob1_1 h
          refine g_callVi C 281 q_281 vk_C_281 hR rfl (m_G_areOnOneSide C.2.2.2.2.2.2.1 hc24) rfl rfl rfl dX11_relation_75 rfl rfl ?_
          refine g_if_eq C dX11_relation_78 (tgt := 86) rfl (fun q => ?_) (fun q => ?_)
          · replace h := it_t q h
            refine g_bipush C dX11_relation_86 (v := 45) (by decide) ?_
            exact g_iretX C hr hlk rfl rfl rfl (oW_i h) dX11_relation_88
          · replace h := it_f q h
            refine g_bipush C dX11_relation_81 (v := 43) (by decide) ?_
            refine g_goto C dX11_relation_83 (tgt := 88) rfl ?_
            exact g_iretX C hr hlk rfl rfl rfl (oW_i h) dX11_relation_88
        · replace h := it_f q h
          exact g_throwSWy C hl9 th_C_160_164 (i := 15) (by decide) (by decide +kernel) (by decide +kernel) hx hlk hR rfl dX11_relation_58 dX11_relation_61 dX11_relation_62 dX11_relation_65 dX11_relation_68 rfl rfl rfl rfl rfl (oW_t h)
      · replace h := it_t q h
        refine g_bipush C dX11_relation_44 (v := 63) (by decide) ?_
        exact g_iretX C hr hlk rfl rfl rfl (oW_i h) dX11_relation_46
    · subst e16
      replace h := ocU_t h
      exact g_prop C hx hlk rfl rfl (oW_t h)
  · subst e11
    replace h := ocU_t h
    exact g_prop C hx hlk rfl rfl (oW_t h)
set_option maxHeartbeats 4000000 in
set_option maxRecDepth 100000 in
theorem m_C_restore {w : wT} {l : Launch} {d : Dt} {zE : ((Int32 × Dt) ⊕ (Nat × Dt))} (hO : okW w) (hl9 : l.stackTraces = false) (h : f_C_restore  d = some zE) : gMX w l yX11_restore cX11_restore 1 (Option.some Jvm.ClassFile.FieldType.int) 6 1 6 [.ref (w_r w 0)] d (oW zE) := by
  refine gMX_of (by decide) [(0, .ref (w_r w 0))] rfl rfl ?_ hO
  intro p e R s m args below meth c C hR hr hlk hx
  unfold f_C_restore at h
  refine g_aload_n C dX11_restore_0 0 rfl ?_
  refine g_get C (.int (d 0 11)) 0 q_0 fk_C_422 rfl dX11_restore_1 ?_
  refine g_if_ne C dX11_restore_4 (tgt := 18) rfl (fun q => ?_) (fun q => ?_)
  · replace h := it_f q h
    refine g_aload_n C dX11_restore_18 0 rfl ?_
    refine g_get C (.ref (w_r w 2)) 0 q_0 fk_C_10 rfl dX11_restore_19 ?_
    refine g_aload_n C dX11_restore_22 0 rfl ?_
    refine g_get C (.ref (w_r w 52)) 0 q_0 fk_C_19 rfl dX11_restore_23 ?_
    obtain ⟨d3, hc4, h⟩ := ob1_1 h
    refine g_callVv C 2 q_2 vk_C_377 hR rfl (m_S_copyFrom C.2.2.2.2.2.2.1 stB_2 stB_52 hc4) rfl rfl rfl dX11_restore_26 rfl rfl ?_
    refine g_aload_n C dX11_restore_29 0 rfl ?_
    refine g_iconst C dX11_restore_30 (v := 0) rfl ?_
    refine g_put C 0 q_0 pk_C_414 rfl rfl dX11_restore_31 ?_
    obtain ⟨d5, hd5, h⟩ := bnd_1 h
    refine g_nmD hd5 ?_
    refine g_aload_n C dX11_restore_34 0 rfl ?_
    refine g_get C (.ref (w_r w 2)) 0 q_0 fk_C_10 rfl dX11_restore_35 ?_
    refine g_get C (.ref (w_r w 3)) 2 q_2 fk_C_68 rfl dX11_restore_38 ?_
    refine g_get C (.int (d5 3 0)) 3 q_3 fk_C_183 rfl dX11_restore_41 ?_
    exact g_iretX C hr hlk rfl rfl rfl (oW_i h) dX11_restore_44
  · replace h := it_t q h
    exact g_throwSW C hl9 th_C_78_82 (i := 28) (by decide) (by decide +kernel) (by decide +kernel) hx hlk hR rfl dX11_restore_7 dX11_restore_10 dX11_restore_11 dX11_restore_14 dX11_restore_17 rfl rfl rfl rfl rfl (oW_t h)
set_option maxHeartbeats 4000000 in
set_option maxRecDepth 100000 in
theorem m_C_retract {w : wT} {l : Launch} {x1 : Int32} {d : Dt} {zE : ((Int32 × Dt) ⊕ (Nat × Dt))} (hO : okW w) (hl9 : l.stackTraces = false) (h : f_C_retract x1 d = some zE) : gMX w l yX11_retract cX11_retract 2 (Option.some Jvm.ClassFile.FieldType.boolean) 7 2 12 [.ref (w_r w 0), .int x1] d (oW zE) := by
  refine gMX_of (by decide) [(0, .ref (w_r w 0)), (1, .int x1)] rfl rfl ?_ hO
  intro p e R s m args below meth c C hR hr hlk hx
  unfold f_C_retract at h
  refine g_aload_n C dX11_retract_0 0 rfl ?_
  refine g_iload_n C dX11_retract_1 1 rfl ?_
  obtain ⟨z7, hc6, h⟩ := ocU_1 h
  refine g_callVU C 1 6 0 q_0 vk_C_93 hR rfl (m_C_checkLantern C.2.2.2.2.2.2.1 hl9 hc6) rfl rfl rfl dX11_retract_2 rfl rfl rfl rfl (fun e9 => ?_) (fun et4 e9 => ?_)
  · subst e9
    replace h := ocU_i h
    refine g_aload_n C dX11_retract_5 0 rfl ?_
    refine g_get C (.ref (w_r w 2)) 0 q_0 fk_C_10 rfl dX11_retract_6 ?_
    refine g_get C (.ref (w_r w 3)) 2 q_2 fk_C_68 rfl dX11_retract_9 ?_
    refine g_get C (.ref (w_r w 5)) 3 q_3 fk_C_156 rfl dX11_retract_12 ?_
    refine g_iload_n C dX11_retract_15 1 rfl ?_
    have hg10 := gd_1 h
    replace h := gd_2 h
    refine g_iald C 5 q_5 hg10 _ rfl dX11_retract_16 ?_
    refine g_if_ne C dX11_retract_17 (tgt := 30) rfl (fun q => ?_) (fun q => ?_)
    · replace h := it_f q h
      refine g_aload_n C dX11_retract_30 0 rfl ?_
      refine g_aload_n C dX11_retract_31 0 rfl ?_
      refine g_get C (.ref (w_r w 2)) 0 q_0 fk_C_10 rfl dX11_retract_32 ?_
      obtain ⟨d11, hc12, h⟩ := ob1_1 h
      refine g_callVv C 0 q_0 vk_C_85 hR rfl (m_C_remember C.2.2.2.2.2.2.1 hc12) rfl rfl rfl dX11_retract_35 rfl rfl ?_
      refine g_aload_n C dX11_retract_38 0 rfl ?_
      refine g_get C (.ref (w_r w 2)) 0 q_0 fk_C_10 rfl dX11_retract_39 ?_
      refine g_get C (.ref (w_r w 3)) 2 q_2 fk_C_68 rfl dX11_retract_42 ?_
      refine g_iload_n C dX11_retract_45 1 rfl ?_
      refine g_iconst C dX11_retract_46 (v := 0) rfl ?_
      obtain ⟨r13, d14, hc15, h⟩ := ob2_1 h
      refine g_callVi C 3 q_3 vk_C_152 hR rfl (m_L_setAdmission C.2.2.2.2.2.2.1 hc15) rfl rfl rfl dX11_retract_47 rfl rfl ?_
      refine g_iconst C dX11_retract_50 (v := 1) rfl ?_
      refine g_icmp_ne C dX11_retract_51 (tgt := 58) rfl (fun q => ?_) (fun q => ?_)
      · replace h := it_f q h
        refine g_iconst C dX11_retract_58 (v := 0) rfl ?_
        exact g_iretX C hr hlk rfl rfl rfl (oW_i h) dX11_retract_59
      · replace h := it_t q h
        refine g_iconst C dX11_retract_54 (v := 1) rfl ?_
        refine g_goto C dX11_retract_55 (tgt := 59) rfl ?_
        exact g_iretX C hr hlk rfl rfl rfl (oW_i h) dX11_retract_59
    · replace h := it_t q h
      exact g_throwSy C hl9 th_C_160_164 (i := 9) (by decide) (by decide +kernel) (by decide +kernel) hx hlk hR rfl dX11_retract_20 dX11_retract_23 dX11_retract_24 dX11_retract_26 dX11_retract_29 rfl rfl rfl rfl rfl (oW_t h)
  · subst e9
    replace h := ocU_t h
    exact g_prop C hx hlk rfl rfl (oW_t h)
set_option maxHeartbeats 4000000 in
set_option maxRecDepth 100000 in
theorem m_I_countCommands {w : wT} {l : Launch} {d : Dt} {rE : Int32} {dE : Dt} (hO : okW w) (h : f_I_countCommands  d = some (rE, dE)) : gM w l yX3_countCommands cX3_countCommands 2 (Option.some Jvm.ClassFile.FieldType.int) 7 [.ref (w_r w 287)] d dE (some (.int rE)) := by
  refine gM_of (by decide) [(0, .ref (w_r w 287))] rfl rfl ?_ hO
  intro p e R s m args below meth c C hR hr hlk
  have R6 : ∀ (x1 : Int32) (d : Dt), f_I_countCommands_6 x1 d = some (rE, dE) → gG w p l e R s m args below meth c 2 0 0 (gE w below args s dE (some (.int rE))) d [(0, .ref (w_r w 287)), (1, .int x1)] 6 [] := by
    intro x1 d  h
    refine iter_ind (G := fun s_ : (Int32 × Dt) => gG w p l e R s m args below meth c 2 0 0 (gE w below args s dE (some (.int rE))) s_.2 [(0, .ref (w_r w 287)), (1, .int s_.1)] 6 []) ?_ fu _ h
    clear h
    intro s_ y1 h hl1 hx1
    obtain ⟨x1, d⟩ := s_
    show gG w p l e R s m args below meth c 2 0 0 (gE w below args s dE (some (.int rE))) d [(0, .ref (w_r w 287)), (1, .int x1)] 6 []
    dsimp only at h
    unfold st_I_countCommands_6 at h
    refine g_iload_n C dX3_countCommands_6 1 rfl ?_
    refine g_bipush C dX3_countCommands_7 (v := 60) (by decide) ?_
    refine g_icmp_gt C dX3_countCommands_9 (tgt := 44) rfl (fun q => ?_) (fun q => ?_)
    · replace h := it_t q h
      replace h := ir_2 h hx1
      refine g_iconst C dX3_countCommands_44 (v := (-1)) (by decide) ?_
      exact g_iret C hr hlk rfl (congrArg Prod.snd (Option.some.inj h)) (congrArg (fun z => some (Value.int z.1)) (Option.some.inj h)) dX3_countCommands_45
    · replace h := it_f q h
      refine g_aload_n C dX3_countCommands_12 0 rfl ?_
      obtain ⟨r5, d6, hc7, h⟩ := ob2_1 h
      refine g_callVi C 287 q_287 vk_I_38 hR rfl (m_I_readCommand C.2.2.2.2.2.2.1 hc7) rfl rfl rfl dX3_countCommands_13 rfl rfl ?_
      refine g_if_ne C dX3_countCommands_16 (tgt := 21) rfl (fun q => ?_) (fun q => ?_)
      · replace h := it_f q h
        refine g_aload_n C dX3_countCommands_21 0 rfl ?_
        refine g_get C (.int (d6 287 2)) 287 q_287 fk_I_32 rfl dX3_countCommands_22 ?_
        refine g_aload_n C dX3_countCommands_25 0 rfl ?_
        refine g_get C (.int (d6 287 1)) 287 q_287 fk_I_28 rfl dX3_countCommands_26 ?_
        refine g_icmp_lt C dX3_countCommands_29 (tgt := 34) rfl (fun q => ?_) (fun q => ?_)
        · replace h := it_t q h
          refine g_aload_n C dX3_countCommands_34 0 rfl ?_
          obtain ⟨d8, hc9, h⟩ := ob1_1 h
          refine g_callVv C 287 q_287 vk_I_42 hR rfl (m_I_skipSemicolon C.2.2.2.2.2.2.1 hc9) rfl rfl rfl dX3_countCommands_35 rfl rfl ?_
          refine g_iinc C (lv' := [(1, .int (x1 + 1)), (0, .ref (w_r w 287))]) (v := (x1 + 1)) dX3_countCommands_38 1 rfl rfl (by decide) rfl ?_
          refine g_goto C dX3_countCommands_41 (tgt := 6) rfl ?_
          refine g_sub [1, 0] (lv' := [(0, .ref (w_r w 287)), (1, .int (x1 + 1))]) rfl ?_
          exact hl1 ((x1 + 1), d8) (Option.some.inj h).symm
        · replace h := it_f q h
          replace h := ir_2 h hx1
          refine g_iload_n C dX3_countCommands_32 1 rfl ?_
          exact g_iret C hr hlk rfl (congrArg Prod.snd (Option.some.inj h)) (congrArg (fun z => some (Value.int z.1)) (Option.some.inj h)) dX3_countCommands_33
      · replace h := it_t q h
        replace h := ir_2 h hx1
        refine g_iconst C dX3_countCommands_19 (v := (-1)) (by decide) ?_
        exact g_iret C hr hlk rfl (congrArg Prod.snd (Option.some.inj h)) (congrArg (fun z => some (Value.int z.1)) (Option.some.inj h)) dX3_countCommands_20
  unfold f_I_countCommands at h
  refine g_aload_n C dX3_countCommands_0 0 rfl ?_
  obtain ⟨d10, hc11, h⟩ := ob1_1 h
  refine g_callVv C 287 q_287 vk_I_35 hR rfl (m_I_rewind C.2.2.2.2.2.2.1 hc11) rfl rfl rfl dX3_countCommands_1 rfl rfl ?_
  refine g_iconst C dX3_countCommands_4 (v := 1) rfl ?_
  refine g_istore_n C (lv' := [(1, .int 1), (0, .ref (w_r w 287))]) dX3_countCommands_5 (by decide) rfl ?_
  refine g_sub [1, 0] (lv' := [(0, .ref (w_r w 287)), (1, .int 1)]) rfl ?_
  exact R6 1 d10 h
set_option maxHeartbeats 4000000 in
set_option maxRecDepth 100000 in
theorem m_I_empty {w : wT} {l : Launch} {d : Dt} {dE : Dt} (hO : okW w) (h : f_I_empty  d = some dE) : gM w l yX3_empty cX3_empty 1 (Option.none : Option Jvm.ClassFile.FieldType) 0 [.ref (w_r w 287)] d dE none := by
  refine gM_of (by decide) [(0, .ref (w_r w 287))] rfl rfl ?_ hO
  intro p e R s m args below meth c C hR hr hlk
  unfold f_I_empty at h
  refine g_aload_n C dX3_empty_0 0 rfl ?_
  refine g_iconst C dX3_empty_1 (v := 0) rfl ?_
  refine g_put C 287 q_287 pk_I_28 rfl rfl dX3_empty_2 ?_
  obtain ⟨d2, hd2, h⟩ := bnd_1 h
  refine g_nmD hd2 ?_
  exact g_vret C hr hlk (Option.some.inj h) rfl dX3_empty_5
set_option maxHeartbeats 4000000 in
set_option maxRecDepth 100000 in
theorem m_C_remember_0_27 {w : wT} {l : Launch} {d : Dt} {dE : Dt} (hO : okW w) (h : f_C_remember_0_27  d = some dE) : gM w l yX11_remember cX11_remember 2 (Option.none : Option Jvm.ClassFile.FieldType) 3 [.ref (w_r w 0), .ref (w_r w 27)] d dE none := by
  refine gM_of (by decide) [(0, .ref (w_r w 0)), (1, .ref (w_r w 27))] rfl rfl ?_ hO
  intro p e R s m args below meth c C hR hr hlk
  have R33 : ∀ (v1 : Int32) (d : Dt), f_C_remember_0_27_33  v1 d = some dE → gG w p l e R s m args below meth c 2 0 0 (gE w below args s dE none) d [(0, .ref (w_r w 0))] 33 [.int v1, .ref (w_r w 0)] := by
    intro  v1 d  h
    unfold f_C_remember_0_27_33 at h
    refine g_put C 0 q_0 pk_C_419 rfl rfl dX11_remember_33 ?_
    obtain ⟨d4, hd4, h⟩ := bnd_1 h
    refine g_nmD hd4 ?_
    refine g_aload_n C dX11_remember_36 0 rfl ?_
    refine g_aload_n C dX11_remember_37 0 rfl ?_
    refine g_get C (.int (d4 0 10)) 0 q_0 fk_C_414 rfl dX11_remember_38 ?_
    refine g_iconst C dX11_remember_41 (v := 1) rfl ?_
    refine g_iadd C dX11_remember_42  ?_
    refine g_bipush C dX11_remember_43 (v := 8) (by decide) ?_
    refine g_mmin C mm_C_443 mm_sta_min mm_ini mm_cod_min hR rfl rfl dX11_remember_45 rfl rfl ?_
    refine g_put C 0 q_0 pk_C_414 rfl rfl dX11_remember_48 ?_
    obtain ⟨d5, hd5, h⟩ := bnd_1 h
    refine g_nmD hd5 ?_
    exact g_vret C hr hlk (Option.some.inj h) rfl dX11_remember_51
  unfold f_C_remember_0_27 at h
  refine g_aload_n C dX11_remember_0 0 rfl ?_
  refine g_get C (.ref (w_r w 1)) 0 q_0 fk_C_22 rfl dX11_remember_1 ?_
  refine g_aload_n C dX11_remember_4 0 rfl ?_
  refine g_get C (.int (d 0 9)) 0 q_0 fk_C_419 rfl dX11_remember_5 ?_
  have hg6 := gd_1 h
  replace h := gd_2 h
  refine g_aald3 C 1 q_1 hg6 dX11_remember_8 ?_
  refine g_aload_n C dX11_remember_9 1 rfl ?_
  obtain ⟨d7, hc8, h⟩ := ob1_1 h
  refine g_callVv C (77 + 25 * (d 0 9).toNatClampNeg) (show isC (77 + 25 * (d 0 9).toNatClampNeg) 8 0 from stB_h hg6 0 (by decide)) vk_C_377 hR rfl (m_S_copyFrom C.2.2.2.2.2.2.1 (stB_h hg6) stB_27 hc8) rfl rfl rfl dX11_remember_10 rfl rfl ?_
  refine g_aload_n C dX11_remember_13 0 rfl ?_
  refine g_aload_n C dX11_remember_14 0 rfl ?_
  refine g_get C (.int (d7 0 9)) 0 q_0 fk_C_419 rfl dX11_remember_15 ?_
  refine g_bipush C dX11_remember_18 (v := 7) (by decide) ?_
  refine g_icmp_ne C dX11_remember_20 (tgt := 27) rfl (fun q => ?_) (fun q => ?_)
  · replace h := it_f q h
    refine g_aload_n C dX11_remember_27 0 rfl ?_
    refine g_get C (.int (d7 0 9)) 0 q_0 fk_C_419 rfl dX11_remember_28 ?_
    refine g_iconst C dX11_remember_31 (v := 1) rfl ?_
    refine g_iadd C dX11_remember_32  ?_
    refine g_sub [0] (lv' := [(0, .ref (w_r w 0))]) rfl ?_
    exact R33 ((d7 0 9) + 1) d7 h
  · replace h := it_t q h
    refine g_iconst C dX11_remember_23 (v := 0) rfl ?_
    refine g_goto C dX11_remember_24 (tgt := 33) rfl ?_
    refine g_sub [0] (lv' := [(0, .ref (w_r w 0))]) rfl ?_
    exact R33 0 d7 h
set_option maxHeartbeats 4000000 in
set_option maxRecDepth 100000 in
theorem m_C_runCommands {w : wT} {l : Launch} {d : Dt} {zE : ((Int32 × Dt) ⊕ (Nat × Dt))} (hO : okW w) (hl9 : l.stackTraces = false) (h : f_C_runCommands  d = some zE) : gMX w l yX11_runCommands cX11_runCommands 3 (Option.some Jvm.ClassFile.FieldType.int) 9 1 6 [.ref (w_r w 0)] d (oW zE) := by
  refine gMX_of (by decide) [(0, .ref (w_r w 0))] rfl rfl ?_ hO
  intro p e R s m args below meth c C hR hr hlk hx
  unfold f_C_runCommands at h
  refine g_aload_n C dX11_runCommands_0 0 rfl ?_
  refine g_get C (.ref (w_r w 287)) 0 q_0 fk_C_50 rfl dX11_runCommands_1 ?_
  obtain ⟨r12, d13, hc14, h⟩ := ob2_1 h
  refine g_callVi C 287 q_287 vk_C_366 hR rfl (m_I_countCommands C.2.2.2.2.2.2.1 hc14) rfl rfl rfl dX11_runCommands_4 rfl rfl ?_
  refine g_istore_n C (lv' := [(1, .int r12), (0, .ref (w_r w 0))]) dX11_runCommands_7 (by decide) rfl ?_
  refine g_iload_n C dX11_runCommands_8 0 rfl ?_
  refine g_iconst C dX11_runCommands_9 (v := (-1)) (by decide) ?_
  refine g_icmp_ne C dX11_runCommands_10 (tgt := 42) rfl (fun q => ?_) (fun q => ?_)
  · replace h := it_f q h
    refine g_aload_n C dX11_runCommands_42 1 rfl ?_
    refine g_get C (.ref (w_r w 27)) 0 q_0 fk_C_16 rfl dX11_runCommands_43 ?_
    refine g_aload_n C dX11_runCommands_46 1 rfl ?_
    refine g_get C (.ref (w_r w 2)) 0 q_0 fk_C_10 rfl dX11_runCommands_47 ?_
    obtain ⟨d15, hc16, h⟩ := ob1_1 h
    refine g_callVv C 27 q_27 vk_C_377 hR rfl (m_S_copyFrom C.2.2.2.2.2.2.1 stB_27 stB_2 hc16) rfl rfl rfl dX11_runCommands_50 rfl rfl ?_
    refine g_aload_n C dX11_runCommands_53 1 rfl ?_
    refine g_iload_n C dX11_runCommands_54 0 rfl ?_
    obtain ⟨r17, d18, hc19, h⟩ := ob2_1 h
    refine g_callVi C 0 q_0 vk_C_380 hR rfl (m_C_carryOutAll C.2.2.2.2.2.2.1 hc19) rfl rfl rfl dX11_runCommands_55 rfl rfl ?_
    refine g_istore_n C (lv' := [(2, .int r17), (1, .int r12), (0, .ref (w_r w 0))]) dX11_runCommands_58 (by decide) rfl ?_
    refine g_aload_n C dX11_runCommands_59 2 rfl ?_
    refine g_get C (.ref (w_r w 287)) 0 q_0 fk_C_50 rfl dX11_runCommands_60 ?_
    obtain ⟨d20, hc21, h⟩ := ob1_1 h
    refine g_callVv C 287 q_287 vk_C_372 hR rfl (m_I_empty C.2.2.2.2.2.2.1 hc21) rfl rfl rfl dX11_runCommands_63 rfl rfl ?_
    refine g_iload_n C dX11_runCommands_66 0 rfl ?_
    refine g_iconst C dX11_runCommands_67 (v := (-1)) (by decide) ?_
    refine g_icmp_eq C dX11_runCommands_68 (tgt := 98) rfl (fun q => ?_) (fun q => ?_)
    · replace h := it_t q h
      refine g_aload_n C dX11_runCommands_98 2 rfl ?_
      refine g_aload_n C dX11_runCommands_99 2 rfl ?_
      refine g_get C (.ref (w_r w 27)) 0 q_0 fk_C_16 rfl dX11_runCommands_100 ?_
      obtain ⟨d22, hc23, h⟩ := ob1_1 h
      refine g_callVv C 0 q_0 vk_C_85 hR rfl (m_C_remember_0_27 C.2.2.2.2.2.2.1 hc23) rfl rfl rfl dX11_runCommands_103 rfl rfl ?_
      refine g_iload_n C dX11_runCommands_106 1 rfl ?_
      exact g_iretX C hr hlk rfl rfl rfl (oW_i h) dX11_runCommands_107
    · replace h := it_f q h
      refine g_aload_n C dX11_runCommands_71 2 rfl ?_
      refine g_iload_n C dX11_runCommands_72 0 rfl ?_
      refine g_put C 0 q_0 pk_C_65 rfl rfl dX11_runCommands_73 ?_
      obtain ⟨d24, hd24, h⟩ := bnd_1 h
      refine g_nmD hd24 ?_
      refine g_aload_n C dX11_runCommands_76 2 rfl ?_
      refine g_get C (.ref (w_r w 2)) 0 q_0 fk_C_10 rfl dX11_runCommands_77 ?_
      refine g_aload_n C dX11_runCommands_80 2 rfl ?_
      refine g_get C (.ref (w_r w 27)) 0 q_0 fk_C_16 rfl dX11_runCommands_81 ?_
      obtain ⟨d25, hc26, h⟩ := ob1_1 h
      refine g_callVv C 2 q_2 vk_C_377 hR rfl (m_S_copyFrom C.2.2.2.2.2.2.1 stB_2 stB_27 hc26) rfl rfl rfl dX11_runCommands_84 rfl rfl ?_
      exact g_throwSW C hl9 th_C_383_387 (i := 23) (by decide) (by decide +kernel) (by decide +kernel) hx hlk hR rfl dX11_runCommands_87 dX11_runCommands_90 dX11_runCommands_91 dX11_runCommands_94 dX11_runCommands_97 rfl rfl rfl rfl rfl (oW_t h)
  · replace h := it_t q h
    refine g_aload_n C dX11_runCommands_13 1 rfl ?_
    refine g_aload_n C dX11_runCommands_14 1 rfl ?_
    refine g_get C (.ref (w_r w 287)) 0 q_0 fk_C_50 rfl dX11_runCommands_15 ?_
    refine g_get C (.int (d13 287 2)) 287 q_287 fk_C_369 rfl dX11_runCommands_18 ?_
    refine g_put C 0 q_0 pk_C_61 rfl rfl dX11_runCommands_21 ?_
    obtain ⟨d27, hd27, h⟩ := bnd_1 h
    refine g_nmD hd27 ?_
    refine g_aload_n C dX11_runCommands_24 1 rfl ?_
    refine g_get C (.ref (w_r w 287)) 0 q_0 fk_C_50 rfl dX11_runCommands_25 ?_
    obtain ⟨d28, hc29, h⟩ := ob1_1 h
    refine g_callVv C 287 q_287 vk_C_372 hR rfl (m_I_empty C.2.2.2.2.2.2.1 hc29) rfl rfl rfl dX11_runCommands_28 rfl rfl ?_
    exact g_throwSW C hl9 th_C_103_107 (i := 22) (by decide) (by decide +kernel) (by decide +kernel) hx hlk hR rfl dX11_runCommands_31 dX11_runCommands_34 dX11_runCommands_35 dX11_runCommands_38 dX11_runCommands_41 rfl rfl rfl rfl rfl (oW_t h)
set_option maxHeartbeats 4000000 in
set_option maxRecDepth 100000 in
theorem m_C_save {w : wT} {l : Launch} {d : Dt} {rE : Int32} {dE : Dt} (hO : okW w) (h : f_C_save  d = some (rE, dE)) : gM w l yX11_save cX11_save 1 (Option.some Jvm.ClassFile.FieldType.int) 3 [.ref (w_r w 0)] d dE (some (.int rE)) := by
  refine gM_of (by decide) [(0, .ref (w_r w 0))] rfl rfl ?_ hO
  intro p e R s m args below meth c C hR hr hlk
  unfold f_C_save at h
  refine g_aload_n C dX11_save_0 0 rfl ?_
  refine g_get C (.ref (w_r w 52)) 0 q_0 fk_C_19 rfl dX11_save_1 ?_
  refine g_aload_n C dX11_save_4 0 rfl ?_
  refine g_get C (.ref (w_r w 2)) 0 q_0 fk_C_10 rfl dX11_save_5 ?_
  obtain ⟨d3, hc4, h⟩ := ob1_1 h
  refine g_callVv C 52 q_52 vk_C_377 hR rfl (m_S_copyFrom C.2.2.2.2.2.2.1 stB_52 stB_2 hc4) rfl rfl rfl dX11_save_8 rfl rfl ?_
  refine g_aload_n C dX11_save_11 0 rfl ?_
  refine g_iconst C dX11_save_12 (v := 1) rfl ?_
  refine g_put C 0 q_0 pk_C_422 rfl rfl dX11_save_13 ?_
  obtain ⟨d5, hd5, h⟩ := bnd_1 h
  refine g_nmD hd5 ?_
  refine g_aload_n C dX11_save_16 0 rfl ?_
  refine g_get C (.ref (w_r w 2)) 0 q_0 fk_C_10 rfl dX11_save_17 ?_
  refine g_get C (.ref (w_r w 3)) 2 q_2 fk_C_68 rfl dX11_save_20 ?_
  refine g_get C (.int (d5 3 0)) 3 q_3 fk_C_183 rfl dX11_save_23 ?_
  exact g_iret C hr hlk rfl (congrArg Prod.snd (Option.some.inj h)) (congrArg (fun z => some (Value.int z.1)) (Option.some.inj h)) dX11_save_26
set_option maxHeartbeats 4000000 in
set_option maxRecDepth 100000 in
theorem m_C_secondOf {w : wT} {l : Launch} {x1 : Int32} {d : Dt} {zE : (Int32 ⊕ Nat)} (hO : okW w) (hl9 : l.stackTraces = false) (h : f_C_secondOf x1 d = some zE) : gMX w l yX11_secondOf cX11_secondOf 2 (Option.some Jvm.ClassFile.FieldType.int) 7 1 6 [.ref (w_r w 0), .int x1] d (oR d zE) := by
  refine gMX_of (by decide) [(0, .ref (w_r w 0)), (1, .int x1)] rfl rfl ?_ hO
  intro p e R s m args below meth c C hR hr hlk hx
  unfold f_C_secondOf at h
  refine g_aload_n C dX11_secondOf_0 0 rfl ?_
  refine g_iload_n C dX11_secondOf_1 1 rfl ?_
  obtain ⟨z4, hc3, h⟩ := ocU_1 h
  refine g_callVU C 1 6 0 q_0 vk_C_140 hR rfl (m_C_checkStatement C.2.2.2.2.2.2.1 hl9 hc3) rfl rfl rfl dX11_secondOf_2 rfl rfl rfl rfl (fun e6 => ?_) (fun et1 e6 => ?_)
  · subst e6
    replace h := ocU_i h
    refine g_aload_n C dX11_secondOf_5 0 rfl ?_
    refine g_get C (.ref (w_r w 2)) 0 q_0 fk_C_10 rfl dX11_secondOf_6 ?_
    refine g_get C (.ref (w_r w 22)) 2 q_2 fk_C_128 rfl dX11_secondOf_9 ?_
    refine g_get C (.ref (w_r w 24)) 22 q_22 fk_C_255 rfl dX11_secondOf_12 ?_
    refine g_iload_n C dX11_secondOf_15 1 rfl ?_
    have hg7 := gd_1 h
    replace h := gd_2 h
    refine g_iald C 24 q_24 hg7 _ rfl dX11_secondOf_16 ?_
    exact g_iretX C hr hlk rfl rfl rfl (oR_i h) dX11_secondOf_17
  · subst e6
    replace h := ocU_t h
    exact g_prop C hx hlk rfl rfl (oR_t h)
set_option maxHeartbeats 4000000 in
set_option maxRecDepth 100000 in
theorem m_C_sentenceCount {w : wT} {l : Launch} {x1 : Int32} {d : Dt} {zE : (Int32 ⊕ Nat)} (hO : okW w) (hl9 : l.stackTraces = false) (h : f_C_sentenceCount x1 d = some zE) : gMX w l yX11_sentenceCount cX11_sentenceCount 2 (Option.some Jvm.ClassFile.FieldType.int) 7 1 6 [.ref (w_r w 0), .int x1] d (oR d zE) := by
  refine gMX_of (by decide) [(0, .ref (w_r w 0)), (1, .int x1)] rfl rfl ?_ hO
  intro p e R s m args below meth c C hR hr hlk hx
  unfold f_C_sentenceCount at h
  refine g_aload_n C dX11_sentenceCount_0 0 rfl ?_
  refine g_iload_n C dX11_sentenceCount_1 1 rfl ?_
  obtain ⟨z4, hc3, h⟩ := ocU_1 h
  refine g_callVU C 1 6 0 q_0 vk_C_93 hR rfl (m_C_checkLantern C.2.2.2.2.2.2.1 hl9 hc3) rfl rfl rfl dX11_sentenceCount_2 rfl rfl rfl rfl (fun e6 => ?_) (fun et1 e6 => ?_)
  · subst e6
    replace h := ocU_i h
    refine g_aload_n C dX11_sentenceCount_5 0 rfl ?_
    refine g_get C (.ref (w_r w 2)) 0 q_0 fk_C_10 rfl dX11_sentenceCount_6 ?_
    refine g_get C (.ref (w_r w 3)) 2 q_2 fk_C_68 rfl dX11_sentenceCount_9 ?_
    refine g_get C (.ref (w_r w 6)) 3 q_3 fk_C_189 rfl dX11_sentenceCount_12 ?_
    refine g_iload_n C dX11_sentenceCount_15 1 rfl ?_
    have hg7 := gd_1 h
    replace h := gd_2 h
    refine g_iald C 6 q_6 hg7 _ rfl dX11_sentenceCount_16 ?_
    exact g_iretX C hr hlk rfl rfl rfl (oR_i h) dX11_sentenceCount_17
  · subst e6
    replace h := ocU_t h
    exact g_prop C hx hlk rfl rfl (oR_t h)
set_option maxHeartbeats 4000000 in
set_option maxRecDepth 100000 in
theorem m_C_servedDays {w : wT} {l : Launch} {d : Dt} {rE : Int32} (hO : okW w) (h : f_C_servedDays  d = some rE) : gM w l yX11_servedDays cX11_servedDays 1 (Option.some Jvm.ClassFile.FieldType.int) 0 [.ref (w_r w 0)] d d (some (.int rE)) := by
  refine gM_of (by decide) [(0, .ref (w_r w 0))] rfl rfl ?_ hO
  intro p e R s m args below meth c C hR hr hlk
  unfold f_C_servedDays at h
  refine g_aload_n C dX11_servedDays_0 0 rfl ?_
  refine g_get C (.ref (w_r w 2)) 0 q_0 fk_C_10 rfl dX11_servedDays_1 ?_
  refine g_get C (.int (d 2 8)) 2 q_2 fk_C_327 rfl dX11_servedDays_4 ?_
  exact g_iret C hr hlk rfl rfl (congrArg (fun z => some (Value.int z)) (Option.some.inj h)) dX11_servedDays_7
set_option maxHeartbeats 4000000 in
set_option maxRecDepth 100000 in
theorem m_C_severity {w : wT} {l : Launch} {x1 : Int32} {d : Dt} {zE : (Int32 ⊕ Nat)} (hO : okW w) (hl9 : l.stackTraces = false) (h : f_C_severity x1 d = some zE) : gMX w l yX11_severity cX11_severity 2 (Option.some Jvm.ClassFile.FieldType.int) 7 1 6 [.ref (w_r w 0), .int x1] d (oR d zE) := by
  refine gMX_of (by decide) [(0, .ref (w_r w 0)), (1, .int x1)] rfl rfl ?_ hO
  intro p e R s m args below meth c C hR hr hlk hx
  unfold f_C_severity at h
  refine g_aload_n C dX11_severity_0 0 rfl ?_
  refine g_get C (.ref (w_r w 2)) 0 q_0 fk_C_10 rfl dX11_severity_1 ?_
  refine g_get C (.ref (w_r w 16)) 2 q_2 fk_C_108 rfl dX11_severity_4 ?_
  refine g_get C (.ref (w_r w 21)) 16 q_16 fk_C_229 rfl dX11_severity_7 ?_
  refine g_aload_n C dX11_severity_10 0 rfl ?_
  refine g_iload_n C dX11_severity_11 1 rfl ?_
  obtain ⟨z6, hc5, h⟩ := ocR_1 h
  refine g_callVR C 1 6 0 q_0 vk_C_119 hR rfl (m_C_checkedBrief C.2.2.2.2.2.2.1 hl9 hc5) rfl rfl rfl dX11_severity_12 rfl rfl rfl rfl (fun r3 e8 => ?_) (fun et3 e8 => ?_)
  · subst e8
    replace h := ocR_i h
    have hg9 := gd_1 h
    replace h := gd_2 h
    refine g_iald C 21 q_21 hg9 _ rfl dX11_severity_15 ?_
    exact g_iretX C hr hlk rfl rfl rfl (oR_i h) dX11_severity_16
  · subst e8
    replace h := ocR_t h
    exact g_prop C hx hlk rfl rfl (oR_t h)
set_option maxHeartbeats 4000000 in
set_option maxRecDepth 100000 in
theorem m_C_statementCount {w : wT} {l : Launch} {d : Dt} {rE : Int32} (hO : okW w) (h : f_C_statementCount  d = some rE) : gM w l yX11_statementCount cX11_statementCount 1 (Option.some Jvm.ClassFile.FieldType.int) 0 [.ref (w_r w 0)] d d (some (.int rE)) := by
  refine gM_of (by decide) [(0, .ref (w_r w 0))] rfl rfl ?_ hO
  intro p e R s m args below meth c C hR hr hlk
  unfold f_C_statementCount at h
  refine g_aload_n C dX11_statementCount_0 0 rfl ?_
  refine g_get C (.ref (w_r w 2)) 0 q_0 fk_C_10 rfl dX11_statementCount_1 ?_
  refine g_get C (.ref (w_r w 22)) 2 q_2 fk_C_128 rfl dX11_statementCount_4 ?_
  refine g_get C (.int (d 22 0)) 22 q_22 fk_C_251 rfl dX11_statementCount_7 ?_
  exact g_iret C hr hlk rfl rfl (congrArg (fun z => some (Value.int z)) (Option.some.inj h)) dX11_statementCount_10
set_option maxHeartbeats 4000000 in
set_option maxRecDepth 100000 in
theorem m_C_undo {w : wT} {l : Launch} {d : Dt} {zE : ((Int32 × Dt) ⊕ (Nat × Dt))} (hO : okW w) (hl9 : l.stackTraces = false) (h : f_C_undo  d = some zE) : gMX w l yX11_undo cX11_undo 1 (Option.some Jvm.ClassFile.FieldType.int) 6 1 6 [.ref (w_r w 0)] d (oW zE) := by
  refine gMX_of (by decide) [(0, .ref (w_r w 0))] rfl rfl ?_ hO
  intro p e R s m args below meth c C hR hr hlk hx
  have R37 : ∀ (v1 : Int32) (d : Dt), f_C_undo_37  v1 d = some zE → gG w p l e R s m args below meth c 1 0 0 (gEX w below args s 1 6 (oW zE)) d [(0, .ref (w_r w 0))] 37 [.int v1, .ref (w_r w 0)] := by
    intro  v1 d  h
    unfold f_C_undo_37 at h
    refine g_put C 0 q_0 pk_C_419 rfl rfl dX11_undo_37 ?_
    obtain ⟨d4, hd4, h⟩ := bnd_1 h
    refine g_nmD hd4 ?_
    refine g_aload_n C dX11_undo_40 0 rfl ?_
    refine g_dup C dX11_undo_41 rfl ?_
    refine g_get C (.int (d4 0 10)) 0 q_0 fk_C_414 rfl dX11_undo_42 ?_
    refine g_iconst C dX11_undo_45 (v := 1) rfl ?_
    refine g_isub C dX11_undo_46  ?_
    refine g_put C 0 q_0 pk_C_414 rfl rfl dX11_undo_47 ?_
    obtain ⟨d5, hd5, h⟩ := bnd_1 h
    refine g_nmD hd5 ?_
    refine g_aload_n C dX11_undo_50 0 rfl ?_
    refine g_get C (.ref (w_r w 2)) 0 q_0 fk_C_10 rfl dX11_undo_51 ?_
    refine g_aload_n C dX11_undo_54 0 rfl ?_
    refine g_get C (.ref (w_r w 1)) 0 q_0 fk_C_22 rfl dX11_undo_55 ?_
    refine g_aload_n C dX11_undo_58 0 rfl ?_
    refine g_get C (.int (d5 0 9)) 0 q_0 fk_C_419 rfl dX11_undo_59 ?_
    have hg6 := gd_1 h
    replace h := gd_2 h
    refine g_aald3 C 1 q_1 hg6 dX11_undo_62 ?_
    obtain ⟨d7, hc8, h⟩ := ob1_1 h
    refine g_callVv C 2 q_2 vk_C_377 hR rfl (m_S_copyFrom C.2.2.2.2.2.2.1 stB_2 (stB_h hg6) hc8) rfl rfl rfl dX11_undo_63 rfl rfl ?_
    refine g_aload_n C dX11_undo_66 0 rfl ?_
    refine g_get C (.int (d7 0 10)) 0 q_0 fk_C_414 rfl dX11_undo_67 ?_
    exact g_iretX C hr hlk rfl rfl rfl (oW_i h) dX11_undo_70
  unfold f_C_undo at h
  refine g_aload_n C dX11_undo_0 0 rfl ?_
  refine g_get C (.int (d 0 10)) 0 q_0 fk_C_414 rfl dX11_undo_1 ?_
  refine g_if_ne C dX11_undo_4 (tgt := 18) rfl (fun q => ?_) (fun q => ?_)
  · replace h := it_f q h
    refine g_aload_n C dX11_undo_18 0 rfl ?_
    refine g_aload_n C dX11_undo_19 0 rfl ?_
    refine g_get C (.int (d 0 9)) 0 q_0 fk_C_419 rfl dX11_undo_20 ?_
    refine g_if_ne C dX11_undo_23 (tgt := 31) rfl (fun q => ?_) (fun q => ?_)
    · replace h := it_f q h
      refine g_aload_n C dX11_undo_31 0 rfl ?_
      refine g_get C (.int (d 0 9)) 0 q_0 fk_C_419 rfl dX11_undo_32 ?_
      refine g_iconst C dX11_undo_35 (v := 1) rfl ?_
      refine g_isub C dX11_undo_36  ?_
      exact R37 ((d 0 9) - 1) d h
    · replace h := it_t q h
      refine g_bipush C dX11_undo_26 (v := 7) (by decide) ?_
      refine g_goto C dX11_undo_28 (tgt := 37) rfl ?_
      exact R37 7 d h
  · replace h := it_t q h
    exact g_throwSW C hl9 th_C_78_82 (i := 27) (by decide) (by decide +kernel) (by decide +kernel) hx hlk hR rfl dX11_undo_7 dX11_undo_10 dX11_undo_11 dX11_undo_14 dX11_undo_17 rfl rfl rfl rfl rfl (oW_t h)
set_option maxHeartbeats 4000000 in
set_option maxRecDepth 100000 in
theorem m_C_undoCount {w : wT} {l : Launch} {d : Dt} {rE : Int32} (hO : okW w) (h : f_C_undoCount  d = some rE) : gM w l yX11_undoCount cX11_undoCount 1 (Option.some Jvm.ClassFile.FieldType.int) 0 [.ref (w_r w 0)] d d (some (.int rE)) := by
  refine gM_of (by decide) [(0, .ref (w_r w 0))] rfl rfl ?_ hO
  intro p e R s m args below meth c C hR hr hlk
  unfold f_C_undoCount at h
  refine g_aload_n C dX11_undoCount_0 0 rfl ?_
  refine g_get C (.int (d 0 10)) 0 q_0 fk_C_414 rfl dX11_undoCount_1 ?_
  exact g_iret C hr hlk rfl rfl (congrArg (fun z => some (Value.int z)) (Option.some.inj h)) dX11_undoCount_4
set_option maxHeartbeats 4000000 in
set_option maxRecDepth 100000 in
theorem m_C_verdict {w : wT} {l : Launch} {x1 : Int32} {d : Dt} {zE : ((Int32 × Dt) ⊕ (Nat × Dt))} (hO : okW w) (hl9 : l.stackTraces = false) (h : f_C_verdict x1 d = some zE) : gMX w l yX11_verdict cX11_verdict 2 (Option.some Jvm.ClassFile.FieldType.char) 7 1 6 [.ref (w_r w 0), .int x1] d (oW zE) := by
  refine gMX_of (by decide) [(0, .ref (w_r w 0)), (1, .int x1)] rfl rfl ?_ hO
  intro p e R s m args below meth c C hR hr hlk hx
  unfold f_C_verdict at h
  refine g_aload_n C dX11_verdict_0 0 rfl ?_
  refine g_iload_n C dX11_verdict_1 1 rfl ?_
  obtain ⟨z6, hc5, h⟩ := ocU_1 h
  refine g_callVU C 1 6 0 q_0 vk_C_93 hR rfl (m_C_checkLantern C.2.2.2.2.2.2.1 hl9 hc5) rfl rfl rfl dX11_verdict_2 rfl rfl rfl rfl (fun e8 => ?_) (fun et3 e8 => ?_)
  · subst e8
    replace h := ocU_i h
    refine g_aload_n C dX11_verdict_5 0 rfl ?_
    refine g_get C (.ref (w_r w 281)) 0 q_0 fk_C_36 rfl dX11_verdict_6 ?_
    refine g_aload_n C dX11_verdict_9 0 rfl ?_
    refine g_get C (.ref (w_r w 2)) 0 q_0 fk_C_10 rfl dX11_verdict_10 ?_
    refine g_get C (.ref (w_r w 3)) 2 q_2 fk_C_68 rfl dX11_verdict_13 ?_
    refine g_aload_n C dX11_verdict_16 0 rfl ?_
    refine g_get C (.ref (w_r w 2)) 0 q_0 fk_C_10 rfl dX11_verdict_17 ?_
    refine g_get C (.ref (w_r w 22)) 2 q_2 fk_C_128 rfl dX11_verdict_20 ?_
    refine g_iconst C dX11_verdict_23 (v := (-1)) (by decide) ?_
    obtain ⟨d9, hc10, h⟩ := ob1_1 h
    refine g_callVv C 281 q_281 vk_C_262 hR rfl (m_G_find C.2.2.2.2.2.2.1 hc10) rfl rfl rfl dX11_verdict_24 rfl rfl ?_
    refine g_aload_n C dX11_verdict_27 0 rfl ?_
    refine g_get C (.ref (w_r w 281)) 0 q_0 fk_C_36 rfl dX11_verdict_28 ?_
    refine g_iload_n C dX11_verdict_31 1 rfl ?_
    obtain ⟨r11, hc12, h⟩ := ob1_1 h
    refine g_callVi C 281 q_281 vk_C_284 hR rfl (m_G_verdictOn C.2.2.2.2.2.2.1 hc12) rfl rfl rfl dX11_verdict_32 rfl rfl ?_
    have hg13 := gd_1 h
    replace h := gd_2 h
    exact g_iretX C hr hlk (nar_n hg13) rfl rfl (oW_i h) dX11_verdict_35
  · subst e8
    replace h := ocU_t h
    exact g_prop C hx hlk rfl rfl (oW_t h)
set_option maxHeartbeats 4000000 in
set_option maxRecDepth 100000 in
theorem m_C_verdictByExplanations {w : wT} {l : Launch} {x1 : Int32} {d : Dt} {zE : ((Int32 × Dt) ⊕ (Nat × Dt))} (hO : okW w) (hl9 : l.stackTraces = false) (h : f_C_verdictByExplanations x1 d = some zE) : gMX w l yX11_verdictByExplanations cX11_verdictByExplanations 2 (Option.some Jvm.ClassFile.FieldType.char) 7 1 6 [.ref (w_r w 0), .int x1] d (oW zE) := by
  refine gMX_of (by decide) [(0, .ref (w_r w 0)), (1, .int x1)] rfl rfl ?_ hO
  intro p e R s m args below meth c C hR hr hlk hx
  unfold f_C_verdictByExplanations at h
  refine g_aload_n C dX11_verdictByExplanations_0 0 rfl ?_
  refine g_iload_n C dX11_verdictByExplanations_1 1 rfl ?_
  obtain ⟨z6, hc5, h⟩ := ocU_1 h
  refine g_callVU C 1 6 0 q_0 vk_C_93 hR rfl (m_C_checkLantern C.2.2.2.2.2.2.1 hl9 hc5) rfl rfl rfl dX11_verdictByExplanations_2 rfl rfl rfl rfl (fun e8 => ?_) (fun et3 e8 => ?_)
  · subst e8
    replace h := ocU_i h
    refine g_aload_n C dX11_verdictByExplanations_5 0 rfl ?_
    refine g_get C (.ref (w_r w 286)) 0 q_0 fk_C_43 rfl dX11_verdictByExplanations_6 ?_
    refine g_iload_n C dX11_verdictByExplanations_9 1 rfl ?_
    refine g_aload_n C dX11_verdictByExplanations_10 0 rfl ?_
    refine g_get C (.ref (w_r w 2)) 0 q_0 fk_C_10 rfl dX11_verdictByExplanations_11 ?_
    refine g_get C (.ref (w_r w 3)) 2 q_2 fk_C_68 rfl dX11_verdictByExplanations_14 ?_
    refine g_aload_n C dX11_verdictByExplanations_17 0 rfl ?_
    refine g_get C (.ref (w_r w 2)) 0 q_0 fk_C_10 rfl dX11_verdictByExplanations_18 ?_
    refine g_get C (.ref (w_r w 22)) 2 q_2 fk_C_128 rfl dX11_verdictByExplanations_21 ?_
    obtain ⟨r9, d10, hc11, h⟩ := ob2_1 h
    refine g_callVi C 286 q_286 vk_C_288 hR rfl (m_R_verdictOn C.2.2.2.2.2.2.1 hc11) rfl rfl rfl dX11_verdictByExplanations_24 rfl rfl ?_
    have hg12 := gd_1 h
    replace h := gd_2 h
    exact g_iretX C hr hlk (nar_n hg12) rfl rfl (oW_i h) dX11_verdictByExplanations_27
  · subst e8
    replace h := ocU_t h
    exact g_prop C hx hlk rfl rfl (oW_t h)
set_option maxHeartbeats 4000000 in
set_option maxRecDepth 100000 in
theorem m_C_withdraw {w : wT} {l : Launch} {x1 : Int32} {d : Dt} {zE : ((Int32 × Dt) ⊕ (Nat × Dt))} (hO : okW w) (hl9 : l.stackTraces = false) (h : f_C_withdraw x1 d = some zE) : gMX w l yX11_withdraw cX11_withdraw 3 (Option.some Jvm.ClassFile.FieldType.int) 7 1 6 [.ref (w_r w 0), .int x1] d (oW zE) := by
  refine gMX_of (by decide) [(0, .ref (w_r w 0)), (1, .int x1)] rfl rfl ?_ hO
  intro p e R s m args below meth c C hR hr hlk hx
  unfold f_C_withdraw at h
  refine g_aload_n C dX11_withdraw_0 0 rfl ?_
  refine g_iload_n C dX11_withdraw_1 1 rfl ?_
  obtain ⟨z9, hc8, h⟩ := ocR_1 h
  refine g_callVR C 1 6 0 q_0 vk_C_119 hR rfl (m_C_checkedBrief C.2.2.2.2.2.2.1 hl9 hc8) rfl rfl rfl dX11_withdraw_2 rfl rfl rfl rfl (fun r6 e11 => ?_) (fun et6 e11 => ?_)
  · subst e11
    replace h := ocR_i h
    refine g_istore_n C (lv' := [(2, .int r6), (0, .ref (w_r w 0)), (1, .int x1)]) dX11_withdraw_5 (by decide) rfl ?_
    refine g_aload_n C dX11_withdraw_6 1 rfl ?_
    refine g_aload_n C dX11_withdraw_7 1 rfl ?_
    refine g_get C (.ref (w_r w 2)) 0 q_0 fk_C_10 rfl dX11_withdraw_8 ?_
    obtain ⟨d12, hc13, h⟩ := ob1_1 h
    refine g_callVv C 0 q_0 vk_C_85 hR rfl (m_C_remember C.2.2.2.2.2.2.1 hc13) rfl rfl rfl dX11_withdraw_11 rfl rfl ?_
    refine g_aload_n C dX11_withdraw_14 1 rfl ?_
    refine g_get C (.ref (w_r w 2)) 0 q_0 fk_C_10 rfl dX11_withdraw_15 ?_
    refine g_iload_n C dX11_withdraw_18 0 rfl ?_
    obtain ⟨r14, d15, hc16, h⟩ := ob2_1 h
    refine g_callVi C 2 q_2 vk_C_123 hR rfl (m_S_giveBack C.2.2.2.2.2.2.1 hc16) rfl rfl rfl dX11_withdraw_19 rfl rfl ?_
    exact g_iretX C hr hlk rfl rfl rfl (oW_i h) dX11_withdraw_22
  · subst e11
    replace h := ocR_t h
    exact g_prop C hx hlk rfl rfl (oW_t h)
set_option maxHeartbeats 4000000 in
set_option maxRecDepth 100000 in
theorem m_O_put {w : wT} {l : Launch} {x1 : Int32} {d : Dt} {dE : Dt} (hO : okW w) (h : f_O_put x1 d = some dE) : gM w l yX6_put cX6_put 2 (Option.none : Option Jvm.ClassFile.FieldType) 0 [.ref (w_r w 290), .int x1] d dE none := by
  refine gM_of (by decide) [(0, .ref (w_r w 290)), (1, .int x1)] rfl rfl ?_ hO
  intro p e R s m args below meth c C hR hr hlk
  unfold f_O_put at h
  refine g_aload_n C dX6_put_0 0 rfl ?_
  refine g_get C (.int (d 290 1)) 290 q_290 fk_O_15 rfl dX6_put_1 ?_
  refine g_aload_n C dX6_put_4 0 rfl ?_
  refine g_get C (.ref (w_r w 291)) 290 q_290 fk_O_9 rfl dX6_put_5 ?_
  refine g_alen C 128 291 q_291 rfl 1 rfl (by decide) dX6_put_8 ?_
  refine g_icmp_ge C dX6_put_9 (tgt := 32) rfl (fun q => ?_) (fun q => ?_)
  · replace h := it_t q h
    exact g_vret C hr hlk (Option.some.inj h) rfl dX6_put_32
  · replace h := it_f q h
    refine g_aload_n C dX6_put_12 0 rfl ?_
    refine g_get C (.ref (w_r w 291)) 290 q_290 fk_O_9 rfl dX6_put_13 ?_
    refine g_aload_n C dX6_put_16 0 rfl ?_
    refine g_get C (.int (d 290 1)) 290 q_290 fk_O_15 rfl dX6_put_17 ?_
    refine g_iload_n C dX6_put_20 1 rfl ?_
    have hg3 := gd_1 h
    replace h := gd_2 h
    have hg4 := gd_1 h
    replace h := gd_2 h
    refine g_cast C 291 q_291 hg3 _ rfl (nar_v hg4) dX6_put_21 ?_
    obtain ⟨d5, hd5, h⟩ := bnd_1 h
    refine g_nmD hd5 ?_
    refine g_aload_n C dX6_put_22 0 rfl ?_
    refine g_dup C dX6_put_23 rfl ?_
    refine g_get C (.int (d5 290 1)) 290 q_290 fk_O_15 rfl dX6_put_24 ?_
    refine g_iconst C dX6_put_27 (v := 1) rfl ?_
    refine g_iadd C dX6_put_28  ?_
    refine g_put C 290 q_290 pk_O_15 rfl rfl dX6_put_29 ?_
    obtain ⟨d6, hd6, h⟩ := bnd_1 h
    refine g_nmD hd6 ?_
    exact g_vret C hr hlk (Option.some.inj h) rfl dX6_put_32
set_option maxHeartbeats 4000000 in
set_option maxRecDepth 100000 in
theorem m_O_putNumber {w : wT} {l : Launch} {x1 : Int32} {d : Dt} {dE : Dt} (hO : okW w) (h : f_O_putNumber x1 d = some dE) : gM w l yX6_putNumber cX6_putNumber 3 (Option.none : Option Jvm.ClassFile.FieldType) 1 [.ref (w_r w 290), .int x1] d dE none := by
  refine gM_of (by decide) [(0, .ref (w_r w 290)), (1, .int x1)] rfl rfl ?_ hO
  intro p e R s m args below meth c C hR hr hlk
  have R3 : ∀ (x1 : Int32) (x2 : Int32) (d : Dt), f_O_putNumber_3 x1 x2 d = some dE → gG w p l e R s m args below meth c 3 0 0 (gE w below args s dE none) d [(0, .ref (w_r w 290)), (1, .int x1), (2, .int x2)] 3 [] := by
    intro x1 x2 d  h
    refine iter_ind (G := fun s_ : (Int32 × Dt) => gG w p l e R s m args below meth c 3 0 0 (gE w below args s dE none) s_.2 [(0, .ref (w_r w 290)), (1, .int x1), (2, .int s_.1)] 3 []) ?_ fu _ h
    clear h
    intro s_ y1 h hl1 hx1
    obtain ⟨x2, d⟩ := s_
    show gG w p l e R s m args below meth c 3 0 0 (gE w below args s dE none) d [(0, .ref (w_r w 290)), (1, .int x1), (2, .int x2)] 3 []
    dsimp only at h
    unfold st_O_putNumber_3 at h
    have R18 : ∀ (x2 : Int32) (d : Dt), f_O_putNumber_18 x1 x2  d = some y1 → gG w p l e R s m args below meth c 3 0 0 (gE w below args s dE none) d [(0, .ref (w_r w 290)), (1, .int x1), (2, .int x2)] 18 [] := by
      intro x2  d  h
      unfold f_O_putNumber_18 at h
      refine g_aload_n C dX6_putNumber_18 0 rfl ?_
      refine g_bipush C dX6_putNumber_19 (v := 48) (by decide) ?_
      refine g_iload_n C dX6_putNumber_21 1 rfl ?_
      refine g_iload_n C dX6_putNumber_22 2 rfl ?_
      have hg2 := of_decide_eq_true (gd_1 h)
      replace h := gd_2 h
      refine g_idiv C dX6_putNumber_23 hg2 ?_
      refine g_bipush C dX6_putNumber_24 (v := 10) (by decide) ?_
      refine g_irem C dX6_putNumber_26 (by decide) ?_
      refine g_iadd C dX6_putNumber_27  ?_
      refine g_i2c C dX6_putNumber_28  ?_
      obtain ⟨d3, hc4, h⟩ := ob1_1 h
      refine g_callVv C 290 q_290 vk_O_20 hR rfl (m_O_put C.2.2.2.2.2.2.1 hc4) rfl rfl rfl dX6_putNumber_29 rfl rfl ?_
      refine g_iload_n C dX6_putNumber_32 2 rfl ?_
      refine g_bipush C dX6_putNumber_33 (v := 10) (by decide) ?_
      refine g_idiv C dX6_putNumber_35 (by decide) ?_
      refine g_istore_n C (lv' := [(2, .int (x2 / 10)), (0, .ref (w_r w 290)), (1, .int x1)]) dX6_putNumber_36 (by decide) rfl ?_
      refine g_goto C dX6_putNumber_37 (tgt := 3) rfl ?_
      refine g_sub [1, 2, 0] (lv' := [(0, .ref (w_r w 290)), (1, .int x1), (2, .int (x2 / 10))]) rfl ?_
      exact hl1 ((x2 / 10), d3) (Option.some.inj h).symm
    refine g_iload_n C dX6_putNumber_3 2 rfl ?_
    refine g_iconst C dX6_putNumber_4 (v := 1) rfl ?_
    refine g_icmp_lt C dX6_putNumber_5 (tgt := 40) rfl (fun q => ?_) (fun q => ?_)
    · replace h := it_t q h
      replace h := ir_2 h hx1
      exact g_vret C hr hlk (Option.some.inj h) rfl dX6_putNumber_40
    · replace h := it_f q h
      refine g_iload_n C dX6_putNumber_8 1 rfl ?_
      refine g_iload_n C dX6_putNumber_9 2 rfl ?_
      refine g_icmp_ge C dX6_putNumber_10 (tgt := 18) rfl (fun q => ?_) (fun q => ?_)
      · replace h := it_t q h
        exact R18 x2 d h
      · replace h := it_f q h
        refine g_iload_n C dX6_putNumber_13 2 rfl ?_
        refine g_iconst C dX6_putNumber_14 (v := 1) rfl ?_
        refine g_icmp_ne C dX6_putNumber_15 (tgt := 32) rfl (fun q => ?_) (fun q => ?_)
        · replace h := it_f q h
          refine g_iload_n C dX6_putNumber_32 2 rfl ?_
          refine g_bipush C dX6_putNumber_33 (v := 10) (by decide) ?_
          refine g_idiv C dX6_putNumber_35 (by decide) ?_
          refine g_istore_n C (lv' := [(2, .int (x2 / 10)), (0, .ref (w_r w 290)), (1, .int x1)]) dX6_putNumber_36 (by decide) rfl ?_
          refine g_goto C dX6_putNumber_37 (tgt := 3) rfl ?_
          refine g_sub [1, 2, 0] (lv' := [(0, .ref (w_r w 290)), (1, .int x1), (2, .int (x2 / 10))]) rfl ?_
          exact hl1 ((x2 / 10), d) (Option.some.inj h).symm
        · replace h := it_t q h
          exact R18 x2 d h
  unfold f_O_putNumber at h
  refine g_ldc C (v := 1000000000) (wA 609 (by decide +kernel) (by decide +kernel)) dX6_putNumber_0 ?_
  refine g_istore_n C (lv' := [(2, .int 1000000000), (0, .ref (w_r w 290)), (1, .int x1)]) dX6_putNumber_2 (by decide) rfl ?_
  refine g_sub [1, 2, 0] (lv' := [(0, .ref (w_r w 290)), (1, .int x1), (2, .int 1000000000)]) rfl ?_
  exact R3 x1 1000000000 d h
set_option maxHeartbeats 4000000 in
set_option maxRecDepth 100000 in
theorem m_O_empty {w : wT} {l : Launch} {d : Dt} {dE : Dt} (hO : okW w) (h : f_O_empty  d = some dE) : gM w l yX6_empty cX6_empty 1 (Option.none : Option Jvm.ClassFile.FieldType) 0 [.ref (w_r w 290)] d dE none := by
  refine gM_of (by decide) [(0, .ref (w_r w 290))] rfl rfl ?_ hO
  intro p e R s m args below meth c C hR hr hlk
  unfold f_O_empty at h
  refine g_aload_n C dX6_empty_0 0 rfl ?_
  refine g_iconst C dX6_empty_1 (v := 0) rfl ?_
  refine g_put C 290 q_290 pk_O_15 rfl rfl dX6_empty_2 ?_
  obtain ⟨d2, hd2, h⟩ := bnd_1 h
  refine g_nmD hd2 ?_
  exact g_vret C hr hlk (Option.some.inj h) rfl dX6_empty_5
set_option maxHeartbeats 4000000 in
set_option maxRecDepth 100000 in
theorem m_C_writeLantern {w : wT} {l : Launch} {x1 : Int32} {d : Dt} {zE : ((Int32 × Dt) ⊕ (Nat × Dt))} (hO : okW w) (hl9 : l.stackTraces = false) (h : f_C_writeLantern x1 d = some zE) : gMX w l yX11_writeLantern cX11_writeLantern 3 (Option.some Jvm.ClassFile.FieldType.int) 7 1 6 [.ref (w_r w 0), .int x1] d (oW zE) := by
  refine gMX_of (by decide) [(0, .ref (w_r w 0)), (1, .int x1)] rfl rfl ?_ hO
  intro p e R s m args below meth c C hR hr hlk hx
  have R99 : ∀ (x1 : Int32) (x2 : Int32) (d : Dt), f_C_writeLantern_99 x1 x2 d = some zE → gG w p l e R s m args below meth c 3 1 6 (gEX w below args s 1 6 (oW zE)) d [(0, .ref (w_r w 0)), (1, .int x1), (2, .int x2)] 99 [] := by
    intro x1 x2 d  h
    refine iter_ind (G := fun s_ : (Int32 × Dt) => gG w p l e R s m args below meth c 3 1 6 (gEX w below args s 1 6 (oW zE)) s_.2 [(0, .ref (w_r w 0)), (1, .int x1), (2, .int s_.1)] 99 []) ?_ fu _ h
    clear h
    intro s_ y1 h hl1 hx1
    obtain ⟨x2, d⟩ := s_
    show gG w p l e R s m args below meth c 3 1 6 (gEX w below args s 1 6 (oW zE)) d [(0, .ref (w_r w 0)), (1, .int x1), (2, .int x2)] 99 []
    dsimp only at h
    unfold st_C_writeLantern_99 at h
    refine g_iload_n C dX11_writeLantern_99 2 rfl ?_
    refine g_aload_n C dX11_writeLantern_100 0 rfl ?_
    refine g_get C (.ref (w_r w 2)) 0 q_0 fk_C_10 rfl dX11_writeLantern_101 ?_
    refine g_get C (.ref (w_r w 3)) 2 q_2 fk_C_68 rfl dX11_writeLantern_104 ?_
    refine g_get C (.ref (w_r w 6)) 3 q_3 fk_C_189 rfl dX11_writeLantern_107 ?_
    refine g_iload_n C dX11_writeLantern_110 1 rfl ?_
    have hg9 := gd_1 h
    replace h := gd_2 h
    refine g_iald C 6 q_6 hg9 _ rfl dX11_writeLantern_111 ?_
    refine g_icmp_ge C dX11_writeLantern_112 (tgt := 151) rfl (fun q => ?_) (fun q => ?_)
    · replace h := it_t q h
      replace h := ir_2 h hx1
      refine g_aload_n C dX11_writeLantern_151 0 rfl ?_
      refine g_get C (.ref (w_r w 290)) 0 q_0 fk_C_57 rfl dX11_writeLantern_152 ?_
      refine g_get C (.int (d 290 1)) 290 q_290 fk_C_400 rfl dX11_writeLantern_155 ?_
      exact g_iretX C hr hlk rfl rfl rfl (oW_i h) dX11_writeLantern_158
    · replace h := it_f q h
      refine g_aload_n C dX11_writeLantern_115 0 rfl ?_
      refine g_get C (.ref (w_r w 290)) 0 q_0 fk_C_57 rfl dX11_writeLantern_116 ?_
      refine g_bipush C dX11_writeLantern_119 (v := 47) (by decide) ?_
      obtain ⟨d10, hc11, h⟩ := ob1_1 h
      refine g_callVv C 290 q_290 vk_C_396 hR rfl (m_O_put C.2.2.2.2.2.2.1 hc11) rfl rfl rfl dX11_writeLantern_121 rfl rfl ?_
      refine g_aload_n C dX11_writeLantern_124 0 rfl ?_
      refine g_get C (.ref (w_r w 290)) 0 q_0 fk_C_57 rfl dX11_writeLantern_125 ?_
      refine g_aload_n C dX11_writeLantern_128 0 rfl ?_
      refine g_get C (.ref (w_r w 2)) 0 q_0 fk_C_10 rfl dX11_writeLantern_129 ?_
      refine g_get C (.ref (w_r w 3)) 2 q_2 fk_C_68 rfl dX11_writeLantern_132 ?_
      refine g_get C (.ref (w_r w 7)) 3 q_3 fk_C_192 rfl dX11_writeLantern_135 ?_
      refine g_iload_n C dX11_writeLantern_138 1 rfl ?_
      have hg12 := gd_1 h
      replace h := gd_2 h
      refine g_aald C 7 q_7 hg12 dX11_writeLantern_139 ?_
      refine g_iload_n C dX11_writeLantern_140 2 rfl ?_
      have hg13 := gd_1 h
      replace h := gd_2 h
      refine g_iald C (8 + x1.toNatClampNeg) (isC_row8 hg12) hg13 _ rfl dX11_writeLantern_141 ?_
      obtain ⟨d14, hc15, h⟩ := ob1_1 h
      refine g_callVv C 290 q_290 vk_C_393 hR rfl (m_O_putNumber C.2.2.2.2.2.2.1 hc15) rfl rfl rfl dX11_writeLantern_142 rfl rfl ?_
      refine g_iinc C (lv' := [(2, .int (x2 + 1)), (0, .ref (w_r w 0)), (1, .int x1)]) (v := (x2 + 1)) dX11_writeLantern_145 2 rfl rfl (by decide) rfl ?_
      refine g_goto C dX11_writeLantern_148 (tgt := 99) rfl ?_
      refine g_sub [1, 2, 0] (lv' := [(0, .ref (w_r w 0)), (1, .int x1), (2, .int (x2 + 1))]) rfl ?_
      exact hl1 ((x2 + 1), d14) (Option.some.inj h).symm
  have R94 : ∀ (x1 : Int32) (v1 : Int32) (d : Dt), f_C_writeLantern_94 x1 v1 d = some zE → gG w p l e R s m args below meth c 3 1 6 (gEX w below args s 1 6 (oW zE)) d [(0, .ref (w_r w 0)), (1, .int x1)] 94 [.int v1, .ref (w_r w 290)] := by
    intro x1 v1 d  h
    unfold f_C_writeLantern_94 at h
    obtain ⟨d16, hc17, h⟩ := ob1_1 h
    refine g_callVv C 290 q_290 vk_C_396 hR rfl (m_O_put C.2.2.2.2.2.2.1 hc17) rfl rfl rfl dX11_writeLantern_94 rfl rfl ?_
    refine g_iconst C dX11_writeLantern_97 (v := 0) rfl ?_
    refine g_istore_n C (lv' := [(2, .int 0), (0, .ref (w_r w 0)), (1, .int x1)]) dX11_writeLantern_98 (by decide) rfl ?_
    refine g_sub [1, 2, 0] (lv' := [(0, .ref (w_r w 0)), (1, .int x1), (2, .int 0)]) rfl ?_
    exact R99 x1 0 d16 h
  have R22 : ∀ (x1 : Int32) (x2 : Int32) (d : Dt), f_C_writeLantern_22 x1 x2 d = some zE → gG w p l e R s m args below meth c 3 1 6 (gEX w below args s 1 6 (oW zE)) d [(0, .ref (w_r w 0)), (1, .int x1), (2, .int x2)] 22 [] := by
    intro x1 x2 d  h
    refine iter_ind (G := fun s_ : (Int32 × Dt) => gG w p l e R s m args below meth c 3 1 6 (gEX w below args s 1 6 (oW zE)) s_.2 [(0, .ref (w_r w 0)), (1, .int x1), (2, .int s_.1)] 22 []) ?_ fu _ h
    clear h
    intro s_ y1 h hl1 hx1
    obtain ⟨x2, d⟩ := s_
    show gG w p l e R s m args below meth c 3 1 6 (gEX w below args s 1 6 (oW zE)) d [(0, .ref (w_r w 0)), (1, .int x1), (2, .int x2)] 22 []
    dsimp only at h
    unfold st_C_writeLantern_22 at h
    refine g_iload_n C dX11_writeLantern_22 2 rfl ?_
    refine g_aload_n C dX11_writeLantern_23 0 rfl ?_
    refine g_get C (.ref (w_r w 2)) 0 q_0 fk_C_10 rfl dX11_writeLantern_24 ?_
    refine g_get C (.ref (w_r w 3)) 2 q_2 fk_C_68 rfl dX11_writeLantern_27 ?_
    refine g_get C (.ref (w_r w 4)) 3 q_3 fk_C_186 rfl dX11_writeLantern_30 ?_
    refine g_iload_n C dX11_writeLantern_33 1 rfl ?_
    have hg18 := gd_1 h
    replace h := gd_2 h
    refine g_iald C 4 q_4 hg18 _ rfl dX11_writeLantern_34 ?_
    refine g_icmp_ge C dX11_writeLantern_35 (tgt := 53) rfl (fun q => ?_) (fun q => ?_)
    · replace h := it_t q h
      replace h := ir_2 h hx1
      refine g_aload_n C dX11_writeLantern_53 0 rfl ?_
      refine g_get C (.ref (w_r w 2)) 0 q_0 fk_C_10 rfl dX11_writeLantern_54 ?_
      refine g_get C (.ref (w_r w 3)) 2 q_2 fk_C_68 rfl dX11_writeLantern_57 ?_
      refine g_get C (.ref (w_r w 5)) 3 q_3 fk_C_156 rfl dX11_writeLantern_60 ?_
      refine g_iload_n C dX11_writeLantern_63 1 rfl ?_
      have hg19 := gd_1 h
      replace h := gd_2 h
      refine g_iald C 5 q_5 hg19 _ rfl dX11_writeLantern_64 ?_
      refine g_if_eq C dX11_writeLantern_65 (tgt := 97) rfl (fun q => ?_) (fun q => ?_)
      · replace h := it_t q h
        refine g_iconst C dX11_writeLantern_97 (v := 0) rfl ?_
        refine g_istore_n C (lv' := [(2, .int 0), (0, .ref (w_r w 0)), (1, .int x1)]) dX11_writeLantern_98 (by decide) rfl ?_
        refine g_sub [1, 2, 0] (lv' := [(0, .ref (w_r w 0)), (1, .int x1), (2, .int 0)]) rfl ?_
        exact R99 x1 0 d h
      · replace h := it_f q h
        refine g_aload_n C dX11_writeLantern_68 0 rfl ?_
        refine g_get C (.ref (w_r w 290)) 0 q_0 fk_C_57 rfl dX11_writeLantern_69 ?_
        refine g_aload_n C dX11_writeLantern_72 0 rfl ?_
        refine g_get C (.ref (w_r w 2)) 0 q_0 fk_C_10 rfl dX11_writeLantern_73 ?_
        refine g_get C (.ref (w_r w 3)) 2 q_2 fk_C_68 rfl dX11_writeLantern_76 ?_
        refine g_iload_n C dX11_writeLantern_79 1 rfl ?_
        refine g_iconst C dX11_writeLantern_80 (v := 1) rfl ?_
        obtain ⟨r20, hc21, h⟩ := ob1_1 h
        refine g_callVi C 3 q_3 vk_C_146 hR rfl (m_L_admits C.2.2.2.2.2.2.1 hc21) rfl rfl rfl dX11_writeLantern_81 rfl rfl ?_
        refine g_if_eq C dX11_writeLantern_84 (tgt := 92) rfl (fun q => ?_) (fun q => ?_)
        · replace h := it_t q h
          refine g_bipush C dX11_writeLantern_92 (v := 105) (by decide) ?_
          refine g_sub [0, 1] (lv' := [(0, .ref (w_r w 0)), (1, .int x1)]) rfl ?_
          exact R94 x1 105 d h
        · replace h := it_f q h
          refine g_bipush C dX11_writeLantern_87 (v := 103) (by decide) ?_
          refine g_goto C dX11_writeLantern_89 (tgt := 94) rfl ?_
          refine g_sub [0, 1] (lv' := [(0, .ref (w_r w 0)), (1, .int x1)]) rfl ?_
          exact R94 x1 103 d h
    · replace h := it_f q h
      refine g_aload_n C dX11_writeLantern_38 0 rfl ?_
      refine g_get C (.ref (w_r w 290)) 0 q_0 fk_C_57 rfl dX11_writeLantern_39 ?_
      refine g_bipush C dX11_writeLantern_42 (v := 42) (by decide) ?_
      obtain ⟨d22, hc23, h⟩ := ob1_1 h
      refine g_callVv C 290 q_290 vk_C_396 hR rfl (m_O_put C.2.2.2.2.2.2.1 hc23) rfl rfl rfl dX11_writeLantern_44 rfl rfl ?_
      refine g_iinc C (lv' := [(2, .int (x2 + 1)), (0, .ref (w_r w 0)), (1, .int x1)]) (v := (x2 + 1)) dX11_writeLantern_47 2 rfl rfl (by decide) rfl ?_
      refine g_goto C dX11_writeLantern_50 (tgt := 22) rfl ?_
      refine g_sub [1, 2, 0] (lv' := [(0, .ref (w_r w 0)), (1, .int x1), (2, .int (x2 + 1))]) rfl ?_
      exact hl1 ((x2 + 1), d22) (Option.some.inj h).symm
  unfold f_C_writeLantern at h
  refine g_aload_n C dX11_writeLantern_0 0 rfl ?_
  refine g_iload_n C dX11_writeLantern_1 1 rfl ?_
  obtain ⟨z26, hc25, h⟩ := ocU_1 h
  refine g_callVU C 1 6 0 q_0 vk_C_93 hR rfl (m_C_checkLantern C.2.2.2.2.2.2.1 hl9 hc25) rfl rfl rfl dX11_writeLantern_2 rfl rfl rfl rfl (fun e28 => ?_) (fun et23 e28 => ?_)
  · subst e28
    replace h := ocU_i h
    refine g_aload_n C dX11_writeLantern_5 0 rfl ?_
    refine g_get C (.ref (w_r w 290)) 0 q_0 fk_C_57 rfl dX11_writeLantern_6 ?_
    obtain ⟨d29, hc30, h⟩ := ob1_1 h
    refine g_callVv C 290 q_290 vk_C_392 hR rfl (m_O_empty C.2.2.2.2.2.2.1 hc30) rfl rfl rfl dX11_writeLantern_9 rfl rfl ?_
    refine g_aload_n C dX11_writeLantern_12 0 rfl ?_
    refine g_get C (.ref (w_r w 290)) 0 q_0 fk_C_57 rfl dX11_writeLantern_13 ?_
    refine g_iload_n C dX11_writeLantern_16 1 rfl ?_
    obtain ⟨d31, hc32, h⟩ := ob1_1 h
    refine g_callVv C 290 q_290 vk_C_393 hR rfl (m_O_putNumber C.2.2.2.2.2.2.1 hc32) rfl rfl rfl dX11_writeLantern_17 rfl rfl ?_
    refine g_iconst C dX11_writeLantern_20 (v := 0) rfl ?_
    refine g_istore_n C (lv' := [(2, .int 0), (0, .ref (w_r w 0)), (1, .int x1)]) dX11_writeLantern_21 (by decide) rfl ?_
    refine g_sub [1, 2, 0] (lv' := [(0, .ref (w_r w 0)), (1, .int x1), (2, .int 0)]) rfl ?_
    exact R22 x1 0 d31 h
  · subst e28
    replace h := ocU_t h
    exact g_prop C hx hlk rfl rfl (oW_t h)
set_option maxHeartbeats 4000000 in
set_option maxRecDepth 100000 in
theorem m_C_writePlan {w : wT} {l : Launch} {d : Dt} {rE : Int32} {dE : Dt} (hO : okW w) (h : f_C_writePlan  d = some (rE, dE)) : gM w l yX11_writePlan cX11_writePlan 2 (Option.some Jvm.ClassFile.FieldType.int) 3 [.ref (w_r w 0)] d dE (some (.int rE)) := by
  refine gM_of (by decide) [(0, .ref (w_r w 0))] rfl rfl ?_ hO
  intro p e R s m args below meth c C hR hr hlk
  have R30 : ∀ (x1 : Int32) (d : Dt), f_C_writePlan_30 x1 d = some (rE, dE) → gG w p l e R s m args below meth c 2 0 0 (gE w below args s dE (some (.int rE))) d [(0, .ref (w_r w 0)), (1, .int x1)] 30 [] := by
    intro x1 d  h
    refine iter_ind (G := fun s_ : (Int32 × Dt) => gG w p l e R s m args below meth c 2 0 0 (gE w below args s dE (some (.int rE))) s_.2 [(0, .ref (w_r w 0)), (1, .int s_.1)] 30 []) ?_ fu _ h
    clear h
    intro s_ y1 h hl1 hx1
    obtain ⟨x1, d⟩ := s_
    show gG w p l e R s m args below meth c 2 0 0 (gE w below args s dE (some (.int rE))) d [(0, .ref (w_r w 0)), (1, .int x1)] 30 []
    dsimp only at h
    unfold st_C_writePlan_30 at h
    have R54 : ∀ (x1 : Int32) (d : Dt), f_C_writePlan_54 x1  d = some y1 → gG w p l e R s m args below meth c 2 0 0 (gE w below args s dE (some (.int rE))) d [(0, .ref (w_r w 0)), (1, .int x1)] 54 [] := by
      intro x1  d  h
      unfold f_C_writePlan_54 at h
      refine g_aload_n C dX11_writePlan_54 0 rfl ?_
      refine g_get C (.ref (w_r w 290)) 0 q_0 fk_C_57 rfl dX11_writePlan_55 ?_
      refine g_aload_n C dX11_writePlan_58 0 rfl ?_
      refine g_get C (.ref (w_r w 2)) 0 q_0 fk_C_10 rfl dX11_writePlan_59 ?_
      refine g_get C (.ref (w_r w 16)) 2 q_2 fk_C_108 rfl dX11_writePlan_62 ?_
      refine g_get C (.ref (w_r w 17)) 16 q_16 fk_C_218 rfl dX11_writePlan_65 ?_
      refine g_aload_n C dX11_writePlan_68 0 rfl ?_
      refine g_get C (.ref (w_r w 277)) 0 q_0 fk_C_29 rfl dX11_writePlan_69 ?_
      refine g_get C (.ref (w_r w 278)) 277 q_277 fk_C_404 rfl dX11_writePlan_72 ?_
      refine g_iload_n C dX11_writePlan_75 1 rfl ?_
      have hg5 := gd_1 h
      replace h := gd_2 h
      refine g_iald C 278 q_278 hg5 _ rfl dX11_writePlan_76 ?_
      have hg6 := gd_1 h
      replace h := gd_2 h
      refine g_iald C 17 q_17 hg6 _ rfl dX11_writePlan_77 ?_
      obtain ⟨d7, hc8, h⟩ := ob1_1 h
      refine g_callVv C 290 q_290 vk_C_393 hR rfl (m_O_putNumber C.2.2.2.2.2.2.1 hc8) rfl rfl rfl dX11_writePlan_78 rfl rfl ?_
      refine g_iinc C (lv' := [(1, .int (x1 + 1)), (0, .ref (w_r w 0))]) (v := (x1 + 1)) dX11_writePlan_81 1 rfl rfl (by decide) rfl ?_
      refine g_goto C dX11_writePlan_84 (tgt := 30) rfl ?_
      refine g_sub [1, 0] (lv' := [(0, .ref (w_r w 0)), (1, .int (x1 + 1))]) rfl ?_
      exact hl1 ((x1 + 1), d7) (Option.some.inj h).symm
    refine g_iload_n C dX11_writePlan_30 1 rfl ?_
    refine g_aload_n C dX11_writePlan_31 0 rfl ?_
    refine g_get C (.ref (w_r w 277)) 0 q_0 fk_C_29 rfl dX11_writePlan_32 ?_
    refine g_get C (.int (d 277 0)) 277 q_277 fk_C_403 rfl dX11_writePlan_35 ?_
    refine g_icmp_ge C dX11_writePlan_38 (tgt := 87) rfl (fun q => ?_) (fun q => ?_)
    · replace h := it_t q h
      replace h := ir_2 h hx1
      refine g_aload_n C dX11_writePlan_87 0 rfl ?_
      refine g_get C (.ref (w_r w 290)) 0 q_0 fk_C_57 rfl dX11_writePlan_88 ?_
      refine g_get C (.int (d 290 1)) 290 q_290 fk_C_400 rfl dX11_writePlan_91 ?_
      exact g_iret C hr hlk rfl (congrArg Prod.snd (Option.some.inj h)) (congrArg (fun z => some (Value.int z.1)) (Option.some.inj h)) dX11_writePlan_94
    · replace h := it_f q h
      refine g_iload_n C dX11_writePlan_41 1 rfl ?_
      refine g_if_le C dX11_writePlan_42 (tgt := 54) rfl (fun q => ?_) (fun q => ?_)
      · replace h := it_t q h
        exact R54 x1 d h
      · replace h := it_f q h
        refine g_aload_n C dX11_writePlan_45 0 rfl ?_
        refine g_get C (.ref (w_r w 290)) 0 q_0 fk_C_57 rfl dX11_writePlan_46 ?_
        refine g_bipush C dX11_writePlan_49 (v := 32) (by decide) ?_
        obtain ⟨d9, hc10, h⟩ := ob1_1 h
        refine g_callVv C 290 q_290 vk_C_396 hR rfl (m_O_put C.2.2.2.2.2.2.1 hc10) rfl rfl rfl dX11_writePlan_51 rfl rfl ?_
        exact R54 x1 d9 h
  unfold f_C_writePlan at h
  refine g_aload_n C dX11_writePlan_0 0 rfl ?_
  refine g_get C (.ref (w_r w 277)) 0 q_0 fk_C_29 rfl dX11_writePlan_1 ?_
  refine g_aload_n C dX11_writePlan_4 0 rfl ?_
  refine g_get C (.ref (w_r w 2)) 0 q_0 fk_C_10 rfl dX11_writePlan_5 ?_
  refine g_get C (.ref (w_r w 16)) 2 q_2 fk_C_108 rfl dX11_writePlan_8 ?_
  refine g_aload_n C dX11_writePlan_11 0 rfl ?_
  refine g_get C (.ref (w_r w 2)) 0 q_0 fk_C_10 rfl dX11_writePlan_12 ?_
  refine g_get C (.int (d 2 0)) 2 q_2 fk_C_180 rfl dX11_writePlan_15 ?_
  obtain ⟨d11, hc12, h⟩ := ob1_1 h
  refine g_callVv C 277 q_277 vk_C_232 hR rfl (m_P_make C.2.2.2.2.2.2.1 hc12) rfl rfl rfl dX11_writePlan_18 rfl rfl ?_
  refine g_aload_n C dX11_writePlan_21 0 rfl ?_
  refine g_get C (.ref (w_r w 290)) 0 q_0 fk_C_57 rfl dX11_writePlan_22 ?_
  obtain ⟨d13, hc14, h⟩ := ob1_1 h
  refine g_callVv C 290 q_290 vk_C_392 hR rfl (m_O_empty C.2.2.2.2.2.2.1 hc14) rfl rfl rfl dX11_writePlan_25 rfl rfl ?_
  refine g_iconst C dX11_writePlan_28 (v := 0) rfl ?_
  refine g_istore_n C (lv' := [(1, .int 0), (0, .ref (w_r w 0))]) dX11_writePlan_29 (by decide) rfl ?_
  refine g_sub [1, 0] (lv' := [(0, .ref (w_r w 0)), (1, .int 0)]) rfl ?_
  exact R30 0 d13 h
set_option maxHeartbeats 4000000 in
set_option maxRecDepth 100000 in
theorem m_W_addLantern {w : wT} {l : Launch} {d dE : Dt} {rE : Int32} (hO : okW w) (hl9 : l.stackTraces = false) (h : f_W_addLantern  d = some (rE, dE)) : gMW w l yL_addLantern cL_addLantern 3 (Option.some Jvm.ClassFile.FieldType.int) [(0, 8, 11, 13)] 7 8 60 [.ref (w_r w 0), .ref (w_r w 300)] d dE (some (.int rE)) := by
  refine gMW_of (by decide) [(0, .ref (w_r w 0)), (1, .ref (w_r w 300))] rfl rfl ?_ hO
  intro p e R s m args below meth c C hR hr hlk htab
  unfold f_W_addLantern at h
  refine g_aload_n C dL_addLantern_0 1 rfl ?_
  refine g_iconst C dL_addLantern_1 (v := 0) rfl ?_
  refine g_aload_n C dL_addLantern_2 0 rfl ?_
  obtain ⟨z9, hc8, h⟩ := ocW_1 h
  refine g_callVW C 1 6 0 q_0 vk_W_7 hR rfl (m_C_addLantern C.2.2.2.2.2.2.1 hl9 hc8) rfl rfl rfl dL_addLantern_3 rfl rfl rfl rfl (fun r5 d6 e11 => ?_) (fun et6 dt10 e11 => ?_)
  · subst e11
    replace h := ocW_i h
    refine g_i2l C dL_addLantern_6  ?_
    refine g_last C 300 q_300 (by decide) 0 (by decide) dL_addLantern_7 ?_
    obtain ⟨d12, hd12, h⟩ := bnd_1 h
    refine g_nmD hd12 ?_
    refine g_goto C dL_addLantern_8 (tgt := 14) rfl ?_
    refine g_iconst C dL_addLantern_14 (v := 0) rfl ?_
    exact g_iretW C hr hlk rfl rfl rfl (congrArg Prod.snd (Option.some.inj h)) (congrArg (fun z => some (Value.int z.1)) (Option.some.inj h)) dL_addLantern_15
  · subst e11
    replace h := ocW_t h
    by_cases qh12 : et6 = 0
    · replace h := it_t qh12 h
      subst qh12
      refine g_catch C htab 0 (nm := "java/lang/IllegalStateException") rfl (fun q h => nomatch h) rfl (by decide) (wA 644 (by decide +kernel) (by decide +kernel)) (wO 655 (by decide +kernel) (by decide +kernel)) (fun qx => ?_)
      refine g_astore_n C (lv' := [(2, .ref qx), (0, .ref (w_r w 0)), (1, .ref (w_r w 300))]) dL_addLantern_11 (by decide) rfl ?_
      refine g_iconst C dL_addLantern_12 (v := 1) rfl ?_
      exact g_iretW C hr hlk rfl rfl rfl (congrArg Prod.snd (Option.some.inj h)) (congrArg (fun z => some (Value.int z.1)) (Option.some.inj h)) dL_addLantern_13
    replace h := it_f qh12 h
    cases h
