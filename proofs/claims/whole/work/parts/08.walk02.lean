/-! 08: walks -/
set_option maxHeartbeats 4000000 in
set_option maxRecDepth 100000 in
theorem m_M_isDearer {w : wT} {l : Launch} {x1 x2 : Int32} {d : Dt} {rE : Int32} (hO : okW w) (h : f_M_isDearer x1 x2 d = some rE) : gM w l yX12_isDearer cX12_isDearer 3 (Option.some Jvm.ClassFile.FieldType.boolean) 1 [.ref (w_r w 292), .int x1, .int x2] d d (some (.int rE)) := by
  refine gM_of (by decide) [(0, .ref (w_r w 292)), (1, .int x1), (2, .int x2)] rfl rfl ?_ hO
  intro p e R s m args below meth c C hR hr hlk
  unfold f_M_isDearer at h
  refine g_aload_n C dX12_isDearer_0 0 rfl ?_
  refine g_iload_n C dX12_isDearer_1 1 rfl ?_
  refine g_iconst C dX12_isDearer_2 (v := 3) rfl ?_
  obtain ⟨r11, hc12, h⟩ := ob1_1 h
  refine g_callVi C 292 q_292 vk_M_72 hR rfl (m_M_brief C.2.2.2.2.2.2.1 hc12) rfl rfl rfl dX12_isDearer_3 rfl rfl ?_
  refine g_aload_n C dX12_isDearer_6 0 rfl ?_
  refine g_iload_n C dX12_isDearer_7 2 rfl ?_
  refine g_iconst C dX12_isDearer_8 (v := 3) rfl ?_
  obtain ⟨r13, hc14, h⟩ := ob1_1 h
  refine g_callVi C 292 q_292 vk_M_72 hR rfl (m_M_brief C.2.2.2.2.2.2.1 hc14) rfl rfl rfl dX12_isDearer_9 rfl rfl ?_
  refine g_icmp_eq C dX12_isDearer_12 (tgt := 36) rfl (fun q => ?_) (fun q => ?_)
  · replace h := it_t q h
    refine g_aload_n C dX12_isDearer_36 0 rfl ?_
    refine g_iload_n C dX12_isDearer_37 1 rfl ?_
    refine g_iconst C dX12_isDearer_38 (v := 2) rfl ?_
    obtain ⟨r15, hc16, h⟩ := ob1_1 h
    refine g_callVi C 292 q_292 vk_M_72 hR rfl (m_M_brief C.2.2.2.2.2.2.1 hc16) rfl rfl rfl dX12_isDearer_39 rfl rfl ?_
    refine g_aload_n C dX12_isDearer_42 0 rfl ?_
    refine g_iload_n C dX12_isDearer_43 2 rfl ?_
    refine g_iconst C dX12_isDearer_44 (v := 2) rfl ?_
    obtain ⟨r17, hc18, h⟩ := ob1_1 h
    refine g_callVi C 292 q_292 vk_M_72 hR rfl (m_M_brief C.2.2.2.2.2.2.1 hc18) rfl rfl rfl dX12_isDearer_45 rfl rfl ?_
    refine g_icmp_eq C dX12_isDearer_48 (tgt := 74) rfl (fun q => ?_) (fun q => ?_)
    · replace h := it_t q h
      refine g_aload_n C dX12_isDearer_74 0 rfl ?_
      refine g_iload_n C dX12_isDearer_75 1 rfl ?_
      refine g_iconst C dX12_isDearer_76 (v := 0) rfl ?_
      obtain ⟨r19, hc20, h⟩ := ob1_1 h
      refine g_callVi C 292 q_292 vk_M_72 hR rfl (m_M_brief C.2.2.2.2.2.2.1 hc20) rfl rfl rfl dX12_isDearer_77 rfl rfl ?_
      refine g_aload_n C dX12_isDearer_80 0 rfl ?_
      refine g_iload_n C dX12_isDearer_81 2 rfl ?_
      refine g_iconst C dX12_isDearer_82 (v := 0) rfl ?_
      obtain ⟨r21, hc22, h⟩ := ob1_1 h
      refine g_callVi C 292 q_292 vk_M_72 hR rfl (m_M_brief C.2.2.2.2.2.2.1 hc22) rfl rfl rfl dX12_isDearer_83 rfl rfl ?_
      refine g_icmp_ge C dX12_isDearer_86 (tgt := 93) rfl (fun q => ?_) (fun q => ?_)
      · replace h := it_t q h
        refine g_iconst C dX12_isDearer_93 (v := 0) rfl ?_
        exact g_iret C hr hlk rfl rfl (congrArg (fun z => some (Value.int z)) (Option.some.inj h)) dX12_isDearer_94
      · replace h := it_f q h
        refine g_iconst C dX12_isDearer_89 (v := 1) rfl ?_
        refine g_goto C dX12_isDearer_90 (tgt := 94) rfl ?_
        exact g_iret C hr hlk rfl rfl (congrArg (fun z => some (Value.int z)) (Option.some.inj h)) dX12_isDearer_94
    · replace h := it_f q h
      refine g_aload_n C dX12_isDearer_51 0 rfl ?_
      refine g_iload_n C dX12_isDearer_52 1 rfl ?_
      refine g_iconst C dX12_isDearer_53 (v := 2) rfl ?_
      obtain ⟨r23, hc24, h⟩ := ob1_1 h
      refine g_callVi C 292 q_292 vk_M_72 hR rfl (m_M_brief C.2.2.2.2.2.2.1 hc24) rfl rfl rfl dX12_isDearer_54 rfl rfl ?_
      refine g_aload_n C dX12_isDearer_57 0 rfl ?_
      refine g_iload_n C dX12_isDearer_58 2 rfl ?_
      refine g_iconst C dX12_isDearer_59 (v := 2) rfl ?_
      obtain ⟨r25, hc26, h⟩ := ob1_1 h
      refine g_callVi C 292 q_292 vk_M_72 hR rfl (m_M_brief C.2.2.2.2.2.2.1 hc26) rfl rfl rfl dX12_isDearer_60 rfl rfl ?_
      refine g_icmp_ge C dX12_isDearer_63 (tgt := 70) rfl (fun q => ?_) (fun q => ?_)
      · replace h := it_t q h
        refine g_iconst C dX12_isDearer_70 (v := 0) rfl ?_
        refine g_goto C dX12_isDearer_71 (tgt := 94) rfl ?_
        exact g_iret C hr hlk rfl rfl (congrArg (fun z => some (Value.int z)) (Option.some.inj h)) dX12_isDearer_94
      · replace h := it_f q h
        refine g_iconst C dX12_isDearer_66 (v := 1) rfl ?_
        refine g_goto C dX12_isDearer_67 (tgt := 94) rfl ?_
        exact g_iret C hr hlk rfl rfl (congrArg (fun z => some (Value.int z)) (Option.some.inj h)) dX12_isDearer_94
  · replace h := it_f q h
    refine g_aload_n C dX12_isDearer_15 0 rfl ?_
    refine g_iload_n C dX12_isDearer_16 1 rfl ?_
    refine g_iconst C dX12_isDearer_17 (v := 3) rfl ?_
    obtain ⟨r27, hc28, h⟩ := ob1_1 h
    refine g_callVi C 292 q_292 vk_M_72 hR rfl (m_M_brief C.2.2.2.2.2.2.1 hc28) rfl rfl rfl dX12_isDearer_18 rfl rfl ?_
    refine g_aload_n C dX12_isDearer_21 0 rfl ?_
    refine g_iload_n C dX12_isDearer_22 2 rfl ?_
    refine g_iconst C dX12_isDearer_23 (v := 3) rfl ?_
    obtain ⟨r29, hc30, h⟩ := ob1_1 h
    refine g_callVi C 292 q_292 vk_M_72 hR rfl (m_M_brief C.2.2.2.2.2.2.1 hc30) rfl rfl rfl dX12_isDearer_24 rfl rfl ?_
    refine g_icmp_le C dX12_isDearer_27 (tgt := 34) rfl (fun q => ?_) (fun q => ?_)
    · replace h := it_t q h
      refine g_iconst C dX12_isDearer_34 (v := 0) rfl ?_
      exact g_iret C hr hlk rfl rfl (congrArg (fun z => some (Value.int z)) (Option.some.inj h)) dX12_isDearer_35
    · replace h := it_f q h
      refine g_iconst C dX12_isDearer_30 (v := 1) rfl ?_
      refine g_goto C dX12_isDearer_31 (tgt := 35) rfl ?_
      exact g_iret C hr hlk rfl rfl (congrArg (fun z => some (Value.int z)) (Option.some.inj h)) dX12_isDearer_35
set_option maxHeartbeats 4000000 in
set_option maxRecDepth 100000 in
theorem m_M_plan {w : wT} {l : Launch} {d : Dt} {rE : Int32} (hO : okW w) (h : f_M_plan  d = some rE) : gM w l yX12_plan cX12_plan 6 (Option.some Jvm.ClassFile.FieldType.int) 2 [.ref (w_r w 292)] d d (some (.int rE)) := by
  refine gM_of (by decide) [(0, .ref (w_r w 292))] rfl rfl ?_ hO
  intro p e R s m args below meth c C hR hr hlk
  have R6 : ∀ (x1 : Int32) (x2 : Int32) (x3 : Int32), f_M_plan_6 x1 x2 x3 d = some rE → gG w p l e R s m args below meth c 6 0 0 (gE w below args s d (some (.int rE))) d [(0, .ref (w_r w 292)), (1, .int x1), (2, .int x2), (3, .int x3)] 6 [] := by
    intro x1 x2 x3   h
    refine iter_ind (G := fun s_ : (Int32 × Int32 × Int32) => gG w p l e R s m args below meth c 6 0 0 (gE w below args s d (some (.int rE))) d [(0, .ref (w_r w 292)), (1, .int s_.1), (2, .int s_.2.1), (3, .int s_.2.2)] 6 []) ?_ fu _ h
    clear h
    intro s_ y1 h hl1 hx1
    obtain ⟨x1, x2, x3⟩ := s_
    show gG w p l e R s m args below meth c 6 0 0 (gE w below args s d (some (.int rE))) d [(0, .ref (w_r w 292)), (1, .int x1), (2, .int x2), (3, .int x3)] 6 []
    dsimp only at h
    unfold st_M_plan_6 at h
    have R22 : ∀ (x1 : Int32) (x2 : Int32) (x3 : Int32) (x4 : Int32) (x5 : Int32), f_M_plan_22 x1 x2 x3 x4 x5 d = some y1 → gG w p l e R s m args below meth c 6 0 0 (gE w below args s d (some (.int rE))) d [(0, .ref (w_r w 292)), (1, .int x1), (2, .int x2), (3, .int x3), (4, .int x4), (5, .int x5)] 22 [] := by
      intro x1 x2 x3 x4 x5   h
      refine iter_ind (G := fun s_ : (Int32 × Int32) => gG w p l e R s m args below meth c 6 0 0 (gE w below args s d (some (.int rE))) d [(0, .ref (w_r w 292)), (1, .int x1), (2, .int x2), (3, .int x3), (4, .int s_.1), (5, .int s_.2)] 22 []) ?_ fu _ h
      clear h
      intro s_ y2 h hl2 hx2
      obtain ⟨x4, x5⟩ := s_
      show gG w p l e R s m args below meth c 6 0 0 (gE w below args s d (some (.int rE))) d [(0, .ref (w_r w 292)), (1, .int x1), (2, .int x2), (3, .int x3), (4, .int x4), (5, .int x5)] 22 []
      dsimp only at h
      unfold st_M_plan_22 at h
      refine g_iload C dX12_plan_22 5 rfl ?_
      refine g_aload_n C dX12_plan_24 0 rfl ?_
      refine g_get C (.ref (w_r w 293)) 292 q_292 fk_M_7 rfl dX12_plan_25 ?_
      refine g_iconst C dX12_plan_28 (v := 3) rfl ?_
      refine g_iald C 293 q_293 (by decide) 3 (by decide) dX12_plan_29 ?_
      refine g_icmp_ge C dX12_plan_30 (tgt := 68) rfl (fun q => ?_) (fun q => ?_)
      · replace h := it_t q h
        replace h := ir_2 h hx2
        refine g_iload_n C dX12_plan_68 1 rfl ?_
        refine g_iconst C dX12_plan_69 (v := 1) rfl ?_
        refine g_iload C dX12_plan_70 4 rfl ?_
        refine g_ishl C dX12_plan_72  ?_
        refine g_ior C dX12_plan_73  ?_
        refine g_istore_n C (lv' := [(1, .int (x1 ||| (1 <<< (x4 &&& 31)))), (0, .ref (w_r w 292)), (2, .int x2), (3, .int x3), (4, .int x4), (5, .int x5)]) dX12_plan_74 (by decide) rfl ?_
        refine g_aload_n C dX12_plan_75 1 rfl ?_
        refine g_iload_n C dX12_plan_76 2 rfl ?_
        refine g_iconst C dX12_plan_77 (v := 1) rfl ?_
        refine g_iload C dX12_plan_78 4 rfl ?_
        refine g_ishl C dX12_plan_80  ?_
        refine g_ior C dX12_plan_81  ?_
        obtain ⟨r3, hc4, h⟩ := ob1_1 h
        refine g_callVi C 292 q_292 vk_M_94 hR rfl (m_M_isPossible C.2.2.2.2.2.2.1 hc4) rfl rfl rfl dX12_plan_82 rfl rfl ?_
        refine g_if_eq C dX12_plan_85 (tgt := 95) rfl (fun q => ?_) (fun q => ?_)
        · replace h := it_t q h
          refine g_iinc C (lv' := [(3, .int (x3 + 1)), (1, .int (x1 ||| (1 <<< (x4 &&& 31)))), (0, .ref (w_r w 292)), (2, .int x2), (4, .int x4), (5, .int x5)]) (v := (x3 + 1)) dX12_plan_95 3 rfl rfl (by decide) rfl ?_
          refine g_goto C dX12_plan_98 (tgt := 6) rfl ?_
          refine g_sub [2, 1, 3, 0] (lv' := [(0, .ref (w_r w 292)), (1, .int (x1 ||| (1 <<< (x4 &&& 31)))), (2, .int x2), (3, .int (x3 + 1))]) rfl ?_
          exact hl1 ((x1 ||| (1 <<< (x4 &&& 31))), x2, (x3 + 1)) (Option.some.inj h).symm
        · replace h := it_f q h
          refine g_iload_n C dX12_plan_88 2 rfl ?_
          refine g_iconst C dX12_plan_89 (v := 1) rfl ?_
          refine g_iload C dX12_plan_90 4 rfl ?_
          refine g_ishl C dX12_plan_92  ?_
          refine g_ior C dX12_plan_93  ?_
          refine g_istore_n C (lv' := [(2, .int (x2 ||| (1 <<< (x4 &&& 31)))), (1, .int (x1 ||| (1 <<< (x4 &&& 31)))), (0, .ref (w_r w 292)), (3, .int x3), (4, .int x4), (5, .int x5)]) dX12_plan_94 (by decide) rfl ?_
          refine g_iinc C (lv' := [(3, .int (x3 + 1)), (2, .int (x2 ||| (1 <<< (x4 &&& 31)))), (1, .int (x1 ||| (1 <<< (x4 &&& 31)))), (0, .ref (w_r w 292)), (4, .int x4), (5, .int x5)]) (v := (x3 + 1)) dX12_plan_95 3 rfl rfl (by decide) rfl ?_
          refine g_goto C dX12_plan_98 (tgt := 6) rfl ?_
          refine g_sub [3, 2, 1, 0] (lv' := [(0, .ref (w_r w 292)), (1, .int (x1 ||| (1 <<< (x4 &&& 31)))), (2, .int (x2 ||| (1 <<< (x4 &&& 31)))), (3, .int (x3 + 1))]) rfl ?_
          exact hl1 ((x1 ||| (1 <<< (x4 &&& 31))), (x2 ||| (1 <<< (x4 &&& 31))), (x3 + 1)) (Option.some.inj h).symm
      · replace h := it_f q h
        refine g_iload_n C dX12_plan_33 1 rfl ?_
        refine g_iload C dX12_plan_34 5 rfl ?_
        refine g_ishr C dX12_plan_36  ?_
        refine g_iconst C dX12_plan_37 (v := 1) rfl ?_
        refine g_iand C dX12_plan_38  ?_
        refine g_if_ne C dX12_plan_39 (tgt := 62) rfl (fun q => ?_) (fun q => ?_)
        · replace h := it_f q h
          refine g_iinc C (lv' := [(5, .int (x5 + 1)), (0, .ref (w_r w 292)), (1, .int x1), (2, .int x2), (3, .int x3), (4, .int x4)]) (v := (x5 + 1)) dX12_plan_62 5 rfl rfl (by decide) rfl ?_
          refine g_goto C dX12_plan_65 (tgt := 22) rfl ?_
          refine g_sub [1, 2, 3, 4, 5, 0] (lv' := [(0, .ref (w_r w 292)), (1, .int x1), (2, .int x2), (3, .int x3), (4, .int x4), (5, .int (x5 + 1))]) rfl ?_
          exact hl2 (x4, (x5 + 1)) (Option.some.inj h).symm
        · replace h := it_t q h
          refine g_iload C dX12_plan_42 4 rfl ?_
          refine g_if_lt C dX12_plan_44 (tgt := 58) rfl (fun q => ?_) (fun q => ?_)
          · replace h := it_t q h
            refine g_iload C dX12_plan_58 5 rfl ?_
            refine g_istore C (lv' := [(4, .int x5), (0, .ref (w_r w 292)), (1, .int x1), (2, .int x2), (3, .int x3), (5, .int x5)]) dX12_plan_60 (by decide) rfl ?_
            refine g_iinc C (lv' := [(5, .int (x5 + 1)), (4, .int x5), (0, .ref (w_r w 292)), (1, .int x1), (2, .int x2), (3, .int x3)]) (v := (x5 + 1)) dX12_plan_62 5 rfl rfl (by decide) rfl ?_
            refine g_goto C dX12_plan_65 (tgt := 22) rfl ?_
            refine g_sub [2, 3, 4, 5, 1, 0] (lv' := [(0, .ref (w_r w 292)), (1, .int x1), (2, .int x2), (3, .int x3), (4, .int x5), (5, .int (x5 + 1))]) rfl ?_
            exact hl2 (x5, (x5 + 1)) (Option.some.inj h).symm
          · replace h := it_f q h
            refine g_aload_n C dX12_plan_47 0 rfl ?_
            refine g_iload C dX12_plan_48 5 rfl ?_
            refine g_iload C dX12_plan_50 4 rfl ?_
            obtain ⟨r5, hc6, h⟩ := ob1_1 h
            refine g_callVi C 292 q_292 vk_M_90 hR rfl (m_M_isDearer C.2.2.2.2.2.2.1 hc6) rfl rfl rfl dX12_plan_52 rfl rfl ?_
            refine g_if_eq C dX12_plan_55 (tgt := 62) rfl (fun q => ?_) (fun q => ?_)
            · replace h := it_t q h
              refine g_iinc C (lv' := [(5, .int (x5 + 1)), (0, .ref (w_r w 292)), (1, .int x1), (2, .int x2), (3, .int x3), (4, .int x4)]) (v := (x5 + 1)) dX12_plan_62 5 rfl rfl (by decide) rfl ?_
              refine g_goto C dX12_plan_65 (tgt := 22) rfl ?_
              refine g_sub [1, 2, 3, 4, 5, 0] (lv' := [(0, .ref (w_r w 292)), (1, .int x1), (2, .int x2), (3, .int x3), (4, .int x4), (5, .int (x5 + 1))]) rfl ?_
              exact hl2 (x4, (x5 + 1)) (Option.some.inj h).symm
            · replace h := it_f q h
              refine g_iload C dX12_plan_58 5 rfl ?_
              refine g_istore C (lv' := [(4, .int x5), (0, .ref (w_r w 292)), (1, .int x1), (2, .int x2), (3, .int x3), (5, .int x5)]) dX12_plan_60 (by decide) rfl ?_
              refine g_iinc C (lv' := [(5, .int (x5 + 1)), (4, .int x5), (0, .ref (w_r w 292)), (1, .int x1), (2, .int x2), (3, .int x3)]) (v := (x5 + 1)) dX12_plan_62 5 rfl rfl (by decide) rfl ?_
              refine g_goto C dX12_plan_65 (tgt := 22) rfl ?_
              refine g_sub [2, 3, 4, 5, 1, 0] (lv' := [(0, .ref (w_r w 292)), (1, .int x1), (2, .int x2), (3, .int x3), (4, .int x5), (5, .int (x5 + 1))]) rfl ?_
              exact hl2 (x5, (x5 + 1)) (Option.some.inj h).symm
    refine g_iload_n C dX12_plan_6 3 rfl ?_
    refine g_aload_n C dX12_plan_7 0 rfl ?_
    refine g_get C (.ref (w_r w 293)) 292 q_292 fk_M_7 rfl dX12_plan_8 ?_
    refine g_iconst C dX12_plan_11 (v := 3) rfl ?_
    refine g_iald C 293 q_293 (by decide) 3 (by decide) dX12_plan_12 ?_
    refine g_icmp_ge C dX12_plan_13 (tgt := 101) rfl (fun q => ?_) (fun q => ?_)
    · replace h := it_t q h
      replace h := ir_2 h hx1
      refine g_iload_n C dX12_plan_101 2 rfl ?_
      exact g_iret C hr hlk rfl rfl (congrArg (fun z => some (Value.int z)) (Option.some.inj h)) dX12_plan_102
    · replace h := it_f q h
      refine g_iconst C dX12_plan_16 (v := (-1)) (by decide) ?_
      refine g_istore C (lv' := [(4, .int (-1)), (0, .ref (w_r w 292)), (1, .int x1), (2, .int x2), (3, .int x3)]) dX12_plan_17 (by decide) rfl ?_
      refine g_iconst C dX12_plan_19 (v := 0) rfl ?_
      refine g_istore C (lv' := [(5, .int 0), (4, .int (-1)), (0, .ref (w_r w 292)), (1, .int x1), (2, .int x2), (3, .int x3)]) dX12_plan_20 (by decide) rfl ?_
      refine g_sub [2, 3, 4, 5, 1, 0] (lv' := [(0, .ref (w_r w 292)), (1, .int x1), (2, .int x2), (3, .int x3), (4, .int (-1)), (5, .int 0)]) rfl ?_
      exact R22 x1 x2 x3 (-1) 0 h
  unfold f_M_plan at h
  refine g_iconst C dX12_plan_0 (v := 0) rfl ?_
  refine g_istore_n C (lv' := [(1, .int 0), (0, .ref (w_r w 292))]) dX12_plan_1 (by decide) rfl ?_
  refine g_iconst C dX12_plan_2 (v := 0) rfl ?_
  refine g_istore_n C (lv' := [(2, .int 0), (1, .int 0), (0, .ref (w_r w 292))]) dX12_plan_3 (by decide) rfl ?_
  refine g_iconst C dX12_plan_4 (v := 0) rfl ?_
  refine g_istore_n C (lv' := [(3, .int 0), (2, .int 0), (1, .int 0), (0, .ref (w_r w 292))]) dX12_plan_5 (by decide) rfl ?_
  refine g_sub [3, 2, 1, 0] (lv' := [(0, .ref (w_r w 292)), (1, .int 0), (2, .int 0), (3, .int 0)]) rfl ?_
  exact R6 0 0 0 h
set_option maxHeartbeats 4000000 in
set_option maxRecDepth 100000 in
theorem m_M_hearing {w : wT} {l : Launch} {x1 x2 : Int32} {d : Dt} {rE : Int32} (hO : okW w) (h : f_M_hearing x1 x2 d = some rE) : gM w l yX12_hearing cX12_hearing 6 (Option.some Jvm.ClassFile.FieldType.int) 1 [.ref (w_r w 292), .int x1, .int x2] d d (some (.int rE)) := by
  refine gM_of (by decide) [(0, .ref (w_r w 292)), (1, .int x1), (2, .int x2)] rfl rfl ?_ hO
  intro p e R s m args below meth c C hR hr hlk
  have R2 : ∀ (x1 : Int32) (x2 : Int32) (x3 : Int32), f_M_hearing_2 x1 x2 x3 d = some rE → gG w p l e R s m args below meth c 6 0 0 (gE w below args s d (some (.int rE))) d [(0, .ref (w_r w 292)), (1, .int x1), (2, .int x2), (3, .int x3)] 2 [] := by
    intro x1 x2 x3   h
    refine iter_ind (G := fun s_ : (Int32) => gG w p l e R s m args below meth c 6 0 0 (gE w below args s d (some (.int rE))) d [(0, .ref (w_r w 292)), (1, .int x1), (2, .int x2), (3, .int s_)] 2 []) ?_ fu _ h
    clear h
    intro x3 y1 h hl1 hx1
    show gG w p l e R s m args below meth c 6 0 0 (gE w below args s d (some (.int rE))) d [(0, .ref (w_r w 292)), (1, .int x1), (2, .int x2), (3, .int x3)] 2 []
    unfold st_M_hearing_2 at h
    have R29 : ∀ (x3 : Int32) (x4 : Int32) (x5 : Int32), f_M_hearing_29 x1 x2 x3 x4 x5 d = some y1 → gG w p l e R s m args below meth c 6 0 0 (gE w below args s d (some (.int rE))) d [(0, .ref (w_r w 292)), (1, .int x1), (2, .int x2), (3, .int x3), (4, .int x4), (5, .int x5)] 29 [] := by
      intro x3 x4 x5   h
      refine iter_ind (G := fun s_ : (Int32 × Int32) => gG w p l e R s m args below meth c 6 0 0 (gE w below args s d (some (.int rE))) d [(0, .ref (w_r w 292)), (1, .int x1), (2, .int x2), (3, .int x3), (4, .int s_.1), (5, .int s_.2)] 29 []) ?_ fu _ h
      clear h
      intro s_ y2 h hl2 hx2
      obtain ⟨x4, x5⟩ := s_
      show gG w p l e R s m args below meth c 6 0 0 (gE w below args s d (some (.int rE))) d [(0, .ref (w_r w 292)), (1, .int x1), (2, .int x2), (3, .int x3), (4, .int x4), (5, .int x5)] 29 []
      dsimp only at h
      unfold st_M_hearing_29 at h
      refine g_iload C dX12_hearing_29 5 rfl ?_
      refine g_aload_n C dX12_hearing_31 0 rfl ?_
      refine g_get C (.ref (w_r w 293)) 292 q_292 fk_M_7 rfl dX12_hearing_32 ?_
      refine g_iconst C dX12_hearing_35 (v := 3) rfl ?_
      refine g_iald C 293 q_293 (by decide) 3 (by decide) dX12_hearing_36 ?_
      refine g_icmp_ge C dX12_hearing_37 (tgt := 104) rfl (fun q => ?_) (fun q => ?_)
      · replace h := it_t q h
        replace h := ir_2 h hx2
        refine g_iload C dX12_hearing_104 4 rfl ?_
        refine g_iload_n C dX12_hearing_106 2 rfl ?_
        refine g_icmp_ne C dX12_hearing_107 (tgt := 112) rfl (fun q => ?_) (fun q => ?_)
        · replace h := it_f q h
          refine g_iinc C (lv' := [(3, .int (x3 + 1)), (0, .ref (w_r w 292)), (1, .int x1), (2, .int x2), (4, .int x4), (5, .int x5)]) (v := (x3 + 1)) dX12_hearing_112 3 rfl rfl (by decide) rfl ?_
          refine g_goto C dX12_hearing_115 (tgt := 2) rfl ?_
          refine g_sub [1, 2, 3, 0] (lv' := [(0, .ref (w_r w 292)), (1, .int x1), (2, .int x2), (3, .int (x3 + 1))]) rfl ?_
          exact hl1 (x3 + 1) (Option.some.inj h).symm
        · replace h := it_t q h
          replace h := ir_2 h hx1
          refine g_iload_n C dX12_hearing_110 3 rfl ?_
          exact g_iret C hr hlk rfl rfl (congrArg (fun z => some (Value.int z)) (Option.some.inj h)) dX12_hearing_111
      · replace h := it_f q h
        refine g_iload C dX12_hearing_40 4 rfl ?_
        refine g_iload_n C dX12_hearing_42 1 rfl ?_
        refine g_iload C dX12_hearing_43 5 rfl ?_
        refine g_ishr C dX12_hearing_45  ?_
        refine g_iconst C dX12_hearing_46 (v := 1) rfl ?_
        refine g_iand C dX12_hearing_47  ?_
        refine g_iconst C dX12_hearing_48 (v := 1) rfl ?_
        refine g_icmp_ne C dX12_hearing_49 (tgt := 94) rfl (fun q => ?_) (fun q => ?_)
        · replace h := it_f q h
          refine g_iconst C dX12_hearing_94 (v := 0) rfl ?_
          refine g_iadd C dX12_hearing_95  ?_
          refine g_istore C (lv' := [(4, .int (x4 + 0)), (0, .ref (w_r w 292)), (1, .int x1), (2, .int x2), (3, .int x3), (5, .int x5)]) dX12_hearing_96 (by decide) rfl ?_
          refine g_iinc C (lv' := [(5, .int (x5 + 1)), (4, .int (x4 + 0)), (0, .ref (w_r w 292)), (1, .int x1), (2, .int x2), (3, .int x3)]) (v := (x5 + 1)) dX12_hearing_98 5 rfl rfl (by decide) rfl ?_
          refine g_goto C dX12_hearing_101 (tgt := 29) rfl ?_
          refine g_sub [2, 3, 4, 5, 1, 0] (lv' := [(0, .ref (w_r w 292)), (1, .int x1), (2, .int x2), (3, .int x3), (4, .int (x4 + 0)), (5, .int (x5 + 1))]) rfl ?_
          exact hl2 ((x4 + 0), (x5 + 1)) (Option.some.inj h).symm
        · replace h := it_t q h
          refine g_aload_n C dX12_hearing_52 0 rfl ?_
          refine g_iload C dX12_hearing_53 5 rfl ?_
          refine g_iconst C dX12_hearing_55 (v := 2) rfl ?_
          obtain ⟨r5, hc6, h⟩ := ob1_1 h
          refine g_callVi C 292 q_292 vk_M_72 hR rfl (m_M_brief C.2.2.2.2.2.2.1 hc6) rfl rfl rfl dX12_hearing_56 rfl rfl ?_
          refine g_aload_n C dX12_hearing_59 0 rfl ?_
          refine g_iload_n C dX12_hearing_60 3 rfl ?_
          refine g_iconst C dX12_hearing_61 (v := 2) rfl ?_
          obtain ⟨r7, hc8, h⟩ := ob1_1 h
          refine g_callVi C 292 q_292 vk_M_72 hR rfl (m_M_brief C.2.2.2.2.2.2.1 hc8) rfl rfl rfl dX12_hearing_62 rfl rfl ?_
          refine g_icmp_lt C dX12_hearing_65 (tgt := 90) rfl (fun q => ?_) (fun q => ?_)
          · replace h := it_t q h
            refine g_iconst C dX12_hearing_90 (v := 1) rfl ?_
            refine g_goto C dX12_hearing_91 (tgt := 95) rfl ?_
            refine g_iadd C dX12_hearing_95  ?_
            refine g_istore C (lv' := [(4, .int (x4 + 1)), (0, .ref (w_r w 292)), (1, .int x1), (2, .int x2), (3, .int x3), (5, .int x5)]) dX12_hearing_96 (by decide) rfl ?_
            refine g_iinc C (lv' := [(5, .int (x5 + 1)), (4, .int (x4 + 1)), (0, .ref (w_r w 292)), (1, .int x1), (2, .int x2), (3, .int x3)]) (v := (x5 + 1)) dX12_hearing_98 5 rfl rfl (by decide) rfl ?_
            refine g_goto C dX12_hearing_101 (tgt := 29) rfl ?_
            refine g_sub [2, 3, 4, 5, 1, 0] (lv' := [(0, .ref (w_r w 292)), (1, .int x1), (2, .int x2), (3, .int x3), (4, .int (x4 + 1)), (5, .int (x5 + 1))]) rfl ?_
            exact hl2 ((x4 + 1), (x5 + 1)) (Option.some.inj h).symm
          · replace h := it_f q h
            refine g_aload_n C dX12_hearing_68 0 rfl ?_
            refine g_iload C dX12_hearing_69 5 rfl ?_
            refine g_iconst C dX12_hearing_71 (v := 2) rfl ?_
            obtain ⟨r9, hc10, h⟩ := ob1_1 h
            refine g_callVi C 292 q_292 vk_M_72 hR rfl (m_M_brief C.2.2.2.2.2.2.1 hc10) rfl rfl rfl dX12_hearing_72 rfl rfl ?_
            refine g_aload_n C dX12_hearing_75 0 rfl ?_
            refine g_iload_n C dX12_hearing_76 3 rfl ?_
            refine g_iconst C dX12_hearing_77 (v := 2) rfl ?_
            obtain ⟨r11, hc12, h⟩ := ob1_1 h
            refine g_callVi C 292 q_292 vk_M_72 hR rfl (m_M_brief C.2.2.2.2.2.2.1 hc12) rfl rfl rfl dX12_hearing_78 rfl rfl ?_
            refine g_icmp_ne C dX12_hearing_81 (tgt := 94) rfl (fun q => ?_) (fun q => ?_)
            · replace h := it_f q h
              refine g_iconst C dX12_hearing_94 (v := 0) rfl ?_
              refine g_iadd C dX12_hearing_95  ?_
              refine g_istore C (lv' := [(4, .int (x4 + 0)), (0, .ref (w_r w 292)), (1, .int x1), (2, .int x2), (3, .int x3), (5, .int x5)]) dX12_hearing_96 (by decide) rfl ?_
              refine g_iinc C (lv' := [(5, .int (x5 + 1)), (4, .int (x4 + 0)), (0, .ref (w_r w 292)), (1, .int x1), (2, .int x2), (3, .int x3)]) (v := (x5 + 1)) dX12_hearing_98 5 rfl rfl (by decide) rfl ?_
              refine g_goto C dX12_hearing_101 (tgt := 29) rfl ?_
              refine g_sub [2, 3, 4, 5, 1, 0] (lv' := [(0, .ref (w_r w 292)), (1, .int x1), (2, .int x2), (3, .int x3), (4, .int (x4 + 0)), (5, .int (x5 + 1))]) rfl ?_
              exact hl2 ((x4 + 0), (x5 + 1)) (Option.some.inj h).symm
            · replace h := it_t q h
              refine g_iload C dX12_hearing_84 5 rfl ?_
              refine g_iload_n C dX12_hearing_86 3 rfl ?_
              refine g_icmp_ge C dX12_hearing_87 (tgt := 94) rfl (fun q => ?_) (fun q => ?_)
              · replace h := it_t q h
                refine g_iconst C dX12_hearing_94 (v := 0) rfl ?_
                refine g_iadd C dX12_hearing_95  ?_
                refine g_istore C (lv' := [(4, .int (x4 + 0)), (0, .ref (w_r w 292)), (1, .int x1), (2, .int x2), (3, .int x3), (5, .int x5)]) dX12_hearing_96 (by decide) rfl ?_
                refine g_iinc C (lv' := [(5, .int (x5 + 1)), (4, .int (x4 + 0)), (0, .ref (w_r w 292)), (1, .int x1), (2, .int x2), (3, .int x3)]) (v := (x5 + 1)) dX12_hearing_98 5 rfl rfl (by decide) rfl ?_
                refine g_goto C dX12_hearing_101 (tgt := 29) rfl ?_
                refine g_sub [2, 3, 4, 5, 1, 0] (lv' := [(0, .ref (w_r w 292)), (1, .int x1), (2, .int x2), (3, .int x3), (4, .int (x4 + 0)), (5, .int (x5 + 1))]) rfl ?_
                exact hl2 ((x4 + 0), (x5 + 1)) (Option.some.inj h).symm
              · replace h := it_f q h
                refine g_iconst C dX12_hearing_90 (v := 1) rfl ?_
                refine g_goto C dX12_hearing_91 (tgt := 95) rfl ?_
                refine g_iadd C dX12_hearing_95  ?_
                refine g_istore C (lv' := [(4, .int (x4 + 1)), (0, .ref (w_r w 292)), (1, .int x1), (2, .int x2), (3, .int x3), (5, .int x5)]) dX12_hearing_96 (by decide) rfl ?_
                refine g_iinc C (lv' := [(5, .int (x5 + 1)), (4, .int (x4 + 1)), (0, .ref (w_r w 292)), (1, .int x1), (2, .int x2), (3, .int x3)]) (v := (x5 + 1)) dX12_hearing_98 5 rfl rfl (by decide) rfl ?_
                refine g_goto C dX12_hearing_101 (tgt := 29) rfl ?_
                refine g_sub [2, 3, 4, 5, 1, 0] (lv' := [(0, .ref (w_r w 292)), (1, .int x1), (2, .int x2), (3, .int x3), (4, .int (x4 + 1)), (5, .int (x5 + 1))]) rfl ?_
                exact hl2 ((x4 + 1), (x5 + 1)) (Option.some.inj h).symm
    refine g_iload_n C dX12_hearing_2 3 rfl ?_
    refine g_aload_n C dX12_hearing_3 0 rfl ?_
    refine g_get C (.ref (w_r w 293)) 292 q_292 fk_M_7 rfl dX12_hearing_4 ?_
    refine g_iconst C dX12_hearing_7 (v := 3) rfl ?_
    refine g_iald C 293 q_293 (by decide) 3 (by decide) dX12_hearing_8 ?_
    refine g_icmp_ge C dX12_hearing_9 (tgt := 118) rfl (fun q => ?_) (fun q => ?_)
    · replace h := it_t q h
      replace h := ir_2 h hx1
      refine g_iconst C dX12_hearing_118 (v := (-1)) (by decide) ?_
      exact g_iret C hr hlk rfl rfl (congrArg (fun z => some (Value.int z)) (Option.some.inj h)) dX12_hearing_119
    · replace h := it_f q h
      refine g_iload_n C dX12_hearing_12 1 rfl ?_
      refine g_iload_n C dX12_hearing_13 3 rfl ?_
      refine g_ishr C dX12_hearing_14  ?_
      refine g_iconst C dX12_hearing_15 (v := 1) rfl ?_
      refine g_iand C dX12_hearing_16  ?_
      refine g_if_ne C dX12_hearing_17 (tgt := 23) rfl (fun q => ?_) (fun q => ?_)
      · replace h := it_f q h
        refine g_iconst C dX12_hearing_23 (v := 0) rfl ?_
        refine g_istore C (lv' := [(4, .int 0), (0, .ref (w_r w 292)), (1, .int x1), (2, .int x2), (3, .int x3)]) dX12_hearing_24 (by decide) rfl ?_
        refine g_iconst C dX12_hearing_26 (v := 0) rfl ?_
        refine g_istore C (lv' := [(5, .int 0), (4, .int 0), (0, .ref (w_r w 292)), (1, .int x1), (2, .int x2), (3, .int x3)]) dX12_hearing_27 (by decide) rfl ?_
        refine g_sub [2, 3, 4, 5, 1, 0] (lv' := [(0, .ref (w_r w 292)), (1, .int x1), (2, .int x2), (3, .int x3), (4, .int 0), (5, .int 0)]) rfl ?_
        exact R29 x3 0 0 h
      · replace h := it_t q h
        refine g_goto C dX12_hearing_20 (tgt := 112) rfl ?_
        refine g_iinc C (lv' := [(3, .int (x3 + 1)), (0, .ref (w_r w 292)), (1, .int x1), (2, .int x2)]) (v := (x3 + 1)) dX12_hearing_112 3 rfl rfl (by decide) rfl ?_
        refine g_goto C dX12_hearing_115 (tgt := 2) rfl ?_
        refine g_sub [1, 2, 3, 0] (lv' := [(0, .ref (w_r w 292)), (1, .int x1), (2, .int x2), (3, .int (x3 + 1))]) rfl ?_
        exact hl1 (x3 + 1) (Option.some.inj h).symm
  unfold f_M_hearing at h
  refine g_iconst C dX12_hearing_0 (v := 0) rfl ?_
  refine g_istore_n C (lv' := [(3, .int 0), (0, .ref (w_r w 292)), (1, .int x1), (2, .int x2)]) dX12_hearing_1 (by decide) rfl ?_
  refine g_sub [1, 2, 3, 0] (lv' := [(0, .ref (w_r w 292)), (1, .int x1), (2, .int x2), (3, .int 0)]) rfl ?_
  exact R2 x1 x2 0 h
set_option maxHeartbeats 4000000 in
set_option maxRecDepth 100000 in
theorem m_M_isAdmitted {w : wT} {l : Launch} {x1 x2 : Int32} {d : Dt} {rE : Int32} (hO : okW w) (h : f_M_isAdmitted x1 x2 d = some rE) : gM w l yX12_isAdmitted cX12_isAdmitted 4 (Option.some Jvm.ClassFile.FieldType.boolean) 1 [.ref (w_r w 292), .int x1, .int x2] d d (some (.int rE)) := by
  refine gM_of (by decide) [(0, .ref (w_r w 292)), (1, .int x1), (2, .int x2)] rfl rfl ?_ hO
  intro p e R s m args below meth c C hR hr hlk
  have R2 : ∀ (x1 : Int32) (x2 : Int32) (x3 : Int32), f_M_isAdmitted_2 x1 x2 x3 d = some rE → gG w p l e R s m args below meth c 4 0 0 (gE w below args s d (some (.int rE))) d [(0, .ref (w_r w 292)), (1, .int x1), (2, .int x2), (3, .int x3)] 2 [] := by
    intro x1 x2 x3   h
    refine iter_ind (G := fun s_ : (Int32) => gG w p l e R s m args below meth c 4 0 0 (gE w below args s d (some (.int rE))) d [(0, .ref (w_r w 292)), (1, .int x1), (2, .int x2), (3, .int s_)] 2 []) ?_ fu _ h
    clear h
    intro x3 y1 h hl1 hx1
    show gG w p l e R s m args below meth c 4 0 0 (gE w below args s d (some (.int rE))) d [(0, .ref (w_r w 292)), (1, .int x1), (2, .int x2), (3, .int x3)] 2 []
    unfold st_M_isAdmitted_2 at h
    have R59 : ∀ (x3 : Int32) (v0 : Int32) (v1 : Int32), f_M_isAdmitted_59 x1 x2 x3 v0 v1 d = some y1 → gG w p l e R s m args below meth c 4 0 0 (gE w below args s d (some (.int rE))) d [(0, .ref (w_r w 292)), (1, .int x1), (2, .int x2), (3, .int x3)] 59 [.int v1, .int v0] := by
      intro x3 v0 v1   h
      unfold f_M_isAdmitted_59 at h
      refine g_icmp_eq C dX12_isAdmitted_59 (tgt := 64) rfl (fun q => ?_) (fun q => ?_)
      · replace h := it_t q h
        refine g_iinc C (lv' := [(3, .int (x3 + 1)), (0, .ref (w_r w 292)), (1, .int x1), (2, .int x2)]) (v := (x3 + 1)) dX12_isAdmitted_64 3 rfl rfl (by decide) rfl ?_
        refine g_goto C dX12_isAdmitted_67 (tgt := 2) rfl ?_
        refine g_sub [1, 2, 3, 0] (lv' := [(0, .ref (w_r w 292)), (1, .int x1), (2, .int x2), (3, .int (x3 + 1))]) rfl ?_
        exact hl1 (x3 + 1) (Option.some.inj h).symm
      · replace h := it_f q h
        replace h := ir_2 h hx1
        refine g_iconst C dX12_isAdmitted_62 (v := 0) rfl ?_
        exact g_iret C hr hlk rfl rfl (congrArg (fun z => some (Value.int z)) (Option.some.inj h)) dX12_isAdmitted_63
    have R45 : ∀ (x3 : Int32) (v0 : Int32), f_M_isAdmitted_45 x1 x2 x3 v0 d = some y1 → gG w p l e R s m args below meth c 4 0 0 (gE w below args s d (some (.int rE))) d [(0, .ref (w_r w 292)), (1, .int x1), (2, .int x2), (3, .int x3)] 45 [.int v0] := by
      intro x3 v0   h
      unfold f_M_isAdmitted_45 at h
      refine g_iload_n C dX12_isAdmitted_45 2 rfl ?_
      refine g_iload_n C dX12_isAdmitted_46 3 rfl ?_
      refine g_ishr C dX12_isAdmitted_47  ?_
      refine g_iconst C dX12_isAdmitted_48 (v := 1) rfl ?_
      refine g_iand C dX12_isAdmitted_49  ?_
      refine g_iconst C dX12_isAdmitted_50 (v := 1) rfl ?_
      refine g_icmp_ne C dX12_isAdmitted_51 (tgt := 58) rfl (fun q => ?_) (fun q => ?_)
      · replace h := it_f q h
        refine g_iconst C dX12_isAdmitted_58 (v := 0) rfl ?_
        exact R59 x3 v0 0 h
      · replace h := it_t q h
        refine g_iconst C dX12_isAdmitted_54 (v := 1) rfl ?_
        refine g_goto C dX12_isAdmitted_55 (tgt := 59) rfl ?_
        exact R59 x3 v0 1 h
    refine g_iload_n C dX12_isAdmitted_2 3 rfl ?_
    refine g_aload_n C dX12_isAdmitted_3 0 rfl ?_
    refine g_get C (.ref (w_r w 293)) 292 q_292 fk_M_7 rfl dX12_isAdmitted_4 ?_
    refine g_iconst C dX12_isAdmitted_7 (v := 0) rfl ?_
    refine g_iald C 293 q_293 (by decide) 0 (by decide) dX12_isAdmitted_8 ?_
    refine g_icmp_ge C dX12_isAdmitted_9 (tgt := 70) rfl (fun q => ?_) (fun q => ?_)
    · replace h := it_t q h
      replace h := ir_2 h hx1
      refine g_iconst C dX12_isAdmitted_70 (v := 1) rfl ?_
      exact g_iret C hr hlk rfl rfl (congrArg (fun z => some (Value.int z)) (Option.some.inj h)) dX12_isAdmitted_71
    · replace h := it_f q h
      refine g_iload_n C dX12_isAdmitted_12 1 rfl ?_
      refine g_iload_n C dX12_isAdmitted_13 3 rfl ?_
      refine g_ishr C dX12_isAdmitted_14  ?_
      refine g_iconst C dX12_isAdmitted_15 (v := 1) rfl ?_
      refine g_iand C dX12_isAdmitted_16  ?_
      refine g_iconst C dX12_isAdmitted_17 (v := 1) rfl ?_
      refine g_icmp_ne C dX12_isAdmitted_18 (tgt := 64) rfl (fun q => ?_) (fun q => ?_)
      · replace h := it_f q h
        refine g_iinc C (lv' := [(3, .int (x3 + 1)), (0, .ref (w_r w 292)), (1, .int x1), (2, .int x2)]) (v := (x3 + 1)) dX12_isAdmitted_64 3 rfl rfl (by decide) rfl ?_
        refine g_goto C dX12_isAdmitted_67 (tgt := 2) rfl ?_
        refine g_sub [1, 2, 3, 0] (lv' := [(0, .ref (w_r w 292)), (1, .int x1), (2, .int x2), (3, .int (x3 + 1))]) rfl ?_
        exact hl1 (x3 + 1) (Option.some.inj h).symm
      · replace h := it_t q h
        refine g_aload_n C dX12_isAdmitted_21 0 rfl ?_
        refine g_iload_n C dX12_isAdmitted_22 3 rfl ?_
        refine g_iconst C dX12_isAdmitted_23 (v := 1) rfl ?_
        obtain ⟨r3, hc4, h⟩ := ob1_1 h
        refine g_callVi C 292 q_292 vk_M_87 hR rfl (m_M_of C.2.2.2.2.2.2.1 hc4) rfl rfl rfl dX12_isAdmitted_24 rfl rfl ?_
        refine g_if_le C dX12_isAdmitted_27 (tgt := 64) rfl (fun q => ?_) (fun q => ?_)
        · replace h := it_t q h
          refine g_iinc C (lv' := [(3, .int (x3 + 1)), (0, .ref (w_r w 292)), (1, .int x1), (2, .int x2)]) (v := (x3 + 1)) dX12_isAdmitted_64 3 rfl rfl (by decide) rfl ?_
          refine g_goto C dX12_isAdmitted_67 (tgt := 2) rfl ?_
          refine g_sub [1, 2, 3, 0] (lv' := [(0, .ref (w_r w 292)), (1, .int x1), (2, .int x2), (3, .int (x3 + 1))]) rfl ?_
          exact hl1 (x3 + 1) (Option.some.inj h).symm
        · replace h := it_f q h
          refine g_aload_n C dX12_isAdmitted_30 0 rfl ?_
          refine g_iload_n C dX12_isAdmitted_31 3 rfl ?_
          refine g_iconst C dX12_isAdmitted_32 (v := 1) rfl ?_
          obtain ⟨r5, hc6, h⟩ := ob1_1 h
          refine g_callVi C 292 q_292 vk_M_87 hR rfl (m_M_of C.2.2.2.2.2.2.1 hc6) rfl rfl rfl dX12_isAdmitted_33 rfl rfl ?_
          refine g_iconst C dX12_isAdmitted_36 (v := 1) rfl ?_
          refine g_icmp_ne C dX12_isAdmitted_37 (tgt := 44) rfl (fun q => ?_) (fun q => ?_)
          · replace h := it_f q h
            refine g_iconst C dX12_isAdmitted_44 (v := 0) rfl ?_
            exact R45 x3 0 h
          · replace h := it_t q h
            refine g_iconst C dX12_isAdmitted_40 (v := 1) rfl ?_
            refine g_goto C dX12_isAdmitted_41 (tgt := 45) rfl ?_
            exact R45 x3 1 h
  unfold f_M_isAdmitted at h
  refine g_iconst C dX12_isAdmitted_0 (v := 0) rfl ?_
  refine g_istore_n C (lv' := [(3, .int 0), (0, .ref (w_r w 292)), (1, .int x1), (2, .int x2)]) dX12_isAdmitted_1 (by decide) rfl ?_
  refine g_sub [1, 2, 3, 0] (lv' := [(0, .ref (w_r w 292)), (1, .int x1), (2, .int x2), (3, .int 0)]) rfl ?_
  exact R2 x1 x2 0 h
set_option maxHeartbeats 4000000 in
set_option maxRecDepth 100000 in
theorem m_M_group {w : wT} {l : Launch} {x1 : Int32} {d : Dt} {rE : Int32} (hO : okW w) (h : f_M_group x1 d = some rE) : gM w l yX12_group cX12_group 6 (Option.some Jvm.ClassFile.FieldType.int) 1 [.ref (w_r w 292), .int x1] d d (some (.int rE)) := by
  refine gM_of (by decide) [(0, .ref (w_r w 292)), (1, .int x1)] rfl rfl ?_ hO
  intro p e R s m args below meth c C hR hr hlk
  have R6 : ∀ (x2 : Int32) (x3 : Int32), f_M_group_6 x2 x3 d = some rE → gG w p l e R s m args below meth c 6 0 0 (gE w below args s d (some (.int rE))) d [(0, .ref (w_r w 292)), (2, .int x2), (3, .int x3)] 6 [] := by
    intro x2 x3   h
    refine iter_ind (G := fun s_ : (Int32 × Int32) => gG w p l e R s m args below meth c 6 0 0 (gE w below args s d (some (.int rE))) d [(0, .ref (w_r w 292)), (2, .int s_.1), (3, .int s_.2)] 6 []) ?_ fu _ h
    clear h
    intro s_ y1 h hl1 hx1
    obtain ⟨x2, x3⟩ := s_
    show gG w p l e R s m args below meth c 6 0 0 (gE w below args s d (some (.int rE))) d [(0, .ref (w_r w 292)), (2, .int x2), (3, .int x3)] 6 []
    dsimp only at h
    unfold st_M_group_6 at h
    have R16 : ∀ (x3 : Int32) (x2 : Int32) (x4 : Int32), f_M_group_16 x3 x2 x4 d = some y1 → gG w p l e R s m args below meth c 6 0 0 (gE w below args s d (some (.int rE))) d [(0, .ref (w_r w 292)), (2, .int x2), (3, .int x3), (4, .int x4)] 16 [] := by
      intro x3 x2 x4   h
      refine iter_ind (G := fun s_ : (Int32 × Int32) => gG w p l e R s m args below meth c 6 0 0 (gE w below args s d (some (.int rE))) d [(0, .ref (w_r w 292)), (2, .int s_.1), (3, .int x3), (4, .int s_.2)] 16 []) ?_ fu _ h
      clear h
      intro s_ y2 h hl2 hx2
      obtain ⟨x2, x4⟩ := s_
      show gG w p l e R s m args below meth c 6 0 0 (gE w below args s d (some (.int rE))) d [(0, .ref (w_r w 292)), (2, .int x2), (3, .int x3), (4, .int x4)] 16 []
      dsimp only at h
      unfold st_M_group_16 at h
      refine g_iload C dX12_group_16 3 rfl ?_
      refine g_aload_n C dX12_group_18 0 rfl ?_
      refine g_get C (.ref (w_r w 293)) 292 q_292 fk_M_7 rfl dX12_group_19 ?_
      refine g_iconst C dX12_group_22 (v := 4) rfl ?_
      refine g_iald C 293 q_293 (by decide) 4 (by decide) dX12_group_23 ?_
      refine g_icmp_ge C dX12_group_24 (tgt := 66) rfl (fun q => ?_) (fun q => ?_)
      · replace h := it_t q h
        replace h := ir_2 h hx2
        refine g_goto C dX12_group_66 (tgt := 6) rfl ?_
        refine g_sub [0, 1, 2] (lv' := [(0, .ref (w_r w 292)), (2, .int x2), (3, .int x3)]) rfl ?_
        exact hl1 (x2, x3) (Option.some.inj h).symm
      · replace h := it_f q h
        refine g_iconst C dX12_group_27 (v := 1) rfl ?_
        refine g_aload_n C dX12_group_28 0 rfl ?_
        refine g_iload C dX12_group_29 3 rfl ?_
        refine g_iconst C dX12_group_31 (v := 0) rfl ?_
        obtain ⟨r3, hc4, h⟩ := ob1_1 h
        refine g_callVi C 292 q_292 vk_M_97 hR rfl (m_M_says C.2.2.2.2.2.2.1 hc4) rfl rfl rfl dX12_group_32 rfl rfl ?_
        refine g_ishl C dX12_group_35  ?_
        refine g_iconst C dX12_group_36 (v := 1) rfl ?_
        refine g_aload_n C dX12_group_37 0 rfl ?_
        refine g_iload C dX12_group_38 3 rfl ?_
        refine g_iconst C dX12_group_40 (v := 1) rfl ?_
        obtain ⟨r5, hc6, h⟩ := ob1_1 h
        refine g_callVi C 292 q_292 vk_M_97 hR rfl (m_M_says C.2.2.2.2.2.2.1 hc6) rfl rfl rfl dX12_group_41 rfl rfl ?_
        refine g_ishl C dX12_group_44  ?_
        refine g_ior C dX12_group_45  ?_
        refine g_istore C (lv' := [(5, .int ((1 <<< (r3 &&& 31)) ||| (1 <<< (r5 &&& 31)))), (0, .ref (w_r w 292)), (2, .int x2), (3, .int x3), (4, .int x4)]) dX12_group_46 (by decide) rfl ?_
        refine g_iload_n C dX12_group_48 3 rfl ?_
        refine g_iload C dX12_group_49 0 rfl ?_
        refine g_iand C dX12_group_51  ?_
        refine g_if_eq C dX12_group_52 (tgt := 60) rfl (fun q => ?_) (fun q => ?_)
        · replace h := it_t q h
          refine g_iinc C (lv' := [(4, .int (x4 + 1)), (5, .int ((1 <<< (r3 &&& 31)) ||| (1 <<< (r5 &&& 31)))), (0, .ref (w_r w 292)), (2, .int x2), (3, .int x3)]) (v := (x4 + 1)) dX12_group_60 4 rfl rfl (by decide) rfl ?_
          refine g_goto C dX12_group_63 (tgt := 16) rfl ?_
          refine g_sub [2, 3, 4, 0] (lv' := [(0, .ref (w_r w 292)), (2, .int x2), (3, .int x3), (4, .int (x4 + 1))]) rfl ?_
          exact hl2 (x2, (x4 + 1)) (Option.some.inj h).symm
        · replace h := it_f q h
          refine g_iload_n C dX12_group_55 2 rfl ?_
          refine g_iload C dX12_group_56 0 rfl ?_
          refine g_ior C dX12_group_58  ?_
          refine g_istore_n C (lv' := [(2, .int (x2 ||| ((1 <<< (r3 &&& 31)) ||| (1 <<< (r5 &&& 31))))), (5, .int ((1 <<< (r3 &&& 31)) ||| (1 <<< (r5 &&& 31)))), (0, .ref (w_r w 292)), (3, .int x3), (4, .int x4)]) dX12_group_59 (by decide) rfl ?_
          refine g_iinc C (lv' := [(4, .int (x4 + 1)), (2, .int (x2 ||| ((1 <<< (r3 &&& 31)) ||| (1 <<< (r5 &&& 31))))), (5, .int ((1 <<< (r3 &&& 31)) ||| (1 <<< (r5 &&& 31)))), (0, .ref (w_r w 292)), (3, .int x3)]) (v := (x4 + 1)) dX12_group_60 4 rfl rfl (by decide) rfl ?_
          refine g_goto C dX12_group_63 (tgt := 16) rfl ?_
          refine g_sub [3, 1, 4, 0] (lv' := [(0, .ref (w_r w 292)), (2, .int (x2 ||| ((1 <<< (r3 &&& 31)) ||| (1 <<< (r5 &&& 31))))), (3, .int x3), (4, .int (x4 + 1))]) rfl ?_
          exact hl2 ((x2 ||| ((1 <<< (r3 &&& 31)) ||| (1 <<< (r5 &&& 31)))), (x4 + 1)) (Option.some.inj h).symm
    refine g_iload_n C dX12_group_6 1 rfl ?_
    refine g_iload_n C dX12_group_7 2 rfl ?_
    refine g_icmp_eq C dX12_group_8 (tgt := 69) rfl (fun q => ?_) (fun q => ?_)
    · replace h := it_t q h
      replace h := ir_2 h hx1
      refine g_iload_n C dX12_group_69 1 rfl ?_
      exact g_iret C hr hlk rfl rfl (congrArg (fun z => some (Value.int z)) (Option.some.inj h)) dX12_group_70
    · replace h := it_f q h
      refine g_iload_n C dX12_group_11 1 rfl ?_
      refine g_istore_n C (lv' := [(3, .int x2), (0, .ref (w_r w 292)), (2, .int x2)]) dX12_group_12 (by decide) rfl ?_
      refine g_iconst C dX12_group_13 (v := 0) rfl ?_
      refine g_istore C (lv' := [(4, .int 0), (3, .int x2), (0, .ref (w_r w 292)), (2, .int x2)]) dX12_group_14 (by decide) rfl ?_
      refine g_sub [2, 3, 1, 0] (lv' := [(0, .ref (w_r w 292)), (2, .int x2), (3, .int x2), (4, .int 0)]) rfl ?_
      exact R16 x2 x2 0 h
  unfold f_M_group at h
  refine g_iconst C dX12_group_0 (v := 1) rfl ?_
  refine g_iload_n C dX12_group_1 1 rfl ?_
  refine g_ishl C dX12_group_2  ?_
  refine g_istore_n C (lv' := [(2, .int (1 <<< (x1 &&& 31))), (0, .ref (w_r w 292)), (1, .int x1)]) dX12_group_3 (by decide) rfl ?_
  refine g_iconst C dX12_group_4 (v := 0) rfl ?_
  refine g_istore_n C (lv' := [(3, .int 0), (2, .int (1 <<< (x1 &&& 31))), (0, .ref (w_r w 292)), (1, .int x1)]) dX12_group_5 (by decide) rfl ?_
  refine g_sub [2, 1, 0] (lv' := [(0, .ref (w_r w 292)), (2, .int (1 <<< (x1 &&& 31))), (3, .int 0)]) rfl ?_
  exact R6 (1 <<< (x1 &&& 31)) 0 h
set_option maxHeartbeats 4000000 in
set_option maxRecDepth 100000 in
theorem m_M_judges {w : wT} {l : Launch} {x1 : Int32} {d : Dt} {rE : Int32} (hO : okW w) (h : f_M_judges x1 d = some rE) : gM w l yX12_judges cX12_judges 6 (Option.some Jvm.ClassFile.FieldType.int) 3 [.ref (w_r w 292), .int x1] d d (some (.int rE)) := by
  refine gM_of (by decide) [(0, .ref (w_r w 292)), (1, .int x1)] rfl rfl ?_ hO
  intro p e R s m args below meth c C hR hr hlk
  have R14 : ∀ (x1 : Int32) (x2 : Int32) (x3 : Int32) (x4 : Int32) (x5 : Int32), f_M_judges_14 x1 x2 x3 x4 x5 d = some rE → gG w p l e R s m args below meth c 6 0 0 (gE w below args s d (some (.int rE))) d [(0, .ref (w_r w 292)), (1, .int x1), (2, .int x2), (3, .int x3), (4, .int x4), (5, .int x5)] 14 [] := by
    intro x1 x2 x3 x4 x5   h
    refine iter_ind (G := fun s_ : (Int32 × Int32 × Int32) => gG w p l e R s m args below meth c 6 0 0 (gE w below args s d (some (.int rE))) d [(0, .ref (w_r w 292)), (1, .int x1), (2, .int x2), (3, .int s_.1), (4, .int s_.2.1), (5, .int s_.2.2)] 14 []) ?_ fu _ h
    clear h
    intro s_ y1 h hl1 hx1
    obtain ⟨x3, x4, x5⟩ := s_
    show gG w p l e R s m args below meth c 6 0 0 (gE w below args s d (some (.int rE))) d [(0, .ref (w_r w 292)), (1, .int x1), (2, .int x2), (3, .int x3), (4, .int x4), (5, .int x5)] 14 []
    dsimp only at h
    unfold st_M_judges_14 at h
    refine g_iload C dX12_judges_14 5 rfl ?_
    refine g_iconst C dX12_judges_16 (v := 1) rfl ?_
    refine g_aload_n C dX12_judges_17 0 rfl ?_
    refine g_get C (.ref (w_r w 293)) 292 q_292 fk_M_7 rfl dX12_judges_18 ?_
    refine g_iconst C dX12_judges_21 (v := 0) rfl ?_
    refine g_iald C 293 q_293 (by decide) 0 (by decide) dX12_judges_22 ?_
    refine g_ishl C dX12_judges_23  ?_
    refine g_icmp_ge C dX12_judges_24 (tgt := 84) rfl (fun q => ?_) (fun q => ?_)
    · replace h := it_t q h
      replace h := ir_2 h hx1
      refine g_iload_n C dX12_judges_84 3 rfl ?_
      refine g_iload C dX12_judges_85 4 rfl ?_
      refine g_iadd C dX12_judges_87  ?_
      refine g_if_ne C dX12_judges_88 (tgt := 93) rfl (fun q => ?_) (fun q => ?_)
      · replace h := it_f q h
        refine g_iload C dX12_judges_93 4 rfl ?_
        refine g_if_ne C dX12_judges_95 (tgt := 102) rfl (fun q => ?_) (fun q => ?_)
        · replace h := it_f q h
          refine g_iload_n C dX12_judges_102 3 rfl ?_
          refine g_if_ne C dX12_judges_103 (tgt := 110) rfl (fun q => ?_) (fun q => ?_)
          · replace h := it_f q h
            refine g_iconst C dX12_judges_110 (v := 2) rfl ?_
            exact g_iret C hr hlk rfl rfl (congrArg (fun z => some (Value.int z)) (Option.some.inj h)) dX12_judges_111
          · replace h := it_t q h
            refine g_iconst C dX12_judges_106 (v := 1) rfl ?_
            refine g_goto C dX12_judges_107 (tgt := 111) rfl ?_
            exact g_iret C hr hlk rfl rfl (congrArg (fun z => some (Value.int z)) (Option.some.inj h)) dX12_judges_111
        · replace h := it_t q h
          refine g_iconst C dX12_judges_98 (v := 0) rfl ?_
          refine g_goto C dX12_judges_99 (tgt := 111) rfl ?_
          exact g_iret C hr hlk rfl rfl (congrArg (fun z => some (Value.int z)) (Option.some.inj h)) dX12_judges_111
      · replace h := it_t q h
        refine g_iconst C dX12_judges_91 (v := 3) rfl ?_
        exact g_iret C hr hlk rfl rfl (congrArg (fun z => some (Value.int z)) (Option.some.inj h)) dX12_judges_92
    · replace h := it_f q h
      refine g_iload C dX12_judges_27 5 rfl ?_
      refine g_iload_n C dX12_judges_29 2 rfl ?_
      refine g_iconst C dX12_judges_30 (v := (-1)) (by decide) ?_
      refine g_ixor C dX12_judges_31  ?_
      refine g_iand C dX12_judges_32  ?_
      refine g_if_ne C dX12_judges_33 (tgt := 78) rfl (fun q => ?_) (fun q => ?_)
      · replace h := it_f q h
        refine g_iinc C (lv' := [(5, .int (x5 + 1)), (0, .ref (w_r w 292)), (1, .int x1), (2, .int x2), (3, .int x3), (4, .int x4)]) (v := (x5 + 1)) dX12_judges_78 5 rfl rfl (by decide) rfl ?_
        refine g_goto C dX12_judges_81 (tgt := 14) rfl ?_
        refine g_sub [1, 2, 3, 4, 5, 0] (lv' := [(0, .ref (w_r w 292)), (1, .int x1), (2, .int x2), (3, .int x3), (4, .int x4), (5, .int (x5 + 1))]) rfl ?_
        exact hl1 (x3, x4, (x5 + 1)) (Option.some.inj h).symm
      · replace h := it_t q h
        refine g_aload_n C dX12_judges_36 0 rfl ?_
        refine g_iload_n C dX12_judges_37 2 rfl ?_
        refine g_iload C dX12_judges_38 5 rfl ?_
        obtain ⟨r4, hc5, h⟩ := ob1_1 h
        refine g_callVi C 292 q_292 vk_M_106 hR rfl (m_M_areTrue C.2.2.2.2.2.2.1 hc5) rfl rfl rfl dX12_judges_40 rfl rfl ?_
        refine g_if_eq C dX12_judges_43 (tgt := 78) rfl (fun q => ?_) (fun q => ?_)
        · replace h := it_t q h
          refine g_iinc C (lv' := [(5, .int (x5 + 1)), (0, .ref (w_r w 292)), (1, .int x1), (2, .int x2), (3, .int x3), (4, .int x4)]) (v := (x5 + 1)) dX12_judges_78 5 rfl rfl (by decide) rfl ?_
          refine g_goto C dX12_judges_81 (tgt := 14) rfl ?_
          refine g_sub [1, 2, 3, 4, 5, 0] (lv' := [(0, .ref (w_r w 292)), (1, .int x1), (2, .int x2), (3, .int x3), (4, .int x4), (5, .int (x5 + 1))]) rfl ?_
          exact hl1 (x3, x4, (x5 + 1)) (Option.some.inj h).symm
        · replace h := it_f q h
          refine g_aload_n C dX12_judges_46 0 rfl ?_
          refine g_iload_n C dX12_judges_47 2 rfl ?_
          refine g_iload C dX12_judges_48 5 rfl ?_
          obtain ⟨r6, hc7, h⟩ := ob1_1 h
          refine g_callVi C 292 q_292 vk_M_109 hR rfl (m_M_isAdmitted C.2.2.2.2.2.2.1 hc7) rfl rfl rfl dX12_judges_50 rfl rfl ?_
          refine g_if_ne C dX12_judges_53 (tgt := 59) rfl (fun q => ?_) (fun q => ?_)
          · replace h := it_f q h
            refine g_iload C dX12_judges_59 5 rfl ?_
            refine g_iload_n C dX12_judges_61 1 rfl ?_
            refine g_ishr C dX12_judges_62  ?_
            refine g_iconst C dX12_judges_63 (v := 1) rfl ?_
            refine g_iand C dX12_judges_64  ?_
            refine g_iconst C dX12_judges_65 (v := 1) rfl ?_
            refine g_icmp_ne C dX12_judges_66 (tgt := 75) rfl (fun q => ?_) (fun q => ?_)
            · replace h := it_f q h
              refine g_iinc C (lv' := [(4, .int (x4 + 1)), (0, .ref (w_r w 292)), (1, .int x1), (2, .int x2), (3, .int x3), (5, .int x5)]) (v := (x4 + 1)) dX12_judges_75 4 rfl rfl (by decide) rfl ?_
              refine g_iinc C (lv' := [(5, .int (x5 + 1)), (4, .int (x4 + 1)), (0, .ref (w_r w 292)), (1, .int x1), (2, .int x2), (3, .int x3)]) (v := (x5 + 1)) dX12_judges_78 5 rfl rfl (by decide) rfl ?_
              refine g_goto C dX12_judges_81 (tgt := 14) rfl ?_
              refine g_sub [2, 3, 4, 5, 1, 0] (lv' := [(0, .ref (w_r w 292)), (1, .int x1), (2, .int x2), (3, .int x3), (4, .int (x4 + 1)), (5, .int (x5 + 1))]) rfl ?_
              exact hl1 (x3, (x4 + 1), (x5 + 1)) (Option.some.inj h).symm
            · replace h := it_t q h
              refine g_iinc C (lv' := [(3, .int (x3 + 1)), (0, .ref (w_r w 292)), (1, .int x1), (2, .int x2), (4, .int x4), (5, .int x5)]) (v := (x3 + 1)) dX12_judges_69 3 rfl rfl (by decide) rfl ?_
              refine g_goto C dX12_judges_72 (tgt := 78) rfl ?_
              refine g_iinc C (lv' := [(5, .int (x5 + 1)), (3, .int (x3 + 1)), (0, .ref (w_r w 292)), (1, .int x1), (2, .int x2), (4, .int x4)]) (v := (x5 + 1)) dX12_judges_78 5 rfl rfl (by decide) rfl ?_
              refine g_goto C dX12_judges_81 (tgt := 14) rfl ?_
              refine g_sub [2, 3, 4, 1, 5, 0] (lv' := [(0, .ref (w_r w 292)), (1, .int x1), (2, .int x2), (3, .int (x3 + 1)), (4, .int x4), (5, .int (x5 + 1))]) rfl ?_
              exact hl1 ((x3 + 1), x4, (x5 + 1)) (Option.some.inj h).symm
          · replace h := it_t q h
            refine g_goto C dX12_judges_56 (tgt := 78) rfl ?_
            refine g_iinc C (lv' := [(5, .int (x5 + 1)), (0, .ref (w_r w 292)), (1, .int x1), (2, .int x2), (3, .int x3), (4, .int x4)]) (v := (x5 + 1)) dX12_judges_78 5 rfl rfl (by decide) rfl ?_
            refine g_goto C dX12_judges_81 (tgt := 14) rfl ?_
            refine g_sub [1, 2, 3, 4, 5, 0] (lv' := [(0, .ref (w_r w 292)), (1, .int x1), (2, .int x2), (3, .int x3), (4, .int x4), (5, .int (x5 + 1))]) rfl ?_
            exact hl1 (x3, x4, (x5 + 1)) (Option.some.inj h).symm
  unfold f_M_judges at h
  refine g_aload_n C dX12_judges_0 0 rfl ?_
  refine g_iload_n C dX12_judges_1 1 rfl ?_
  obtain ⟨r8, hc9, h⟩ := ob1_1 h
  refine g_callVi C 292 q_292 vk_M_103 hR rfl (m_M_group C.2.2.2.2.2.2.1 hc9) rfl rfl rfl dX12_judges_2 rfl rfl ?_
  refine g_istore_n C (lv' := [(2, .int r8), (0, .ref (w_r w 292)), (1, .int x1)]) dX12_judges_5 (by decide) rfl ?_
  refine g_iconst C dX12_judges_6 (v := 0) rfl ?_
  refine g_istore_n C (lv' := [(3, .int 0), (2, .int r8), (0, .ref (w_r w 292)), (1, .int x1)]) dX12_judges_7 (by decide) rfl ?_
  refine g_iconst C dX12_judges_8 (v := 0) rfl ?_
  refine g_istore C (lv' := [(4, .int 0), (3, .int 0), (2, .int r8), (0, .ref (w_r w 292)), (1, .int x1)]) dX12_judges_9 (by decide) rfl ?_
  refine g_iconst C dX12_judges_11 (v := 0) rfl ?_
  refine g_istore C (lv' := [(5, .int 0), (4, .int 0), (3, .int 0), (2, .int r8), (0, .ref (w_r w 292)), (1, .int x1)]) dX12_judges_12 (by decide) rfl ?_
  refine g_sub [4, 5, 3, 2, 1, 0] (lv' := [(0, .ref (w_r w 292)), (1, .int x1), (2, .int r8), (3, .int 0), (4, .int 0), (5, .int 0)]) rfl ?_
  exact R14 x1 r8 0 0 0 h
set_option maxHeartbeats 4000000 in
set_option maxRecDepth 100000 in
theorem m_M_hears {w : wT} {l : Launch} {x1 : Int32} {d : Dt} {dE : Dt} (hO : okW w) (h : f_M_hears x1 d = some dE) : gM w l yX12_hears cX12_hears 4 (Option.none : Option Jvm.ClassFile.FieldType) 4 [.ref (w_r w 292), .int x1] d dE none := by
  refine gM_of (by decide) [(0, .ref (w_r w 292)), (1, .int x1)] rfl rfl ?_ hO
  intro p e R s m args below meth c C hR hr hlk
  have R101 : ∀ (x1 : Int32) (d : Dt), f_M_hears_101 x1  d = some dE → gG w p l e R s m args below meth c 4 0 0 (gE w below args s dE none) d [(0, .ref (w_r w 292)), (1, .int x1)] 101 [] := by
    intro x1  d  h
    unfold f_M_hears_101 at h
    refine g_aload_n C dX12_hears_101 0 rfl ?_
    refine g_iload_n C dX12_hears_102 1 rfl ?_
    obtain ⟨d14, hc15, h⟩ := ob1_1 h
    refine g_callVv C 292 q_292 vk_M_80 hR rfl (m_M_goes C.2.2.2.2.2.2.1 hc15) rfl rfl rfl dX12_hears_103 rfl rfl ?_
    exact g_vret C hr hlk (Option.some.inj h) rfl dX12_hears_106
  have R79 : ∀ (x1 : Int32) (x2 : Int32) (d : Dt), f_M_hears_79 x1 x2  d = some dE → gG w p l e R s m args below meth c 4 0 0 (gE w below args s dE none) d [(0, .ref (w_r w 292)), (1, .int x1), (2, .int x2)] 79 [] := by
    intro x1 x2  d  h
    unfold f_M_hears_79 at h
    refine g_iload_n C dX12_hears_79 2 rfl ?_
    refine g_iconst C dX12_hears_80 (v := 3) rfl ?_
    refine g_icmp_ne C dX12_hears_81 (tgt := 101) rfl (fun q => ?_) (fun q => ?_)
    · replace h := it_f q h
      refine g_sub [0, 1] (lv' := [(0, .ref (w_r w 292)), (1, .int x1)]) rfl ?_
      exact R101 x1 d h
    · replace h := it_t q h
      refine g_aload_n C dX12_hears_84 0 rfl ?_
      refine g_get C (.ref (w_r w 293)) 292 q_292 fk_M_7 rfl dX12_hears_85 ?_
      refine g_iconst C dX12_hears_88 (v := 5) rfl ?_
      refine g_dup2 C dX12_hears_89 rfl rfl ?_
      refine g_iald C 293 q_293 (by decide) 5 (by decide) dX12_hears_90 ?_
      refine g_aload_n C dX12_hears_91 0 rfl ?_
      refine g_iload_n C dX12_hears_92 1 rfl ?_
      refine g_iconst C dX12_hears_93 (v := 3) rfl ?_
      obtain ⟨r16, hc17, h⟩ := ob1_1 h
      refine g_callVi C 292 q_292 vk_M_72 hR rfl (m_M_brief C.2.2.2.2.2.2.1 hc17) rfl rfl rfl dX12_hears_94 rfl rfl ?_
      refine g_iconst C dX12_hears_97 (v := 2) rfl ?_
      refine g_idiv C dX12_hears_98 (by decide) ?_
      refine g_iadd C dX12_hears_99  ?_
      refine g_iast C 293 q_293 (by decide) 5 (by decide)  dX12_hears_100 ?_
      obtain ⟨d18, hd18, h⟩ := bnd_1 h
      refine g_nmD hd18 ?_
      refine g_sub [0, 1] (lv' := [(0, .ref (w_r w 292)), (1, .int x1)]) rfl ?_
      exact R101 x1 d18 h
  unfold f_M_hears at h
  refine g_aload_n C dX12_hears_0 0 rfl ?_
  refine g_aload_n C dX12_hears_1 0 rfl ?_
  refine g_iload_n C dX12_hears_2 1 rfl ?_
  refine g_iconst C dX12_hears_3 (v := 1) rfl ?_
  obtain ⟨r19, hc20, h⟩ := ob1_1 h
  refine g_callVi C 292 q_292 vk_M_72 hR rfl (m_M_brief C.2.2.2.2.2.2.1 hc20) rfl rfl rfl dX12_hears_4 rfl rfl ?_
  obtain ⟨r21, hc22, h⟩ := ob1_1 h
  refine g_callVi C 292 q_292 vk_M_112 hR rfl (m_M_judges C.2.2.2.2.2.2.1 hc22) rfl rfl rfl dX12_hears_7 rfl rfl ?_
  refine g_istore_n C (lv' := [(2, .int r21), (0, .ref (w_r w 292)), (1, .int x1)]) dX12_hears_10 (by decide) rfl ?_
  refine g_aload_n C dX12_hears_11 1 rfl ?_
  refine g_iload_n C dX12_hears_12 2 rfl ?_
  refine g_iconst C dX12_hears_13 (v := 1) rfl ?_
  obtain ⟨r23, hc24, h⟩ := ob1_1 h
  refine g_callVi C 292 q_292 vk_M_72 hR rfl (m_M_brief C.2.2.2.2.2.2.1 hc24) rfl rfl rfl dX12_hears_14 rfl rfl ?_
  refine g_istore_n C (lv' := [(3, .int r23), (2, .int r21), (0, .ref (w_r w 292)), (1, .int x1)]) dX12_hears_17 (by decide) rfl ?_
  refine g_aload_n C dX12_hears_18 2 rfl ?_
  refine g_get C (.ref (w_r w 293)) 292 q_292 fk_M_7 rfl dX12_hears_19 ?_
  refine g_bipush C dX12_hears_22 (v := 7) (by decide) ?_
  refine g_iload_n C dX12_hears_24 1 rfl ?_
  refine g_iadd C dX12_hears_25  ?_
  refine g_dup2 C dX12_hears_26 rfl rfl ?_
  have hg25 := gd_1 h
  replace h := gd_2 h
  refine g_iald C 293 q_293 hg25 _ rfl dX12_hears_27 ?_
  refine g_iconst C dX12_hears_28 (v := 1) rfl ?_
  refine g_iadd C dX12_hears_29  ?_
  have hg26 := gd_1 h
  replace h := gd_2 h
  refine g_iast C 293 q_293 hg26 _ rfl  dX12_hears_30 ?_
  obtain ⟨d27, hd27, h⟩ := bnd_1 h
  refine g_nmD hd27 ?_
  refine g_iload_n C dX12_hears_31 1 rfl ?_
  refine g_if_ne C dX12_hears_32 (tgt := 79) rfl (fun q => ?_) (fun q => ?_)
  · replace h := it_f q h
    refine g_sub [2, 3, 1] (lv' := [(0, .ref (w_r w 292)), (1, .int x1), (2, .int r21)]) rfl ?_
    exact R79 x1 r21 d27 h
  · replace h := it_t q h
    refine g_aload_n C dX12_hears_35 2 rfl ?_
    refine g_iload_n C dX12_hears_36 0 rfl ?_
    refine g_iconst C dX12_hears_37 (v := 2) rfl ?_
    obtain ⟨r28, hc29, h⟩ := ob1_1 h
    refine g_callVi C 292 q_292 vk_M_87 hR rfl (m_M_of C.2.2.2.2.2.2.1 hc29) rfl rfl rfl dX12_hears_38 rfl rfl ?_
    refine g_bipush C dX12_hears_41 (v := 8) (by decide) ?_
    refine g_icmp_ge C dX12_hears_43 (tgt := 79) rfl (fun q => ?_) (fun q => ?_)
    · replace h := it_t q h
      refine g_sub [2, 3, 1] (lv' := [(0, .ref (w_r w 292)), (1, .int x1), (2, .int r21)]) rfl ?_
      exact R79 x1 r21 d27 h
    · replace h := it_f q h
      refine g_aload_n C dX12_hears_46 2 rfl ?_
      refine g_iload_n C dX12_hears_47 0 rfl ?_
      refine g_iconst C dX12_hears_48 (v := 3) rfl ?_
      refine g_aload_n C dX12_hears_49 2 rfl ?_
      refine g_iload_n C dX12_hears_50 0 rfl ?_
      refine g_iconst C dX12_hears_51 (v := 2) rfl ?_
      obtain ⟨r30, hc31, h⟩ := ob1_1 h
      refine g_callVi C 292 q_292 vk_M_87 hR rfl (m_M_of C.2.2.2.2.2.2.1 hc31) rfl rfl rfl dX12_hears_52 rfl rfl ?_
      refine g_iadd C dX12_hears_55  ?_
      refine g_aload_n C dX12_hears_56 2 rfl ?_
      refine g_iload_n C dX12_hears_57 3 rfl ?_
      refine g_iconst C dX12_hears_58 (v := 4) rfl ?_
      obtain ⟨r32, hc33, h⟩ := ob1_1 h
      refine g_callVi C 292 q_292 vk_M_72 hR rfl (m_M_brief C.2.2.2.2.2.2.1 hc33) rfl rfl rfl dX12_hears_59 rfl rfl ?_
      obtain ⟨d34, hc35, h⟩ := ob1_1 h
      refine g_callVv C 292 q_292 vk_M_68 hR rfl (m_M_lays C.2.2.2.2.2.2.1 hc35) rfl rfl rfl dX12_hears_62 rfl rfl ?_
      refine g_aload_n C dX12_hears_65 2 rfl ?_
      refine g_iload_n C dX12_hears_66 0 rfl ?_
      refine g_iconst C dX12_hears_67 (v := 2) rfl ?_
      refine g_aload_n C dX12_hears_68 2 rfl ?_
      refine g_iload_n C dX12_hears_69 0 rfl ?_
      refine g_iconst C dX12_hears_70 (v := 2) rfl ?_
      obtain ⟨r36, hc37, h⟩ := ob1_1 h
      refine g_callVi C 292 q_292 vk_M_87 hR rfl (m_M_of C.2.2.2.2.2.2.1 hc37) rfl rfl rfl dX12_hears_71 rfl rfl ?_
      refine g_iconst C dX12_hears_74 (v := 1) rfl ?_
      refine g_iadd C dX12_hears_75  ?_
      obtain ⟨d38, hc39, h⟩ := ob1_1 h
      refine g_callVv C 292 q_292 vk_M_68 hR rfl (m_M_lays C.2.2.2.2.2.2.1 hc39) rfl rfl rfl dX12_hears_76 rfl rfl ?_
      refine g_sub [2, 3, 1] (lv' := [(0, .ref (w_r w 292)), (1, .int x1), (2, .int r21)]) rfl ?_
      exact R79 x1 r21 d38 h
set_option maxHeartbeats 4000000 in
set_option maxRecDepth 100000 in
theorem m_M_passes {w : wT} {l : Launch} {d : Dt} {rE : Int32} {dE : Dt} (hO : okW w) (h : f_M_passes  d = some (rE, dE)) : gM w l yX12_passes cX12_passes 3 (Option.some Jvm.ClassFile.FieldType.int) 5 [.ref (w_r w 292)] d dE (some (.int rE)) := by
  refine gM_of (by decide) [(0, .ref (w_r w 292))] rfl rfl ?_ hO
  intro p e R s m args below meth c C hR hr hlk
  have R99 : ∀ (x1 : Int32) (x2 : Int32) (d : Dt), f_M_passes_99 x1 x2 d = some (rE, dE) → gG w p l e R s m args below meth c 3 0 0 (gE w below args s dE (some (.int rE))) d [(0, .ref (w_r w 292)), (1, .int x1), (2, .int x2)] 99 [] := by
    intro x1 x2 d  h
    refine iter_ind (G := fun s_ : (Int32 × Dt) => gG w p l e R s m args below meth c 3 0 0 (gE w below args s dE (some (.int rE))) s_.2 [(0, .ref (w_r w 292)), (1, .int x1), (2, .int s_.1)] 99 []) ?_ fu _ h
    clear h
    intro s_ y1 h hl1 hx1
    obtain ⟨x2, d⟩ := s_
    show gG w p l e R s m args below meth c 3 0 0 (gE w below args s dE (some (.int rE))) d [(0, .ref (w_r w 292)), (1, .int x1), (2, .int x2)] 99 []
    dsimp only at h
    unfold st_M_passes_99 at h
    refine g_iload_n C dX12_passes_99 2 rfl ?_
    refine g_aload_n C dX12_passes_100 0 rfl ?_
    refine g_get C (.ref (w_r w 293)) 292 q_292 fk_M_7 rfl dX12_passes_101 ?_
    refine g_iconst C dX12_passes_104 (v := 0) rfl ?_
    refine g_iald C 293 q_293 (by decide) 0 (by decide) dX12_passes_105 ?_
    refine g_icmp_ge C dX12_passes_106 (tgt := 120) rfl (fun q => ?_) (fun q => ?_)
    · replace h := it_t q h
      replace h := ir_2 h hx1
      refine g_iload_n C dX12_passes_120 1 rfl ?_
      refine g_if_lt C dX12_passes_121 (tgt := 128) rfl (fun q => ?_) (fun q => ?_)
      · replace h := it_t q h
        refine g_iconst C dX12_passes_128 (v := 0) rfl ?_
        exact g_iret C hr hlk rfl (congrArg Prod.snd (Option.some.inj h)) (congrArg (fun z => some (Value.int z.1)) (Option.some.inj h)) dX12_passes_129
      · replace h := it_f q h
        refine g_iconst C dX12_passes_124 (v := 1) rfl ?_
        refine g_goto C dX12_passes_125 (tgt := 129) rfl ?_
        exact g_iret C hr hlk rfl (congrArg Prod.snd (Option.some.inj h)) (congrArg (fun z => some (Value.int z.1)) (Option.some.inj h)) dX12_passes_129
    · replace h := it_f q h
      refine g_aload_n C dX12_passes_109 0 rfl ?_
      refine g_iload_n C dX12_passes_110 2 rfl ?_
      obtain ⟨d11, hc12, h⟩ := ob1_1 h
      refine g_callVv C 292 q_292 vk_M_128 hR rfl (m_M_serves C.2.2.2.2.2.2.1 hc12) rfl rfl rfl dX12_passes_111 rfl rfl ?_
      refine g_iinc C (lv' := [(2, .int (x2 + 1)), (0, .ref (w_r w 292)), (1, .int x1)]) (v := (x2 + 1)) dX12_passes_114 2 rfl rfl (by decide) rfl ?_
      refine g_goto C dX12_passes_117 (tgt := 99) rfl ?_
      refine g_sub [1, 2, 0] (lv' := [(0, .ref (w_r w 292)), (1, .int x1), (2, .int (x2 + 1))]) rfl ?_
      exact hl1 ((x2 + 1), d11) (Option.some.inj h).symm
  have R38 : ∀ (x1 : Int32) (x2 : Int32) (d : Dt), f_M_passes_38 x1 x2 d = some (rE, dE) → gG w p l e R s m args below meth c 3 0 0 (gE w below args s dE (some (.int rE))) d [(0, .ref (w_r w 292)), (1, .int x1), (2, .int x2)] 38 [] := by
    intro x1 x2 d  h
    refine iter_ind (G := fun s_ : (Int32 × Dt) => gG w p l e R s m args below meth c 3 0 0 (gE w below args s dE (some (.int rE))) s_.2 [(0, .ref (w_r w 292)), (1, .int x1), (2, .int s_.1)] 38 []) ?_ fu _ h
    clear h
    intro s_ y1 h hl1 hx1
    obtain ⟨x2, d⟩ := s_
    show gG w p l e R s m args below meth c 3 0 0 (gE w below args s dE (some (.int rE))) d [(0, .ref (w_r w 292)), (1, .int x1), (2, .int x2)] 38 []
    dsimp only at h
    unfold st_M_passes_38 at h
    refine g_iload_n C dX12_passes_38 2 rfl ?_
    refine g_if_lt C dX12_passes_39 (tgt := 97) rfl (fun q => ?_) (fun q => ?_)
    · replace h := it_t q h
      replace h := ir_2 h hx1
      refine g_iconst C dX12_passes_97 (v := 0) rfl ?_
      refine g_istore_n C (lv' := [(2, .int 0), (0, .ref (w_r w 292)), (1, .int x1)]) dX12_passes_98 (by decide) rfl ?_
      refine g_sub [1, 2, 0] (lv' := [(0, .ref (w_r w 292)), (1, .int x1), (2, .int 0)]) rfl ?_
      exact R99 x1 0 d h
    · replace h := it_f q h
      refine g_aload_n C dX12_passes_42 0 rfl ?_
      refine g_iload_n C dX12_passes_43 2 rfl ?_
      refine g_iconst C dX12_passes_44 (v := 2) rfl ?_
      obtain ⟨r13, hc14, h⟩ := ob1_1 h
      refine g_callVi C 292 q_292 vk_M_72 hR rfl (m_M_brief C.2.2.2.2.2.2.1 hc14) rfl rfl rfl dX12_passes_45 rfl rfl ?_
      refine g_aload_n C dX12_passes_48 0 rfl ?_
      refine g_get C (.ref (w_r w 293)) 292 q_292 fk_M_7 rfl dX12_passes_49 ?_
      refine g_iconst C dX12_passes_52 (v := 1) rfl ?_
      refine g_iald C 293 q_293 (by decide) 1 (by decide) dX12_passes_53 ?_
      refine g_icmp_le C dX12_passes_54 (tgt := 60) rfl (fun q => ?_) (fun q => ?_)
      · replace h := it_t q h
        refine g_aload_n C dX12_passes_60 0 rfl ?_
        refine g_get C (.ref (w_r w 293)) 292 q_292 fk_M_7 rfl dX12_passes_61 ?_
        refine g_iconst C dX12_passes_64 (v := 5) rfl ?_
        refine g_dup2 C dX12_passes_65 rfl rfl ?_
        refine g_iald C 293 q_293 (by decide) 5 (by decide) dX12_passes_66 ?_
        refine g_aload_n C dX12_passes_67 0 rfl ?_
        refine g_iload_n C dX12_passes_68 2 rfl ?_
        refine g_iconst C dX12_passes_69 (v := 3) rfl ?_
        obtain ⟨r15, hc16, h⟩ := ob1_1 h
        refine g_callVi C 292 q_292 vk_M_72 hR rfl (m_M_brief C.2.2.2.2.2.2.1 hc16) rfl rfl rfl dX12_passes_70 rfl rfl ?_
        refine g_iadd C dX12_passes_73  ?_
        refine g_iast C 293 q_293 (by decide) 5 (by decide)  dX12_passes_74 ?_
        obtain ⟨d17, hd17, h⟩ := bnd_1 h
        refine g_nmD hd17 ?_
        refine g_aload_n C dX12_passes_75 0 rfl ?_
        refine g_get C (.ref (w_r w 293)) 292 q_292 fk_M_7 rfl dX12_passes_76 ?_
        refine g_bipush C dX12_passes_79 (v := 11) (by decide) ?_
        refine g_dup2 C dX12_passes_81 rfl rfl ?_
        refine g_iald C 293 q_293 (by decide) 11 (by decide) dX12_passes_82 ?_
        refine g_iconst C dX12_passes_83 (v := 1) rfl ?_
        refine g_iadd C dX12_passes_84  ?_
        refine g_iast C 293 q_293 (by decide) 11 (by decide)  dX12_passes_85 ?_
        obtain ⟨d18, hd18, h⟩ := bnd_1 h
        refine g_nmD hd18 ?_
        refine g_aload_n C dX12_passes_86 0 rfl ?_
        refine g_iload_n C dX12_passes_87 2 rfl ?_
        obtain ⟨d19, hc20, h⟩ := ob1_1 h
        refine g_callVv C 292 q_292 vk_M_80 hR rfl (m_M_goes C.2.2.2.2.2.2.1 hc20) rfl rfl rfl dX12_passes_88 rfl rfl ?_
        refine g_iinc C (lv' := [(2, .int (x2 + (-1))), (0, .ref (w_r w 292)), (1, .int x1)]) (v := (x2 + (-1))) dX12_passes_91 2 rfl rfl (by decide) rfl ?_
        refine g_goto C dX12_passes_94 (tgt := 38) rfl ?_
        refine g_sub [1, 2, 0] (lv' := [(0, .ref (w_r w 292)), (1, .int x1), (2, .int (x2 + (-1)))]) rfl ?_
        exact hl1 ((x2 + (-1)), d19) (Option.some.inj h).symm
      · replace h := it_f q h
        refine g_goto C dX12_passes_57 (tgt := 91) rfl ?_
        refine g_iinc C (lv' := [(2, .int (x2 + (-1))), (0, .ref (w_r w 292)), (1, .int x1)]) (v := (x2 + (-1))) dX12_passes_91 2 rfl rfl (by decide) rfl ?_
        refine g_goto C dX12_passes_94 (tgt := 38) rfl ?_
        refine g_sub [1, 2, 0] (lv' := [(0, .ref (w_r w 292)), (1, .int x1), (2, .int (x2 + (-1)))]) rfl ?_
        exact hl1 ((x2 + (-1)), d) (Option.some.inj h).symm
  have R29 : ∀ (x1 : Int32) (d : Dt), f_M_passes_29 x1  d = some (rE, dE) → gG w p l e R s m args below meth c 3 0 0 (gE w below args s dE (some (.int rE))) d [(0, .ref (w_r w 292)), (1, .int x1)] 29 [] := by
    intro x1  d  h
    unfold f_M_passes_29 at h
    refine g_aload_n C dX12_passes_29 0 rfl ?_
    refine g_get C (.ref (w_r w 293)) 292 q_292 fk_M_7 rfl dX12_passes_30 ?_
    refine g_iconst C dX12_passes_33 (v := 3) rfl ?_
    refine g_iald C 293 q_293 (by decide) 3 (by decide) dX12_passes_34 ?_
    refine g_iconst C dX12_passes_35 (v := 1) rfl ?_
    refine g_isub C dX12_passes_36  ?_
    refine g_istore_n C (lv' := [(2, .int ((d 293 3) - 1)), (0, .ref (w_r w 292)), (1, .int x1)]) dX12_passes_37 (by decide) rfl ?_
    refine g_sub [1, 2, 0] (lv' := [(0, .ref (w_r w 292)), (1, .int x1), (2, .int ((d 293 3) - 1))]) rfl ?_
    exact R38 x1 ((d 293 3) - 1) d h
  unfold f_M_passes at h
  refine g_aload_n C dX12_passes_0 0 rfl ?_
  refine g_aload_n C dX12_passes_1 0 rfl ?_
  obtain ⟨r21, hc22, h⟩ := ob1_1 h
  refine g_callVi C 292 q_292 vk_M_118 hR rfl (m_M_plan C.2.2.2.2.2.2.1 hc22) rfl rfl rfl dX12_passes_2 rfl rfl ?_
  refine g_iconst C dX12_passes_5 (v := 0) rfl ?_
  obtain ⟨r23, hc24, h⟩ := ob1_1 h
  refine g_callVi C 292 q_292 vk_M_122 hR rfl (m_M_hearing C.2.2.2.2.2.2.1 hc24) rfl rfl rfl dX12_passes_6 rfl rfl ?_
  refine g_istore_n C (lv' := [(1, .int r23), (0, .ref (w_r w 292))]) dX12_passes_9 (by decide) rfl ?_
  refine g_aload_n C dX12_passes_10 1 rfl ?_
  refine g_get C (.ref (w_r w 293)) 292 q_292 fk_M_7 rfl dX12_passes_11 ?_
  refine g_iconst C dX12_passes_14 (v := 1) rfl ?_
  refine g_dup2 C dX12_passes_15 rfl rfl ?_
  refine g_iald C 293 q_293 (by decide) 1 (by decide) dX12_passes_16 ?_
  refine g_iconst C dX12_passes_17 (v := 1) rfl ?_
  refine g_iadd C dX12_passes_18  ?_
  refine g_iast C 293 q_293 (by decide) 1 (by decide)  dX12_passes_19 ?_
  obtain ⟨d25, hd25, h⟩ := bnd_1 h
  refine g_nmD hd25 ?_
  refine g_iload_n C dX12_passes_20 0 rfl ?_
  refine g_if_lt C dX12_passes_21 (tgt := 29) rfl (fun q => ?_) (fun q => ?_)
  · replace h := it_t q h
    refine g_sub [1, 0] (lv' := [(0, .ref (w_r w 292)), (1, .int r23)]) rfl ?_
    exact R29 r23 d25 h
  · replace h := it_f q h
    refine g_aload_n C dX12_passes_24 1 rfl ?_
    refine g_iload_n C dX12_passes_25 0 rfl ?_
    obtain ⟨d26, hc27, h⟩ := ob1_1 h
    refine g_callVv C 292 q_292 vk_M_125 hR rfl (m_M_hears C.2.2.2.2.2.2.1 hc27) rfl rfl rfl dX12_passes_26 rfl rfl ?_
    refine g_sub [1, 0] (lv' := [(0, .ref (w_r w 292)), (1, .int r23)]) rfl ?_
    exact R29 r23 d26 h
set_option maxHeartbeats 4000000 in
set_option maxRecDepth 100000 in
theorem m_M_passDays {w : wT} {l : Launch} {x1 : Int32} {d : Dt} {rE : Int32} {dE : Dt} (hO : okW w) (h : f_M_passDays x1 d = some (rE, dE)) : gM w l yX12_passDays cX12_passDays 4 (Option.some Jvm.ClassFile.FieldType.int) 6 [.ref (w_r w 292), .int x1] d dE (some (.int rE)) := by
  refine gM_of (by decide) [(0, .ref (w_r w 292)), (1, .int x1)] rfl rfl ?_ hO
  intro p e R s m args below meth c C hR hr hlk
  have R36 : ∀ (x1 : Int32) (x2 : Int32) (x3 : Int32) (d : Dt), f_M_passDays_36 x1 x2 x3 d = some (rE, dE) → gG w p l e R s m args below meth c 4 0 0 (gE w below args s dE (some (.int rE))) d [(0, .ref (w_r w 292)), (1, .int x1), (2, .int x2), (3, .int x3)] 36 [] := by
    intro x1 x2 x3 d  h
    refine iter_ind (G := fun s_ : (Int32 × Int32 × Dt) => gG w p l e R s m args below meth c 4 0 0 (gE w below args s dE (some (.int rE))) s_.2.2 [(0, .ref (w_r w 292)), (1, .int x1), (2, .int s_.1), (3, .int s_.2.1)] 36 []) ?_ fu _ h
    clear h
    intro s_ y1 h hl1 hx1
    obtain ⟨x2, x3, d⟩ := s_
    show gG w p l e R s m args below meth c 4 0 0 (gE w below args s dE (some (.int rE))) d [(0, .ref (w_r w 292)), (1, .int x1), (2, .int x2), (3, .int x3)] 36 []
    dsimp only at h
    unfold st_M_passDays_36 at h
    refine g_iload_n C dX12_passDays_36 3 rfl ?_
    refine g_iload_n C dX12_passDays_37 1 rfl ?_
    refine g_icmp_ge C dX12_passDays_38 (tgt := 54) rfl (fun q => ?_) (fun q => ?_)
    · replace h := it_t q h
      replace h := ir_2 h hx1
      refine g_iload_n C dX12_passDays_54 2 rfl ?_
      exact g_iret C hr hlk rfl (congrArg Prod.snd (Option.some.inj h)) (congrArg (fun z => some (Value.int z.1)) (Option.some.inj h)) dX12_passDays_55
    · replace h := it_f q h
      refine g_iload_n C dX12_passDays_41 2 rfl ?_
      refine g_aload_n C dX12_passDays_42 0 rfl ?_
      obtain ⟨r7, d8, hc9, h⟩ := ob2_1 h
      refine g_callVi C 292 q_292 vk_M_131 hR rfl (m_M_passes C.2.2.2.2.2.2.1 hc9) rfl rfl rfl dX12_passDays_43 rfl rfl ?_
      refine g_iadd C dX12_passDays_46  ?_
      refine g_istore_n C (lv' := [(2, .int (x2 + r7)), (0, .ref (w_r w 292)), (1, .int x1), (3, .int x3)]) dX12_passDays_47 (by decide) rfl ?_
      refine g_iinc C (lv' := [(3, .int (x3 + 1)), (2, .int (x2 + r7)), (0, .ref (w_r w 292)), (1, .int x1)]) (v := (x3 + 1)) dX12_passDays_48 3 rfl rfl (by decide) rfl ?_
      refine g_goto C dX12_passDays_51 (tgt := 36) rfl ?_
      refine g_sub [2, 3, 1, 0] (lv' := [(0, .ref (w_r w 292)), (1, .int x1), (2, .int (x2 + r7)), (3, .int (x3 + 1))]) rfl ?_
      exact hl1 ((x2 + r7), (x3 + 1), d8) (Option.some.inj h).symm
  have R16 : ∀ (x1 : Int32) (v1 : Int32) (d : Dt), f_M_passDays_16 x1 v1 d = some (rE, dE) → gG w p l e R s m args below meth c 4 0 0 (gE w below args s dE (some (.int rE))) d [(0, .ref (w_r w 292)), (1, .int x1)] 16 [.int v1, .ref (w_r w 292)] := by
    intro x1 v1 d  h
    unfold f_M_passDays_16 at h
    obtain ⟨r10, d11, hc12, h⟩ := ob2_1 h
    refine g_callVi C 292 q_292 vk_M_61 hR rfl (m_M_fails C.2.2.2.2.2.2.1 hc12) rfl rfl rfl dX12_passDays_16 rfl rfl ?_
    refine g_if_eq C dX12_passDays_19 (tgt := 24) rfl (fun q => ?_) (fun q => ?_)
    · replace h := it_t q h
      refine g_aload_n C dX12_passDays_24 0 rfl ?_
      refine g_aload_n C dX12_passDays_25 0 rfl ?_
      refine g_get C (.ref (w_r w 293)) 292 q_292 fk_M_7 rfl dX12_passDays_26 ?_
      obtain ⟨d13, hc14, h⟩ := ob1_1 h
      refine g_callVv C 292 q_292 vk_M_64 hR rfl (m_M_keeps C.2.2.2.2.2.2.1 hc14) rfl rfl rfl dX12_passDays_29 rfl rfl ?_
      refine g_iconst C dX12_passDays_32 (v := 0) rfl ?_
      refine g_istore_n C (lv' := [(2, .int 0), (0, .ref (w_r w 292)), (1, .int x1)]) dX12_passDays_33 (by decide) rfl ?_
      refine g_iconst C dX12_passDays_34 (v := 0) rfl ?_
      refine g_istore_n C (lv' := [(3, .int 0), (2, .int 0), (0, .ref (w_r w 292)), (1, .int x1)]) dX12_passDays_35 (by decide) rfl ?_
      refine g_sub [2, 3, 1, 0] (lv' := [(0, .ref (w_r w 292)), (1, .int x1), (2, .int 0), (3, .int 0)]) rfl ?_
      exact R36 x1 0 0 d13 h
    · replace h := it_f q h
      refine g_iconst C dX12_passDays_22 (v := 0) rfl ?_
      exact g_iret C hr hlk rfl (congrArg Prod.snd (Option.some.inj h)) (congrArg (fun z => some (Value.int z.1)) (Option.some.inj h)) dX12_passDays_23
  unfold f_M_passDays at h
  refine g_aload_n C dX12_passDays_0 0 rfl ?_
  refine g_iload_n C dX12_passDays_1 1 rfl ?_
  refine g_iconst C dX12_passDays_2 (v := 1) rfl ?_
  refine g_bipush C dX12_passDays_3 (v := 9) (by decide) ?_
  obtain ⟨r15, hc16, h⟩ := ob1_1 h
  refine g_callSi C sk_M_53 hR rfl (m_M_in C.2.2.2.2.2.2.1 hc16) rfl rfl rfl dX12_passDays_5 rfl rfl ?_
  refine g_if_eq C dX12_passDays_8 (tgt := 15) rfl (fun q => ?_) (fun q => ?_)
  · replace h := it_t q h
    refine g_iconst C dX12_passDays_15 (v := 1) rfl ?_
    exact R16 x1 1 d h
  · replace h := it_f q h
    refine g_iconst C dX12_passDays_11 (v := 0) rfl ?_
    refine g_goto C dX12_passDays_12 (tgt := 16) rfl ?_
    exact R16 x1 0 d h
set_option maxHeartbeats 4000000 in
set_option maxRecDepth 100000 in
theorem m_M_carries {w : wT} {l : Launch} {x1 : Int32} {d : Dt} {rE : Int32} {dE : Dt} (hO : okW w) (h : f_M_carries x1 d = some (rE, dE)) : gM w l yX12_carries cX12_carries 4 (Option.some Jvm.ClassFile.FieldType.int) 7 [.ref (w_r w 292), .int x1] d dE (some (.int rE)) := by
  refine gM_of (by decide) [(0, .ref (w_r w 292)), (1, .int x1)] rfl rfl ?_ hO
  intro p e R s m args below meth c C hR hr hlk
  have R122 : ∀ (v1 : Int32) (v2 : Int32) (v3 : Int32) (d : Dt), f_M_carries_122  v1 v2 v3 d = some (rE, dE) → gG w p l e R s m args below meth c 4 0 0 (gE w below args s dE (some (.int rE))) d [] 122 [.int v3, .int v2, .int v1, .ref (w_r w 292)] := by
    intro  v1 v2 v3 d  h
    unfold f_M_carries_122 at h
    obtain ⟨r17, d18, hc19, h⟩ := ob2_1 h
    refine g_callVi C 292 q_292 vk_M_229 hR rfl (m_M_makeStatement C.2.2.2.2.2.2.1 hc19) rfl rfl rfl dX12_carries_122 rfl rfl ?_
    exact g_iret C hr hlk rfl (congrArg Prod.snd (Option.some.inj h)) (congrArg (fun z => some (Value.int z.1)) (Option.some.inj h)) dX12_carries_125
  have R144 : ∀ (v1 : Int32) (v2 : Int32) (d : Dt), f_M_carries_144  v1 v2 d = some (rE, dE) → gG w p l e R s m args below meth c 4 0 0 (gE w below args s dE (some (.int rE))) d [] 144 [.int v2, .int v1, .ref (w_r w 292)] := by
    intro  v1 v2 d  h
    unfold f_M_carries_144 at h
    obtain ⟨r20, d21, hc22, h⟩ := ob2_1 h
    refine g_callVi C 292 q_292 vk_M_236 hR rfl (m_M_admit C.2.2.2.2.2.2.1 hc22) rfl rfl rfl dX12_carries_144 rfl rfl ?_
    refine g_if_eq C dX12_carries_147 (tgt := 154) rfl (fun q => ?_) (fun q => ?_)
    · replace h := it_t q h
      refine g_iconst C dX12_carries_154 (v := 0) rfl ?_
      exact g_iret C hr hlk rfl (congrArg Prod.snd (Option.some.inj h)) (congrArg (fun z => some (Value.int z.1)) (Option.some.inj h)) dX12_carries_155
    · replace h := it_f q h
      refine g_iconst C dX12_carries_150 (v := 1) rfl ?_
      refine g_goto C dX12_carries_151 (tgt := 155) rfl ?_
      exact g_iret C hr hlk rfl (congrArg Prod.snd (Option.some.inj h)) (congrArg (fun z => some (Value.int z.1)) (Option.some.inj h)) dX12_carries_155
  unfold f_M_carries at h
  refine g_aload_n C dX12_carries_0 0 rfl ?_
  refine g_get C (.ref (w_r w 299)) 292 q_292 fk_M_36 rfl dX12_carries_1 ?_
  refine g_iload_n C dX12_carries_4 1 rfl ?_
  refine g_iconst C dX12_carries_5 (v := 1) rfl ?_
  refine g_iadd C dX12_carries_6  ?_
  have hg23 := gd_1 h
  replace h := gd_2 h
  refine g_iald C 299 q_299 hg23 _ rfl dX12_carries_7 ?_
  refine g_istore_n C (lv' := [(2, .int (d 299 (x1 + 1).toNatClampNeg)), (0, .ref (w_r w 292)), (1, .int x1)]) dX12_carries_8 (by decide) rfl ?_
  refine g_aload_n C dX12_carries_9 1 rfl ?_
  refine g_get C (.ref (w_r w 299)) 292 q_292 fk_M_36 rfl dX12_carries_10 ?_
  refine g_iload_n C dX12_carries_13 2 rfl ?_
  refine g_iconst C dX12_carries_14 (v := 2) rfl ?_
  refine g_iadd C dX12_carries_15  ?_
  have hg24 := gd_1 h
  replace h := gd_2 h
  refine g_iald C 299 q_299 hg24 _ rfl dX12_carries_16 ?_
  refine g_istore_n C (lv' := [(3, .int (d 299 (x1 + 2).toNatClampNeg)), (2, .int (d 299 (x1 + 1).toNatClampNeg)), (0, .ref (w_r w 292)), (1, .int x1)]) dX12_carries_17 (by decide) rfl ?_
  refine g_aload_n C dX12_carries_18 2 rfl ?_
  refine g_get C (.ref (w_r w 299)) 292 q_292 fk_M_36 rfl dX12_carries_19 ?_
  refine g_iload_n C dX12_carries_22 3 rfl ?_
  have hg25 := gd_1 h
  replace h := gd_2 h
  refine g_iald C 299 q_299 hg25 _ rfl dX12_carries_23 ?_
  by_cases q0 : (d 299 x1.toNatClampNeg) = 0
  · replace h := it_t q0 h
    refine g_tabIn C dX12_carries_24 (v := 0) q0 (by decide) (by decide) (off := 44) (by rfl) (tgt := 68) rfl ?_
    refine g_aload_n C dX12_carries_68 2 rfl ?_
    obtain ⟨r26, d27, hc28, h⟩ := ob2_1 h
    refine g_callVi C 292 q_292 vk_M_219 hR rfl (m_M_addLantern C.2.2.2.2.2.2.1 hc28) rfl rfl rfl dX12_carries_69 rfl rfl ?_
    exact g_iret C hr hlk rfl (congrArg Prod.snd (Option.some.inj h)) (congrArg (fun z => some (Value.int z.1)) (Option.some.inj h)) dX12_carries_72
  replace h := it_f q0 h
  by_cases q1 : (d 299 x1.toNatClampNeg) = 1
  · replace h := it_t q1 h
    refine g_tabIn C dX12_carries_24 (v := 1) q1 (by decide) (by decide) (off := 49) (by rfl) (tgt := 73) rfl ?_
    refine g_aload_n C dX12_carries_73 2 rfl ?_
    refine g_iload_n C dX12_carries_74 1 rfl ?_
    refine g_iload_n C dX12_carries_75 0 rfl ?_
    refine g_aload_n C dX12_carries_76 2 rfl ?_
    refine g_get C (.ref (w_r w 299)) 292 q_292 fk_M_36 rfl dX12_carries_77 ?_
    refine g_iload_n C dX12_carries_80 3 rfl ?_
    refine g_iconst C dX12_carries_81 (v := 3) rfl ?_
    refine g_iadd C dX12_carries_82  ?_
    have hg29 := gd_1 h
    replace h := gd_2 h
    refine g_iald C 299 q_299 hg29 _ rfl dX12_carries_83 ?_
    refine g_aload_n C dX12_carries_84 2 rfl ?_
    refine g_get C (.ref (w_r w 299)) 292 q_292 fk_M_36 rfl dX12_carries_85 ?_
    refine g_iload_n C dX12_carries_88 3 rfl ?_
    refine g_iconst C dX12_carries_89 (v := 4) rfl ?_
    refine g_iadd C dX12_carries_90  ?_
    have hg30 := gd_1 h
    replace h := gd_2 h
    refine g_iald C 299 q_299 hg30 _ rfl dX12_carries_91 ?_
    obtain ⟨r31, d32, hc33, h⟩ := ob2_1 h
    refine g_callVi C 292 q_292 vk_M_222 hR rfl (m_M_file C.2.2.2.2.2.2.1 hc33) rfl rfl rfl dX12_carries_92 rfl rfl ?_
    exact g_iret C hr hlk rfl (congrArg Prod.snd (Option.some.inj h)) (congrArg (fun z => some (Value.int z.1)) (Option.some.inj h)) dX12_carries_95
  replace h := it_f q1 h
  by_cases q2 : (d 299 x1.toNatClampNeg) = 2
  · replace h := it_t q2 h
    refine g_tabIn C dX12_carries_24 (v := 2) q2 (by decide) (by decide) (off := 72) (by rfl) (tgt := 96) rfl ?_
    refine g_aload_n C dX12_carries_96 2 rfl ?_
    refine g_iload_n C dX12_carries_97 1 rfl ?_
    obtain ⟨r34, d35, hc36, h⟩ := ob2_1 h
    refine g_callVi C 292 q_292 vk_M_226 hR rfl (m_M_withdraw C.2.2.2.2.2.2.1 hc36) rfl rfl rfl dX12_carries_98 rfl rfl ?_
    exact g_iret C hr hlk rfl (congrArg Prod.snd (Option.some.inj h)) (congrArg (fun z => some (Value.int z.1)) (Option.some.inj h)) dX12_carries_101
  replace h := it_f q2 h
  by_cases q3 : (d 299 x1.toNatClampNeg) = 3
  · replace h := it_t q3 h
    refine g_tabIn C dX12_carries_24 (v := 3) q3 (by decide) (by decide) (off := 78) (by rfl) (tgt := 102) rfl ?_
    refine g_aload_n C dX12_carries_102 2 rfl ?_
    refine g_iload_n C dX12_carries_103 1 rfl ?_
    refine g_iload_n C dX12_carries_104 0 rfl ?_
    refine g_aload_n C dX12_carries_105 2 rfl ?_
    refine g_get C (.ref (w_r w 299)) 292 q_292 fk_M_36 rfl dX12_carries_106 ?_
    refine g_iload_n C dX12_carries_109 3 rfl ?_
    refine g_iconst C dX12_carries_110 (v := 3) rfl ?_
    refine g_iadd C dX12_carries_111  ?_
    have hg37 := gd_1 h
    replace h := gd_2 h
    refine g_iald C 299 q_299 hg37 _ rfl dX12_carries_112 ?_
    refine g_iconst C dX12_carries_113 (v := 1) rfl ?_
    refine g_icmp_ne C dX12_carries_114 (tgt := 121) rfl (fun q => ?_) (fun q => ?_)
    · replace h := it_f q h
      refine g_iconst C dX12_carries_121 (v := 0) rfl ?_
      refine g_sub [] (lv' := []) rfl ?_
      exact R122 (d 299 (x1 + 1).toNatClampNeg) (d 299 (x1 + 2).toNatClampNeg) 0 d h
    · replace h := it_t q h
      refine g_iconst C dX12_carries_117 (v := 1) rfl ?_
      refine g_goto C dX12_carries_118 (tgt := 122) rfl ?_
      refine g_sub [] (lv' := []) rfl ?_
      exact R122 (d 299 (x1 + 1).toNatClampNeg) (d 299 (x1 + 2).toNatClampNeg) 1 d h
  replace h := it_f q3 h
  by_cases q4 : (d 299 x1.toNatClampNeg) = 4
  · replace h := it_t q4 h
    refine g_tabIn C dX12_carries_24 (v := 4) q4 (by decide) (by decide) (off := 102) (by rfl) (tgt := 126) rfl ?_
    refine g_aload_n C dX12_carries_126 2 rfl ?_
    refine g_iload_n C dX12_carries_127 1 rfl ?_
    obtain ⟨r38, d39, hc40, h⟩ := ob2_1 h
    refine g_callVi C 292 q_292 vk_M_233 hR rfl (m_M_dropStatement C.2.2.2.2.2.2.1 hc40) rfl rfl rfl dX12_carries_128 rfl rfl ?_
    exact g_iret C hr hlk rfl (congrArg Prod.snd (Option.some.inj h)) (congrArg (fun z => some (Value.int z.1)) (Option.some.inj h)) dX12_carries_131
  replace h := it_f q4 h
  by_cases q5 : (d 299 x1.toNatClampNeg) = 5
  · replace h := it_t q5 h
    refine g_tabIn C dX12_carries_24 (v := 5) q5 (by decide) (by decide) (off := 108) (by rfl) (tgt := 132) rfl ?_
    refine g_aload_n C dX12_carries_132 2 rfl ?_
    refine g_iload_n C dX12_carries_133 1 rfl ?_
    refine g_iload_n C dX12_carries_134 0 rfl ?_
    refine g_iconst C dX12_carries_135 (v := 1) rfl ?_
    refine g_icmp_ne C dX12_carries_136 (tgt := 143) rfl (fun q => ?_) (fun q => ?_)
    · replace h := it_f q h
      refine g_iconst C dX12_carries_143 (v := 0) rfl ?_
      refine g_sub [] (lv' := []) rfl ?_
      exact R144 (d 299 (x1 + 1).toNatClampNeg) 0 d h
    · replace h := it_t q h
      refine g_iconst C dX12_carries_139 (v := 1) rfl ?_
      refine g_goto C dX12_carries_140 (tgt := 144) rfl ?_
      refine g_sub [] (lv' := []) rfl ?_
      exact R144 (d 299 (x1 + 1).toNatClampNeg) 1 d h
  replace h := it_f q5 h
  by_cases q6 : (d 299 x1.toNatClampNeg) = 6
  · replace h := it_t q6 h
    refine g_tabIn C dX12_carries_24 (v := 6) q6 (by decide) (by decide) (off := 132) (by rfl) (tgt := 156) rfl ?_
    refine g_aload_n C dX12_carries_156 2 rfl ?_
    refine g_iload_n C dX12_carries_157 1 rfl ?_
    obtain ⟨r41, d42, hc43, h⟩ := ob2_1 h
    refine g_callVi C 292 q_292 vk_M_240 hR rfl (m_M_pardon C.2.2.2.2.2.2.1 hc43) rfl rfl rfl dX12_carries_158 rfl rfl ?_
    exact g_iret C hr hlk rfl (congrArg Prod.snd (Option.some.inj h)) (congrArg (fun z => some (Value.int z.1)) (Option.some.inj h)) dX12_carries_161
  replace h := it_f q6 h
  have a0 : (d 299 x1.toNatClampNeg).toInt ≠ 0 := fun e => q0 (Int32.toInt_inj.mp (e.trans (by decide)))
  have a1 : (d 299 x1.toNatClampNeg).toInt ≠ 1 := fun e => q1 (Int32.toInt_inj.mp (e.trans (by decide)))
  have a2 : (d 299 x1.toNatClampNeg).toInt ≠ 2 := fun e => q2 (Int32.toInt_inj.mp (e.trans (by decide)))
  have a3 : (d 299 x1.toNatClampNeg).toInt ≠ 3 := fun e => q3 (Int32.toInt_inj.mp (e.trans (by decide)))
  have a4 : (d 299 x1.toNatClampNeg).toInt ≠ 4 := fun e => q4 (Int32.toInt_inj.mp (e.trans (by decide)))
  have a5 : (d 299 x1.toNatClampNeg).toInt ≠ 5 := fun e => q5 (Int32.toInt_inj.mp (e.trans (by decide)))
  have a6 : (d 299 x1.toNatClampNeg).toInt ≠ 6 := fun e => q6 (Int32.toInt_inj.mp (e.trans (by decide)))
  refine g_tabOut C dX12_carries_24 (by omega : (d 299 x1.toNatClampNeg).toInt < 0 ∨ 6 < (d 299 x1.toNatClampNeg).toInt) (tgt := 162) rfl ?_
  refine g_aload_n C dX12_carries_162 2 rfl ?_
  refine g_iload_n C dX12_carries_163 1 rfl ?_
  obtain ⟨r44, d45, hc46, h⟩ := ob2_1 h
  refine g_callVi C 292 q_292 vk_M_243 hR rfl (m_M_passDays C.2.2.2.2.2.2.1 hc46) rfl rfl rfl dX12_carries_164 rfl rfl ?_
  exact g_iret C hr hlk rfl (congrArg Prod.snd (Option.some.inj h)) (congrArg (fun z => some (Value.int z.1)) (Option.some.inj h)) dX12_carries_167
set_option maxHeartbeats 4000000 in
set_option maxRecDepth 100000 in
theorem m_M_here {w : wT} {l : Launch} {d : Dt} {rE : Int32} (hO : okW w) (h : f_M_here  d = some rE) : gM w l yX12_here cX12_here 1 (Option.some Jvm.ClassFile.FieldType.int) 0 [.ref (w_r w 292)] d d (some (.int rE)) := by
  refine gM_of (by decide) [(0, .ref (w_r w 292))] rfl rfl ?_ hO
  intro p e R s m args below meth c C hR hr hlk
  unfold f_M_here at h
  refine g_aload_n C dX12_here_0 0 rfl ?_
  refine g_get C (.int (d 292 14)) 292 q_292 fk_M_172 rfl dX12_here_1 ?_
  refine g_aload_n C dX12_here_4 0 rfl ?_
  refine g_get C (.int (d 292 9)) 292 q_292 fk_M_169 rfl dX12_here_5 ?_
  refine g_icmp_ge C dX12_here_8 (tgt := 23) rfl (fun q => ?_) (fun q => ?_)
  · replace h := it_t q h
    refine g_iconst C dX12_here_23 (v := (-1)) (by decide) ?_
    exact g_iret C hr hlk rfl rfl (congrArg (fun z => some (Value.int z)) (Option.some.inj h)) dX12_here_24
  · replace h := it_f q h
    refine g_aload_n C dX12_here_11 0 rfl ?_
    refine g_get C (.ref (w_r w 297)) 292 q_292 fk_M_22 rfl dX12_here_12 ?_
    refine g_aload_n C dX12_here_15 0 rfl ?_
    refine g_get C (.int (d 292 14)) 292 q_292 fk_M_172 rfl dX12_here_16 ?_
    have hg1 := gd_1 h
    replace h := gd_2 h
    refine g_iald C 297 q_297 hg1 _ rfl dX12_here_19 ?_
    refine g_goto C dX12_here_20 (tgt := 24) rfl ?_
    exact g_iret C hr hlk rfl rfl (congrArg (fun z => some (Value.int z)) (Option.some.inj h)) dX12_here_24
set_option maxHeartbeats 4000000 in
set_option maxRecDepth 100000 in
theorem m_M_skips {w : wT} {l : Launch} {x1 : Int32} {d : Dt} {rE : Int32} {dE : Dt} (hO : okW w) (h : f_M_skips x1 d = some (rE, dE)) : gM w l yX12_skips cX12_skips 2 (Option.some Jvm.ClassFile.FieldType.boolean) 1 [.ref (w_r w 292), .int x1] d dE (some (.int rE)) := by
  refine gM_of (by decide) [(0, .ref (w_r w 292)), (1, .int x1)] rfl rfl ?_ hO
  intro p e R s m args below meth c C hR hr hlk
  unfold f_M_skips at h
  refine g_aload_n C dX12_skips_0 0 rfl ?_
  obtain ⟨r3, hc4, h⟩ := ob1_1 h
  refine g_callVi C 292 q_292 vk_M_175 hR rfl (m_M_here C.2.2.2.2.2.2.1 hc4) rfl rfl rfl dX12_skips_1 rfl rfl ?_
  refine g_iload_n C dX12_skips_4 1 rfl ?_
  refine g_icmp_eq C dX12_skips_5 (tgt := 10) rfl (fun q => ?_) (fun q => ?_)
  · replace h := it_t q h
    refine g_aload_n C dX12_skips_10 0 rfl ?_
    refine g_dup C dX12_skips_11 rfl ?_
    refine g_get C (.int (d 292 14)) 292 q_292 fk_M_172 rfl dX12_skips_12 ?_
    refine g_iconst C dX12_skips_15 (v := 1) rfl ?_
    refine g_iadd C dX12_skips_16  ?_
    refine g_put C 292 q_292 pk_M_172 rfl rfl dX12_skips_17 ?_
    obtain ⟨d5, hd5, h⟩ := bnd_1 h
    refine g_nmD hd5 ?_
    refine g_iconst C dX12_skips_20 (v := 1) rfl ?_
    exact g_iret C hr hlk rfl (congrArg Prod.snd (Option.some.inj h)) (congrArg (fun z => some (Value.int z.1)) (Option.some.inj h)) dX12_skips_21
  · replace h := it_f q h
    refine g_iconst C dX12_skips_8 (v := 0) rfl ?_
    exact g_iret C hr hlk rfl (congrArg Prod.snd (Option.some.inj h)) (congrArg (fun z => some (Value.int z.1)) (Option.some.inj h)) dX12_skips_9
set_option maxHeartbeats 4000000 in
set_option maxRecDepth 100000 in
theorem m_JS_coder {w : wT} {l : Launch} {k0 : Nat} {d : Dt} {rE : Int32} (hO : okW w) (hk0 : k0 < 54) (h : f_JS_coder k0  d = some rE) : gM w l yJ0_coder_7d493 cJ0_coder_7d493 1 (Option.some Jvm.ClassFile.FieldType.byte) 0 [.ref (w_k w k0)] d d (some (.int rE)) := by
  refine gM_of (by decide) [(0, .ref (w_k w k0))] rfl rfl ?_ hO
  intro p e R s m args below meth c C hR hr hlk
  unfold f_JS_coder at h
  refine g_gets C (kC_Z C) (wA 956 (by decide +kernel) (by decide +kernel)) dJ0_coder_7d493_0 ?_
  refine g_if_eq C dJ0_coder_7d493_3 (tgt := 13) rfl (fun q => absurd q (by decide)) (fun q => ?_)
  refine g_aload_n C dJ0_coder_7d493_6 0 rfl ?_
  refine g_getO C (ks_coder C hk0) (wA 1989 (by decide +kernel) (by decide +kernel)) dJ0_coder_7d493_7 ?_
  refine g_goto C dJ0_coder_7d493_10 (tgt := 14) rfl ?_
  exact g_iret C hr hlk rfl rfl (congrArg (fun z => some (Value.int z)) (Option.some.inj h)) dJ0_coder_7d493_14
set_option maxHeartbeats 4000000 in
set_option maxRecDepth 100000 in
theorem m_JS_length {w : wT} {l : Launch} {k0 : Nat} {d : Dt} {rE : Int32} (hO : okW w) (hk0 : k0 < 54) (h : f_JS_length k0  d = some rE) : gM w l yJ0_length_8abf5 cJ0_length_8abf5 1 (Option.some Jvm.ClassFile.FieldType.int) 1 [.ref (w_k w k0)] d d (some (.int rE)) := by
  refine gM_of (by decide) [(0, .ref (w_k w k0))] rfl rfl ?_ hO
  intro p e R s m args below meth c C hR hr hlk
  unfold f_JS_length at h
  refine g_aload_n C dJ0_length_8abf5_0 0 rfl ?_
  refine g_getO C (ks_value C hk0) (wA 1990 (by decide +kernel) (by decide +kernel)) dJ0_length_8abf5_1 ?_
  refine g_lenK C (ks_row C hk0) rfl dJ0_length_8abf5_4 ?_
  refine g_aload_n C dJ0_length_8abf5_5 0 rfl ?_
  obtain ⟨r2, hc3, h⟩ := ob1_1 h
  refine g_callO C _ (ks_obj C hk0) yk_J0_coder_7d493 rfl (wA 962 (by decide +kernel) (by decide +kernel)) (wA 963 (by decide +kernel) (by decide +kernel)) (wA 964 (by decide +kernel) (by decide +kernel)) hR rfl (m_JS_coder C.2.2.2.2.2.2.1 hk0 hc3) rfl rfl rfl dJ0_length_8abf5_6 rfl rfl ?_
  refine g_ishr C dJ0_length_8abf5_9  ?_
  exact g_iret C hr hlk rfl rfl (congrArg (fun z => some (Value.int z)) (Option.some.inj h)) dJ0_length_8abf5_10
set_option maxHeartbeats 4000000 in
set_option maxRecDepth 100000 in
theorem m_JS_isLatin1 {w : wT} {l : Launch} {k0 : Nat} {d : Dt} {rE : Int32} (hO : okW w) (hk0 : k0 < 54) (h : f_JS_isLatin1 k0  d = some rE) : gM w l yJ0_isLatin1_aae02 cJ0_isLatin1_aae02 1 (Option.some Jvm.ClassFile.FieldType.boolean) 0 [.ref (w_k w k0)] d d (some (.int rE)) := by
  refine gM_of (by decide) [(0, .ref (w_k w k0))] rfl rfl ?_ hO
  intro p e R s m args below meth c C hR hr hlk
  unfold f_JS_isLatin1 at h
  refine g_gets C (kC_Z C) (wA 956 (by decide +kernel) (by decide +kernel)) dJ0_isLatin1_aae02_0 ?_
  refine g_if_eq C dJ0_isLatin1_aae02_3 (tgt := 17) rfl (fun q => absurd q (by decide)) (fun q => ?_)
  refine g_aload_n C dJ0_isLatin1_aae02_6 0 rfl ?_
  refine g_getO C (ks_coder C hk0) (wA 1989 (by decide +kernel) (by decide +kernel)) dJ0_isLatin1_aae02_7 ?_
  refine g_if_ne C dJ0_isLatin1_aae02_10 (tgt := 17) rfl (fun q => absurd q (by decide)) (fun q => ?_)
  refine g_iconst C dJ0_isLatin1_aae02_13 (v := 1) rfl ?_
  refine g_goto C dJ0_isLatin1_aae02_14 (tgt := 18) rfl ?_
  exact g_iret C hr hlk rfl rfl (congrArg (fun z => some (Value.int z)) (Option.some.inj h)) dJ0_isLatin1_aae02_18
set_option maxHeartbeats 4000000 in
set_option maxRecDepth 100000 in
theorem m_JL_charAt {w : wT} {l : Launch} {k0 : Nat} {x1 : Int32} {d : Dt} {rE : Int32} (hO : okW w) (hk0 : k0 < 54) (h : f_JL_charAt k0 x1 d = some rE) : gM w l yJ1_charAt_3b067 cJ1_charAt_3b067 2 (Option.some Jvm.ClassFile.FieldType.char) 2 [.ref (w_k w (100 + k0)), .int x1] d d (some (.int rE)) := by
  refine gM_of (by decide) [(0, .ref (w_k w (100 + k0))), (1, .int x1)] rfl rfl ?_ hO
  intro p e R s m args below meth c C hR hr hlk
  unfold f_JL_charAt at h
  refine g_iload_n C dJ1_charAt_3b067_0 1 rfl ?_
  refine g_aload_n C dJ1_charAt_3b067_1 0 rfl ?_
  refine g_lenK C (ks_row C hk0) rfl dJ1_charAt_3b067_2 ?_
  obtain ⟨_, hc1, h⟩ := ob1_1 h
  refine g_callSv C sk_JL_9 hR rfl (m_JS_checkIndex C.2.2.2.2.2.2.1 hc1) rfl rfl rfl dJ1_charAt_3b067_3 rfl rfl ?_
  refine g_aload_n C dJ1_charAt_3b067_6 0 rfl ?_
  refine g_iload_n C dJ1_charAt_3b067_7 1 rfl ?_
  have hg2 := gd_1 h
  replace h := gd_2 h
  refine g_baldK C (ks_row C hk0) hg2 rfl dJ1_charAt_3b067_8 ?_
  refine g_sipush C dJ1_charAt_3b067_9 (v := 255) (by decide) ?_
  refine g_iand C dJ1_charAt_3b067_12  ?_
  refine g_i2c C dJ1_charAt_3b067_13  ?_
  have hg3 := gd_1 h
  replace h := gd_2 h
  exact g_iret C hr hlk (nar_n hg3) rfl (congrArg (fun z => some (Value.int z)) (Option.some.inj h)) dJ1_charAt_3b067_14
set_option maxHeartbeats 4000000 in
set_option maxRecDepth 100000 in
theorem m_JS_charAt {w : wT} {l : Launch} {k0 : Nat} {x1 : Int32} {d : Dt} {rE : Int32} (hO : okW w) (hk0 : k0 < 54) (h : f_JS_charAt k0 x1 d = some rE) : gM w l yJ0_charAt_5068e cJ0_charAt_5068e 2 (Option.some Jvm.ClassFile.FieldType.char) 3 [.ref (w_k w k0), .int x1] d d (some (.int rE)) := by
  refine gM_of (by decide) [(0, .ref (w_k w k0)), (1, .int x1)] rfl rfl ?_ hO
  intro p e R s m args below meth c C hR hr hlk
  unfold f_JS_charAt at h
  refine g_aload_n C dJ0_charAt_5068e_0 0 rfl ?_
  obtain ⟨r3, hc4, h⟩ := ob1_1 h
  refine g_callO C _ (ks_obj C hk0) yk_J0_isLatin1_aae02 rfl (wA 952 (by decide +kernel) (by decide +kernel)) (wA 953 (by decide +kernel) (by decide +kernel)) (wA 954 (by decide +kernel) (by decide +kernel)) hR rfl (m_JS_isLatin1 C.2.2.2.2.2.2.1 hk0 hc4) rfl rfl rfl dJ0_charAt_5068e_1 rfl rfl ?_
  refine g_if_eq C dJ0_charAt_5068e_4 (tgt := 16) rfl (fun q => ?_) (fun q => ?_)
  · replace h := it_t q h
    refine g_aload_n C dJ0_charAt_5068e_16 0 rfl ?_
    refine g_getO C (ks_value C hk0) (wA 1990 (by decide +kernel) (by decide +kernel)) dJ0_charAt_5068e_17 ?_
    refine g_iload_n C dJ0_charAt_5068e_20 1 rfl ?_
    cases h
  · replace h := it_f q h
    refine g_aload_n C dJ0_charAt_5068e_7 0 rfl ?_
    refine g_getO C (ks_value C hk0) (wA 1990 (by decide +kernel) (by decide +kernel)) dJ0_charAt_5068e_8 ?_
    refine g_iload_n C dJ0_charAt_5068e_11 1 rfl ?_
    obtain ⟨r5, hc6, h⟩ := ob1_1 h
    refine g_callSi C sk_JS_495 hR rfl (m_JL_charAt C.2.2.2.2.2.2.1 hk0 hc6) rfl rfl rfl dJ0_charAt_5068e_12 rfl rfl ?_
    have hg7 := gd_1 h
    replace h := gd_2 h
    exact g_iret C hr hlk (nar_n hg7) rfl (congrArg (fun z => some (Value.int z)) (Option.some.inj h)) dJ0_charAt_5068e_15
set_option maxHeartbeats 4000000 in
set_option maxRecDepth 100000 in
theorem m_M_isWord {w : wT} {l : Launch} {k2 : Nat} {x1 : Int32} {d : Dt} {rE : Int32} {dE : Dt} (hO : okW w) (hk2 : k2 < 54) (h : f_M_isWord k2 x1 d = some (rE, dE)) : gM w l yX12_isWord cX12_isWord 4 (Option.some Jvm.ClassFile.FieldType.boolean) 4 [.ref (w_r w 292), .int x1, .ref (w_k w k2)] d dE (some (.int rE)) := by
  refine gM_of (by decide) [(0, .ref (w_r w 292)), (1, .int x1), (2, .ref (w_k w k2))] rfl rfl ?_ hO
  intro p e R s m args below meth c C hR hr hlk
  have R14 : ∀ (x3 : Int32) (d : Dt), f_M_isWord_14 k2 x3 d = some (rE, dE) → gG w p l e R s m args below meth c 4 0 0 (gE w below args s dE (some (.int rE))) d [(0, .ref (w_r w 292)), (2, .ref (w_k w k2)), (3, .int x3)] 14 [] := by
    intro x3 d  h
    refine iter_ind (G := fun s_ : (Int32 × Dt) => gG w p l e R s m args below meth c 4 0 0 (gE w below args s dE (some (.int rE))) s_.2 [(0, .ref (w_r w 292)), (2, .ref (w_k w k2)), (3, .int s_.1)] 14 []) ?_ fu _ h
    clear h
    intro s_ y1 h hl1 hx1
    obtain ⟨x3, d⟩ := s_
    show gG w p l e R s m args below meth c 4 0 0 (gE w below args s dE (some (.int rE))) d [(0, .ref (w_r w 292)), (2, .ref (w_k w k2)), (3, .int x3)] 14 []
    dsimp only at h
    unfold st_M_isWord_14 at h
    refine g_iload_n C dX12_isWord_14 2 rfl ?_
    refine g_aload_n C dX12_isWord_15 1 rfl ?_
    obtain ⟨r6, hc7, h⟩ := ob1_1 h
    refine g_callO C _ (ks_obj C hk2) yk_J0_length_8abf5 rfl (wA 1885 (by decide +kernel) (by decide +kernel)) (wA 959 (by decide +kernel) (by decide +kernel)) (wA 960 (by decide +kernel) (by decide +kernel)) hR rfl (m_JS_length C.2.2.2.2.2.2.1 hk2 hc7) rfl rfl rfl dX12_isWord_16 rfl rfl ?_
    refine g_icmp_ge C dX12_isWord_19 (tgt := 42) rfl (fun q => ?_) (fun q => ?_)
    · replace h := it_t q h
      replace h := ir_2 h hx1
      refine g_iconst C dX12_isWord_42 (v := 1) rfl ?_
      exact g_iret C hr hlk rfl (congrArg Prod.snd (Option.some.inj h)) (congrArg (fun z => some (Value.int z.1)) (Option.some.inj h)) dX12_isWord_43
    · replace h := it_f q h
      refine g_aload_n C dX12_isWord_22 0 rfl ?_
      refine g_aload_n C dX12_isWord_23 1 rfl ?_
      refine g_iload_n C dX12_isWord_24 2 rfl ?_
      obtain ⟨r8, hc9, h⟩ := ob1_1 h
      refine g_callO C _ (ks_obj C hk2) yk_J0_charAt_5068e rfl (wA 1786 (by decide +kernel) (by decide +kernel)) (wA 1335 (by decide +kernel) (by decide +kernel)) (wA 1336 (by decide +kernel) (by decide +kernel)) hR rfl (m_JS_charAt C.2.2.2.2.2.2.1 hk2 hc9) rfl rfl rfl dX12_isWord_25 rfl rfl ?_
      obtain ⟨r10, d11, hc12, h⟩ := ob2_1 h
      refine g_callVi C 292 q_292 vk_M_183 hR rfl (m_M_skips C.2.2.2.2.2.2.1 hc12) rfl rfl rfl dX12_isWord_28 rfl rfl ?_
      refine g_if_ne C dX12_isWord_31 (tgt := 36) rfl (fun q => ?_) (fun q => ?_)
      · replace h := it_f q h
        refine g_iinc C (lv' := [(3, .int (x3 + 1)), (0, .ref (w_r w 292)), (2, .ref (w_k w k2))]) (v := (x3 + 1)) dX12_isWord_36 2 rfl rfl (by decide) rfl ?_
        refine g_goto C dX12_isWord_39 (tgt := 14) rfl ?_
        refine g_sub [1, 2, 0] (lv' := [(0, .ref (w_r w 292)), (2, .ref (w_k w k2)), (3, .int (x3 + 1))]) rfl ?_
        exact hl1 ((x3 + 1), d11) (Option.some.inj h).symm
      · replace h := it_t q h
        replace h := ir_2 h hx1
        refine g_iconst C dX12_isWord_34 (v := 0) rfl ?_
        exact g_iret C hr hlk rfl (congrArg Prod.snd (Option.some.inj h)) (congrArg (fun z => some (Value.int z.1)) (Option.some.inj h)) dX12_isWord_35
  unfold f_M_isWord at h
  refine g_aload_n C dX12_isWord_0 0 rfl ?_
  refine g_get C (.ref (w_r w 299)) 292 q_292 fk_M_36 rfl dX12_isWord_1 ?_
  refine g_iconst C dX12_isWord_4 (v := 5) rfl ?_
  refine g_aload_n C dX12_isWord_5 0 rfl ?_
  refine g_get C (.int (d 292 16)) 292 q_292 fk_M_178 rfl dX12_isWord_6 ?_
  refine g_imul C dX12_isWord_9  ?_
  refine g_iload_n C dX12_isWord_10 1 rfl ?_
  have hg13 := gd_1 h
  replace h := gd_2 h
  refine g_iast C 299 q_299 hg13 _ rfl  dX12_isWord_11 ?_
  obtain ⟨d14, hd14, h⟩ := bnd_1 h
  refine g_nmD hd14 ?_
  refine g_iconst C dX12_isWord_12 (v := 0) rfl ?_
  refine g_istore_n C (lv' := [(3, .int 0), (0, .ref (w_r w 292)), (1, .int x1), (2, .ref (w_k w k2))]) dX12_isWord_13 (by decide) rfl ?_
  refine g_sub [1, 3, 0] (lv' := [(0, .ref (w_r w 292)), (2, .ref (w_k w k2)), (3, .int 0)]) rfl ?_
  exact R14 0 d14 h
set_option maxHeartbeats 4000000 in
set_option maxRecDepth 100000 in
theorem m_M_digits {w : wT} {l : Launch} {x1 x2 : Int32} {d : Dt} {rE : Int32} {dE : Dt} (hO : okW w) (h : f_M_digits x1 x2 d = some (rE, dE)) : gM w l yX12_digits cX12_digits 4 (Option.some Jvm.ClassFile.FieldType.boolean) 1 [.ref (w_r w 292), .int x1, .int x2] d dE (some (.int rE)) := by
  refine gM_of (by decide) [(0, .ref (w_r w 292)), (1, .int x1), (2, .int x2)] rfl rfl ?_ hO
  intro p e R s m args below meth c C hR hr hlk
  have R25 : ∀ (x1 : Int32) (x2 : Int32) (x3 : Int32) (d : Dt), f_M_digits_25 x1 x2 x3 d = some (rE, dE) → gG w p l e R s m args below meth c 4 0 0 (gE w below args s dE (some (.int rE))) d [(0, .ref (w_r w 292)), (1, .int x1), (2, .int x2), (3, .int x3)] 25 [] := by
    intro x1 x2 x3 d  h
    refine iter_ind (G := fun s_ : (Int32 × Dt) => gG w p l e R s m args below meth c 4 0 0 (gE w below args s dE (some (.int rE))) s_.2 [(0, .ref (w_r w 292)), (1, .int x1), (2, .int x2), (3, .int s_.1)] 25 []) ?_ fu _ h
    clear h
    intro s_ y1 h hl1 hx1
    obtain ⟨x3, d⟩ := s_
    show gG w p l e R s m args below meth c 4 0 0 (gE w below args s dE (some (.int rE))) d [(0, .ref (w_r w 292)), (1, .int x1), (2, .int x2), (3, .int x3)] 25 []
    dsimp only at h
    unfold st_M_digits_25 at h
    refine g_iload_n C dX12_digits_25 3 rfl ?_
    refine g_iload_n C dX12_digits_26 2 rfl ?_
    refine g_icmp_ge C dX12_digits_27 (tgt := 83) rfl (fun q => ?_) (fun q => ?_)
    · replace h := it_t q h
      replace h := ir_2 h hx1
      refine g_iconst C dX12_digits_83 (v := 1) rfl ?_
      exact g_iret C hr hlk rfl (congrArg Prod.snd (Option.some.inj h)) (congrArg (fun z => some (Value.int z.1)) (Option.some.inj h)) dX12_digits_84
    · replace h := it_f q h
      refine g_aload_n C dX12_digits_30 0 rfl ?_
      obtain ⟨r9, hc10, h⟩ := ob1_1 h
      refine g_callVi C 292 q_292 vk_M_175 hR rfl (m_M_here C.2.2.2.2.2.2.1 hc10) rfl rfl rfl dX12_digits_31 rfl rfl ?_
      refine g_bipush C dX12_digits_34 (v := 48) (by decide) ?_
      refine g_bipush C dX12_digits_36 (v := 57) (by decide) ?_
      obtain ⟨r11, hc12, h⟩ := ob1_1 h
      refine g_callSi C sk_M_53 hR rfl (m_M_in C.2.2.2.2.2.2.1 hc12) rfl rfl rfl dX12_digits_38 rfl rfl ?_
      refine g_if_eq C dX12_digits_41 (tgt := 83) rfl (fun q => ?_) (fun q => ?_)
      · replace h := it_t q h
        replace h := ir_2 h hx1
        refine g_iconst C dX12_digits_83 (v := 1) rfl ?_
        exact g_iret C hr hlk rfl (congrArg Prod.snd (Option.some.inj h)) (congrArg (fun z => some (Value.int z.1)) (Option.some.inj h)) dX12_digits_84
      · replace h := it_f q h
        refine g_aload_n C dX12_digits_44 0 rfl ?_
        refine g_get C (.ref (w_r w 299)) 292 q_292 fk_M_36 rfl dX12_digits_45 ?_
        refine g_iload_n C dX12_digits_48 1 rfl ?_
        refine g_bipush C dX12_digits_49 (v := 10) (by decide) ?_
        refine g_aload_n C dX12_digits_51 0 rfl ?_
        refine g_get C (.ref (w_r w 299)) 292 q_292 fk_M_36 rfl dX12_digits_52 ?_
        refine g_iload_n C dX12_digits_55 1 rfl ?_
        have hg13 := gd_1 h
        replace h := gd_2 h
        refine g_iald C 299 q_299 hg13 _ rfl dX12_digits_56 ?_
        refine g_imul C dX12_digits_57  ?_
        refine g_aload_n C dX12_digits_58 0 rfl ?_
        obtain ⟨r14, hc15, h⟩ := ob1_1 h
        refine g_callVi C 292 q_292 vk_M_175 hR rfl (m_M_here C.2.2.2.2.2.2.1 hc15) rfl rfl rfl dX12_digits_59 rfl rfl ?_
        refine g_iadd C dX12_digits_62  ?_
        refine g_bipush C dX12_digits_63 (v := 48) (by decide) ?_
        refine g_isub C dX12_digits_65  ?_
        have hg16 := gd_1 h
        replace h := gd_2 h
        refine g_iast C 299 q_299 hg16 _ rfl  dX12_digits_66 ?_
        obtain ⟨d17, hd17, h⟩ := bnd_1 h
        refine g_nmD hd17 ?_
        refine g_aload_n C dX12_digits_67 0 rfl ?_
        refine g_dup C dX12_digits_68 rfl ?_
        refine g_get C (.int (d17 292 14)) 292 q_292 fk_M_172 rfl dX12_digits_69 ?_
        refine g_iconst C dX12_digits_72 (v := 1) rfl ?_
        refine g_iadd C dX12_digits_73  ?_
        refine g_put C 292 q_292 pk_M_172 rfl rfl dX12_digits_74 ?_
        obtain ⟨d18, hd18, h⟩ := bnd_1 h
        refine g_nmD hd18 ?_
        refine g_iinc C (lv' := [(3, .int (x3 + 1)), (0, .ref (w_r w 292)), (1, .int x1), (2, .int x2)]) (v := (x3 + 1)) dX12_digits_77 3 rfl rfl (by decide) rfl ?_
        refine g_goto C dX12_digits_80 (tgt := 25) rfl ?_
        refine g_sub [1, 2, 3, 0] (lv' := [(0, .ref (w_r w 292)), (1, .int x1), (2, .int x2), (3, .int (x3 + 1))]) rfl ?_
        exact hl1 ((x3 + 1), d18) (Option.some.inj h).symm
  unfold f_M_digits at h
  refine g_aload_n C dX12_digits_0 0 rfl ?_
  obtain ⟨r19, hc20, h⟩ := ob1_1 h
  refine g_callVi C 292 q_292 vk_M_175 hR rfl (m_M_here C.2.2.2.2.2.2.1 hc20) rfl rfl rfl dX12_digits_1 rfl rfl ?_
  refine g_bipush C dX12_digits_4 (v := 48) (by decide) ?_
  refine g_bipush C dX12_digits_6 (v := 57) (by decide) ?_
  obtain ⟨r21, hc22, h⟩ := ob1_1 h
  refine g_callSi C sk_M_53 hR rfl (m_M_in C.2.2.2.2.2.2.1 hc22) rfl rfl rfl dX12_digits_8 rfl rfl ?_
  refine g_if_ne C dX12_digits_11 (tgt := 16) rfl (fun q => ?_) (fun q => ?_)
  · replace h := it_f q h
    refine g_aload_n C dX12_digits_16 0 rfl ?_
    refine g_get C (.ref (w_r w 299)) 292 q_292 fk_M_36 rfl dX12_digits_17 ?_
    refine g_iload_n C dX12_digits_20 1 rfl ?_
    refine g_iconst C dX12_digits_21 (v := 0) rfl ?_
    have hg23 := gd_1 h
    replace h := gd_2 h
    refine g_iast C 299 q_299 hg23 _ rfl  dX12_digits_22 ?_
    obtain ⟨d24, hd24, h⟩ := bnd_1 h
    refine g_nmD hd24 ?_
    refine g_iconst C dX12_digits_23 (v := 0) rfl ?_
    refine g_istore_n C (lv' := [(3, .int 0), (0, .ref (w_r w 292)), (1, .int x1), (2, .int x2)]) dX12_digits_24 (by decide) rfl ?_
    refine g_sub [1, 2, 3, 0] (lv' := [(0, .ref (w_r w 292)), (1, .int x1), (2, .int x2), (3, .int 0)]) rfl ?_
    exact R25 x1 x2 0 d24 h
  · replace h := it_t q h
    refine g_iconst C dX12_digits_14 (v := 0) rfl ?_
    exact g_iret C hr hlk rfl (congrArg Prod.snd (Option.some.inj h)) (congrArg (fun z => some (Value.int z.1)) (Option.some.inj h)) dX12_digits_15
set_option maxHeartbeats 4000000 in
set_option maxRecDepth 100000 in
theorem m_M_figures {w : wT} {l : Launch} {x1 x2 : Int32} {d : Dt} {rE : Int32} {dE : Dt} (hO : okW w) (h : f_M_figures x1 x2 d = some (rE, dE)) : gM w l yX12_figures cX12_figures 3 (Option.some Jvm.ClassFile.FieldType.boolean) 2 [.ref (w_r w 292), .int x1, .int x2] d dE (some (.int rE)) := by
  refine gM_of (by decide) [(0, .ref (w_r w 292)), (1, .int x1), (2, .int x2)] rfl rfl ?_ hO
  intro p e R s m args below meth c C hR hr hlk
  unfold f_M_figures at h
  refine g_aload_n C dX12_figures_0 0 rfl ?_
  refine g_bipush C dX12_figures_1 (v := 32) (by decide) ?_
  obtain ⟨r5, d6, hc7, h⟩ := ob2_1 h
  refine g_callVi C 292 q_292 vk_M_183 hR rfl (m_M_skips C.2.2.2.2.2.2.1 hc7) rfl rfl rfl dX12_figures_3 rfl rfl ?_
  refine g_if_eq C dX12_figures_6 (tgt := 22) rfl (fun q => ?_) (fun q => ?_)
  · replace h := it_t q h
    refine g_iconst C dX12_figures_22 (v := 0) rfl ?_
    exact g_iret C hr hlk rfl (congrArg Prod.snd (Option.some.inj h)) (congrArg (fun z => some (Value.int z.1)) (Option.some.inj h)) dX12_figures_23
  · replace h := it_f q h
    refine g_aload_n C dX12_figures_9 0 rfl ?_
    refine g_iload_n C dX12_figures_10 1 rfl ?_
    refine g_iload_n C dX12_figures_11 2 rfl ?_
    obtain ⟨r8, d9, hc10, h⟩ := ob2_1 h
    refine g_callVi C 292 q_292 vk_M_186 hR rfl (m_M_digits C.2.2.2.2.2.2.1 hc10) rfl rfl rfl dX12_figures_12 rfl rfl ?_
    refine g_if_eq C dX12_figures_15 (tgt := 22) rfl (fun q => ?_) (fun q => ?_)
    · replace h := it_t q h
      refine g_iconst C dX12_figures_22 (v := 0) rfl ?_
      exact g_iret C hr hlk rfl (congrArg Prod.snd (Option.some.inj h)) (congrArg (fun z => some (Value.int z.1)) (Option.some.inj h)) dX12_figures_23
    · replace h := it_f q h
      refine g_iconst C dX12_figures_18 (v := 1) rfl ?_
      refine g_goto C dX12_figures_19 (tgt := 23) rfl ?_
      exact g_iret C hr hlk rfl (congrArg Prod.snd (Option.some.inj h)) (congrArg (fun z => some (Value.int z.1)) (Option.some.inj h)) dX12_figures_23
set_option maxHeartbeats 4000000 in
set_option maxRecDepth 100000 in
theorem m_M_isOneOf {w : wT} {l : Launch} {x1 x2 x3 : Int32} {d : Dt} {rE : Int32} {dE : Dt} (hO : okW w) (h : f_M_isOneOf x1 x2 x3 d = some (rE, dE)) : gM w l yX12_isOneOf cX12_isOneOf 4 (Option.some Jvm.ClassFile.FieldType.boolean) 2 [.ref (w_r w 292), .int x1, .int x2, .int x3] d dE (some (.int rE)) := by
  refine gM_of (by decide) [(0, .ref (w_r w 292)), (1, .int x1), (2, .int x2), (3, .int x3)] rfl rfl ?_ hO
  intro p e R s m args below meth c C hR hr hlk
  have R18 : ∀ (x2 : Int32) (x3 : Int32) (v1 : Int32) (v2 : Int32) (d : Dt), f_M_isOneOf_18 x2 x3 v1 v2 d = some (rE, dE) → gG w p l e R s m args below meth c 4 0 0 (gE w below args s dE (some (.int rE))) d [(0, .ref (w_r w 292)), (2, .int x2), (3, .int x3)] 18 [.int v2, .int v1, .ref (w_r w 299)] := by
    intro x2 x3 v1 v2 d  h
    unfold f_M_isOneOf_18 at h
    have hg7 := gd_1 h
    replace h := gd_2 h
    refine g_iast C 299 q_299 hg7 _ rfl  dX12_isOneOf_18 ?_
    obtain ⟨d8, hd8, h⟩ := bnd_1 h
    refine g_nmD hd8 ?_
    refine g_aload_n C dX12_isOneOf_19 0 rfl ?_
    refine g_iload_n C dX12_isOneOf_20 1 rfl ?_
    obtain ⟨r9, d10, hc11, h⟩ := ob2_1 h
    refine g_callVi C 292 q_292 vk_M_183 hR rfl (m_M_skips C.2.2.2.2.2.2.1 hc11) rfl rfl rfl dX12_isOneOf_21 rfl rfl ?_
    refine g_if_ne C dX12_isOneOf_24 (tgt := 35) rfl (fun q => ?_) (fun q => ?_)
    · replace h := it_f q h
      refine g_iconst C dX12_isOneOf_35 (v := 1) rfl ?_
      refine g_goto C dX12_isOneOf_36 (tgt := 40) rfl ?_
      exact g_iret C hr hlk rfl (congrArg Prod.snd (Option.some.inj h)) (congrArg (fun z => some (Value.int z.1)) (Option.some.inj h)) dX12_isOneOf_40
    · replace h := it_t q h
      refine g_aload_n C dX12_isOneOf_27 0 rfl ?_
      refine g_iload_n C dX12_isOneOf_28 2 rfl ?_
      obtain ⟨r12, d13, hc14, h⟩ := ob2_1 h
      refine g_callVi C 292 q_292 vk_M_183 hR rfl (m_M_skips C.2.2.2.2.2.2.1 hc14) rfl rfl rfl dX12_isOneOf_29 rfl rfl ?_
      refine g_if_eq C dX12_isOneOf_32 (tgt := 39) rfl (fun q => ?_) (fun q => ?_)
      · replace h := it_t q h
        refine g_iconst C dX12_isOneOf_39 (v := 0) rfl ?_
        exact g_iret C hr hlk rfl (congrArg Prod.snd (Option.some.inj h)) (congrArg (fun z => some (Value.int z.1)) (Option.some.inj h)) dX12_isOneOf_40
      · replace h := it_f q h
        refine g_iconst C dX12_isOneOf_35 (v := 1) rfl ?_
        refine g_goto C dX12_isOneOf_36 (tgt := 40) rfl ?_
        exact g_iret C hr hlk rfl (congrArg Prod.snd (Option.some.inj h)) (congrArg (fun z => some (Value.int z.1)) (Option.some.inj h)) dX12_isOneOf_40
  unfold f_M_isOneOf at h
  refine g_aload_n C dX12_isOneOf_0 0 rfl ?_
  refine g_get C (.ref (w_r w 299)) 292 q_292 fk_M_36 rfl dX12_isOneOf_1 ?_
  refine g_iload_n C dX12_isOneOf_4 1 rfl ?_
  refine g_aload_n C dX12_isOneOf_5 0 rfl ?_
  obtain ⟨r15, hc16, h⟩ := ob1_1 h
  refine g_callVi C 292 q_292 vk_M_175 hR rfl (m_M_here C.2.2.2.2.2.2.1 hc16) rfl rfl rfl dX12_isOneOf_6 rfl rfl ?_
  refine g_iload_n C dX12_isOneOf_9 2 rfl ?_
  refine g_icmp_ne C dX12_isOneOf_10 (tgt := 17) rfl (fun q => ?_) (fun q => ?_)
  · replace h := it_f q h
    refine g_iconst C dX12_isOneOf_17 (v := 0) rfl ?_
    refine g_sub [0, 2, 3] (lv' := [(0, .ref (w_r w 292)), (2, .int x2), (3, .int x3)]) rfl ?_
    exact R18 x2 x3 x1 0 d h
  · replace h := it_t q h
    refine g_iconst C dX12_isOneOf_13 (v := 1) rfl ?_
    refine g_goto C dX12_isOneOf_14 (tgt := 18) rfl ?_
    refine g_sub [0, 2, 3] (lv' := [(0, .ref (w_r w 292)), (2, .int x2), (3, .int x3)]) rfl ?_
    exact R18 x2 x3 x1 1 d h
