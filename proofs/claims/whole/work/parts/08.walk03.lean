/-! 08: walks -/
set_option maxHeartbeats 4000000 in
set_option maxRecDepth 100000 in
theorem m_M_daysLeft {w : wT} {l : Launch} {x1 : Int32} {d : Dt} {rE : Int32} {dE : Dt} (hO : okW w) (h : f_M_daysLeft x1 d = some (rE, dE)) : gM w l yX12_daysLeft cX12_daysLeft 2 (Option.some Jvm.ClassFile.FieldType.int) 2 [.ref (w_r w 292), .int x1] d dE (some (.int rE)) := by
  refine gM_of (by decide) [(0, .ref (w_r w 292)), (1, .int x1)] rfl rfl ?_ hO
  intro p e R s m args below meth c C hR hr hlk
  have R27 : ∀ (x1 : Int32) (v1 : Int32) (d : Dt), f_M_daysLeft_27 x1 v1 d = some (rE, dE) → gG w p l e R s m args below meth c 2 0 0 (gE w below args s dE (some (.int rE))) d [(0, .ref (w_r w 292)), (1, .int x1)] 27 [.int v1, .ref (w_r w 292)] := by
    intro x1 v1 d  h
    unfold f_M_daysLeft_27 at h
    obtain ⟨r6, d7, hc8, h⟩ := ob2_1 h
    refine g_callVi C 292 q_292 vk_M_61 hR rfl (m_M_fails C.2.2.2.2.2.2.1 hc8) rfl rfl rfl dX12_daysLeft_27 rfl rfl ?_
    refine g_if_eq C dX12_daysLeft_30 (tgt := 37) rfl (fun q => ?_) (fun q => ?_)
    · replace h := it_t q h
      refine g_aload_n C dX12_daysLeft_37 0 rfl ?_
      refine g_iload_n C dX12_daysLeft_38 1 rfl ?_
      refine g_iconst C dX12_daysLeft_39 (v := 3) rfl ?_
      obtain ⟨r9, hc10, h⟩ := ob1_1 h
      refine g_callVi C 292 q_292 vk_M_87 hR rfl (m_M_of C.2.2.2.2.2.2.1 hc10) rfl rfl rfl dX12_daysLeft_40 rfl rfl ?_
      exact g_iret C hr hlk rfl (congrArg Prod.snd (Option.some.inj h)) (congrArg (fun z => some (Value.int z.1)) (Option.some.inj h)) dX12_daysLeft_43
    · replace h := it_f q h
      refine g_iconst C dX12_daysLeft_33 (v := 0) rfl ?_
      refine g_goto C dX12_daysLeft_34 (tgt := 43) rfl ?_
      exact g_iret C hr hlk rfl (congrArg Prod.snd (Option.some.inj h)) (congrArg (fun z => some (Value.int z.1)) (Option.some.inj h)) dX12_daysLeft_43
  unfold f_M_daysLeft at h
  refine g_aload_n C dX12_daysLeft_0 0 rfl ?_
  refine g_aload_n C dX12_daysLeft_1 0 rfl ?_
  refine g_iload_n C dX12_daysLeft_2 1 rfl ?_
  obtain ⟨r11, hc12, h⟩ := ob1_1 h
  refine g_callVi C 292 q_292 vk_M_57 hR rfl (m_M_isLantern C.2.2.2.2.2.2.1 hc12) rfl rfl rfl dX12_daysLeft_3 rfl rfl ?_
  refine g_if_ne C dX12_daysLeft_6 (tgt := 13) rfl (fun q => ?_) (fun q => ?_)
  · replace h := it_f q h
    refine g_aload_n C dX12_daysLeft_13 0 rfl ?_
    refine g_iload_n C dX12_daysLeft_14 1 rfl ?_
    refine g_iconst C dX12_daysLeft_15 (v := 2) rfl ?_
    obtain ⟨r13, hc14, h⟩ := ob1_1 h
    refine g_callVi C 292 q_292 vk_M_87 hR rfl (m_M_of C.2.2.2.2.2.2.1 hc14) rfl rfl rfl dX12_daysLeft_16 rfl rfl ?_
    refine g_if_ne C dX12_daysLeft_19 (tgt := 26) rfl (fun q => ?_) (fun q => ?_)
    · replace h := it_f q h
      refine g_iconst C dX12_daysLeft_26 (v := 0) rfl ?_
      exact R27 x1 0 d h
    · replace h := it_t q h
      refine g_iconst C dX12_daysLeft_22 (v := 2) rfl ?_
      refine g_goto C dX12_daysLeft_23 (tgt := 27) rfl ?_
      exact R27 x1 2 d h
  · replace h := it_t q h
    refine g_iconst C dX12_daysLeft_9 (v := 1) rfl ?_
    refine g_goto C dX12_daysLeft_10 (tgt := 27) rfl ?_
    exact R27 x1 1 d h
set_option maxHeartbeats 4000000 in
set_option maxRecDepth 100000 in
theorem m_M_toServe {w : wT} {l : Launch} {x1 : Int32} {d : Dt} {rE : Int32} (hO : okW w) (h : f_M_toServe x1 d = some rE) : gM w l yX12_toServe cX12_toServe 4 (Option.some Jvm.ClassFile.FieldType.int) 1 [.ref (w_r w 292), .int x1] d d (some (.int rE)) := by
  refine gM_of (by decide) [(0, .ref (w_r w 292)), (1, .int x1)] rfl rfl ?_ hO
  intro p e R s m args below meth c C hR hr hlk
  have R4 : ∀ (x1 : Int32) (x2 : Int32) (x3 : Int32), f_M_toServe_4 x1 x2 x3 d = some rE → gG w p l e R s m args below meth c 4 0 0 (gE w below args s d (some (.int rE))) d [(0, .ref (w_r w 292)), (1, .int x1), (2, .int x2), (3, .int x3)] 4 [] := by
    intro x1 x2 x3   h
    refine iter_ind (G := fun s_ : (Int32 × Int32) => gG w p l e R s m args below meth c 4 0 0 (gE w below args s d (some (.int rE))) d [(0, .ref (w_r w 292)), (1, .int x1), (2, .int s_.1), (3, .int s_.2)] 4 []) ?_ fu _ h
    clear h
    intro s_ y1 h hl1 hx1
    obtain ⟨x2, x3⟩ := s_
    show gG w p l e R s m args below meth c 4 0 0 (gE w below args s d (some (.int rE))) d [(0, .ref (w_r w 292)), (1, .int x1), (2, .int x2), (3, .int x3)] 4 []
    dsimp only at h
    unfold st_M_toServe_4 at h
    refine g_iload_n C dX12_toServe_4 3 rfl ?_
    refine g_aload_n C dX12_toServe_5 0 rfl ?_
    refine g_iload_n C dX12_toServe_6 1 rfl ?_
    refine g_iconst C dX12_toServe_7 (v := 2) rfl ?_
    obtain ⟨r3, hc4, h⟩ := ob1_1 h
    refine g_callVi C 292 q_292 vk_M_87 hR rfl (m_M_of C.2.2.2.2.2.2.1 hc4) rfl rfl rfl dX12_toServe_8 rfl rfl ?_
    refine g_icmp_ge C dX12_toServe_11 (tgt := 31) rfl (fun q => ?_) (fun q => ?_)
    · replace h := it_t q h
      replace h := ir_2 h hx1
      refine g_iload_n C dX12_toServe_31 2 rfl ?_
      exact g_iret C hr hlk rfl rfl (congrArg (fun z => some (Value.int z)) (Option.some.inj h)) dX12_toServe_32
    · replace h := it_f q h
      refine g_iload_n C dX12_toServe_14 2 rfl ?_
      refine g_aload_n C dX12_toServe_15 0 rfl ?_
      refine g_iload_n C dX12_toServe_16 1 rfl ?_
      refine g_iconst C dX12_toServe_17 (v := 3) rfl ?_
      refine g_iload_n C dX12_toServe_18 3 rfl ?_
      refine g_iadd C dX12_toServe_19  ?_
      obtain ⟨r5, hc6, h⟩ := ob1_1 h
      refine g_callVi C 292 q_292 vk_M_87 hR rfl (m_M_of C.2.2.2.2.2.2.1 hc6) rfl rfl rfl dX12_toServe_20 rfl rfl ?_
      refine g_iadd C dX12_toServe_23  ?_
      refine g_istore_n C (lv' := [(2, .int (x2 + r5)), (0, .ref (w_r w 292)), (1, .int x1), (3, .int x3)]) dX12_toServe_24 (by decide) rfl ?_
      refine g_iinc C (lv' := [(3, .int (x3 + 1)), (2, .int (x2 + r5)), (0, .ref (w_r w 292)), (1, .int x1)]) (v := (x3 + 1)) dX12_toServe_25 3 rfl rfl (by decide) rfl ?_
      refine g_goto C dX12_toServe_28 (tgt := 4) rfl ?_
      refine g_sub [2, 3, 1, 0] (lv' := [(0, .ref (w_r w 292)), (1, .int x1), (2, .int (x2 + r5)), (3, .int (x3 + 1))]) rfl ?_
      exact hl1 ((x2 + r5), (x3 + 1)) (Option.some.inj h).symm
  unfold f_M_toServe at h
  refine g_iconst C dX12_toServe_0 (v := 0) rfl ?_
  refine g_istore_n C (lv' := [(2, .int 0), (0, .ref (w_r w 292)), (1, .int x1)]) dX12_toServe_1 (by decide) rfl ?_
  refine g_iconst C dX12_toServe_2 (v := 0) rfl ?_
  refine g_istore_n C (lv' := [(3, .int 0), (2, .int 0), (0, .ref (w_r w 292)), (1, .int x1)]) dX12_toServe_3 (by decide) rfl ?_
  refine g_sub [2, 3, 1, 0] (lv' := [(0, .ref (w_r w 292)), (1, .int x1), (2, .int 0), (3, .int 0)]) rfl ?_
  exact R4 x1 0 0 h
set_option maxHeartbeats 4000000 in
set_option maxRecDepth 100000 in
theorem m_M_daysUntilFree {w : wT} {l : Launch} {x1 : Int32} {d : Dt} {rE : Int32} {dE : Dt} (hO : okW w) (h : f_M_daysUntilFree x1 d = some (rE, dE)) : gM w l yX12_daysUntilFree cX12_daysUntilFree 2 (Option.some Jvm.ClassFile.FieldType.int) 3 [.ref (w_r w 292), .int x1] d dE (some (.int rE)) := by
  refine gM_of (by decide) [(0, .ref (w_r w 292)), (1, .int x1)] rfl rfl ?_ hO
  intro p e R s m args below meth c C hR hr hlk
  unfold f_M_daysUntilFree at h
  refine g_aload_n C dX12_daysUntilFree_0 0 rfl ?_
  refine g_iload_n C dX12_daysUntilFree_1 1 rfl ?_
  obtain ⟨r4, d5, hc6, h⟩ := ob2_1 h
  refine g_callVi C 292 q_292 vk_M_134 hR rfl (m_M_isNone C.2.2.2.2.2.2.1 hc6) rfl rfl rfl dX12_daysUntilFree_2 rfl rfl ?_
  refine g_if_eq C dX12_daysUntilFree_5 (tgt := 12) rfl (fun q => ?_) (fun q => ?_)
  · replace h := it_t q h
    refine g_aload_n C dX12_daysUntilFree_12 0 rfl ?_
    refine g_iload_n C dX12_daysUntilFree_13 1 rfl ?_
    obtain ⟨r7, hc8, h⟩ := ob1_1 h
    refine g_callVi C 292 q_292 vk_M_137 hR rfl (m_M_toServe C.2.2.2.2.2.2.1 hc8) rfl rfl rfl dX12_daysUntilFree_14 rfl rfl ?_
    exact g_iret C hr hlk rfl (congrArg Prod.snd (Option.some.inj h)) (congrArg (fun z => some (Value.int z.1)) (Option.some.inj h)) dX12_daysUntilFree_17
  · replace h := it_f q h
    refine g_iconst C dX12_daysUntilFree_8 (v := 0) rfl ?_
    refine g_goto C dX12_daysUntilFree_9 (tgt := 17) rfl ?_
    exact g_iret C hr hlk rfl (congrArg Prod.snd (Option.some.inj h)) (congrArg (fun z => some (Value.int z.1)) (Option.some.inj h)) dX12_daysUntilFree_17
set_option maxHeartbeats 4000000 in
set_option maxRecDepth 100000 in
theorem m_M_errorPosition {w : wT} {l : Launch} {d : Dt} {rE : Int32} {dE : Dt} (hO : okW w) (h : f_M_errorPosition  d = some (rE, dE)) : gM w l yX12_errorPosition cX12_errorPosition 1 (Option.some Jvm.ClassFile.FieldType.int) 1 [.ref (w_r w 292)] d dE (some (.int rE)) := by
  refine gM_of (by decide) [(0, .ref (w_r w 292))] rfl rfl ?_ hO
  intro p e R s m args below meth c C hR hr hlk
  have R13 : ∀ (v1 : Int32) (d : Dt), f_M_errorPosition_13  v1 d = some (rE, dE) → gG w p l e R s m args below meth c 1 0 0 (gE w below args s dE (some (.int rE))) d [(0, .ref (w_r w 292))] 13 [.int v1, .ref (w_r w 292)] := by
    intro  v1 d  h
    unfold f_M_errorPosition_13 at h
    obtain ⟨r3, d4, hc5, h⟩ := ob2_1 h
    refine g_callVi C 292 q_292 vk_M_61 hR rfl (m_M_fails C.2.2.2.2.2.2.1 hc5) rfl rfl rfl dX12_errorPosition_13 rfl rfl ?_
    refine g_if_eq C dX12_errorPosition_16 (tgt := 23) rfl (fun q => ?_) (fun q => ?_)
    · replace h := it_t q h
      refine g_aload_n C dX12_errorPosition_23 0 rfl ?_
      refine g_get C (.int (d4 292 10)) 292 q_292 fk_M_25 rfl dX12_errorPosition_24 ?_
      exact g_iret C hr hlk rfl (congrArg Prod.snd (Option.some.inj h)) (congrArg (fun z => some (Value.int z.1)) (Option.some.inj h)) dX12_errorPosition_27
    · replace h := it_f q h
      refine g_iconst C dX12_errorPosition_19 (v := 0) rfl ?_
      refine g_goto C dX12_errorPosition_20 (tgt := 27) rfl ?_
      exact g_iret C hr hlk rfl (congrArg Prod.snd (Option.some.inj h)) (congrArg (fun z => some (Value.int z.1)) (Option.some.inj h)) dX12_errorPosition_27
  unfold f_M_errorPosition at h
  refine g_aload_n C dX12_errorPosition_0 0 rfl ?_
  refine g_aload_n C dX12_errorPosition_1 0 rfl ?_
  refine g_get C (.int (d 292 10)) 292 q_292 fk_M_25 rfl dX12_errorPosition_2 ?_
  refine g_if_ge C dX12_errorPosition_5 (tgt := 12) rfl (fun q => ?_) (fun q => ?_)
  · replace h := it_t q h
    refine g_iconst C dX12_errorPosition_12 (v := 0) rfl ?_
    exact R13 0 d h
  · replace h := it_f q h
    refine g_iconst C dX12_errorPosition_8 (v := 1) rfl ?_
    refine g_goto C dX12_errorPosition_9 (tgt := 13) rfl ?_
    exact R13 1 d h
set_option maxHeartbeats 4000000 in
set_option maxRecDepth 100000 in
theorem m_M_ways {w : wT} {l : Launch} {d : Dt} {rE : Int32} (hO : okW w) (h : f_M_ways  d = some rE) : gM w l yX12_ways cX12_ways 4 (Option.some Jvm.ClassFile.FieldType.int) 3 [.ref (w_r w 292)] d d (some (.int rE)) := by
  refine gM_of (by decide) [(0, .ref (w_r w 292))] rfl rfl ?_ hO
  intro p e R s m args below meth c C hR hr hlk
  have R15 : ∀ (x1 : Int32) (x2 : Int32) (x3 : Int32), f_M_ways_15 x1 x2 x3 d = some rE → gG w p l e R s m args below meth c 4 0 0 (gE w below args s d (some (.int rE))) d [(0, .ref (w_r w 292)), (1, .int x1), (2, .int x2), (3, .int x3)] 15 [] := by
    intro x1 x2 x3   h
    refine iter_ind (G := fun s_ : (Int32 × Int32) => gG w p l e R s m args below meth c 4 0 0 (gE w below args s d (some (.int rE))) d [(0, .ref (w_r w 292)), (1, .int x1), (2, .int s_.1), (3, .int s_.2)] 15 []) ?_ fu _ h
    clear h
    intro s_ y1 h hl1 hx1
    obtain ⟨x2, x3⟩ := s_
    show gG w p l e R s m args below meth c 4 0 0 (gE w below args s d (some (.int rE))) d [(0, .ref (w_r w 292)), (1, .int x1), (2, .int x2), (3, .int x3)] 15 []
    dsimp only at h
    unfold st_M_ways_15 at h
    refine g_iload_n C dX12_ways_15 3 rfl ?_
    refine g_iload_n C dX12_ways_16 1 rfl ?_
    refine g_icmp_gt C dX12_ways_17 (tgt := 52) rfl (fun q => ?_) (fun q => ?_)
    · replace h := it_t q h
      replace h := ir_2 h hx1
      refine g_iload_n C dX12_ways_52 2 rfl ?_
      exact g_iret C hr hlk rfl rfl (congrArg (fun z => some (Value.int z)) (Option.some.inj h)) dX12_ways_53
    · replace h := it_f q h
      refine g_iload_n C dX12_ways_20 2 rfl ?_
      refine g_aload_n C dX12_ways_21 0 rfl ?_
      refine g_iload_n C dX12_ways_22 1 rfl ?_
      refine g_iload_n C dX12_ways_23 3 rfl ?_
      obtain ⟨r3, hc4, h⟩ := ob1_1 h
      refine g_callVi C 292 q_292 vk_M_106 hR rfl (m_M_areTrue C.2.2.2.2.2.2.1 hc4) rfl rfl rfl dX12_ways_24 rfl rfl ?_
      refine g_if_eq C dX12_ways_27 (tgt := 43) rfl (fun q => ?_) (fun q => ?_)
      · replace h := it_t q h
        refine g_iconst C dX12_ways_43 (v := 0) rfl ?_
        refine g_iadd C dX12_ways_44  ?_
        refine g_istore_n C (lv' := [(2, .int (x2 + 0)), (0, .ref (w_r w 292)), (1, .int x1), (3, .int x3)]) dX12_ways_45 (by decide) rfl ?_
        refine g_iinc C (lv' := [(3, .int (x3 + 1)), (2, .int (x2 + 0)), (0, .ref (w_r w 292)), (1, .int x1)]) (v := (x3 + 1)) dX12_ways_46 3 rfl rfl (by decide) rfl ?_
        refine g_goto C dX12_ways_49 (tgt := 15) rfl ?_
        refine g_sub [2, 3, 1, 0] (lv' := [(0, .ref (w_r w 292)), (1, .int x1), (2, .int (x2 + 0)), (3, .int (x3 + 1))]) rfl ?_
        exact hl1 ((x2 + 0), (x3 + 1)) (Option.some.inj h).symm
      · replace h := it_f q h
        refine g_aload_n C dX12_ways_30 0 rfl ?_
        refine g_iload_n C dX12_ways_31 1 rfl ?_
        refine g_iload_n C dX12_ways_32 3 rfl ?_
        obtain ⟨r5, hc6, h⟩ := ob1_1 h
        refine g_callVi C 292 q_292 vk_M_109 hR rfl (m_M_isAdmitted C.2.2.2.2.2.2.1 hc6) rfl rfl rfl dX12_ways_33 rfl rfl ?_
        refine g_if_eq C dX12_ways_36 (tgt := 43) rfl (fun q => ?_) (fun q => ?_)
        · replace h := it_t q h
          refine g_iconst C dX12_ways_43 (v := 0) rfl ?_
          refine g_iadd C dX12_ways_44  ?_
          refine g_istore_n C (lv' := [(2, .int (x2 + 0)), (0, .ref (w_r w 292)), (1, .int x1), (3, .int x3)]) dX12_ways_45 (by decide) rfl ?_
          refine g_iinc C (lv' := [(3, .int (x3 + 1)), (2, .int (x2 + 0)), (0, .ref (w_r w 292)), (1, .int x1)]) (v := (x3 + 1)) dX12_ways_46 3 rfl rfl (by decide) rfl ?_
          refine g_goto C dX12_ways_49 (tgt := 15) rfl ?_
          refine g_sub [2, 3, 1, 0] (lv' := [(0, .ref (w_r w 292)), (1, .int x1), (2, .int (x2 + 0)), (3, .int (x3 + 1))]) rfl ?_
          exact hl1 ((x2 + 0), (x3 + 1)) (Option.some.inj h).symm
        · replace h := it_f q h
          refine g_iconst C dX12_ways_39 (v := 1) rfl ?_
          refine g_goto C dX12_ways_40 (tgt := 44) rfl ?_
          refine g_iadd C dX12_ways_44  ?_
          refine g_istore_n C (lv' := [(2, .int (x2 + 1)), (0, .ref (w_r w 292)), (1, .int x1), (3, .int x3)]) dX12_ways_45 (by decide) rfl ?_
          refine g_iinc C (lv' := [(3, .int (x3 + 1)), (2, .int (x2 + 1)), (0, .ref (w_r w 292)), (1, .int x1)]) (v := (x3 + 1)) dX12_ways_46 3 rfl rfl (by decide) rfl ?_
          refine g_goto C dX12_ways_49 (tgt := 15) rfl ?_
          refine g_sub [2, 3, 1, 0] (lv' := [(0, .ref (w_r w 292)), (1, .int x1), (2, .int (x2 + 1)), (3, .int (x3 + 1))]) rfl ?_
          exact hl1 ((x2 + 1), (x3 + 1)) (Option.some.inj h).symm
  unfold f_M_ways at h
  refine g_iconst C dX12_ways_0 (v := 1) rfl ?_
  refine g_aload_n C dX12_ways_1 0 rfl ?_
  refine g_get C (.ref (w_r w 293)) 292 q_292 fk_M_7 rfl dX12_ways_2 ?_
  refine g_iconst C dX12_ways_5 (v := 0) rfl ?_
  refine g_iald C 293 q_293 (by decide) 0 (by decide) dX12_ways_6 ?_
  refine g_ishl C dX12_ways_7  ?_
  refine g_iconst C dX12_ways_8 (v := 1) rfl ?_
  refine g_isub C dX12_ways_9  ?_
  refine g_istore_n C (lv' := [(1, .int ((1 <<< ((d 293 0) &&& 31)) - 1)), (0, .ref (w_r w 292))]) dX12_ways_10 (by decide) rfl ?_
  refine g_iconst C dX12_ways_11 (v := 0) rfl ?_
  refine g_istore_n C (lv' := [(2, .int 0), (1, .int ((1 <<< ((d 293 0) &&& 31)) - 1)), (0, .ref (w_r w 292))]) dX12_ways_12 (by decide) rfl ?_
  refine g_iconst C dX12_ways_13 (v := 0) rfl ?_
  refine g_istore_n C (lv' := [(3, .int 0), (2, .int 0), (1, .int ((1 <<< ((d 293 0) &&& 31)) - 1)), (0, .ref (w_r w 292))]) dX12_ways_14 (by decide) rfl ?_
  refine g_sub [3, 2, 1, 0] (lv' := [(0, .ref (w_r w 292)), (1, .int ((1 <<< ((d 293 0) &&& 31)) - 1)), (2, .int 0), (3, .int 0)]) rfl ?_
  exact R15 ((1 <<< ((d 293 0) &&& 31)) - 1) 0 0 h
set_option maxHeartbeats 4000000 in
set_option maxRecDepth 100000 in
theorem m_M_explanations {w : wT} {l : Launch} {d : Dt} {rE : Int32} {dE : Dt} (hO : okW w) (h : f_M_explanations  d = some (rE, dE)) : gM w l yX12_explanations cX12_explanations 1 (Option.some Jvm.ClassFile.FieldType.int) 4 [.ref (w_r w 292)] d dE (some (.int rE)) := by
  refine gM_of (by decide) [(0, .ref (w_r w 292))] rfl rfl ?_ hO
  intro p e R s m args below meth c C hR hr hlk
  unfold f_M_explanations at h
  refine g_aload_n C dX12_explanations_0 0 rfl ?_
  refine g_iconst C dX12_explanations_1 (v := 0) rfl ?_
  refine g_put C 292 q_292 pk_M_39 rfl rfl dX12_explanations_2 ?_
  refine g_aload_n C dX12_explanations_5 0 rfl ?_
  obtain ⟨r2, hc3, h⟩ := ob1_1 h
  refine g_callVi C 292 q_292 vk_M_157 hR rfl (m_M_ways C.2.2.2.2.2.2.1 hc3) rfl rfl rfl dX12_explanations_6 rfl rfl ?_
  exact g_iret C hr hlk rfl (congrArg Prod.snd (Option.some.inj h)) (congrArg (fun z => some (Value.int z.1)) (Option.some.inj h)) dX12_explanations_9
set_option maxHeartbeats 4000000 in
set_option maxRecDepth 100000 in
theorem m_M_explanationsByTrial {w : wT} {l : Launch} {d : Dt} {rE : Int32} {dE : Dt} (hO : okW w) (h : f_M_explanationsByTrial  d = some (rE, dE)) : gM w l yX12_explanationsByTrial cX12_explanationsByTrial 1 (Option.some Jvm.ClassFile.FieldType.int) 4 [.ref (w_r w 292)] d dE (some (.int rE)) := by
  refine gM_of (by decide) [(0, .ref (w_r w 292))] rfl rfl ?_ hO
  intro p e R s m args below meth c C hR hr hlk
  unfold f_M_explanationsByTrial at h
  refine g_aload_n C dX12_explanationsByTrial_0 0 rfl ?_
  refine g_iconst C dX12_explanationsByTrial_1 (v := 0) rfl ?_
  refine g_put C 292 q_292 pk_M_39 rfl rfl dX12_explanationsByTrial_2 ?_
  refine g_aload_n C dX12_explanationsByTrial_5 0 rfl ?_
  obtain ⟨r2, hc3, h⟩ := ob1_1 h
  refine g_callVi C 292 q_292 vk_M_157 hR rfl (m_M_ways C.2.2.2.2.2.2.1 hc3) rfl rfl rfl dX12_explanationsByTrial_6 rfl rfl ?_
  exact g_iret C hr hlk rfl (congrArg Prod.snd (Option.some.inj h)) (congrArg (fun z => some (Value.int z.1)) (Option.some.inj h)) dX12_explanationsByTrial_9
set_option maxHeartbeats 4000000 in
set_option maxRecDepth 100000 in
theorem m_M_failedCommand {w : wT} {l : Launch} {d : Dt} {rE : Int32} {dE : Dt} (hO : okW w) (h : f_M_failedCommand  d = some (rE, dE)) : gM w l yX12_failedCommand cX12_failedCommand 1 (Option.some Jvm.ClassFile.FieldType.int) 1 [.ref (w_r w 292)] d dE (some (.int rE)) := by
  refine gM_of (by decide) [(0, .ref (w_r w 292))] rfl rfl ?_ hO
  intro p e R s m args below meth c C hR hr hlk
  have R13 : ∀ (v1 : Int32) (d : Dt), f_M_failedCommand_13  v1 d = some (rE, dE) → gG w p l e R s m args below meth c 1 0 0 (gE w below args s dE (some (.int rE))) d [(0, .ref (w_r w 292))] 13 [.int v1, .ref (w_r w 292)] := by
    intro  v1 d  h
    unfold f_M_failedCommand_13 at h
    obtain ⟨r3, d4, hc5, h⟩ := ob2_1 h
    refine g_callVi C 292 q_292 vk_M_61 hR rfl (m_M_fails C.2.2.2.2.2.2.1 hc5) rfl rfl rfl dX12_failedCommand_13 rfl rfl ?_
    refine g_if_eq C dX12_failedCommand_16 (tgt := 23) rfl (fun q => ?_) (fun q => ?_)
    · replace h := it_t q h
      refine g_aload_n C dX12_failedCommand_23 0 rfl ?_
      refine g_get C (.int (d4 292 11)) 292 q_292 fk_M_29 rfl dX12_failedCommand_24 ?_
      exact g_iret C hr hlk rfl (congrArg Prod.snd (Option.some.inj h)) (congrArg (fun z => some (Value.int z.1)) (Option.some.inj h)) dX12_failedCommand_27
    · replace h := it_f q h
      refine g_iconst C dX12_failedCommand_19 (v := 0) rfl ?_
      refine g_goto C dX12_failedCommand_20 (tgt := 27) rfl ?_
      exact g_iret C hr hlk rfl (congrArg Prod.snd (Option.some.inj h)) (congrArg (fun z => some (Value.int z.1)) (Option.some.inj h)) dX12_failedCommand_27
  unfold f_M_failedCommand at h
  refine g_aload_n C dX12_failedCommand_0 0 rfl ?_
  refine g_aload_n C dX12_failedCommand_1 0 rfl ?_
  refine g_get C (.int (d 292 11)) 292 q_292 fk_M_29 rfl dX12_failedCommand_2 ?_
  refine g_if_ge C dX12_failedCommand_5 (tgt := 12) rfl (fun q => ?_) (fun q => ?_)
  · replace h := it_t q h
    refine g_iconst C dX12_failedCommand_12 (v := 0) rfl ?_
    exact R13 0 d h
  · replace h := it_f q h
    refine g_iconst C dX12_failedCommand_8 (v := 1) rfl ?_
    refine g_goto C dX12_failedCommand_9 (tgt := 13) rfl ?_
    exact R13 1 d h
set_option maxHeartbeats 4000000 in
set_option maxRecDepth 100000 in
theorem m_M_ofBrief {w : wT} {l : Launch} {x1 x2 : Int32} {d : Dt} {rE : Int32} {dE : Dt} (hO : okW w) (h : f_M_ofBrief x1 x2 d = some (rE, dE)) : gM w l yX12_ofBrief cX12_ofBrief 3 (Option.some Jvm.ClassFile.FieldType.int) 2 [.ref (w_r w 292), .int x1, .int x2] d dE (some (.int rE)) := by
  refine gM_of (by decide) [(0, .ref (w_r w 292)), (1, .int x1), (2, .int x2)] rfl rfl ?_ hO
  intro p e R s m args below meth c C hR hr hlk
  have R14 : ∀ (x1 : Int32) (x2 : Int32) (v1 : Int32) (d : Dt), f_M_ofBrief_14 x1 x2 v1 d = some (rE, dE) → gG w p l e R s m args below meth c 3 0 0 (gE w below args s dE (some (.int rE))) d [(0, .ref (w_r w 292)), (1, .int x1), (2, .int x2)] 14 [.int v1, .ref (w_r w 292)] := by
    intro x1 x2 v1 d  h
    unfold f_M_ofBrief_14 at h
    obtain ⟨r6, d7, hc8, h⟩ := ob2_1 h
    refine g_callVi C 292 q_292 vk_M_61 hR rfl (m_M_fails C.2.2.2.2.2.2.1 hc8) rfl rfl rfl dX12_ofBrief_14 rfl rfl ?_
    refine g_if_eq C dX12_ofBrief_17 (tgt := 24) rfl (fun q => ?_) (fun q => ?_)
    · replace h := it_t q h
      refine g_aload_n C dX12_ofBrief_24 0 rfl ?_
      refine g_aload_n C dX12_ofBrief_25 0 rfl ?_
      refine g_iload_n C dX12_ofBrief_26 1 rfl ?_
      obtain ⟨r9, hc10, h⟩ := ob1_1 h
      refine g_callVi C 292 q_292 vk_M_76 hR rfl (m_M_placeOf C.2.2.2.2.2.2.1 hc10) rfl rfl rfl dX12_ofBrief_27 rfl rfl ?_
      refine g_iload_n C dX12_ofBrief_30 2 rfl ?_
      obtain ⟨r11, hc12, h⟩ := ob1_1 h
      refine g_callVi C 292 q_292 vk_M_72 hR rfl (m_M_brief C.2.2.2.2.2.2.1 hc12) rfl rfl rfl dX12_ofBrief_31 rfl rfl ?_
      exact g_iret C hr hlk rfl (congrArg Prod.snd (Option.some.inj h)) (congrArg (fun z => some (Value.int z.1)) (Option.some.inj h)) dX12_ofBrief_34
    · replace h := it_f q h
      refine g_iconst C dX12_ofBrief_20 (v := 0) rfl ?_
      refine g_goto C dX12_ofBrief_21 (tgt := 34) rfl ?_
      exact g_iret C hr hlk rfl (congrArg Prod.snd (Option.some.inj h)) (congrArg (fun z => some (Value.int z.1)) (Option.some.inj h)) dX12_ofBrief_34
  unfold f_M_ofBrief at h
  refine g_aload_n C dX12_ofBrief_0 0 rfl ?_
  refine g_aload_n C dX12_ofBrief_1 0 rfl ?_
  refine g_iload_n C dX12_ofBrief_2 1 rfl ?_
  obtain ⟨r13, hc14, h⟩ := ob1_1 h
  refine g_callVi C 292 q_292 vk_M_76 hR rfl (m_M_placeOf C.2.2.2.2.2.2.1 hc14) rfl rfl rfl dX12_ofBrief_3 rfl rfl ?_
  refine g_if_ge C dX12_ofBrief_6 (tgt := 13) rfl (fun q => ?_) (fun q => ?_)
  · replace h := it_t q h
    refine g_iconst C dX12_ofBrief_13 (v := 0) rfl ?_
    exact R14 x1 x2 0 d h
  · replace h := it_f q h
    refine g_iconst C dX12_ofBrief_9 (v := 1) rfl ?_
    refine g_goto C dX12_ofBrief_10 (tgt := 14) rfl ?_
    exact R14 x1 x2 1 d h
set_option maxHeartbeats 4000000 in
set_option maxRecDepth 100000 in
theorem m_M_fee {w : wT} {l : Launch} {x1 : Int32} {d : Dt} {rE : Int32} {dE : Dt} (hO : okW w) (h : f_M_fee x1 d = some (rE, dE)) : gM w l yX12_fee cX12_fee 2 (Option.some Jvm.ClassFile.FieldType.int) 3 [.ref (w_r w 292), .int x1] d dE (some (.int rE)) := by
  refine gM_of (by decide) [(0, .ref (w_r w 292)), (1, .int x1)] rfl rfl ?_ hO
  intro p e R s m args below meth c C hR hr hlk
  unfold f_M_fee at h
  refine g_aload_n C dX12_fee_0 0 rfl ?_
  refine g_iload_n C dX12_fee_1 1 rfl ?_
  refine g_iconst C dX12_fee_2 (v := 3) rfl ?_
  obtain ⟨r3, d4, hc5, h⟩ := ob2_1 h
  refine g_callVi C 292 q_292 vk_M_140 hR rfl (m_M_ofBrief C.2.2.2.2.2.2.1 hc5) rfl rfl rfl dX12_fee_3 rfl rfl ?_
  exact g_iret C hr hlk rfl (congrArg Prod.snd (Option.some.inj h)) (congrArg (fun z => some (Value.int z.1)) (Option.some.inj h)) dX12_fee_6
set_option maxHeartbeats 4000000 in
set_option maxRecDepth 100000 in
theorem m_M_feed {w : wT} {l : Launch} {x1 : Int32} {d : Dt} {rE : Int32} {dE : Dt} (hO : okW w) (h : f_M_feed x1 d = some (rE, dE)) : gM w l yX12_feed cX12_feed 2 (Option.some Jvm.ClassFile.FieldType.int) 1 [.ref (w_r w 292), .int x1] d dE (some (.int rE)) := by
  refine gM_of (by decide) [(0, .ref (w_r w 292)), (1, .int x1)] rfl rfl ?_ hO
  intro p e R s m args below meth c C hR hr hlk
  have R15 : ∀ (x1 : Int32) (v1 : Int32) (d : Dt), f_M_feed_15 x1 v1 d = some (rE, dE) → gG w p l e R s m args below meth c 2 0 0 (gE w below args s dE (some (.int rE))) d [(0, .ref (w_r w 292)), (1, .int x1)] 15 [.int v1, .ref (w_r w 292)] := by
    intro x1 v1 d  h
    unfold f_M_feed_15 at h
    obtain ⟨r3, d4, hc5, h⟩ := ob2_1 h
    refine g_callVi C 292 q_292 vk_M_61 hR rfl (m_M_fails C.2.2.2.2.2.2.1 hc5) rfl rfl rfl dX12_feed_15 rfl rfl ?_
    refine g_if_eq C dX12_feed_18 (tgt := 23) rfl (fun q => ?_) (fun q => ?_)
    · replace h := it_t q h
      refine g_aload_n C dX12_feed_23 0 rfl ?_
      refine g_get C (.ref (w_r w 297)) 292 q_292 fk_M_22 rfl dX12_feed_24 ?_
      refine g_aload_n C dX12_feed_27 0 rfl ?_
      refine g_get C (.int (d4 292 9)) 292 q_292 fk_M_169 rfl dX12_feed_28 ?_
      refine g_iload_n C dX12_feed_31 1 rfl ?_
      have hg6 := gd_1 h
      replace h := gd_2 h
      refine g_iast C 297 q_297 hg6 _ rfl  dX12_feed_32 ?_
      refine g_aload_n C dX12_feed_33 0 rfl ?_
      refine g_dup C dX12_feed_34 rfl ?_
      refine g_get C (.int ((wr d4 297 (d4 292 9).toNatClampNeg x1) 292 9)) 292 q_292 fk_M_169 rfl dX12_feed_35 ?_
      refine g_iconst C dX12_feed_38 (v := 1) rfl ?_
      refine g_iadd C dX12_feed_39  ?_
      refine g_put C 292 q_292 pk_M_169 rfl rfl dX12_feed_40 ?_
      refine g_aload_n C dX12_feed_43 0 rfl ?_
      refine g_get C (.int ((wr (wr d4 297 (d4 292 9).toNatClampNeg x1) 292 9 (((wr d4 297 (d4 292 9).toNatClampNeg x1) 292 9) + 1)) 292 9)) 292 q_292 fk_M_169 rfl dX12_feed_44 ?_
      exact g_iret C hr hlk rfl (congrArg Prod.snd (Option.some.inj h)) (congrArg (fun z => some (Value.int z.1)) (Option.some.inj h)) dX12_feed_47
    · replace h := it_f q h
      refine g_iconst C dX12_feed_21 (v := 0) rfl ?_
      exact g_iret C hr hlk rfl (congrArg Prod.snd (Option.some.inj h)) (congrArg (fun z => some (Value.int z.1)) (Option.some.inj h)) dX12_feed_22
  unfold f_M_feed at h
  refine g_aload_n C dX12_feed_0 0 rfl ?_
  refine g_aload_n C dX12_feed_1 0 rfl ?_
  refine g_get C (.int (d 292 9)) 292 q_292 fk_M_169 rfl dX12_feed_2 ?_
  refine g_bipush C dX12_feed_5 (v := 60) (by decide) ?_
  refine g_icmp_ne C dX12_feed_7 (tgt := 14) rfl (fun q => ?_) (fun q => ?_)
  · replace h := it_f q h
    refine g_iconst C dX12_feed_14 (v := 0) rfl ?_
    exact R15 x1 0 d h
  · replace h := it_t q h
    refine g_iconst C dX12_feed_10 (v := 1) rfl ?_
    refine g_goto C dX12_feed_11 (tgt := 15) rfl ?_
    exact R15 x1 1 d h
set_option maxHeartbeats 4000000 in
set_option maxRecDepth 100000 in
theorem m_M_feesOf {w : wT} {l : Launch} {x1 : Int32} {d : Dt} {rE : Int32} (hO : okW w) (h : f_M_feesOf x1 d = some rE) : gM w l yX12_feesOf cX12_feesOf 4 (Option.some Jvm.ClassFile.FieldType.int) 1 [.ref (w_r w 292), .int x1] d d (some (.int rE)) := by
  refine gM_of (by decide) [(0, .ref (w_r w 292)), (1, .int x1)] rfl rfl ?_ hO
  intro p e R s m args below meth c C hR hr hlk
  have R4 : ∀ (x1 : Int32) (x2 : Int32) (x3 : Int32), f_M_feesOf_4 x1 x2 x3 d = some rE → gG w p l e R s m args below meth c 4 0 0 (gE w below args s d (some (.int rE))) d [(0, .ref (w_r w 292)), (1, .int x1), (2, .int x2), (3, .int x3)] 4 [] := by
    intro x1 x2 x3   h
    refine iter_ind (G := fun s_ : (Int32 × Int32) => gG w p l e R s m args below meth c 4 0 0 (gE w below args s d (some (.int rE))) d [(0, .ref (w_r w 292)), (1, .int x1), (2, .int s_.1), (3, .int s_.2)] 4 []) ?_ fu _ h
    clear h
    intro s_ y1 h hl1 hx1
    obtain ⟨x2, x3⟩ := s_
    show gG w p l e R s m args below meth c 4 0 0 (gE w below args s d (some (.int rE))) d [(0, .ref (w_r w 292)), (1, .int x1), (2, .int x2), (3, .int x3)] 4 []
    dsimp only at h
    unfold st_M_feesOf_4 at h
    refine g_iload_n C dX12_feesOf_4 3 rfl ?_
    refine g_aload_n C dX12_feesOf_5 0 rfl ?_
    refine g_get C (.ref (w_r w 293)) 292 q_292 fk_M_7 rfl dX12_feesOf_6 ?_
    refine g_iconst C dX12_feesOf_9 (v := 3) rfl ?_
    refine g_iald C 293 q_293 (by decide) 3 (by decide) dX12_feesOf_10 ?_
    refine g_icmp_ge C dX12_feesOf_11 (tgt := 35) rfl (fun q => ?_) (fun q => ?_)
    · replace h := it_t q h
      replace h := ir_2 h hx1
      refine g_iload_n C dX12_feesOf_35 2 rfl ?_
      exact g_iret C hr hlk rfl rfl (congrArg (fun z => some (Value.int z)) (Option.some.inj h)) dX12_feesOf_36
    · replace h := it_f q h
      refine g_iload_n C dX12_feesOf_14 2 rfl ?_
      refine g_iload_n C dX12_feesOf_15 1 rfl ?_
      refine g_iload_n C dX12_feesOf_16 3 rfl ?_
      refine g_ishr C dX12_feesOf_17  ?_
      refine g_iconst C dX12_feesOf_18 (v := 1) rfl ?_
      refine g_iand C dX12_feesOf_19  ?_
      refine g_aload_n C dX12_feesOf_20 0 rfl ?_
      refine g_iload_n C dX12_feesOf_21 3 rfl ?_
      refine g_iconst C dX12_feesOf_22 (v := 3) rfl ?_
      obtain ⟨r2, hc3, h⟩ := ob1_1 h
      refine g_callVi C 292 q_292 vk_M_72 hR rfl (m_M_brief C.2.2.2.2.2.2.1 hc3) rfl rfl rfl dX12_feesOf_23 rfl rfl ?_
      refine g_imul C dX12_feesOf_26  ?_
      refine g_iadd C dX12_feesOf_27  ?_
      refine g_istore_n C (lv' := [(2, .int (x2 + (((x1 >>> (x3 &&& 31)) &&& 1) * r2))), (0, .ref (w_r w 292)), (1, .int x1), (3, .int x3)]) dX12_feesOf_28 (by decide) rfl ?_
      refine g_iinc C (lv' := [(3, .int (x3 + 1)), (2, .int (x2 + (((x1 >>> (x3 &&& 31)) &&& 1) * r2))), (0, .ref (w_r w 292)), (1, .int x1)]) (v := (x3 + 1)) dX12_feesOf_29 3 rfl rfl (by decide) rfl ?_
      refine g_goto C dX12_feesOf_32 (tgt := 4) rfl ?_
      refine g_sub [2, 3, 1, 0] (lv' := [(0, .ref (w_r w 292)), (1, .int x1), (2, .int (x2 + (((x1 >>> (x3 &&& 31)) &&& 1) * r2))), (3, .int (x3 + 1))]) rfl ?_
      exact hl1 ((x2 + (((x1 >>> (x3 &&& 31)) &&& 1) * r2)), (x3 + 1)) (Option.some.inj h).symm
  unfold f_M_feesOf at h
  refine g_iconst C dX12_feesOf_0 (v := 0) rfl ?_
  refine g_istore_n C (lv' := [(2, .int 0), (0, .ref (w_r w 292)), (1, .int x1)]) dX12_feesOf_1 (by decide) rfl ?_
  refine g_iconst C dX12_feesOf_2 (v := 0) rfl ?_
  refine g_istore_n C (lv' := [(3, .int 0), (2, .int 0), (0, .ref (w_r w 292)), (1, .int x1)]) dX12_feesOf_3 (by decide) rfl ?_
  refine g_sub [2, 3, 1, 0] (lv' := [(0, .ref (w_r w 292)), (1, .int x1), (2, .int 0), (3, .int 0)]) rfl ?_
  exact R4 x1 0 0 h
set_option maxHeartbeats 4000000 in
set_option maxRecDepth 100000 in
theorem m_M_fewestFalse {w : wT} {l : Launch} {d : Dt} {rE : Int32} (hO : okW w) (h : f_M_fewestFalse  d = some rE) : gM w l yX12_fewestFalse cX12_fewestFalse 6 (Option.some Jvm.ClassFile.FieldType.int) 2 [.ref (w_r w 292)] d d (some (.int rE)) := by
  refine gM_of (by decide) [(0, .ref (w_r w 292))] rfl rfl ?_ hO
  intro p e R s m args below meth c C hR hr hlk
  have R16 : ∀ (x1 : Int32) (x2 : Int32) (x3 : Int32), f_M_fewestFalse_16 x1 x2 x3 d = some rE → gG w p l e R s m args below meth c 6 0 0 (gE w below args s d (some (.int rE))) d [(0, .ref (w_r w 292)), (1, .int x1), (2, .int x2), (3, .int x3)] 16 [] := by
    intro x1 x2 x3   h
    refine iter_ind (G := fun s_ : (Int32 × Int32) => gG w p l e R s m args below meth c 6 0 0 (gE w below args s d (some (.int rE))) d [(0, .ref (w_r w 292)), (1, .int x1), (2, .int s_.1), (3, .int s_.2)] 16 []) ?_ fu _ h
    clear h
    intro s_ y1 h hl1 hx1
    obtain ⟨x2, x3⟩ := s_
    show gG w p l e R s m args below meth c 6 0 0 (gE w below args s d (some (.int rE))) d [(0, .ref (w_r w 292)), (1, .int x1), (2, .int x2), (3, .int x3)] 16 []
    dsimp only at h
    unfold st_M_fewestFalse_16 at h
    have R39 : ∀ (x2 : Int32) (x3 : Int32) (x4 : Int32) (x5 : Int32), f_M_fewestFalse_39 x1 x2 x3 x4 x5 d = some y1 → gG w p l e R s m args below meth c 6 0 0 (gE w below args s d (some (.int rE))) d [(0, .ref (w_r w 292)), (1, .int x1), (2, .int x2), (3, .int x3), (4, .int x4), (5, .int x5)] 39 [] := by
      intro x2 x3 x4 x5   h
      refine iter_ind (G := fun s_ : (Int32 × Int32) => gG w p l e R s m args below meth c 6 0 0 (gE w below args s d (some (.int rE))) d [(0, .ref (w_r w 292)), (1, .int x1), (2, .int x2), (3, .int x3), (4, .int s_.1), (5, .int s_.2)] 39 []) ?_ fu _ h
      clear h
      intro s_ y2 h hl2 hx2
      obtain ⟨x4, x5⟩ := s_
      show gG w p l e R s m args below meth c 6 0 0 (gE w below args s d (some (.int rE))) d [(0, .ref (w_r w 292)), (1, .int x1), (2, .int x2), (3, .int x3), (4, .int x4), (5, .int x5)] 39 []
      dsimp only at h
      unfold st_M_fewestFalse_39 at h
      refine g_iload C dX12_fewestFalse_39 5 rfl ?_
      refine g_aload_n C dX12_fewestFalse_41 0 rfl ?_
      refine g_get C (.ref (w_r w 293)) 292 q_292 fk_M_7 rfl dX12_fewestFalse_42 ?_
      refine g_iconst C dX12_fewestFalse_45 (v := 4) rfl ?_
      refine g_iald C 293 q_293 (by decide) 4 (by decide) dX12_fewestFalse_46 ?_
      refine g_icmp_ge C dX12_fewestFalse_47 (tgt := 76) rfl (fun q => ?_) (fun q => ?_)
      · replace h := it_t q h
        replace h := ir_2 h hx2
        refine g_iload C dX12_fewestFalse_76 4 rfl ?_
        refine g_iload_n C dX12_fewestFalse_78 2 rfl ?_
        refine g_icmp_ge C dX12_fewestFalse_79 (tgt := 85) rfl (fun q => ?_) (fun q => ?_)
        · replace h := it_t q h
          refine g_iinc C (lv' := [(3, .int (x3 + 1)), (0, .ref (w_r w 292)), (1, .int x1), (2, .int x2), (4, .int x4), (5, .int x5)]) (v := (x3 + 1)) dX12_fewestFalse_85 3 rfl rfl (by decide) rfl ?_
          refine g_goto C dX12_fewestFalse_88 (tgt := 16) rfl ?_
          refine g_sub [1, 2, 3, 0] (lv' := [(0, .ref (w_r w 292)), (1, .int x1), (2, .int x2), (3, .int (x3 + 1))]) rfl ?_
          exact hl1 (x2, (x3 + 1)) (Option.some.inj h).symm
        · replace h := it_f q h
          refine g_iload C dX12_fewestFalse_82 4 rfl ?_
          refine g_istore_n C (lv' := [(2, .int x4), (0, .ref (w_r w 292)), (1, .int x1), (3, .int x3), (4, .int x4), (5, .int x5)]) dX12_fewestFalse_84 (by decide) rfl ?_
          refine g_iinc C (lv' := [(3, .int (x3 + 1)), (2, .int x4), (0, .ref (w_r w 292)), (1, .int x1), (4, .int x4), (5, .int x5)]) (v := (x3 + 1)) dX12_fewestFalse_85 3 rfl rfl (by decide) rfl ?_
          refine g_goto C dX12_fewestFalse_88 (tgt := 16) rfl ?_
          refine g_sub [2, 3, 1, 0] (lv' := [(0, .ref (w_r w 292)), (1, .int x1), (2, .int x4), (3, .int (x3 + 1))]) rfl ?_
          exact hl1 (x4, (x3 + 1)) (Option.some.inj h).symm
      · replace h := it_f q h
        refine g_iload C dX12_fewestFalse_50 4 rfl ?_
        refine g_aload_n C dX12_fewestFalse_52 0 rfl ?_
        refine g_iload C dX12_fewestFalse_53 5 rfl ?_
        refine g_iload_n C dX12_fewestFalse_55 3 rfl ?_
        obtain ⟨r3, hc4, h⟩ := ob1_1 h
        refine g_callVi C 292 q_292 vk_M_100 hR rfl (m_M_isTrue C.2.2.2.2.2.2.1 hc4) rfl rfl rfl dX12_fewestFalse_56 rfl rfl ?_
        refine g_if_eq C dX12_fewestFalse_59 (tgt := 66) rfl (fun q => ?_) (fun q => ?_)
        · replace h := it_t q h
          refine g_iconst C dX12_fewestFalse_66 (v := 1) rfl ?_
          refine g_iadd C dX12_fewestFalse_67  ?_
          refine g_istore C (lv' := [(4, .int (x4 + 1)), (0, .ref (w_r w 292)), (1, .int x1), (2, .int x2), (3, .int x3), (5, .int x5)]) dX12_fewestFalse_68 (by decide) rfl ?_
          refine g_iinc C (lv' := [(5, .int (x5 + 1)), (4, .int (x4 + 1)), (0, .ref (w_r w 292)), (1, .int x1), (2, .int x2), (3, .int x3)]) (v := (x5 + 1)) dX12_fewestFalse_70 5 rfl rfl (by decide) rfl ?_
          refine g_goto C dX12_fewestFalse_73 (tgt := 39) rfl ?_
          refine g_sub [2, 3, 4, 5, 1, 0] (lv' := [(0, .ref (w_r w 292)), (1, .int x1), (2, .int x2), (3, .int x3), (4, .int (x4 + 1)), (5, .int (x5 + 1))]) rfl ?_
          exact hl2 ((x4 + 1), (x5 + 1)) (Option.some.inj h).symm
        · replace h := it_f q h
          refine g_iconst C dX12_fewestFalse_62 (v := 0) rfl ?_
          refine g_goto C dX12_fewestFalse_63 (tgt := 67) rfl ?_
          refine g_iadd C dX12_fewestFalse_67  ?_
          refine g_istore C (lv' := [(4, .int (x4 + 0)), (0, .ref (w_r w 292)), (1, .int x1), (2, .int x2), (3, .int x3), (5, .int x5)]) dX12_fewestFalse_68 (by decide) rfl ?_
          refine g_iinc C (lv' := [(5, .int (x5 + 1)), (4, .int (x4 + 0)), (0, .ref (w_r w 292)), (1, .int x1), (2, .int x2), (3, .int x3)]) (v := (x5 + 1)) dX12_fewestFalse_70 5 rfl rfl (by decide) rfl ?_
          refine g_goto C dX12_fewestFalse_73 (tgt := 39) rfl ?_
          refine g_sub [2, 3, 4, 5, 1, 0] (lv' := [(0, .ref (w_r w 292)), (1, .int x1), (2, .int x2), (3, .int x3), (4, .int (x4 + 0)), (5, .int (x5 + 1))]) rfl ?_
          exact hl2 ((x4 + 0), (x5 + 1)) (Option.some.inj h).symm
    refine g_iload_n C dX12_fewestFalse_16 3 rfl ?_
    refine g_iload_n C dX12_fewestFalse_17 1 rfl ?_
    refine g_icmp_gt C dX12_fewestFalse_18 (tgt := 91) rfl (fun q => ?_) (fun q => ?_)
    · replace h := it_t q h
      replace h := ir_2 h hx1
      refine g_iload_n C dX12_fewestFalse_91 2 rfl ?_
      exact g_iret C hr hlk rfl rfl (congrArg (fun z => some (Value.int z)) (Option.some.inj h)) dX12_fewestFalse_92
    · replace h := it_f q h
      refine g_aload_n C dX12_fewestFalse_21 0 rfl ?_
      refine g_iload_n C dX12_fewestFalse_22 1 rfl ?_
      refine g_iload_n C dX12_fewestFalse_23 3 rfl ?_
      obtain ⟨r5, hc6, h⟩ := ob1_1 h
      refine g_callVi C 292 q_292 vk_M_109 hR rfl (m_M_isAdmitted C.2.2.2.2.2.2.1 hc6) rfl rfl rfl dX12_fewestFalse_24 rfl rfl ?_
      refine g_if_ne C dX12_fewestFalse_27 (tgt := 33) rfl (fun q => ?_) (fun q => ?_)
      · replace h := it_f q h
        refine g_iconst C dX12_fewestFalse_33 (v := 0) rfl ?_
        refine g_istore C (lv' := [(4, .int 0), (0, .ref (w_r w 292)), (1, .int x1), (2, .int x2), (3, .int x3)]) dX12_fewestFalse_34 (by decide) rfl ?_
        refine g_iconst C dX12_fewestFalse_36 (v := 0) rfl ?_
        refine g_istore C (lv' := [(5, .int 0), (4, .int 0), (0, .ref (w_r w 292)), (1, .int x1), (2, .int x2), (3, .int x3)]) dX12_fewestFalse_37 (by decide) rfl ?_
        refine g_sub [2, 3, 4, 5, 1, 0] (lv' := [(0, .ref (w_r w 292)), (1, .int x1), (2, .int x2), (3, .int x3), (4, .int 0), (5, .int 0)]) rfl ?_
        exact R39 x2 x3 0 0 h
      · replace h := it_t q h
        refine g_goto C dX12_fewestFalse_30 (tgt := 85) rfl ?_
        refine g_iinc C (lv' := [(3, .int (x3 + 1)), (0, .ref (w_r w 292)), (1, .int x1), (2, .int x2)]) (v := (x3 + 1)) dX12_fewestFalse_85 3 rfl rfl (by decide) rfl ?_
        refine g_goto C dX12_fewestFalse_88 (tgt := 16) rfl ?_
        refine g_sub [1, 2, 3, 0] (lv' := [(0, .ref (w_r w 292)), (1, .int x1), (2, .int x2), (3, .int (x3 + 1))]) rfl ?_
        exact hl1 (x2, (x3 + 1)) (Option.some.inj h).symm
  unfold f_M_fewestFalse at h
  refine g_iconst C dX12_fewestFalse_0 (v := 1) rfl ?_
  refine g_aload_n C dX12_fewestFalse_1 0 rfl ?_
  refine g_get C (.ref (w_r w 293)) 292 q_292 fk_M_7 rfl dX12_fewestFalse_2 ?_
  refine g_iconst C dX12_fewestFalse_5 (v := 0) rfl ?_
  refine g_iald C 293 q_293 (by decide) 0 (by decide) dX12_fewestFalse_6 ?_
  refine g_ishl C dX12_fewestFalse_7  ?_
  refine g_iconst C dX12_fewestFalse_8 (v := 1) rfl ?_
  refine g_isub C dX12_fewestFalse_9  ?_
  refine g_istore_n C (lv' := [(1, .int ((1 <<< ((d 293 0) &&& 31)) - 1)), (0, .ref (w_r w 292))]) dX12_fewestFalse_10 (by decide) rfl ?_
  refine g_bipush C dX12_fewestFalse_11 (v := 12) (by decide) ?_
  refine g_istore_n C (lv' := [(2, .int 12), (1, .int ((1 <<< ((d 293 0) &&& 31)) - 1)), (0, .ref (w_r w 292))]) dX12_fewestFalse_13 (by decide) rfl ?_
  refine g_iconst C dX12_fewestFalse_14 (v := 0) rfl ?_
  refine g_istore_n C (lv' := [(3, .int 0), (2, .int 12), (1, .int ((1 <<< ((d 293 0) &&& 31)) - 1)), (0, .ref (w_r w 292))]) dX12_fewestFalse_15 (by decide) rfl ?_
  refine g_sub [3, 2, 1, 0] (lv' := [(0, .ref (w_r w 292)), (1, .int ((1 <<< ((d 293 0) &&& 31)) - 1)), (2, .int 12), (3, .int 0)]) rfl ?_
  exact R16 ((1 <<< ((d 293 0) &&& 31)) - 1) 12 0 h
set_option maxHeartbeats 4000000 in
set_option maxRecDepth 100000 in
theorem m_M_firstOf {w : wT} {l : Launch} {x1 : Int32} {d : Dt} {rE : Int32} {dE : Dt} (hO : okW w) (h : f_M_firstOf x1 d = some (rE, dE)) : gM w l yX12_firstOf cX12_firstOf 2 (Option.some Jvm.ClassFile.FieldType.int) 2 [.ref (w_r w 292), .int x1] d dE (some (.int rE)) := by
  refine gM_of (by decide) [(0, .ref (w_r w 292)), (1, .int x1)] rfl rfl ?_ hO
  intro p e R s m args below meth c C hR hr hlk
  have R14 : ∀ (x1 : Int32) (v1 : Int32) (d : Dt), f_M_firstOf_14 x1 v1 d = some (rE, dE) → gG w p l e R s m args below meth c 2 0 0 (gE w below args s dE (some (.int rE))) d [(0, .ref (w_r w 292)), (1, .int x1)] 14 [.int v1, .ref (w_r w 292)] := by
    intro x1 v1 d  h
    unfold f_M_firstOf_14 at h
    obtain ⟨r5, d6, hc7, h⟩ := ob2_1 h
    refine g_callVi C 292 q_292 vk_M_61 hR rfl (m_M_fails C.2.2.2.2.2.2.1 hc7) rfl rfl rfl dX12_firstOf_14 rfl rfl ?_
    refine g_if_eq C dX12_firstOf_17 (tgt := 24) rfl (fun q => ?_) (fun q => ?_)
    · replace h := it_t q h
      refine g_aload_n C dX12_firstOf_24 0 rfl ?_
      refine g_iload_n C dX12_firstOf_25 1 rfl ?_
      refine g_iconst C dX12_firstOf_26 (v := 0) rfl ?_
      obtain ⟨r8, hc9, h⟩ := ob1_1 h
      refine g_callVi C 292 q_292 vk_M_97 hR rfl (m_M_says C.2.2.2.2.2.2.1 hc9) rfl rfl rfl dX12_firstOf_27 rfl rfl ?_
      exact g_iret C hr hlk rfl (congrArg Prod.snd (Option.some.inj h)) (congrArg (fun z => some (Value.int z.1)) (Option.some.inj h)) dX12_firstOf_30
    · replace h := it_f q h
      refine g_iconst C dX12_firstOf_20 (v := 0) rfl ?_
      refine g_goto C dX12_firstOf_21 (tgt := 30) rfl ?_
      exact g_iret C hr hlk rfl (congrArg Prod.snd (Option.some.inj h)) (congrArg (fun z => some (Value.int z.1)) (Option.some.inj h)) dX12_firstOf_30
  unfold f_M_firstOf at h
  refine g_aload_n C dX12_firstOf_0 0 rfl ?_
  refine g_aload_n C dX12_firstOf_1 0 rfl ?_
  refine g_iload_n C dX12_firstOf_2 1 rfl ?_
  obtain ⟨r10, hc11, h⟩ := ob1_1 h
  refine g_callVi C 292 q_292 vk_M_84 hR rfl (m_M_isStatement C.2.2.2.2.2.2.1 hc11) rfl rfl rfl dX12_firstOf_3 rfl rfl ?_
  refine g_if_eq C dX12_firstOf_6 (tgt := 13) rfl (fun q => ?_) (fun q => ?_)
  · replace h := it_t q h
    refine g_iconst C dX12_firstOf_13 (v := 1) rfl ?_
    exact R14 x1 1 d h
  · replace h := it_f q h
    refine g_iconst C dX12_firstOf_9 (v := 0) rfl ?_
    refine g_goto C dX12_firstOf_10 (tgt := 14) rfl ?_
    exact R14 x1 0 d h
set_option maxHeartbeats 4000000 in
set_option maxRecDepth 100000 in
theorem m_M_groupCount {w : wT} {l : Launch} {d : Dt} {rE : Int32} {dE : Dt} (hO : okW w) (h : f_M_groupCount  d = some (rE, dE)) : gM w l yX12_groupCount cX12_groupCount 3 (Option.some Jvm.ClassFile.FieldType.int) 2 [.ref (w_r w 292)] d dE (some (.int rE)) := by
  refine gM_of (by decide) [(0, .ref (w_r w 292))] rfl rfl ?_ hO
  intro p e R s m args below meth c C hR hr hlk
  have R9 : ∀ (x1 : Int32) (x2 : Int32) (d : Dt), f_M_groupCount_9 x1 x2 d = some (rE, dE) → gG w p l e R s m args below meth c 3 0 0 (gE w below args s dE (some (.int rE))) d [(0, .ref (w_r w 292)), (1, .int x1), (2, .int x2)] 9 [] := by
    intro x1 x2 d  h
    refine iter_ind (G := fun s_ : (Int32 × Int32) => gG w p l e R s m args below meth c 3 0 0 (gE w below args s dE (some (.int rE))) d [(0, .ref (w_r w 292)), (1, .int s_.1), (2, .int s_.2)] 9 []) ?_ fu _ h
    clear h
    intro s_ y1 h hl1 hx1
    obtain ⟨x1, x2⟩ := s_
    show gG w p l e R s m args below meth c 3 0 0 (gE w below args s dE (some (.int rE))) d [(0, .ref (w_r w 292)), (1, .int x1), (2, .int x2)] 9 []
    dsimp only at h
    unfold st_M_groupCount_9 at h
    refine g_iload_n C dX12_groupCount_9 2 rfl ?_
    refine g_aload_n C dX12_groupCount_10 0 rfl ?_
    refine g_get C (.ref (w_r w 293)) 292 q_292 fk_M_7 rfl dX12_groupCount_11 ?_
    refine g_iconst C dX12_groupCount_14 (v := 0) rfl ?_
    refine g_iald C 293 q_293 (by decide) 0 (by decide) dX12_groupCount_15 ?_
    refine g_icmp_ge C dX12_groupCount_16 (tgt := 47) rfl (fun q => ?_) (fun q => ?_)
    · replace h := it_t q h
      replace h := ir_2 h hx1
      refine g_iload_n C dX12_groupCount_47 1 rfl ?_
      exact g_iret C hr hlk rfl (congrArg Prod.snd (Option.some.inj h)) (congrArg (fun z => some (Value.int z.1)) (Option.some.inj h)) dX12_groupCount_48
    · replace h := it_f q h
      refine g_iload_n C dX12_groupCount_19 1 rfl ?_
      refine g_aload_n C dX12_groupCount_20 0 rfl ?_
      refine g_iload_n C dX12_groupCount_21 2 rfl ?_
      obtain ⟨r2, hc3, h⟩ := ob1_1 h
      refine g_callVi C 292 q_292 vk_M_103 hR rfl (m_M_group C.2.2.2.2.2.2.1 hc3) rfl rfl rfl dX12_groupCount_22 rfl rfl ?_
      refine g_iconst C dX12_groupCount_25 (v := 1) rfl ?_
      refine g_iload_n C dX12_groupCount_26 2 rfl ?_
      refine g_ishl C dX12_groupCount_27  ?_
      refine g_iconst C dX12_groupCount_28 (v := 1) rfl ?_
      refine g_isub C dX12_groupCount_29  ?_
      refine g_iand C dX12_groupCount_30  ?_
      refine g_if_ne C dX12_groupCount_31 (tgt := 38) rfl (fun q => ?_) (fun q => ?_)
      · replace h := it_f q h
        refine g_iconst C dX12_groupCount_38 (v := 0) rfl ?_
        refine g_iadd C dX12_groupCount_39  ?_
        refine g_istore_n C (lv' := [(1, .int (x1 + 0)), (0, .ref (w_r w 292)), (2, .int x2)]) dX12_groupCount_40 (by decide) rfl ?_
        refine g_iinc C (lv' := [(2, .int (x2 + 1)), (1, .int (x1 + 0)), (0, .ref (w_r w 292))]) (v := (x2 + 1)) dX12_groupCount_41 2 rfl rfl (by decide) rfl ?_
        refine g_goto C dX12_groupCount_44 (tgt := 9) rfl ?_
        refine g_sub [2, 1, 0] (lv' := [(0, .ref (w_r w 292)), (1, .int (x1 + 0)), (2, .int (x2 + 1))]) rfl ?_
        exact hl1 ((x1 + 0), (x2 + 1)) (Option.some.inj h).symm
      · replace h := it_t q h
        refine g_iconst C dX12_groupCount_34 (v := 1) rfl ?_
        refine g_goto C dX12_groupCount_35 (tgt := 39) rfl ?_
        refine g_iadd C dX12_groupCount_39  ?_
        refine g_istore_n C (lv' := [(1, .int (x1 + 1)), (0, .ref (w_r w 292)), (2, .int x2)]) dX12_groupCount_40 (by decide) rfl ?_
        refine g_iinc C (lv' := [(2, .int (x2 + 1)), (1, .int (x1 + 1)), (0, .ref (w_r w 292))]) (v := (x2 + 1)) dX12_groupCount_41 2 rfl rfl (by decide) rfl ?_
        refine g_goto C dX12_groupCount_44 (tgt := 9) rfl ?_
        refine g_sub [2, 1, 0] (lv' := [(0, .ref (w_r w 292)), (1, .int (x1 + 1)), (2, .int (x2 + 1))]) rfl ?_
        exact hl1 ((x1 + 1), (x2 + 1)) (Option.some.inj h).symm
  unfold f_M_groupCount at h
  refine g_aload_n C dX12_groupCount_0 0 rfl ?_
  refine g_iconst C dX12_groupCount_1 (v := 0) rfl ?_
  refine g_put C 292 q_292 pk_M_39 rfl rfl dX12_groupCount_2 ?_
  refine g_iconst C dX12_groupCount_5 (v := 0) rfl ?_
  refine g_istore_n C (lv' := [(1, .int 0), (0, .ref (w_r w 292))]) dX12_groupCount_6 (by decide) rfl ?_
  refine g_iconst C dX12_groupCount_7 (v := 0) rfl ?_
  refine g_istore_n C (lv' := [(2, .int 0), (1, .int 0), (0, .ref (w_r w 292))]) dX12_groupCount_8 (by decide) rfl ?_
  refine g_sub [2, 1, 0] (lv' := [(0, .ref (w_r w 292)), (1, .int 0), (2, .int 0)]) rfl ?_
  exact R9 0 0 (wr d 292 7 0) h
set_option maxHeartbeats 4000000 in
set_option maxRecDepth 100000 in
theorem m_M_hasAdmitted {w : wT} {l : Launch} {x1 x2 : Int32} {d : Dt} {rE : Int32} {dE : Dt} (hO : okW w) (h : f_M_hasAdmitted x1 x2 d = some (rE, dE)) : gM w l yX12_hasAdmitted cX12_hasAdmitted 3 (Option.some Jvm.ClassFile.FieldType.boolean) 3 [.ref (w_r w 292), .int x1, .int x2] d dE (some (.int rE)) := by
  refine gM_of (by decide) [(0, .ref (w_r w 292)), (1, .int x1), (2, .int x2)] rfl rfl ?_ hO
  intro p e R s m args below meth c C hR hr hlk
  have R23 : ∀ (v0 : Int32) (v1 : Int32) (d : Dt), f_M_hasAdmitted_23  v0 v1 d = some (rE, dE) → gG w p l e R s m args below meth c 3 0 0 (gE w below args s dE (some (.int rE))) d [] 23 [.int v1, .int v0] := by
    intro  v0 v1 d  h
    unfold f_M_hasAdmitted_23 at h
    refine g_icmp_ne C dX12_hasAdmitted_23 (tgt := 30) rfl (fun q => ?_) (fun q => ?_)
    · replace h := it_f q h
      refine g_iconst C dX12_hasAdmitted_30 (v := 0) rfl ?_
      exact g_iret C hr hlk rfl (congrArg Prod.snd (Option.some.inj h)) (congrArg (fun z => some (Value.int z.1)) (Option.some.inj h)) dX12_hasAdmitted_31
    · replace h := it_t q h
      refine g_iconst C dX12_hasAdmitted_26 (v := 1) rfl ?_
      refine g_goto C dX12_hasAdmitted_27 (tgt := 31) rfl ?_
      exact g_iret C hr hlk rfl (congrArg Prod.snd (Option.some.inj h)) (congrArg (fun z => some (Value.int z.1)) (Option.some.inj h)) dX12_hasAdmitted_31
  unfold f_M_hasAdmitted at h
  refine g_aload_n C dX12_hasAdmitted_0 0 rfl ?_
  refine g_iload_n C dX12_hasAdmitted_1 1 rfl ?_
  obtain ⟨r4, d5, hc6, h⟩ := ob2_1 h
  refine g_callVi C 292 q_292 vk_M_134 hR rfl (m_M_isNone C.2.2.2.2.2.2.1 hc6) rfl rfl rfl dX12_hasAdmitted_2 rfl rfl ?_
  refine g_if_ne C dX12_hasAdmitted_5 (tgt := 30) rfl (fun q => ?_) (fun q => ?_)
  · replace h := it_f q h
    refine g_iconst C dX12_hasAdmitted_30 (v := 0) rfl ?_
    exact g_iret C hr hlk rfl (congrArg Prod.snd (Option.some.inj h)) (congrArg (fun z => some (Value.int z.1)) (Option.some.inj h)) dX12_hasAdmitted_31
  · replace h := it_t q h
    refine g_aload_n C dX12_hasAdmitted_8 0 rfl ?_
    refine g_iload_n C dX12_hasAdmitted_9 1 rfl ?_
    refine g_iconst C dX12_hasAdmitted_10 (v := 1) rfl ?_
    obtain ⟨r7, hc8, h⟩ := ob1_1 h
    refine g_callVi C 292 q_292 vk_M_87 hR rfl (m_M_of C.2.2.2.2.2.2.1 hc8) rfl rfl rfl dX12_hasAdmitted_11 rfl rfl ?_
    refine g_iload_n C dX12_hasAdmitted_14 2 rfl ?_
    refine g_if_eq C dX12_hasAdmitted_15 (tgt := 22) rfl (fun q => ?_) (fun q => ?_)
    · replace h := it_t q h
      refine g_iconst C dX12_hasAdmitted_22 (v := 2) rfl ?_
      refine g_sub [] (lv' := []) rfl ?_
      exact R23 r7 2 d5 h
    · replace h := it_f q h
      refine g_iconst C dX12_hasAdmitted_18 (v := 1) rfl ?_
      refine g_goto C dX12_hasAdmitted_19 (tgt := 23) rfl ?_
      refine g_sub [] (lv' := []) rfl ?_
      exact R23 r7 1 d5 h
set_option maxHeartbeats 4000000 in
set_option maxRecDepth 100000 in
theorem m_JL_canEncode {w : wT} {l : Launch} {x0 : Int32} {d : Dt} {rE : Int32} (hO : okW w) (h : f_JL_canEncode x0 d = some rE) : gM w l yJ1_canEncode_9a6ad cJ1_canEncode_9a6ad 1 (Option.some Jvm.ClassFile.FieldType.boolean) 0 [.int x0] d d (some (.int rE)) := by
  refine gM_of (by decide) [(0, .int x0)] rfl rfl ?_ hO
  intro p e R s m args below meth c C hR hr hlk
  unfold f_JL_canEncode at h
  refine g_iload_n C dJ1_canEncode_9a6ad_0 0 rfl ?_
  refine g_if_lt C dJ1_canEncode_9a6ad_1 (tgt := 15) rfl (fun q => ?_) (fun q => ?_)
  · replace h := it_t q h
    refine g_iconst C dJ1_canEncode_9a6ad_15 (v := 0) rfl ?_
    exact g_iret C hr hlk rfl rfl (congrArg (fun z => some (Value.int z)) (Option.some.inj h)) dJ1_canEncode_9a6ad_16
  · replace h := it_f q h
    refine g_iload_n C dJ1_canEncode_9a6ad_4 0 rfl ?_
    refine g_sipush C dJ1_canEncode_9a6ad_5 (v := 255) (by decide) ?_
    refine g_icmp_gt C dJ1_canEncode_9a6ad_8 (tgt := 15) rfl (fun q => ?_) (fun q => ?_)
    · replace h := it_t q h
      refine g_iconst C dJ1_canEncode_9a6ad_15 (v := 0) rfl ?_
      exact g_iret C hr hlk rfl rfl (congrArg (fun z => some (Value.int z)) (Option.some.inj h)) dJ1_canEncode_9a6ad_16
    · replace h := it_f q h
      refine g_iconst C dJ1_canEncode_9a6ad_11 (v := 1) rfl ?_
      refine g_goto C dJ1_canEncode_9a6ad_12 (tgt := 16) rfl ?_
      exact g_iret C hr hlk rfl rfl (congrArg (fun z => some (Value.int z)) (Option.some.inj h)) dJ1_canEncode_9a6ad_16
set_option maxHeartbeats 4000000 in
set_option maxRecDepth 100000 in
theorem m_JL_indexOfChar {w : wT} {l : Launch} {k0 : Nat} {x1 x2 x3 : Int32} {d : Dt} {rE : Int32} (hO : okW w) (hk0 : k0 < 54) (h : f_JL_indexOfChar k0 x1 x2 x3 d = some rE) : gM w l yJ1_indexOfChar_4cfef cJ1_indexOfChar_4cfef 6 (Option.some Jvm.ClassFile.FieldType.int) 0 [.ref (w_k w (100 + k0)), .int x1, .int x2, .int x3] d d (some (.int rE)) := by
  refine gM_of (by decide) [(0, .ref (w_k w (100 + k0))), (1, .int x1), (2, .int x2), (3, .int x3)] rfl rfl ?_ hO
  intro p e R s m args below meth c C hR hr hlk
  have R7 : ∀ (x3 : Int32) (x4 : Int32) (x5 : Int32), f_JL_indexOfChar_7 k0 x3 x4 x5 d = some rE → gG w p l e R s m args below meth c 6 0 0 (gE w below args s d (some (.int rE))) d [(0, .ref (w_k w (100 + k0))), (3, .int x3), (4, .int x4), (5, .int x5)] 7 [] := by
    intro x3 x4 x5   h
    refine iter_ind (G := fun s_ : (Int32) => gG w p l e R s m args below meth c 6 0 0 (gE w below args s d (some (.int rE))) d [(0, .ref (w_k w (100 + k0))), (3, .int x3), (4, .int x4), (5, .int s_)] 7 []) ?_ fu _ h
    clear h
    intro x5 y1 h hl1 hx1
    show gG w p l e R s m args below meth c 6 0 0 (gE w below args s d (some (.int rE))) d [(0, .ref (w_k w (100 + k0))), (3, .int x3), (4, .int x4), (5, .int x5)] 7 []
    unfold st_JL_indexOfChar_7 at h
    refine g_iload C dJ1_indexOfChar_4cfef_7 3 rfl ?_
    refine g_iload_n C dJ1_indexOfChar_4cfef_9 1 rfl ?_
    refine g_icmp_ge C dJ1_indexOfChar_4cfef_10 (tgt := 31) rfl (fun q => ?_) (fun q => ?_)
    · replace h := it_t q h
      replace h := ir_2 h hx1
      refine g_iconst C dJ1_indexOfChar_4cfef_31 (v := (-1)) (by decide) ?_
      exact g_iret C hr hlk rfl rfl (congrArg (fun z => some (Value.int z)) (Option.some.inj h)) dJ1_indexOfChar_4cfef_32
    · replace h := it_f q h
      refine g_aload_n C dJ1_indexOfChar_4cfef_13 0 rfl ?_
      refine g_iload C dJ1_indexOfChar_4cfef_14 3 rfl ?_
      have hg1 := gd_1 h
      replace h := gd_2 h
      refine g_baldK C (ks_row C hk0) hg1 rfl dJ1_indexOfChar_4cfef_16 ?_
      refine g_iload C dJ1_indexOfChar_4cfef_17 2 rfl ?_
      refine g_icmp_ne C dJ1_indexOfChar_4cfef_19 (tgt := 25) rfl (fun q => ?_) (fun q => ?_)
      · replace h := it_f q h
        refine g_iinc C (lv' := [(5, .int (x5 + 1)), (0, .ref (w_k w (100 + k0))), (3, .int x3), (4, .int x4)]) (v := (x5 + 1)) dJ1_indexOfChar_4cfef_25 3 rfl rfl (by decide) rfl ?_
        refine g_goto C dJ1_indexOfChar_4cfef_28 (tgt := 7) rfl ?_
        refine g_sub [1, 2, 3, 0] (lv' := [(0, .ref (w_k w (100 + k0))), (3, .int x3), (4, .int x4), (5, .int (x5 + 1))]) rfl ?_
        exact hl1 (x5 + 1) (Option.some.inj h).symm
      · replace h := it_t q h
        replace h := ir_2 h hx1
        refine g_iload C dJ1_indexOfChar_4cfef_22 3 rfl ?_
        exact g_iret C hr hlk rfl rfl (congrArg (fun z => some (Value.int z)) (Option.some.inj h)) dJ1_indexOfChar_4cfef_24
  unfold f_JL_indexOfChar at h
  refine g_iload_n C dJ1_indexOfChar_4cfef_0 1 rfl ?_
  refine g_i2b C dJ1_indexOfChar_4cfef_1  ?_
  refine g_istore C (lv' := [(4, .int (x1.toInt8.toInt32)), (0, .ref (w_k w (100 + k0))), (1, .int x1), (2, .int x2), (3, .int x3)]) dJ1_indexOfChar_4cfef_2 (by decide) rfl ?_
  refine g_iload_n C dJ1_indexOfChar_4cfef_4 3 rfl ?_
  refine g_istore C (lv' := [(5, .int x2), (4, .int (x1.toInt8.toInt32)), (0, .ref (w_k w (100 + k0))), (1, .int x1), (2, .int x2), (3, .int x3)]) dJ1_indexOfChar_4cfef_5 (by decide) rfl ?_
  refine g_sub [2, 5, 1, 0] (lv' := [(0, .ref (w_k w (100 + k0))), (3, .int x3), (4, .int (x1.toInt8.toInt32)), (5, .int x2)]) rfl ?_
  exact R7 x3 (x1.toInt8.toInt32) x2 h
set_option maxHeartbeats 4000000 in
set_option maxRecDepth 100000 in
theorem m_JL_indexOf {w : wT} {l : Launch} {k0 : Nat} {x1 x2 x3 : Int32} {d : Dt} {rE : Int32} (hO : okW w) (hk0 : k0 < 54) (h : f_JL_indexOf k0 x1 x2 x3 d = some rE) : gM w l yJ1_indexOf_4cfef cJ1_indexOf_4cfef 4 (Option.some Jvm.ClassFile.FieldType.int) 1 [.ref (w_k w (100 + k0)), .int x1, .int x2, .int x3] d d (some (.int rE)) := by
  refine gM_of (by decide) [(0, .ref (w_k w (100 + k0))), (1, .int x1), (2, .int x2), (3, .int x3)] rfl rfl ?_ hO
  intro p e R s m args below meth c C hR hr hlk
  unfold f_JL_indexOf at h
  refine g_iload_n C dJ1_indexOf_4cfef_0 1 rfl ?_
  obtain ⟨r3, hc4, h⟩ := ob1_1 h
  refine g_callSi C sk_JL_88 hR rfl (m_JL_canEncode C.2.2.2.2.2.2.1 hc4) rfl rfl rfl dJ1_indexOf_4cfef_1 rfl rfl ?_
  refine g_if_ne C dJ1_indexOf_4cfef_4 (tgt := 9) rfl (fun q => ?_) (fun q => ?_)
  · replace h := it_f q h
    refine g_iload_n C dJ1_indexOf_4cfef_9 2 rfl ?_
    refine g_iconst C dJ1_indexOf_4cfef_10 (v := 0) rfl ?_
    refine g_mmax C mm_JL_92 mm_sta_max mm_ini mm_cod_max hR rfl rfl dJ1_indexOf_4cfef_11 rfl rfl ?_
    refine g_istore_n C (lv' := [(2, .int (mxI x2 0)), (0, .ref (w_k w (100 + k0))), (1, .int x1), (3, .int x3)]) dJ1_indexOf_4cfef_14 (by decide) rfl ?_
    refine g_iload_n C dJ1_indexOf_4cfef_15 3 rfl ?_
    refine g_aload_n C dJ1_indexOf_4cfef_16 1 rfl ?_
    refine g_lenK C (ks_row C hk0) rfl dJ1_indexOf_4cfef_17 ?_
    refine g_mmin C mm_JL_38 mm_sta_min mm_ini mm_cod_min hR rfl rfl dJ1_indexOf_4cfef_18 rfl rfl ?_
    refine g_istore_n C (lv' := [(3, .int (mnI x3 (Int32.ofNat (sL k0)))), (2, .int (mxI x2 0)), (0, .ref (w_k w (100 + k0))), (1, .int x1)]) dJ1_indexOf_4cfef_21 (by decide) rfl ?_
    refine g_iload_n C dJ1_indexOf_4cfef_22 1 rfl ?_
    refine g_iload_n C dJ1_indexOf_4cfef_23 0 rfl ?_
    refine g_icmp_lt C dJ1_indexOf_4cfef_24 (tgt := 29) rfl (fun q => ?_) (fun q => ?_)
    · replace h := it_t q h
      refine g_aload_n C dJ1_indexOf_4cfef_29 2 rfl ?_
      refine g_iload_n C dJ1_indexOf_4cfef_30 3 rfl ?_
      refine g_iload_n C dJ1_indexOf_4cfef_31 1 rfl ?_
      refine g_iload_n C dJ1_indexOf_4cfef_32 0 rfl ?_
      obtain ⟨r5, hc6, h⟩ := ob1_1 h
      refine g_callSi C sk_JL_95 hR rfl (m_JL_indexOfChar C.2.2.2.2.2.2.1 hk0 hc6) rfl rfl rfl dJ1_indexOf_4cfef_33 rfl rfl ?_
      exact g_iret C hr hlk rfl rfl (congrArg (fun z => some (Value.int z)) (Option.some.inj h)) dJ1_indexOf_4cfef_36
    · replace h := it_f q h
      refine g_iconst C dJ1_indexOf_4cfef_27 (v := (-1)) (by decide) ?_
      exact g_iret C hr hlk rfl rfl (congrArg (fun z => some (Value.int z)) (Option.some.inj h)) dJ1_indexOf_4cfef_28
  · replace h := it_t q h
    refine g_iconst C dJ1_indexOf_4cfef_7 (v := (-1)) (by decide) ?_
    exact g_iret C hr hlk rfl rfl (congrArg (fun z => some (Value.int z)) (Option.some.inj h)) dJ1_indexOf_4cfef_8
set_option maxHeartbeats 4000000 in
set_option maxRecDepth 100000 in
theorem m_JS_indexOf2 {w : wT} {l : Launch} {k0 : Nat} {x1 x2 : Int32} {d : Dt} {rE : Int32} (hO : okW w) (hk0 : k0 < 54) (h : f_JS_indexOf2 k0 x1 x2 d = some rE) : gM w l yJ0_indexOf_7cf53 cJ0_indexOf_7cf53 3 (Option.some Jvm.ClassFile.FieldType.int) 2 [.ref (w_k w k0), .int x1, .int x2] d d (some (.int rE)) := by
  refine gM_of (by decide) [(0, .ref (w_k w k0)), (1, .int x1), (2, .int x2)] rfl rfl ?_ hO
  intro p e R s m args below meth c C hR hr hlk
  unfold f_JS_indexOf2 at h
  refine g_aload_n C dJ0_indexOf_7cf53_0 0 rfl ?_
  obtain ⟨r5, hc6, h⟩ := ob1_1 h
  refine g_callO C _ (ks_obj C hk0) yk_J0_isLatin1_aae02 rfl (wA 952 (by decide +kernel) (by decide +kernel)) (wA 953 (by decide +kernel) (by decide +kernel)) (wA 954 (by decide +kernel) (by decide +kernel)) hR rfl (m_JS_isLatin1 C.2.2.2.2.2.2.1 hk0 hc6) rfl rfl rfl dJ0_indexOf_7cf53_1 rfl rfl ?_
  refine g_if_eq C dJ0_indexOf_7cf53_4 (tgt := 23) rfl (fun q => ?_) (fun q => ?_)
  · replace h := it_t q h
    refine g_aload_n C dJ0_indexOf_7cf53_23 0 rfl ?_
    refine g_getO C (ks_value C hk0) (wA 1990 (by decide +kernel) (by decide +kernel)) dJ0_indexOf_7cf53_24 ?_
    refine g_iload_n C dJ0_indexOf_7cf53_27 1 rfl ?_
    refine g_iload_n C dJ0_indexOf_7cf53_28 2 rfl ?_
    refine g_aload_n C dJ0_indexOf_7cf53_29 0 rfl ?_
    obtain ⟨r7, hc8, h⟩ := ob1_1 h
    refine g_callO C _ (ks_obj C hk0) yk_J0_length_8abf5 rfl (wA 958 (by decide +kernel) (by decide +kernel)) (wA 959 (by decide +kernel) (by decide +kernel)) (wA 960 (by decide +kernel) (by decide +kernel)) hR rfl (m_JS_length C.2.2.2.2.2.2.1 hk0 hc8) rfl rfl rfl dJ0_indexOf_7cf53_30 rfl rfl ?_
    cases h
  · replace h := it_f q h
    refine g_aload_n C dJ0_indexOf_7cf53_7 0 rfl ?_
    refine g_getO C (ks_value C hk0) (wA 1990 (by decide +kernel) (by decide +kernel)) dJ0_indexOf_7cf53_8 ?_
    refine g_iload_n C dJ0_indexOf_7cf53_11 1 rfl ?_
    refine g_iload_n C dJ0_indexOf_7cf53_12 2 rfl ?_
    refine g_aload_n C dJ0_indexOf_7cf53_13 0 rfl ?_
    obtain ⟨r9, hc10, h⟩ := ob1_1 h
    refine g_callO C _ (ks_obj C hk0) yk_J0_length_8abf5 rfl (wA 958 (by decide +kernel) (by decide +kernel)) (wA 959 (by decide +kernel) (by decide +kernel)) (wA 960 (by decide +kernel) (by decide +kernel)) hR rfl (m_JS_length C.2.2.2.2.2.2.1 hk0 hc10) rfl rfl rfl dJ0_indexOf_7cf53_14 rfl rfl ?_
    obtain ⟨r11, hc12, h⟩ := ob1_1 h
    refine g_callSi C sk_JS_637 hR rfl (m_JL_indexOf C.2.2.2.2.2.2.1 hk0 hc12) rfl rfl rfl dJ0_indexOf_7cf53_17 rfl rfl ?_
    refine g_goto C dJ0_indexOf_7cf53_20 (tgt := 36) rfl ?_
    exact g_iret C hr hlk rfl rfl (congrArg (fun z => some (Value.int z)) (Option.some.inj h)) dJ0_indexOf_7cf53_36
set_option maxHeartbeats 4000000 in
set_option maxRecDepth 100000 in
theorem m_JS_indexOf1 {w : wT} {l : Launch} {k0 : Nat} {x1 : Int32} {d : Dt} {rE : Int32} (hO : okW w) (hk0 : k0 < 54) (h : f_JS_indexOf1 k0 x1 d = some rE) : gM w l yJ0_indexOf_0f7a4 cJ0_indexOf_0f7a4 2 (Option.some Jvm.ClassFile.FieldType.int) 3 [.ref (w_k w k0), .int x1] d d (some (.int rE)) := by
  refine gM_of (by decide) [(0, .ref (w_k w k0)), (1, .int x1)] rfl rfl ?_ hO
  intro p e R s m args below meth c C hR hr hlk
  unfold f_JS_indexOf1 at h
  refine g_aload_n C dJ0_indexOf_0f7a4_0 0 rfl ?_
  refine g_iload_n C dJ0_indexOf_0f7a4_1 1 rfl ?_
  refine g_iconst C dJ0_indexOf_0f7a4_2 (v := 0) rfl ?_
  obtain ⟨r2, hc3, h⟩ := ob1_1 h
  refine g_callO C _ (ks_obj C hk0) yk_J0_indexOf_7cf53 rfl (wA 948 (by decide +kernel) (by decide +kernel)) (wA 949 (by decide +kernel) (by decide +kernel)) (wA 950 (by decide +kernel) (by decide +kernel)) hR rfl (m_JS_indexOf2 C.2.2.2.2.2.2.1 hk0 hc3) rfl rfl rfl dJ0_indexOf_0f7a4_3 rfl rfl ?_
  exact g_iret C hr hlk rfl rfl (congrArg (fun z => some (Value.int z)) (Option.some.inj h)) dJ0_indexOf_0f7a4_6
set_option maxHeartbeats 4000000 in
set_option maxRecDepth 100000 in
theorem m_M_hearingCount {w : wT} {l : Launch} {x1 : Int32} {d : Dt} {rE : Int32} {dE : Dt} (hO : okW w) (h : f_M_hearingCount x1 d = some (rE, dE)) : gM w l yX12_hearingCount cX12_hearingCount 3 (Option.some Jvm.ClassFile.FieldType.int) 4 [.ref (w_r w 292), .int x1] d dE (some (.int rE)) := by
  refine gM_of (by decide) [(0, .ref (w_r w 292)), (1, .int x1)] rfl rfl ?_ hO
  intro p e R s m args below meth c C hR hr hlk
  have R17 : ∀ (x2 : Int32) (v1 : Int32) (d : Dt), f_M_hearingCount_17 x2 v1 d = some (rE, dE) → gG w p l e R s m args below meth c 3 0 0 (gE w below args s dE (some (.int rE))) d [(0, .ref (w_r w 292)), (2, .int x2)] 17 [.int v1, .ref (w_r w 292)] := by
    intro x2 v1 d  h
    unfold f_M_hearingCount_17 at h
    obtain ⟨r4, d5, hc6, h⟩ := ob2_1 h
    refine g_callVi C 292 q_292 vk_M_61 hR rfl (m_M_fails C.2.2.2.2.2.2.1 hc6) rfl rfl rfl dX12_hearingCount_17 rfl rfl ?_
    refine g_if_eq C dX12_hearingCount_20 (tgt := 27) rfl (fun q => ?_) (fun q => ?_)
    · replace h := it_t q h
      refine g_aload_n C dX12_hearingCount_27 0 rfl ?_
      refine g_get C (.ref (w_r w 293)) 292 q_292 fk_M_7 rfl dX12_hearingCount_28 ?_
      refine g_bipush C dX12_hearingCount_31 (v := 7) (by decide) ?_
      refine g_iload_n C dX12_hearingCount_33 1 rfl ?_
      refine g_iadd C dX12_hearingCount_34  ?_
      have hg7 := gd_1 h
      replace h := gd_2 h
      refine g_iald C 293 q_293 hg7 _ rfl dX12_hearingCount_35 ?_
      exact g_iret C hr hlk rfl (congrArg Prod.snd (Option.some.inj h)) (congrArg (fun z => some (Value.int z.1)) (Option.some.inj h)) dX12_hearingCount_36
    · replace h := it_f q h
      refine g_iconst C dX12_hearingCount_23 (v := 0) rfl ?_
      refine g_goto C dX12_hearingCount_24 (tgt := 36) rfl ?_
      exact g_iret C hr hlk rfl (congrArg Prod.snd (Option.some.inj h)) (congrArg (fun z => some (Value.int z.1)) (Option.some.inj h)) dX12_hearingCount_36
  unfold f_M_hearingCount at h
  refine g_ldcS C 29 (by decide) (by decide +kernel) (by decide +kernel) dX12_hearingCount_0 ?_
  refine g_iload_n C dX12_hearingCount_2 1 rfl ?_
  obtain ⟨r8, hc9, h⟩ := ob1_1 h
  refine g_callO C _ (ks_obj C (by decide)) yk_J0_indexOf_0f7a4 rfl (wA 1835 (by decide +kernel) (by decide +kernel)) (wA 945 (by decide +kernel) (by decide +kernel)) (wA 946 (by decide +kernel) (by decide +kernel)) hR rfl (m_JS_indexOf1 C.2.2.2.2.2.2.1 (by decide) hc9) rfl rfl rfl dX12_hearingCount_3 rfl rfl ?_
  refine g_istore_n C (lv' := [(2, .int r8), (0, .ref (w_r w 292)), (1, .int x1)]) dX12_hearingCount_6 (by decide) rfl ?_
  refine g_aload_n C dX12_hearingCount_7 1 rfl ?_
  refine g_iload_n C dX12_hearingCount_8 0 rfl ?_
  refine g_if_ge C dX12_hearingCount_9 (tgt := 16) rfl (fun q => ?_) (fun q => ?_)
  · replace h := it_t q h
    refine g_iconst C dX12_hearingCount_16 (v := 0) rfl ?_
    refine g_sub [1, 0] (lv' := [(0, .ref (w_r w 292)), (2, .int r8)]) rfl ?_
    exact R17 r8 0 d h
  · replace h := it_f q h
    refine g_iconst C dX12_hearingCount_12 (v := 1) rfl ?_
    refine g_goto C dX12_hearingCount_13 (tgt := 17) rfl ?_
    refine g_sub [1, 0] (lv' := [(0, .ref (w_r w 292)), (2, .int r8)]) rfl ?_
    exact R17 r8 1 d h
set_option maxHeartbeats 4000000 in
set_option maxRecDepth 100000 in
theorem m_M_hearingDay {w : wT} {l : Launch} {x1 : Int32} {d : Dt} {rE : Int32} {dE : Dt} (hO : okW w) (h : f_M_hearingDay x1 d = some (rE, dE)) : gM w l yX12_hearingDay cX12_hearingDay 5 (Option.some Jvm.ClassFile.FieldType.int) 3 [.ref (w_r w 292), .int x1] d dE (some (.int rE)) := by
  refine gM_of (by decide) [(0, .ref (w_r w 292)), (1, .int x1)] rfl rfl ?_ hO
  intro p e R s m args below meth c C hR hr hlk
  have R40 : ∀ (x2 : Int32) (x3 : Int32) (x4 : Int32) (d : Dt), f_M_hearingDay_40 x2 x3 x4 d = some (rE, dE) → gG w p l e R s m args below meth c 5 0 0 (gE w below args s dE (some (.int rE))) d [(0, .ref (w_r w 292)), (2, .int x2), (3, .int x3), (4, .int x4)] 40 [] := by
    intro x2 x3 x4 d  h
    refine iter_ind (G := fun s_ : (Int32) => gG w p l e R s m args below meth c 5 0 0 (gE w below args s dE (some (.int rE))) d [(0, .ref (w_r w 292)), (2, .int x2), (3, .int x3), (4, .int s_)] 40 []) ?_ fu _ h
    clear h
    intro x4 y1 h hl1 hx1
    show gG w p l e R s m args below meth c 5 0 0 (gE w below args s dE (some (.int rE))) d [(0, .ref (w_r w 292)), (2, .int x2), (3, .int x3), (4, .int x4)] 40 []
    unfold st_M_hearingDay_40 at h
    refine g_aload_n C dX12_hearingDay_40 0 rfl ?_
    refine g_iload_n C dX12_hearingDay_41 2 rfl ?_
    refine g_iload C dX12_hearingDay_42 3 rfl ?_
    obtain ⟨r6, hc7, h⟩ := ob1_1 h
    refine g_callVi C 292 q_292 vk_M_122 hR rfl (m_M_hearing C.2.2.2.2.2.2.1 hc7) rfl rfl rfl dX12_hearingDay_44 rfl rfl ?_
    refine g_iload_n C dX12_hearingDay_47 1 rfl ?_
    refine g_icmp_eq C dX12_hearingDay_48 (tgt := 57) rfl (fun q => ?_) (fun q => ?_)
    · replace h := it_t q h
      replace h := ir_2 h hx1
      refine g_aload_n C dX12_hearingDay_57 0 rfl ?_
      refine g_get C (.ref (w_r w 293)) 292 q_292 fk_M_7 rfl dX12_hearingDay_58 ?_
      refine g_iconst C dX12_hearingDay_61 (v := 1) rfl ?_
      refine g_iald C 293 q_293 (by decide) 1 (by decide) dX12_hearingDay_62 ?_
      refine g_iconst C dX12_hearingDay_63 (v := 1) rfl ?_
      refine g_iadd C dX12_hearingDay_64  ?_
      refine g_iload C dX12_hearingDay_65 3 rfl ?_
      refine g_iadd C dX12_hearingDay_67  ?_
      exact g_iret C hr hlk rfl (congrArg Prod.snd (Option.some.inj h)) (congrArg (fun z => some (Value.int z.1)) (Option.some.inj h)) dX12_hearingDay_68
    · replace h := it_f q h
      refine g_iinc C (lv' := [(4, .int (x4 + 1)), (0, .ref (w_r w 292)), (2, .int x2), (3, .int x3)]) (v := (x4 + 1)) dX12_hearingDay_51 3 rfl rfl (by decide) rfl ?_
      refine g_goto C dX12_hearingDay_54 (tgt := 40) rfl ?_
      refine g_sub [1, 2, 3, 0] (lv' := [(0, .ref (w_r w 292)), (2, .int x2), (3, .int x3), (4, .int (x4 + 1))]) rfl ?_
      exact hl1 (x4 + 1) (Option.some.inj h).symm
  have R29 : ∀ (x2 : Int32) (x3 : Int32) (v1 : Int32) (d : Dt), f_M_hearingDay_29 x2 x3 v1 d = some (rE, dE) → gG w p l e R s m args below meth c 5 0 0 (gE w below args s dE (some (.int rE))) d [(0, .ref (w_r w 292)), (2, .int x2), (3, .int x3)] 29 [.int v1, .ref (w_r w 292)] := by
    intro x2 x3 v1 d  h
    unfold f_M_hearingDay_29 at h
    obtain ⟨r8, d9, hc10, h⟩ := ob2_1 h
    refine g_callVi C 292 q_292 vk_M_61 hR rfl (m_M_fails C.2.2.2.2.2.2.1 hc10) rfl rfl rfl dX12_hearingDay_29 rfl rfl ?_
    refine g_if_eq C dX12_hearingDay_32 (tgt := 37) rfl (fun q => ?_) (fun q => ?_)
    · replace h := it_t q h
      refine g_iconst C dX12_hearingDay_37 (v := 0) rfl ?_
      refine g_istore C (lv' := [(4, .int 0), (0, .ref (w_r w 292)), (2, .int x2), (3, .int x3)]) dX12_hearingDay_38 (by decide) rfl ?_
      refine g_sub [1, 2, 3, 0] (lv' := [(0, .ref (w_r w 292)), (2, .int x2), (3, .int x3), (4, .int 0)]) rfl ?_
      exact R40 x2 x3 0 d9 h
    · replace h := it_f q h
      refine g_iconst C dX12_hearingDay_35 (v := 0) rfl ?_
      exact g_iret C hr hlk rfl (congrArg Prod.snd (Option.some.inj h)) (congrArg (fun z => some (Value.int z.1)) (Option.some.inj h)) dX12_hearingDay_36
  have R24 : ∀ (x2 : Int32) (x3 : Int32) (d : Dt), f_M_hearingDay_24 x2 x3  d = some (rE, dE) → gG w p l e R s m args below meth c 5 0 0 (gE w below args s dE (some (.int rE))) d [(0, .ref (w_r w 292)), (2, .int x2), (3, .int x3)] 24 [.ref (w_r w 292)] := by
    intro x2 x3  d  h
    unfold f_M_hearingDay_24 at h
    refine g_iconst C dX12_hearingDay_24 (v := 1) rfl ?_
    refine g_goto C dX12_hearingDay_25 (tgt := 29) rfl ?_
    exact R29 x2 x3 1 d h
  unfold f_M_hearingDay at h
  refine g_aload_n C dX12_hearingDay_0 0 rfl ?_
  refine g_iload_n C dX12_hearingDay_1 1 rfl ?_
  obtain ⟨r11, hc12, h⟩ := ob1_1 h
  refine g_callVi C 292 q_292 vk_M_76 hR rfl (m_M_placeOf C.2.2.2.2.2.2.1 hc12) rfl rfl rfl dX12_hearingDay_2 rfl rfl ?_
  refine g_istore_n C (lv' := [(2, .int r11), (0, .ref (w_r w 292)), (1, .int x1)]) dX12_hearingDay_5 (by decide) rfl ?_
  refine g_aload_n C dX12_hearingDay_6 1 rfl ?_
  obtain ⟨r13, hc14, h⟩ := ob1_1 h
  refine g_callVi C 292 q_292 vk_M_118 hR rfl (m_M_plan C.2.2.2.2.2.2.1 hc14) rfl rfl rfl dX12_hearingDay_7 rfl rfl ?_
  refine g_istore_n C (lv' := [(3, .int r13), (2, .int r11), (0, .ref (w_r w 292)), (1, .int x1)]) dX12_hearingDay_10 (by decide) rfl ?_
  refine g_aload_n C dX12_hearingDay_11 2 rfl ?_
  refine g_iload_n C dX12_hearingDay_12 1 rfl ?_
  refine g_if_lt C dX12_hearingDay_13 (tgt := 24) rfl (fun q => ?_) (fun q => ?_)
  · replace h := it_t q h
    refine g_sub [2, 1, 0] (lv' := [(0, .ref (w_r w 292)), (2, .int r11), (3, .int r13)]) rfl ?_
    exact R24 r11 r13 d h
  · replace h := it_f q h
    refine g_iload_n C dX12_hearingDay_16 0 rfl ?_
    refine g_iload_n C dX12_hearingDay_17 1 rfl ?_
    refine g_ishr C dX12_hearingDay_18  ?_
    refine g_iconst C dX12_hearingDay_19 (v := 1) rfl ?_
    refine g_iand C dX12_hearingDay_20  ?_
    refine g_if_ne C dX12_hearingDay_21 (tgt := 28) rfl (fun q => ?_) (fun q => ?_)
    · replace h := it_f q h
      refine g_iconst C dX12_hearingDay_28 (v := 0) rfl ?_
      refine g_sub [2, 1, 0] (lv' := [(0, .ref (w_r w 292)), (2, .int r11), (3, .int r13)]) rfl ?_
      exact R29 r11 r13 0 d h
    · replace h := it_t q h
      refine g_sub [2, 1, 0] (lv' := [(0, .ref (w_r w 292)), (2, .int r11), (3, .int r13)]) rfl ?_
      exact R24 r11 r13 d h
set_option maxHeartbeats 4000000 in
set_option maxRecDepth 100000 in
theorem m_M_isAhead {w : wT} {l : Launch} {x1 x2 : Int32} {d : Dt} {rE : Int32} (hO : okW w) (h : f_M_isAhead x1 x2 d = some rE) : gM w l yX12_isAhead cX12_isAhead 3 (Option.some Jvm.ClassFile.FieldType.boolean) 2 [.ref (w_r w 292), .int x1, .int x2] d d (some (.int rE)) := by
  refine gM_of (by decide) [(0, .ref (w_r w 292)), (1, .int x1), (2, .int x2)] rfl rfl ?_ hO
  intro p e R s m args below meth c C hR hr hlk
  unfold f_M_isAhead at h
  refine g_aload_n C dX12_isAhead_0 0 rfl ?_
  refine g_iload_n C dX12_isAhead_1 1 rfl ?_
  refine g_iconst C dX12_isAhead_2 (v := 0) rfl ?_
  obtain ⟨r9, hc10, h⟩ := ob1_1 h
  refine g_callVi C 292 q_292 vk_M_87 hR rfl (m_M_of C.2.2.2.2.2.2.1 hc10) rfl rfl rfl dX12_isAhead_3 rfl rfl ?_
  refine g_aload_n C dX12_isAhead_6 0 rfl ?_
  refine g_iload_n C dX12_isAhead_7 2 rfl ?_
  refine g_iconst C dX12_isAhead_8 (v := 0) rfl ?_
  obtain ⟨r11, hc12, h⟩ := ob1_1 h
  refine g_callVi C 292 q_292 vk_M_87 hR rfl (m_M_of C.2.2.2.2.2.2.1 hc12) rfl rfl rfl dX12_isAhead_9 rfl rfl ?_
  refine g_icmp_eq C dX12_isAhead_12 (tgt := 36) rfl (fun q => ?_) (fun q => ?_)
  · replace h := it_t q h
    refine g_aload_n C dX12_isAhead_36 0 rfl ?_
    refine g_iload_n C dX12_isAhead_37 1 rfl ?_
    obtain ⟨r13, hc14, h⟩ := ob1_1 h
    refine g_callVi C 292 q_292 vk_M_137 hR rfl (m_M_toServe C.2.2.2.2.2.2.1 hc14) rfl rfl rfl dX12_isAhead_38 rfl rfl ?_
    refine g_aload_n C dX12_isAhead_41 0 rfl ?_
    refine g_iload_n C dX12_isAhead_42 2 rfl ?_
    obtain ⟨r15, hc16, h⟩ := ob1_1 h
    refine g_callVi C 292 q_292 vk_M_137 hR rfl (m_M_toServe C.2.2.2.2.2.2.1 hc16) rfl rfl rfl dX12_isAhead_43 rfl rfl ?_
    refine g_icmp_eq C dX12_isAhead_46 (tgt := 70) rfl (fun q => ?_) (fun q => ?_)
    · replace h := it_t q h
      refine g_iload_n C dX12_isAhead_70 1 rfl ?_
      refine g_iload_n C dX12_isAhead_71 2 rfl ?_
      refine g_icmp_ge C dX12_isAhead_72 (tgt := 79) rfl (fun q => ?_) (fun q => ?_)
      · replace h := it_t q h
        refine g_iconst C dX12_isAhead_79 (v := 0) rfl ?_
        exact g_iret C hr hlk rfl rfl (congrArg (fun z => some (Value.int z)) (Option.some.inj h)) dX12_isAhead_80
      · replace h := it_f q h
        refine g_iconst C dX12_isAhead_75 (v := 1) rfl ?_
        refine g_goto C dX12_isAhead_76 (tgt := 80) rfl ?_
        exact g_iret C hr hlk rfl rfl (congrArg (fun z => some (Value.int z)) (Option.some.inj h)) dX12_isAhead_80
    · replace h := it_f q h
      refine g_aload_n C dX12_isAhead_49 0 rfl ?_
      refine g_iload_n C dX12_isAhead_50 1 rfl ?_
      obtain ⟨r17, hc18, h⟩ := ob1_1 h
      refine g_callVi C 292 q_292 vk_M_137 hR rfl (m_M_toServe C.2.2.2.2.2.2.1 hc18) rfl rfl rfl dX12_isAhead_51 rfl rfl ?_
      refine g_aload_n C dX12_isAhead_54 0 rfl ?_
      refine g_iload_n C dX12_isAhead_55 2 rfl ?_
      obtain ⟨r19, hc20, h⟩ := ob1_1 h
      refine g_callVi C 292 q_292 vk_M_137 hR rfl (m_M_toServe C.2.2.2.2.2.2.1 hc20) rfl rfl rfl dX12_isAhead_56 rfl rfl ?_
      refine g_icmp_le C dX12_isAhead_59 (tgt := 66) rfl (fun q => ?_) (fun q => ?_)
      · replace h := it_t q h
        refine g_iconst C dX12_isAhead_66 (v := 0) rfl ?_
        refine g_goto C dX12_isAhead_67 (tgt := 80) rfl ?_
        exact g_iret C hr hlk rfl rfl (congrArg (fun z => some (Value.int z)) (Option.some.inj h)) dX12_isAhead_80
      · replace h := it_f q h
        refine g_iconst C dX12_isAhead_62 (v := 1) rfl ?_
        refine g_goto C dX12_isAhead_63 (tgt := 80) rfl ?_
        exact g_iret C hr hlk rfl rfl (congrArg (fun z => some (Value.int z)) (Option.some.inj h)) dX12_isAhead_80
  · replace h := it_f q h
    refine g_aload_n C dX12_isAhead_15 0 rfl ?_
    refine g_iload_n C dX12_isAhead_16 1 rfl ?_
    refine g_iconst C dX12_isAhead_17 (v := 0) rfl ?_
    obtain ⟨r21, hc22, h⟩ := ob1_1 h
    refine g_callVi C 292 q_292 vk_M_87 hR rfl (m_M_of C.2.2.2.2.2.2.1 hc22) rfl rfl rfl dX12_isAhead_18 rfl rfl ?_
    refine g_aload_n C dX12_isAhead_21 0 rfl ?_
    refine g_iload_n C dX12_isAhead_22 2 rfl ?_
    refine g_iconst C dX12_isAhead_23 (v := 0) rfl ?_
    obtain ⟨r23, hc24, h⟩ := ob1_1 h
    refine g_callVi C 292 q_292 vk_M_87 hR rfl (m_M_of C.2.2.2.2.2.2.1 hc24) rfl rfl rfl dX12_isAhead_24 rfl rfl ?_
    refine g_icmp_ge C dX12_isAhead_27 (tgt := 34) rfl (fun q => ?_) (fun q => ?_)
    · replace h := it_t q h
      refine g_iconst C dX12_isAhead_34 (v := 0) rfl ?_
      exact g_iret C hr hlk rfl rfl (congrArg (fun z => some (Value.int z)) (Option.some.inj h)) dX12_isAhead_35
    · replace h := it_f q h
      refine g_iconst C dX12_isAhead_30 (v := 1) rfl ?_
      refine g_goto C dX12_isAhead_31 (tgt := 35) rfl ?_
      exact g_iret C hr hlk rfl rfl (congrArg (fun z => some (Value.int z)) (Option.some.inj h)) dX12_isAhead_35
set_option maxHeartbeats 4000000 in
set_option maxRecDepth 100000 in
theorem m_M_isConsistent {w : wT} {l : Launch} {d : Dt} {rE : Int32} {dE : Dt} (hO : okW w) (h : f_M_isConsistent  d = some (rE, dE)) : gM w l yX12_isConsistent cX12_isConsistent 1 (Option.some Jvm.ClassFile.FieldType.boolean) 0 [.ref (w_r w 292)] d dE (some (.int rE)) := by
  refine gM_of (by decide) [(0, .ref (w_r w 292))] rfl rfl ?_ hO
  intro p e R s m args below meth c C hR hr hlk
  unfold f_M_isConsistent at h
  refine g_aload_n C dX12_isConsistent_0 0 rfl ?_
  refine g_iconst C dX12_isConsistent_1 (v := 0) rfl ?_
  refine g_put C 292 q_292 pk_M_39 rfl rfl dX12_isConsistent_2 ?_
  refine g_iconst C dX12_isConsistent_5 (v := 1) rfl ?_
  exact g_iret C hr hlk rfl (congrArg Prod.snd (Option.some.inj h)) (congrArg (fun z => some (Value.int z.1)) (Option.some.inj h)) dX12_isConsistent_6
set_option maxHeartbeats 4000000 in
set_option maxRecDepth 100000 in
theorem m_M_isContradictory {w : wT} {l : Launch} {x1 : Int32} {d : Dt} {rE : Int32} {dE : Dt} (hO : okW w) (h : f_M_isContradictory x1 d = some (rE, dE)) : gM w l yX12_isContradictory cX12_isContradictory 2 (Option.some Jvm.ClassFile.FieldType.boolean) 4 [.ref (w_r w 292), .int x1] d dE (some (.int rE)) := by
  refine gM_of (by decide) [(0, .ref (w_r w 292)), (1, .int x1)] rfl rfl ?_ hO
  intro p e R s m args below meth c C hR hr hlk
  unfold f_M_isContradictory at h
  refine g_aload_n C dX12_isContradictory_0 0 rfl ?_
  refine g_iload_n C dX12_isContradictory_1 1 rfl ?_
  obtain ⟨r4, d5, hc6, h⟩ := ob2_1 h
  refine g_callVi C 292 q_292 vk_M_134 hR rfl (m_M_isNone C.2.2.2.2.2.2.1 hc6) rfl rfl rfl dX12_isContradictory_2 rfl rfl ?_
  refine g_if_ne C dX12_isContradictory_5 (tgt := 21) rfl (fun q => ?_) (fun q => ?_)
  · replace h := it_f q h
    refine g_iconst C dX12_isContradictory_21 (v := 0) rfl ?_
    exact g_iret C hr hlk rfl (congrArg Prod.snd (Option.some.inj h)) (congrArg (fun z => some (Value.int z.1)) (Option.some.inj h)) dX12_isContradictory_22
  · replace h := it_t q h
    refine g_aload_n C dX12_isContradictory_8 0 rfl ?_
    refine g_iload_n C dX12_isContradictory_9 1 rfl ?_
    obtain ⟨r7, hc8, h⟩ := ob1_1 h
    refine g_callVi C 292 q_292 vk_M_112 hR rfl (m_M_judges C.2.2.2.2.2.2.1 hc8) rfl rfl rfl dX12_isContradictory_10 rfl rfl ?_
    refine g_iconst C dX12_isContradictory_13 (v := 3) rfl ?_
    refine g_icmp_ne C dX12_isContradictory_14 (tgt := 21) rfl (fun q => ?_) (fun q => ?_)
    · replace h := it_f q h
      refine g_iconst C dX12_isContradictory_21 (v := 0) rfl ?_
      exact g_iret C hr hlk rfl (congrArg Prod.snd (Option.some.inj h)) (congrArg (fun z => some (Value.int z.1)) (Option.some.inj h)) dX12_isContradictory_22
    · replace h := it_t q h
      refine g_iconst C dX12_isContradictory_17 (v := 1) rfl ?_
      refine g_goto C dX12_isContradictory_18 (tgt := 22) rfl ?_
      exact g_iret C hr hlk rfl (congrArg Prod.snd (Option.some.inj h)) (congrArg (fun z => some (Value.int z.1)) (Option.some.inj h)) dX12_isContradictory_22
set_option maxHeartbeats 4000000 in
set_option maxRecDepth 100000 in
theorem m_M_isInPlan {w : wT} {l : Launch} {x1 : Int32} {d : Dt} {rE : Int32} {dE : Dt} (hO : okW w) (h : f_M_isInPlan x1 d = some (rE, dE)) : gM w l yX12_isInPlan cX12_isInPlan 3 (Option.some Jvm.ClassFile.FieldType.boolean) 3 [.ref (w_r w 292), .int x1] d dE (some (.int rE)) := by
  refine gM_of (by decide) [(0, .ref (w_r w 292)), (1, .int x1)] rfl rfl ?_ hO
  intro p e R s m args below meth c C hR hr hlk
  have R16 : ∀ (x2 : Int32) (v1 : Int32) (d : Dt), f_M_isInPlan_16 x2 v1 d = some (rE, dE) → gG w p l e R s m args below meth c 3 0 0 (gE w below args s dE (some (.int rE))) d [(0, .ref (w_r w 292)), (2, .int x2)] 16 [.int v1, .ref (w_r w 292)] := by
    intro x2 v1 d  h
    unfold f_M_isInPlan_16 at h
    obtain ⟨r5, d6, hc7, h⟩ := ob2_1 h
    refine g_callVi C 292 q_292 vk_M_61 hR rfl (m_M_fails C.2.2.2.2.2.2.1 hc7) rfl rfl rfl dX12_isInPlan_16 rfl rfl ?_
    refine g_if_ne C dX12_isInPlan_19 (tgt := 38) rfl (fun q => ?_) (fun q => ?_)
    · replace h := it_f q h
      refine g_iconst C dX12_isInPlan_38 (v := 0) rfl ?_
      exact g_iret C hr hlk rfl (congrArg Prod.snd (Option.some.inj h)) (congrArg (fun z => some (Value.int z.1)) (Option.some.inj h)) dX12_isInPlan_39
    · replace h := it_t q h
      refine g_aload_n C dX12_isInPlan_22 0 rfl ?_
      obtain ⟨r8, hc9, h⟩ := ob1_1 h
      refine g_callVi C 292 q_292 vk_M_118 hR rfl (m_M_plan C.2.2.2.2.2.2.1 hc9) rfl rfl rfl dX12_isInPlan_23 rfl rfl ?_
      refine g_iload_n C dX12_isInPlan_26 1 rfl ?_
      refine g_ishr C dX12_isInPlan_27  ?_
      refine g_iconst C dX12_isInPlan_28 (v := 1) rfl ?_
      refine g_iand C dX12_isInPlan_29  ?_
      refine g_iconst C dX12_isInPlan_30 (v := 1) rfl ?_
      refine g_icmp_ne C dX12_isInPlan_31 (tgt := 38) rfl (fun q => ?_) (fun q => ?_)
      · replace h := it_f q h
        refine g_iconst C dX12_isInPlan_38 (v := 0) rfl ?_
        exact g_iret C hr hlk rfl (congrArg Prod.snd (Option.some.inj h)) (congrArg (fun z => some (Value.int z.1)) (Option.some.inj h)) dX12_isInPlan_39
      · replace h := it_t q h
        refine g_iconst C dX12_isInPlan_34 (v := 1) rfl ?_
        refine g_goto C dX12_isInPlan_35 (tgt := 39) rfl ?_
        exact g_iret C hr hlk rfl (congrArg Prod.snd (Option.some.inj h)) (congrArg (fun z => some (Value.int z.1)) (Option.some.inj h)) dX12_isInPlan_39
  unfold f_M_isInPlan at h
  refine g_aload_n C dX12_isInPlan_0 0 rfl ?_
  refine g_iload_n C dX12_isInPlan_1 1 rfl ?_
  obtain ⟨r10, hc11, h⟩ := ob1_1 h
  refine g_callVi C 292 q_292 vk_M_76 hR rfl (m_M_placeOf C.2.2.2.2.2.2.1 hc11) rfl rfl rfl dX12_isInPlan_2 rfl rfl ?_
  refine g_istore_n C (lv' := [(2, .int r10), (0, .ref (w_r w 292)), (1, .int x1)]) dX12_isInPlan_5 (by decide) rfl ?_
  refine g_aload_n C dX12_isInPlan_6 1 rfl ?_
  refine g_iload_n C dX12_isInPlan_7 0 rfl ?_
  refine g_if_ge C dX12_isInPlan_8 (tgt := 15) rfl (fun q => ?_) (fun q => ?_)
  · replace h := it_t q h
    refine g_iconst C dX12_isInPlan_15 (v := 0) rfl ?_
    refine g_sub [1, 0] (lv' := [(0, .ref (w_r w 292)), (2, .int r10)]) rfl ?_
    exact R16 r10 0 d h
  · replace h := it_f q h
    refine g_iconst C dX12_isInPlan_11 (v := 1) rfl ?_
    refine g_goto C dX12_isInPlan_12 (tgt := 16) rfl ?_
    refine g_sub [1, 0] (lv' := [(0, .ref (w_r w 292)), (2, .int r10)]) rfl ?_
    exact R16 r10 1 d h
set_option maxHeartbeats 4000000 in
set_option maxRecDepth 100000 in
theorem m_M_isText {w : wT} {l : Launch} {d : Dt} {rE : Int32} {dE : Dt} (hO : okW w) (h : f_M_isText  d = some (rE, dE)) : gM w l yX12_isText cX12_isText 1 (Option.some Jvm.ClassFile.FieldType.boolean) 6 [.ref (w_r w 292)] d dE (some (.int rE)) := by
  refine gM_of (by decide) [(0, .ref (w_r w 292))] rfl rfl ?_ hO
  intro p e R s m args below meth c C hR hr hlk
  have R10 : ∀ (d : Dt), f_M_isText_10  d = some (rE, dE) → gG w p l e R s m args below meth c 1 0 0 (gE w below args s dE (some (.int rE))) d [(0, .ref (w_r w 292))] 10 [] := by
    intro  d  h
    refine iter_ind (G := fun s_ : (Dt) => gG w p l e R s m args below meth c 1 0 0 (gE w below args s dE (some (.int rE))) s_ [(0, .ref (w_r w 292))] 10 []) ?_ fu _ h
    clear h
    intro d y1 h hl1 hx1
    show gG w p l e R s m args below meth c 1 0 0 (gE w below args s dE (some (.int rE))) d [(0, .ref (w_r w 292))] 10 []
    unfold st_M_isText_10 at h
    refine g_aload_n C dX12_isText_10 0 rfl ?_
    obtain ⟨r5, d6, hc7, h⟩ := ob2_1 h
    refine g_callVi C 292 q_292 vk_M_215 hR rfl (m_M_commandHere C.2.2.2.2.2.2.1 hc7) rfl rfl rfl dX12_isText_11 rfl rfl ?_
    refine g_if_ne C dX12_isText_14 (tgt := 19) rfl (fun q => ?_) (fun q => ?_)
    · replace h := it_f q h
      refine g_aload_n C dX12_isText_19 0 rfl ?_
      refine g_dup C dX12_isText_20 rfl ?_
      refine g_get C (.int (d6 292 16)) 292 q_292 fk_M_178 rfl dX12_isText_21 ?_
      refine g_iconst C dX12_isText_24 (v := 1) rfl ?_
      refine g_iadd C dX12_isText_25  ?_
      refine g_put C 292 q_292 pk_M_178 rfl rfl dX12_isText_26 ?_
      refine g_aload_n C dX12_isText_29 0 rfl ?_
      refine g_bipush C dX12_isText_30 (v := 59) (by decide) ?_
      obtain ⟨r8, d9, hc10, h⟩ := ob2_1 h
      refine g_callVi C 292 q_292 vk_M_183 hR rfl (m_M_skips C.2.2.2.2.2.2.1 hc10) rfl rfl rfl dX12_isText_32 rfl rfl ?_
      refine g_if_ne C dX12_isText_35 (tgt := 10) rfl (fun q => ?_) (fun q => ?_)
      · replace h := it_f q h
        exact hl1 d9 (Option.some.inj h).symm
      · replace h := it_t q h
        replace h := ir_2 h hx1
        refine g_aload_n C dX12_isText_38 0 rfl ?_
        refine g_get C (.int (d9 292 14)) 292 q_292 fk_M_172 rfl dX12_isText_39 ?_
        refine g_aload_n C dX12_isText_42 0 rfl ?_
        refine g_get C (.int (d9 292 9)) 292 q_292 fk_M_169 rfl dX12_isText_43 ?_
        refine g_icmp_ne C dX12_isText_46 (tgt := 53) rfl (fun q => ?_) (fun q => ?_)
        · replace h := it_f q h
          refine g_iconst C dX12_isText_53 (v := 0) rfl ?_
          exact g_iret C hr hlk rfl (congrArg Prod.snd (Option.some.inj h)) (congrArg (fun z => some (Value.int z.1)) (Option.some.inj h)) dX12_isText_54
        · replace h := it_t q h
          refine g_iconst C dX12_isText_49 (v := 1) rfl ?_
          refine g_goto C dX12_isText_50 (tgt := 54) rfl ?_
          exact g_iret C hr hlk rfl (congrArg Prod.snd (Option.some.inj h)) (congrArg (fun z => some (Value.int z.1)) (Option.some.inj h)) dX12_isText_54
    · replace h := it_t q h
      replace h := ir_2 h hx1
      refine g_iconst C dX12_isText_17 (v := 0) rfl ?_
      exact g_iret C hr hlk rfl (congrArg Prod.snd (Option.some.inj h)) (congrArg (fun z => some (Value.int z.1)) (Option.some.inj h)) dX12_isText_18
  unfold f_M_isText at h
  refine g_aload_n C dX12_isText_0 0 rfl ?_
  refine g_iconst C dX12_isText_1 (v := 0) rfl ?_
  refine g_put C 292 q_292 pk_M_172 rfl rfl dX12_isText_2 ?_
  refine g_aload_n C dX12_isText_5 0 rfl ?_
  refine g_iconst C dX12_isText_6 (v := 0) rfl ?_
  refine g_put C 292 q_292 pk_M_178 rfl rfl dX12_isText_7 ?_
  exact R10 (wr (wr d 292 14 0) 292 16 0) h
set_option maxHeartbeats 4000000 in
set_option maxRecDepth 100000 in
theorem m_M_isTogether {w : wT} {l : Launch} {x1 : Int32} {d : Dt} {rE : Int32} {dE : Dt} (hO : okW w) (h : f_M_isTogether x1 d = some (rE, dE)) : gM w l yX12_isTogether cX12_isTogether 2 (Option.some Jvm.ClassFile.FieldType.boolean) 2 [.ref (w_r w 292), .int x1] d dE (some (.int rE)) := by
  refine gM_of (by decide) [(0, .ref (w_r w 292)), (1, .int x1)] rfl rfl ?_ hO
  intro p e R s m args below meth c C hR hr hlk
  have R14 : ∀ (x1 : Int32) (v1 : Int32) (d : Dt), f_M_isTogether_14 x1 v1 d = some (rE, dE) → gG w p l e R s m args below meth c 2 0 0 (gE w below args s dE (some (.int rE))) d [(0, .ref (w_r w 292)), (1, .int x1)] 14 [.int v1, .ref (w_r w 292)] := by
    intro x1 v1 d  h
    unfold f_M_isTogether_14 at h
    obtain ⟨r5, d6, hc7, h⟩ := ob2_1 h
    refine g_callVi C 292 q_292 vk_M_61 hR rfl (m_M_fails C.2.2.2.2.2.2.1 hc7) rfl rfl rfl dX12_isTogether_14 rfl rfl ?_
    refine g_if_ne C dX12_isTogether_17 (tgt := 34) rfl (fun q => ?_) (fun q => ?_)
    · replace h := it_f q h
      refine g_iconst C dX12_isTogether_34 (v := 0) rfl ?_
      exact g_iret C hr hlk rfl (congrArg Prod.snd (Option.some.inj h)) (congrArg (fun z => some (Value.int z.1)) (Option.some.inj h)) dX12_isTogether_35
    · replace h := it_t q h
      refine g_aload_n C dX12_isTogether_20 0 rfl ?_
      refine g_iload_n C dX12_isTogether_21 1 rfl ?_
      refine g_iconst C dX12_isTogether_22 (v := 2) rfl ?_
      obtain ⟨r8, hc9, h⟩ := ob1_1 h
      refine g_callVi C 292 q_292 vk_M_97 hR rfl (m_M_says C.2.2.2.2.2.2.1 hc9) rfl rfl rfl dX12_isTogether_23 rfl rfl ?_
      refine g_iconst C dX12_isTogether_26 (v := 1) rfl ?_
      refine g_icmp_ne C dX12_isTogether_27 (tgt := 34) rfl (fun q => ?_) (fun q => ?_)
      · replace h := it_f q h
        refine g_iconst C dX12_isTogether_34 (v := 0) rfl ?_
        exact g_iret C hr hlk rfl (congrArg Prod.snd (Option.some.inj h)) (congrArg (fun z => some (Value.int z.1)) (Option.some.inj h)) dX12_isTogether_35
      · replace h := it_t q h
        refine g_iconst C dX12_isTogether_30 (v := 1) rfl ?_
        refine g_goto C dX12_isTogether_31 (tgt := 35) rfl ?_
        exact g_iret C hr hlk rfl (congrArg Prod.snd (Option.some.inj h)) (congrArg (fun z => some (Value.int z.1)) (Option.some.inj h)) dX12_isTogether_35
  unfold f_M_isTogether at h
  refine g_aload_n C dX12_isTogether_0 0 rfl ?_
  refine g_aload_n C dX12_isTogether_1 0 rfl ?_
  refine g_iload_n C dX12_isTogether_2 1 rfl ?_
  obtain ⟨r10, hc11, h⟩ := ob1_1 h
  refine g_callVi C 292 q_292 vk_M_84 hR rfl (m_M_isStatement C.2.2.2.2.2.2.1 hc11) rfl rfl rfl dX12_isTogether_3 rfl rfl ?_
  refine g_if_eq C dX12_isTogether_6 (tgt := 13) rfl (fun q => ?_) (fun q => ?_)
  · replace h := it_t q h
    refine g_iconst C dX12_isTogether_13 (v := 1) rfl ?_
    exact R14 x1 1 d h
  · replace h := it_f q h
    refine g_iconst C dX12_isTogether_9 (v := 0) rfl ?_
    refine g_goto C dX12_isTogether_10 (tgt := 14) rfl ?_
    exact R14 x1 0 d h
set_option maxHeartbeats 4000000 in
set_option maxRecDepth 100000 in
theorem m_M_lanternByBrightness {w : wT} {l : Launch} {x1 : Int32} {d : Dt} {rE : Int32} {dE : Dt} (hO : okW w) (h : f_M_lanternByBrightness x1 d = some (rE, dE)) : gM w l yX12_lanternByBrightness cX12_lanternByBrightness 5 (Option.some Jvm.ClassFile.FieldType.int) 3 [.ref (w_r w 292), .int x1] d dE (some (.int rE)) := by
  refine gM_of (by decide) [(0, .ref (w_r w 292)), (1, .int x1)] rfl rfl ?_ hO
  intro p e R s m args below meth c C hR hr hlk
  have R2 : ∀ (x1 : Int32) (x2 : Int32) (d : Dt), f_M_lanternByBrightness_2 x1 x2 d = some (rE, dE) → gG w p l e R s m args below meth c 5 0 0 (gE w below args s dE (some (.int rE))) d [(0, .ref (w_r w 292)), (1, .int x1), (2, .int x2)] 2 [] := by
    intro x1 x2 d  h
    refine iter_ind (G := fun s_ : (Int32) => gG w p l e R s m args below meth c 5 0 0 (gE w below args s dE (some (.int rE))) d [(0, .ref (w_r w 292)), (1, .int x1), (2, .int s_)] 2 []) ?_ fu _ h
    clear h
    intro x2 y1 h hl1 hx1
    show gG w p l e R s m args below meth c 5 0 0 (gE w below args s dE (some (.int rE))) d [(0, .ref (w_r w 292)), (1, .int x1), (2, .int x2)] 2 []
    unfold st_M_lanternByBrightness_2 at h
    have R17 : ∀ (x2 : Int32) (x3 : Int32) (x4 : Int32), f_M_lanternByBrightness_17 x1 x2 x3 x4 d = some y1 → gG w p l e R s m args below meth c 5 0 0 (gE w below args s dE (some (.int rE))) d [(0, .ref (w_r w 292)), (1, .int x1), (2, .int x2), (3, .int x3), (4, .int x4)] 17 [] := by
      intro x2 x3 x4   h
      refine iter_ind (G := fun s_ : (Int32 × Int32) => gG w p l e R s m args below meth c 5 0 0 (gE w below args s dE (some (.int rE))) d [(0, .ref (w_r w 292)), (1, .int x1), (2, .int x2), (3, .int s_.1), (4, .int s_.2)] 17 []) ?_ fu _ h
      clear h
      intro s_ y2 h hl2 hx2
      obtain ⟨x3, x4⟩ := s_
      show gG w p l e R s m args below meth c 5 0 0 (gE w below args s dE (some (.int rE))) d [(0, .ref (w_r w 292)), (1, .int x1), (2, .int x2), (3, .int x3), (4, .int x4)] 17 []
      dsimp only at h
      unfold st_M_lanternByBrightness_17 at h
      refine g_iload C dX12_lanternByBrightness_17 4 rfl ?_
      refine g_aload_n C dX12_lanternByBrightness_19 0 rfl ?_
      refine g_get C (.ref (w_r w 293)) 292 q_292 fk_M_7 rfl dX12_lanternByBrightness_20 ?_
      refine g_iconst C dX12_lanternByBrightness_23 (v := 0) rfl ?_
      refine g_iald C 293 q_293 (by decide) 0 (by decide) dX12_lanternByBrightness_24 ?_
      refine g_icmp_ge C dX12_lanternByBrightness_25 (tgt := 58) rfl (fun q => ?_) (fun q => ?_)
      · replace h := it_t q h
        replace h := ir_2 h hx2
        refine g_iload_n C dX12_lanternByBrightness_58 3 rfl ?_
        refine g_iload_n C dX12_lanternByBrightness_59 1 rfl ?_
        refine g_icmp_eq C dX12_lanternByBrightness_60 (tgt := 66) rfl (fun q => ?_) (fun q => ?_)
        · replace h := it_t q h
          replace h := ir_2 h hx1
          refine g_aload_n C dX12_lanternByBrightness_66 0 rfl ?_
          refine g_iconst C dX12_lanternByBrightness_67 (v := 0) rfl ?_
          refine g_put C 292 q_292 pk_M_39 rfl rfl dX12_lanternByBrightness_68 ?_
          refine g_iload_n C dX12_lanternByBrightness_71 2 rfl ?_
          exact g_iret C hr hlk rfl (congrArg Prod.snd (Option.some.inj h)) (congrArg (fun z => some (Value.int z.1)) (Option.some.inj h)) dX12_lanternByBrightness_72
        · replace h := it_f q h
          refine g_goto C dX12_lanternByBrightness_63 (tgt := 73) rfl ?_
          refine g_iinc C (lv' := [(2, .int (x2 + 1)), (0, .ref (w_r w 292)), (1, .int x1), (3, .int x3), (4, .int x4)]) (v := (x2 + 1)) dX12_lanternByBrightness_73 2 rfl rfl (by decide) rfl ?_
          refine g_goto C dX12_lanternByBrightness_76 (tgt := 2) rfl ?_
          refine g_sub [1, 2, 0] (lv' := [(0, .ref (w_r w 292)), (1, .int x1), (2, .int (x2 + 1))]) rfl ?_
          exact hl1 (x2 + 1) (Option.some.inj h).symm
      · replace h := it_f q h
        refine g_iload_n C dX12_lanternByBrightness_28 3 rfl ?_
        refine g_iload C dX12_lanternByBrightness_29 4 rfl ?_
        refine g_iload_n C dX12_lanternByBrightness_31 2 rfl ?_
        refine g_icmp_eq C dX12_lanternByBrightness_32 (tgt := 49) rfl (fun q => ?_) (fun q => ?_)
        · replace h := it_t q h
          refine g_iconst C dX12_lanternByBrightness_49 (v := 0) rfl ?_
          refine g_iadd C dX12_lanternByBrightness_50  ?_
          refine g_istore_n C (lv' := [(3, .int (x3 + 0)), (0, .ref (w_r w 292)), (1, .int x1), (2, .int x2), (4, .int x4)]) dX12_lanternByBrightness_51 (by decide) rfl ?_
          refine g_iinc C (lv' := [(4, .int (x4 + 1)), (3, .int (x3 + 0)), (0, .ref (w_r w 292)), (1, .int x1), (2, .int x2)]) (v := (x4 + 1)) dX12_lanternByBrightness_52 4 rfl rfl (by decide) rfl ?_
          refine g_goto C dX12_lanternByBrightness_55 (tgt := 17) rfl ?_
          refine g_sub [2, 3, 4, 1, 0] (lv' := [(0, .ref (w_r w 292)), (1, .int x1), (2, .int x2), (3, .int (x3 + 0)), (4, .int (x4 + 1))]) rfl ?_
          exact hl2 ((x3 + 0), (x4 + 1)) (Option.some.inj h).symm
        · replace h := it_f q h
          refine g_aload_n C dX12_lanternByBrightness_35 0 rfl ?_
          refine g_iload C dX12_lanternByBrightness_36 4 rfl ?_
          refine g_iload_n C dX12_lanternByBrightness_38 2 rfl ?_
          obtain ⟨r2, hc3, h⟩ := ob1_1 h
          refine g_callVi C 292 q_292 vk_M_163 hR rfl (m_M_isAhead C.2.2.2.2.2.2.1 hc3) rfl rfl rfl dX12_lanternByBrightness_39 rfl rfl ?_
          refine g_if_eq C dX12_lanternByBrightness_42 (tgt := 49) rfl (fun q => ?_) (fun q => ?_)
          · replace h := it_t q h
            refine g_iconst C dX12_lanternByBrightness_49 (v := 0) rfl ?_
            refine g_iadd C dX12_lanternByBrightness_50  ?_
            refine g_istore_n C (lv' := [(3, .int (x3 + 0)), (0, .ref (w_r w 292)), (1, .int x1), (2, .int x2), (4, .int x4)]) dX12_lanternByBrightness_51 (by decide) rfl ?_
            refine g_iinc C (lv' := [(4, .int (x4 + 1)), (3, .int (x3 + 0)), (0, .ref (w_r w 292)), (1, .int x1), (2, .int x2)]) (v := (x4 + 1)) dX12_lanternByBrightness_52 4 rfl rfl (by decide) rfl ?_
            refine g_goto C dX12_lanternByBrightness_55 (tgt := 17) rfl ?_
            refine g_sub [2, 3, 4, 1, 0] (lv' := [(0, .ref (w_r w 292)), (1, .int x1), (2, .int x2), (3, .int (x3 + 0)), (4, .int (x4 + 1))]) rfl ?_
            exact hl2 ((x3 + 0), (x4 + 1)) (Option.some.inj h).symm
          · replace h := it_f q h
            refine g_iconst C dX12_lanternByBrightness_45 (v := 1) rfl ?_
            refine g_goto C dX12_lanternByBrightness_46 (tgt := 50) rfl ?_
            refine g_iadd C dX12_lanternByBrightness_50  ?_
            refine g_istore_n C (lv' := [(3, .int (x3 + 1)), (0, .ref (w_r w 292)), (1, .int x1), (2, .int x2), (4, .int x4)]) dX12_lanternByBrightness_51 (by decide) rfl ?_
            refine g_iinc C (lv' := [(4, .int (x4 + 1)), (3, .int (x3 + 1)), (0, .ref (w_r w 292)), (1, .int x1), (2, .int x2)]) (v := (x4 + 1)) dX12_lanternByBrightness_52 4 rfl rfl (by decide) rfl ?_
            refine g_goto C dX12_lanternByBrightness_55 (tgt := 17) rfl ?_
            refine g_sub [2, 3, 4, 1, 0] (lv' := [(0, .ref (w_r w 292)), (1, .int x1), (2, .int x2), (3, .int (x3 + 1)), (4, .int (x4 + 1))]) rfl ?_
            exact hl2 ((x3 + 1), (x4 + 1)) (Option.some.inj h).symm
    refine g_iload_n C dX12_lanternByBrightness_2 2 rfl ?_
    refine g_aload_n C dX12_lanternByBrightness_3 0 rfl ?_
    refine g_get C (.ref (w_r w 293)) 292 q_292 fk_M_7 rfl dX12_lanternByBrightness_4 ?_
    refine g_iconst C dX12_lanternByBrightness_7 (v := 0) rfl ?_
    refine g_iald C 293 q_293 (by decide) 0 (by decide) dX12_lanternByBrightness_8 ?_
    refine g_icmp_ge C dX12_lanternByBrightness_9 (tgt := 79) rfl (fun q => ?_) (fun q => ?_)
    · replace h := it_t q h
      replace h := ir_2 h hx1
      refine g_aload_n C dX12_lanternByBrightness_79 0 rfl ?_
      refine g_iconst C dX12_lanternByBrightness_80 (v := 1) rfl ?_
      refine g_put C 292 q_292 pk_M_39 rfl rfl dX12_lanternByBrightness_81 ?_
      refine g_iconst C dX12_lanternByBrightness_84 (v := 0) rfl ?_
      exact g_iret C hr hlk rfl (congrArg Prod.snd (Option.some.inj h)) (congrArg (fun z => some (Value.int z.1)) (Option.some.inj h)) dX12_lanternByBrightness_85
    · replace h := it_f q h
      refine g_iconst C dX12_lanternByBrightness_12 (v := 0) rfl ?_
      refine g_istore_n C (lv' := [(3, .int 0), (0, .ref (w_r w 292)), (1, .int x1), (2, .int x2)]) dX12_lanternByBrightness_13 (by decide) rfl ?_
      refine g_iconst C dX12_lanternByBrightness_14 (v := 0) rfl ?_
      refine g_istore C (lv' := [(4, .int 0), (3, .int 0), (0, .ref (w_r w 292)), (1, .int x1), (2, .int x2)]) dX12_lanternByBrightness_15 (by decide) rfl ?_
      refine g_sub [2, 3, 4, 1, 0] (lv' := [(0, .ref (w_r w 292)), (1, .int x1), (2, .int x2), (3, .int 0), (4, .int 0)]) rfl ?_
      exact R17 x2 0 0 h
  unfold f_M_lanternByBrightness at h
  refine g_iconst C dX12_lanternByBrightness_0 (v := 0) rfl ?_
  refine g_istore_n C (lv' := [(2, .int 0), (0, .ref (w_r w 292)), (1, .int x1)]) dX12_lanternByBrightness_1 (by decide) rfl ?_
  refine g_sub [1, 2, 0] (lv' := [(0, .ref (w_r w 292)), (1, .int x1), (2, .int 0)]) rfl ?_
  exact R2 x1 0 d h
set_option maxHeartbeats 4000000 in
set_option maxRecDepth 100000 in
theorem m_M_lanternCount {w : wT} {l : Launch} {d : Dt} {rE : Int32} {dE : Dt} (hO : okW w) (h : f_M_lanternCount  d = some (rE, dE)) : gM w l yX12_lanternCount cX12_lanternCount 1 (Option.some Jvm.ClassFile.FieldType.int) 0 [.ref (w_r w 292)] d dE (some (.int rE)) := by
  refine gM_of (by decide) [(0, .ref (w_r w 292))] rfl rfl ?_ hO
  intro p e R s m args below meth c C hR hr hlk
  unfold f_M_lanternCount at h
  refine g_aload_n C dX12_lanternCount_0 0 rfl ?_
  refine g_iconst C dX12_lanternCount_1 (v := 0) rfl ?_
  refine g_put C 292 q_292 pk_M_39 rfl rfl dX12_lanternCount_2 ?_
  refine g_aload_n C dX12_lanternCount_5 0 rfl ?_
  refine g_get C (.ref (w_r w 293)) 292 q_292 fk_M_7 rfl dX12_lanternCount_6 ?_
  refine g_iconst C dX12_lanternCount_9 (v := 0) rfl ?_
  refine g_iald C 293 q_293 (by decide) 0 (by decide) dX12_lanternCount_10 ?_
  exact g_iret C hr hlk rfl (congrArg Prod.snd (Option.some.inj h)) (congrArg (fun z => some (Value.int z.1)) (Option.some.inj h)) dX12_lanternCount_11
set_option maxHeartbeats 4000000 in
set_option maxRecDepth 100000 in
theorem m_M_lanternOf {w : wT} {l : Launch} {x1 : Int32} {d : Dt} {rE : Int32} {dE : Dt} (hO : okW w) (h : f_M_lanternOf x1 d = some (rE, dE)) : gM w l yX12_lanternOf cX12_lanternOf 2 (Option.some Jvm.ClassFile.FieldType.int) 3 [.ref (w_r w 292), .int x1] d dE (some (.int rE)) := by
  refine gM_of (by decide) [(0, .ref (w_r w 292)), (1, .int x1)] rfl rfl ?_ hO
  intro p e R s m args below meth c C hR hr hlk
  unfold f_M_lanternOf at h
  refine g_aload_n C dX12_lanternOf_0 0 rfl ?_
  refine g_iload_n C dX12_lanternOf_1 1 rfl ?_
  refine g_iconst C dX12_lanternOf_2 (v := 1) rfl ?_
  obtain ⟨r3, d4, hc5, h⟩ := ob2_1 h
  refine g_callVi C 292 q_292 vk_M_140 hR rfl (m_M_ofBrief C.2.2.2.2.2.2.1 hc5) rfl rfl rfl dX12_lanternOf_3 rfl rfl ?_
  exact g_iret C hr hlk rfl (congrArg Prod.snd (Option.some.inj h)) (congrArg (fun z => some (Value.int z.1)) (Option.some.inj h)) dX12_lanternOf_6
set_option maxHeartbeats 4000000 in
set_option maxRecDepth 100000 in
theorem m_M_lapsedCount {w : wT} {l : Launch} {d : Dt} {rE : Int32} {dE : Dt} (hO : okW w) (h : f_M_lapsedCount  d = some (rE, dE)) : gM w l yX12_lapsedCount cX12_lapsedCount 1 (Option.some Jvm.ClassFile.FieldType.int) 0 [.ref (w_r w 292)] d dE (some (.int rE)) := by
  refine gM_of (by decide) [(0, .ref (w_r w 292))] rfl rfl ?_ hO
  intro p e R s m args below meth c C hR hr hlk
  unfold f_M_lapsedCount at h
  refine g_aload_n C dX12_lapsedCount_0 0 rfl ?_
  refine g_iconst C dX12_lapsedCount_1 (v := 0) rfl ?_
  refine g_put C 292 q_292 pk_M_39 rfl rfl dX12_lapsedCount_2 ?_
  refine g_aload_n C dX12_lapsedCount_5 0 rfl ?_
  refine g_get C (.ref (w_r w 293)) 292 q_292 fk_M_7 rfl dX12_lapsedCount_6 ?_
  refine g_bipush C dX12_lapsedCount_9 (v := 11) (by decide) ?_
  refine g_iald C 293 q_293 (by decide) 11 (by decide) dX12_lapsedCount_11 ?_
  exact g_iret C hr hlk rfl (congrArg Prod.snd (Option.some.inj h)) (congrArg (fun z => some (Value.int z.1)) (Option.some.inj h)) dX12_lapsedCount_12
set_option maxHeartbeats 4000000 in
set_option maxRecDepth 100000 in
theorem m_M_lastDay {w : wT} {l : Launch} {x1 : Int32} {d : Dt} {rE : Int32} {dE : Dt} (hO : okW w) (h : f_M_lastDay x1 d = some (rE, dE)) : gM w l yX12_lastDay cX12_lastDay 2 (Option.some Jvm.ClassFile.FieldType.int) 3 [.ref (w_r w 292), .int x1] d dE (some (.int rE)) := by
  refine gM_of (by decide) [(0, .ref (w_r w 292)), (1, .int x1)] rfl rfl ?_ hO
  intro p e R s m args below meth c C hR hr hlk
  unfold f_M_lastDay at h
  refine g_aload_n C dX12_lastDay_0 0 rfl ?_
  refine g_iload_n C dX12_lastDay_1 1 rfl ?_
  refine g_iconst C dX12_lastDay_2 (v := 2) rfl ?_
  obtain ⟨r3, d4, hc5, h⟩ := ob2_1 h
  refine g_callVi C 292 q_292 vk_M_140 hR rfl (m_M_ofBrief C.2.2.2.2.2.2.1 hc5) rfl rfl rfl dX12_lastDay_3 rfl rfl ?_
  exact g_iret C hr hlk rfl (congrArg Prod.snd (Option.some.inj h)) (congrArg (fun z => some (Value.int z.1)) (Option.some.inj h)) dX12_lastDay_6
set_option maxHeartbeats 4000000 in
set_option maxRecDepth 100000 in
theorem m_M_leastFalse {w : wT} {l : Launch} {d : Dt} {rE : Int32} {dE : Dt} (hO : okW w) (h : f_M_leastFalse  d = some (rE, dE)) : gM w l yX12_leastFalse cX12_leastFalse 1 (Option.some Jvm.ClassFile.FieldType.int) 3 [.ref (w_r w 292)] d dE (some (.int rE)) := by
  refine gM_of (by decide) [(0, .ref (w_r w 292))] rfl rfl ?_ hO
  intro p e R s m args below meth c C hR hr hlk
  unfold f_M_leastFalse at h
  refine g_aload_n C dX12_leastFalse_0 0 rfl ?_
  refine g_iconst C dX12_leastFalse_1 (v := 0) rfl ?_
  refine g_put C 292 q_292 pk_M_39 rfl rfl dX12_leastFalse_2 ?_
  refine g_aload_n C dX12_leastFalse_5 0 rfl ?_
  obtain ⟨r2, hc3, h⟩ := ob1_1 h
  refine g_callVi C 292 q_292 vk_M_160 hR rfl (m_M_fewestFalse C.2.2.2.2.2.2.1 hc3) rfl rfl rfl dX12_leastFalse_6 rfl rfl ?_
  exact g_iret C hr hlk rfl (congrArg Prod.snd (Option.some.inj h)) (congrArg (fun z => some (Value.int z.1)) (Option.some.inj h)) dX12_leastFalse_9
set_option maxHeartbeats 4000000 in
set_option maxRecDepth 100000 in
theorem m_M_leastFalseBySets {w : wT} {l : Launch} {d : Dt} {rE : Int32} {dE : Dt} (hO : okW w) (h : f_M_leastFalseBySets  d = some (rE, dE)) : gM w l yX12_leastFalseBySets cX12_leastFalseBySets 1 (Option.some Jvm.ClassFile.FieldType.int) 3 [.ref (w_r w 292)] d dE (some (.int rE)) := by
  refine gM_of (by decide) [(0, .ref (w_r w 292))] rfl rfl ?_ hO
  intro p e R s m args below meth c C hR hr hlk
  unfold f_M_leastFalseBySets at h
  refine g_aload_n C dX12_leastFalseBySets_0 0 rfl ?_
  refine g_iconst C dX12_leastFalseBySets_1 (v := 0) rfl ?_
  refine g_put C 292 q_292 pk_M_39 rfl rfl dX12_leastFalseBySets_2 ?_
  refine g_aload_n C dX12_leastFalseBySets_5 0 rfl ?_
  obtain ⟨r2, hc3, h⟩ := ob1_1 h
  refine g_callVi C 292 q_292 vk_M_160 hR rfl (m_M_fewestFalse C.2.2.2.2.2.2.1 hc3) rfl rfl rfl dX12_leastFalseBySets_6 rfl rfl ?_
  exact g_iret C hr hlk rfl (congrArg Prod.snd (Option.some.inj h)) (congrArg (fun z => some (Value.int z.1)) (Option.some.inj h)) dX12_leastFalseBySets_9
set_option maxHeartbeats 4000000 in
set_option maxRecDepth 100000 in
theorem m_M_outputChar {w : wT} {l : Launch} {x1 : Int32} {d : Dt} {rE : Int32} {dE : Dt} (hO : okW w) (h : f_M_outputChar x1 d = some (rE, dE)) : gM w l yX12_outputChar cX12_outputChar 2 (Option.some Jvm.ClassFile.FieldType.char) 1 [.ref (w_r w 292), .int x1] d dE (some (.int rE)) := by
  refine gM_of (by decide) [(0, .ref (w_r w 292)), (1, .int x1)] rfl rfl ?_ hO
  intro p e R s m args below meth c C hR hr hlk
  have R20 : ∀ (x1 : Int32) (v1 : Int32) (d : Dt), f_M_outputChar_20 x1 v1 d = some (rE, dE) → gG w p l e R s m args below meth c 2 0 0 (gE w below args s dE (some (.int rE))) d [(0, .ref (w_r w 292)), (1, .int x1)] 20 [.int v1, .ref (w_r w 292)] := by
    intro x1 v1 d  h
    unfold f_M_outputChar_20 at h
    obtain ⟨r4, d5, hc6, h⟩ := ob2_1 h
    refine g_callVi C 292 q_292 vk_M_61 hR rfl (m_M_fails C.2.2.2.2.2.2.1 hc6) rfl rfl rfl dX12_outputChar_20 rfl rfl ?_
    refine g_if_eq C dX12_outputChar_23 (tgt := 31) rfl (fun q => ?_) (fun q => ?_)
    · replace h := it_t q h
      refine g_aload_n C dX12_outputChar_31 0 rfl ?_
      refine g_get C (.ref (w_r w 298)) 292 q_292 fk_M_32 rfl dX12_outputChar_32 ?_
      refine g_iload_n C dX12_outputChar_35 1 rfl ?_
      have hg7 := gd_1 h
      replace h := gd_2 h
      refine g_cald C 298 q_298 hg7 _ rfl dX12_outputChar_36 ?_
      have hg8 := gd_1 h
      replace h := gd_2 h
      exact g_iret C hr hlk (nar_n hg8) (congrArg Prod.snd (Option.some.inj h)) (congrArg (fun z => some (Value.int z.1)) (Option.some.inj h)) dX12_outputChar_37
    · replace h := it_f q h
      refine g_bipush C dX12_outputChar_26 (v := 32) (by decide) ?_
      refine g_goto C dX12_outputChar_28 (tgt := 37) rfl ?_
      exact g_iret C hr hlk rfl (congrArg Prod.snd (Option.some.inj h)) (congrArg (fun z => some (Value.int z.1)) (Option.some.inj h)) dX12_outputChar_37
  unfold f_M_outputChar at h
  refine g_aload_n C dX12_outputChar_0 0 rfl ?_
  refine g_iload_n C dX12_outputChar_1 1 rfl ?_
  refine g_iconst C dX12_outputChar_2 (v := 0) rfl ?_
  refine g_aload_n C dX12_outputChar_3 0 rfl ?_
  refine g_get C (.int (d 292 13)) 292 q_292 fk_M_252 rfl dX12_outputChar_4 ?_
  refine g_iconst C dX12_outputChar_7 (v := 1) rfl ?_
  refine g_isub C dX12_outputChar_8  ?_
  obtain ⟨r9, hc10, h⟩ := ob1_1 h
  refine g_callSi C sk_M_53 hR rfl (m_M_in C.2.2.2.2.2.2.1 hc10) rfl rfl rfl dX12_outputChar_9 rfl rfl ?_
  refine g_if_eq C dX12_outputChar_12 (tgt := 19) rfl (fun q => ?_) (fun q => ?_)
  · replace h := it_t q h
    refine g_iconst C dX12_outputChar_19 (v := 1) rfl ?_
    exact R20 x1 1 d h
  · replace h := it_f q h
    refine g_iconst C dX12_outputChar_15 (v := 0) rfl ?_
    refine g_goto C dX12_outputChar_16 (tgt := 20) rfl ?_
    exact R20 x1 0 d h
set_option maxHeartbeats 4000000 in
set_option maxRecDepth 100000 in
theorem m_M_paidBack {w : wT} {l : Launch} {d : Dt} {rE : Int32} {dE : Dt} (hO : okW w) (h : f_M_paidBack  d = some (rE, dE)) : gM w l yX12_paidBack cX12_paidBack 1 (Option.some Jvm.ClassFile.FieldType.int) 0 [.ref (w_r w 292)] d dE (some (.int rE)) := by
  refine gM_of (by decide) [(0, .ref (w_r w 292))] rfl rfl ?_ hO
  intro p e R s m args below meth c C hR hr hlk
  unfold f_M_paidBack at h
  refine g_aload_n C dX12_paidBack_0 0 rfl ?_
  refine g_iconst C dX12_paidBack_1 (v := 0) rfl ?_
  refine g_put C 292 q_292 pk_M_39 rfl rfl dX12_paidBack_2 ?_
  refine g_aload_n C dX12_paidBack_5 0 rfl ?_
  refine g_get C (.ref (w_r w 293)) 292 q_292 fk_M_7 rfl dX12_paidBack_6 ?_
  refine g_iconst C dX12_paidBack_9 (v := 5) rfl ?_
  refine g_iald C 293 q_293 (by decide) 5 (by decide) dX12_paidBack_10 ?_
  exact g_iret C hr hlk rfl (congrArg Prod.snd (Option.some.inj h)) (congrArg (fun z => some (Value.int z.1)) (Option.some.inj h)) dX12_paidBack_11
set_option maxHeartbeats 4000000 in
set_option maxRecDepth 100000 in
theorem m_M_planFee {w : wT} {l : Launch} {d : Dt} {rE : Int32} {dE : Dt} (hO : okW w) (h : f_M_planFee  d = some (rE, dE)) : gM w l yX12_planFee cX12_planFee 1 (Option.some Jvm.ClassFile.FieldType.int) 3 [.ref (w_r w 292)] d dE (some (.int rE)) := by
  refine gM_of (by decide) [(0, .ref (w_r w 292))] rfl rfl ?_ hO
  intro p e R s m args below meth c C hR hr hlk
  unfold f_M_planFee at h
  refine g_aload_n C dX12_planFee_0 0 rfl ?_
  refine g_iconst C dX12_planFee_1 (v := 0) rfl ?_
  refine g_put C 292 q_292 pk_M_39 rfl rfl dX12_planFee_2 ?_
  refine g_aload_n C dX12_planFee_5 0 rfl ?_
  refine g_aload_n C dX12_planFee_6 0 rfl ?_
  obtain ⟨r3, hc4, h⟩ := ob1_1 h
  refine g_callVi C 292 q_292 vk_M_118 hR rfl (m_M_plan C.2.2.2.2.2.2.1 hc4) rfl rfl rfl dX12_planFee_7 rfl rfl ?_
  obtain ⟨r5, hc6, h⟩ := ob1_1 h
  refine g_callVi C 292 q_292 vk_M_143 hR rfl (m_M_feesOf C.2.2.2.2.2.2.1 hc6) rfl rfl rfl dX12_planFee_10 rfl rfl ?_
  exact g_iret C hr hlk rfl (congrArg Prod.snd (Option.some.inj h)) (congrArg (fun z => some (Value.int z.1)) (Option.some.inj h)) dX12_planFee_13
set_option maxHeartbeats 4000000 in
set_option maxRecDepth 100000 in
theorem m_M_planFeeBySets {w : wT} {l : Launch} {d : Dt} {rE : Int32} {dE : Dt} (hO : okW w) (h : f_M_planFeeBySets  d = some (rE, dE)) : gM w l yX12_planFeeBySets cX12_planFeeBySets 1 (Option.some Jvm.ClassFile.FieldType.int) 3 [.ref (w_r w 292)] d dE (some (.int rE)) := by
  refine gM_of (by decide) [(0, .ref (w_r w 292))] rfl rfl ?_ hO
  intro p e R s m args below meth c C hR hr hlk
  unfold f_M_planFeeBySets at h
  refine g_aload_n C dX12_planFeeBySets_0 0 rfl ?_
  refine g_iconst C dX12_planFeeBySets_1 (v := 0) rfl ?_
  refine g_put C 292 q_292 pk_M_39 rfl rfl dX12_planFeeBySets_2 ?_
  refine g_aload_n C dX12_planFeeBySets_5 0 rfl ?_
  refine g_aload_n C dX12_planFeeBySets_6 0 rfl ?_
  obtain ⟨r3, hc4, h⟩ := ob1_1 h
  refine g_callVi C 292 q_292 vk_M_118 hR rfl (m_M_plan C.2.2.2.2.2.2.1 hc4) rfl rfl rfl dX12_planFeeBySets_7 rfl rfl ?_
  obtain ⟨r5, hc6, h⟩ := ob1_1 h
  refine g_callVi C 292 q_292 vk_M_143 hR rfl (m_M_feesOf C.2.2.2.2.2.2.1 hc6) rfl rfl rfl dX12_planFeeBySets_10 rfl rfl ?_
  exact g_iret C hr hlk rfl (congrArg Prod.snd (Option.some.inj h)) (congrArg (fun z => some (Value.int z.1)) (Option.some.inj h)) dX12_planFeeBySets_13
set_option maxHeartbeats 4000000 in
set_option maxRecDepth 100000 in
theorem m_M_relation {w : wT} {l : Launch} {x1 x2 : Int32} {d : Dt} {rE : Int32} {dE : Dt} (hO : okW w) (h : f_M_relation x1 x2 d = some (rE, dE)) : gM w l yX12_relation cX12_relation 5 (Option.some Jvm.ClassFile.FieldType.char) 3 [.ref (w_r w 292), .int x1, .int x2] d dE (some (.int rE)) := by
  refine gM_of (by decide) [(0, .ref (w_r w 292)), (1, .int x1), (2, .int x2)] rfl rfl ?_ hO
  intro p e R s m args below meth c C hR hr hlk
  have R51 : ∀ (x1 : Int32) (x2 : Int32) (x3 : Int32) (x4 : Int32) (d : Dt), f_M_relation_51 x1 x2 x3 x4 d = some (rE, dE) → gG w p l e R s m args below meth c 5 0 0 (gE w below args s dE (some (.int rE))) d [(0, .ref (w_r w 292)), (1, .int x1), (2, .int x2), (3, .int x3), (4, .int x4)] 51 [] := by
    intro x1 x2 x3 x4 d  h
    refine iter_ind (G := fun s_ : (Int32) => gG w p l e R s m args below meth c 5 0 0 (gE w below args s dE (some (.int rE))) d [(0, .ref (w_r w 292)), (1, .int x1), (2, .int x2), (3, .int x3), (4, .int s_)] 51 []) ?_ fu _ h
    clear h
    intro x4 y1 h hl1 hx1
    show gG w p l e R s m args below meth c 5 0 0 (gE w below args s dE (some (.int rE))) d [(0, .ref (w_r w 292)), (1, .int x1), (2, .int x2), (3, .int x3), (4, .int x4)] 51 []
    unfold st_M_relation_51 at h
    refine g_iload C dX12_relation_51 4 rfl ?_
    refine g_iconst C dX12_relation_53 (v := 1) rfl ?_
    refine g_aload_n C dX12_relation_54 0 rfl ?_
    refine g_get C (.ref (w_r w 293)) 292 q_292 fk_M_7 rfl dX12_relation_55 ?_
    refine g_iconst C dX12_relation_58 (v := 0) rfl ?_
    refine g_iald C 293 q_293 (by decide) 0 (by decide) dX12_relation_59 ?_
    refine g_ishl C dX12_relation_60  ?_
    refine g_icmp_ge C dX12_relation_61 (tgt := 112) rfl (fun q => ?_) (fun q => ?_)
    · replace h := it_t q h
      replace h := ir_2 h hx1
      refine g_aload_n C dX12_relation_112 0 rfl ?_
      refine g_iconst C dX12_relation_113 (v := 2) rfl ?_
      refine g_put C 292 q_292 pk_M_39 rfl rfl dX12_relation_114 ?_
      refine g_bipush C dX12_relation_117 (v := 32) (by decide) ?_
      exact g_iret C hr hlk rfl (congrArg Prod.snd (Option.some.inj h)) (congrArg (fun z => some (Value.int z.1)) (Option.some.inj h)) dX12_relation_119
    · replace h := it_f q h
      refine g_iload C dX12_relation_64 4 rfl ?_
      refine g_iload_n C dX12_relation_66 3 rfl ?_
      refine g_iconst C dX12_relation_67 (v := (-1)) (by decide) ?_
      refine g_ixor C dX12_relation_68  ?_
      refine g_iand C dX12_relation_69  ?_
      refine g_if_ne C dX12_relation_70 (tgt := 106) rfl (fun q => ?_) (fun q => ?_)
      · replace h := it_f q h
        refine g_iinc C (lv' := [(4, .int (x4 + 1)), (0, .ref (w_r w 292)), (1, .int x1), (2, .int x2), (3, .int x3)]) (v := (x4 + 1)) dX12_relation_106 4 rfl rfl (by decide) rfl ?_
        refine g_goto C dX12_relation_109 (tgt := 51) rfl ?_
        refine g_sub [1, 2, 3, 4, 0] (lv' := [(0, .ref (w_r w 292)), (1, .int x1), (2, .int x2), (3, .int x3), (4, .int (x4 + 1))]) rfl ?_
        exact hl1 (x4 + 1) (Option.some.inj h).symm
      · replace h := it_t q h
        refine g_aload_n C dX12_relation_73 0 rfl ?_
        refine g_iload_n C dX12_relation_74 3 rfl ?_
        refine g_iload C dX12_relation_75 4 rfl ?_
        obtain ⟨r7, hc8, h⟩ := ob1_1 h
        refine g_callVi C 292 q_292 vk_M_106 hR rfl (m_M_areTrue C.2.2.2.2.2.2.1 hc8) rfl rfl rfl dX12_relation_77 rfl rfl ?_
        refine g_if_eq C dX12_relation_80 (tgt := 106) rfl (fun q => ?_) (fun q => ?_)
        · replace h := it_t q h
          refine g_iinc C (lv' := [(4, .int (x4 + 1)), (0, .ref (w_r w 292)), (1, .int x1), (2, .int x2), (3, .int x3)]) (v := (x4 + 1)) dX12_relation_106 4 rfl rfl (by decide) rfl ?_
          refine g_goto C dX12_relation_109 (tgt := 51) rfl ?_
          refine g_sub [1, 2, 3, 4, 0] (lv' := [(0, .ref (w_r w 292)), (1, .int x1), (2, .int x2), (3, .int x3), (4, .int (x4 + 1))]) rfl ?_
          exact hl1 (x4 + 1) (Option.some.inj h).symm
        · replace h := it_f q h
          replace h := ir_2 h hx1
          refine g_iload C dX12_relation_83 4 rfl ?_
          refine g_iload_n C dX12_relation_85 1 rfl ?_
          refine g_ishr C dX12_relation_86  ?_
          refine g_iconst C dX12_relation_87 (v := 1) rfl ?_
          refine g_iand C dX12_relation_88  ?_
          refine g_iload C dX12_relation_89 4 rfl ?_
          refine g_iload_n C dX12_relation_91 2 rfl ?_
          refine g_ishr C dX12_relation_92  ?_
          refine g_iconst C dX12_relation_93 (v := 1) rfl ?_
          refine g_iand C dX12_relation_94  ?_
          refine g_icmp_ne C dX12_relation_95 (tgt := 103) rfl (fun q => ?_) (fun q => ?_)
          · replace h := it_f q h
            refine g_bipush C dX12_relation_103 (v := 45) (by decide) ?_
            exact g_iret C hr hlk rfl (congrArg Prod.snd (Option.some.inj h)) (congrArg (fun z => some (Value.int z.1)) (Option.some.inj h)) dX12_relation_105
          · replace h := it_t q h
            refine g_bipush C dX12_relation_98 (v := 43) (by decide) ?_
            refine g_goto C dX12_relation_100 (tgt := 105) rfl ?_
            exact g_iret C hr hlk rfl (congrArg Prod.snd (Option.some.inj h)) (congrArg (fun z => some (Value.int z.1)) (Option.some.inj h)) dX12_relation_105
  have R22 : ∀ (x1 : Int32) (x2 : Int32) (v1 : Int32) (d : Dt), f_M_relation_22 x1 x2 v1 d = some (rE, dE) → gG w p l e R s m args below meth c 5 0 0 (gE w below args s dE (some (.int rE))) d [(0, .ref (w_r w 292)), (1, .int x1), (2, .int x2)] 22 [.int v1, .ref (w_r w 292)] := by
    intro x1 x2 v1 d  h
    unfold f_M_relation_22 at h
    obtain ⟨r9, d10, hc11, h⟩ := ob2_1 h
    refine g_callVi C 292 q_292 vk_M_61 hR rfl (m_M_fails C.2.2.2.2.2.2.1 hc11) rfl rfl rfl dX12_relation_22 rfl rfl ?_
    refine g_if_eq C dX12_relation_25 (tgt := 31) rfl (fun q => ?_) (fun q => ?_)
    · replace h := it_t q h
      refine g_aload_n C dX12_relation_31 0 rfl ?_
      refine g_iload_n C dX12_relation_32 1 rfl ?_
      obtain ⟨r12, hc13, h⟩ := ob1_1 h
      refine g_callVi C 292 q_292 vk_M_103 hR rfl (m_M_group C.2.2.2.2.2.2.1 hc13) rfl rfl rfl dX12_relation_33 rfl rfl ?_
      refine g_istore_n C (lv' := [(3, .int r12), (0, .ref (w_r w 292)), (1, .int x1), (2, .int x2)]) dX12_relation_36 (by decide) rfl ?_
      refine g_iload_n C dX12_relation_37 0 rfl ?_
      refine g_iload_n C dX12_relation_38 3 rfl ?_
      refine g_ishr C dX12_relation_39  ?_
      refine g_iconst C dX12_relation_40 (v := 1) rfl ?_
      refine g_iand C dX12_relation_41  ?_
      refine g_if_ne C dX12_relation_42 (tgt := 48) rfl (fun q => ?_) (fun q => ?_)
      · replace h := it_f q h
        refine g_iconst C dX12_relation_48 (v := 0) rfl ?_
        refine g_istore C (lv' := [(4, .int 0), (3, .int r12), (0, .ref (w_r w 292)), (1, .int x1), (2, .int x2)]) dX12_relation_49 (by decide) rfl ?_
        refine g_sub [2, 3, 4, 1, 0] (lv' := [(0, .ref (w_r w 292)), (1, .int x1), (2, .int x2), (3, .int r12), (4, .int 0)]) rfl ?_
        exact R51 x1 x2 r12 0 d10 h
      · replace h := it_t q h
        refine g_bipush C dX12_relation_45 (v := 63) (by decide) ?_
        exact g_iret C hr hlk rfl (congrArg Prod.snd (Option.some.inj h)) (congrArg (fun z => some (Value.int z.1)) (Option.some.inj h)) dX12_relation_47
    · replace h := it_f q h
      refine g_bipush C dX12_relation_28 (v := 32) (by decide) ?_
      exact g_iret C hr hlk rfl (congrArg Prod.snd (Option.some.inj h)) (congrArg (fun z => some (Value.int z.1)) (Option.some.inj h)) dX12_relation_30
  have R21 : ∀ (x1 : Int32) (x2 : Int32) (d : Dt), f_M_relation_21 x1 x2  d = some (rE, dE) → gG w p l e R s m args below meth c 5 0 0 (gE w below args s dE (some (.int rE))) d [(0, .ref (w_r w 292)), (1, .int x1), (2, .int x2)] 21 [.ref (w_r w 292)] := by
    intro x1 x2  d  h
    unfold f_M_relation_21 at h
    refine g_iconst C dX12_relation_21 (v := 1) rfl ?_
    exact R22 x1 x2 1 d h
  unfold f_M_relation at h
  refine g_aload_n C dX12_relation_0 0 rfl ?_
  refine g_aload_n C dX12_relation_1 0 rfl ?_
  refine g_iload_n C dX12_relation_2 1 rfl ?_
  obtain ⟨r14, hc15, h⟩ := ob1_1 h
  refine g_callVi C 292 q_292 vk_M_57 hR rfl (m_M_isLantern C.2.2.2.2.2.2.1 hc15) rfl rfl rfl dX12_relation_3 rfl rfl ?_
  refine g_if_eq C dX12_relation_6 (tgt := 21) rfl (fun q => ?_) (fun q => ?_)
  · replace h := it_t q h
    exact R21 x1 x2 d h
  · replace h := it_f q h
    refine g_aload_n C dX12_relation_9 0 rfl ?_
    refine g_iload_n C dX12_relation_10 2 rfl ?_
    obtain ⟨r16, hc17, h⟩ := ob1_1 h
    refine g_callVi C 292 q_292 vk_M_57 hR rfl (m_M_isLantern C.2.2.2.2.2.2.1 hc17) rfl rfl rfl dX12_relation_11 rfl rfl ?_
    refine g_if_eq C dX12_relation_14 (tgt := 21) rfl (fun q => ?_) (fun q => ?_)
    · replace h := it_t q h
      exact R21 x1 x2 d h
    · replace h := it_f q h
      refine g_iconst C dX12_relation_17 (v := 0) rfl ?_
      refine g_goto C dX12_relation_18 (tgt := 22) rfl ?_
      exact R22 x1 x2 0 d h
set_option maxHeartbeats 4000000 in
set_option maxRecDepth 100000 in
theorem m_M_copies_295_293 {w : wT} {l : Launch} {x1 x3 : Int32} {d : Dt} {dE : Dt} (hO : okW w) (h : f_M_copies_295_293 x1 x3 d = some dE) : gM w l yX12_copies cX12_copies 5 (Option.none : Option Jvm.ClassFile.FieldType) 0 [.ref (w_r w 295), .int x1, .ref (w_r w 293), .int x3] d dE none := by
  refine gM_of (by decide) [(0, .ref (w_r w 295)), (1, .int x1), (2, .ref (w_r w 293)), (3, .int x3)] rfl rfl ?_ hO
  intro p e R s m args below meth c C hR hr hlk
  have R3 : ∀ (x1 : Int32) (x3 : Int32) (x4 : Int32) (d : Dt), f_M_copies_295_293_3 x1 x3 x4 d = some dE → gG w p l e R s m args below meth c 5 0 0 (gE w below args s dE none) d [(0, .ref (w_r w 295)), (1, .int x1), (2, .ref (w_r w 293)), (3, .int x3), (4, .int x4)] 3 [] := by
    intro x1 x3 x4 d  h
    refine iter_ind (G := fun s_ : (Int32 × Dt) => gG w p l e R s m args below meth c 5 0 0 (gE w below args s dE none) s_.2 [(0, .ref (w_r w 295)), (1, .int x1), (2, .ref (w_r w 293)), (3, .int x3), (4, .int s_.1)] 3 []) ?_ fu _ h
    clear h
    intro s_ y1 h hl1 hx1
    obtain ⟨x4, d⟩ := s_
    show gG w p l e R s m args below meth c 5 0 0 (gE w below args s dE none) d [(0, .ref (w_r w 295)), (1, .int x1), (2, .ref (w_r w 293)), (3, .int x3), (4, .int x4)] 3 []
    dsimp only at h
    unfold st_M_copies_295_293_3 at h
    refine g_iload C dX12_copies_3 4 rfl ?_
    refine g_sipush C dX12_copies_5 (v := 187) (by decide) ?_
    refine g_icmp_ge C dX12_copies_8 (tgt := 29) rfl (fun q => ?_) (fun q => ?_)
    · replace h := it_t q h
      replace h := ir_2 h hx1
      exact g_vret C hr hlk (Option.some.inj h) rfl dX12_copies_29
    · replace h := it_f q h
      refine g_aload_n C dX12_copies_11 2 rfl ?_
      refine g_iload_n C dX12_copies_12 3 rfl ?_
      refine g_iload C dX12_copies_13 4 rfl ?_
      refine g_iadd C dX12_copies_15  ?_
      refine g_aload_n C dX12_copies_16 0 rfl ?_
      refine g_iload_n C dX12_copies_17 1 rfl ?_
      refine g_iload C dX12_copies_18 4 rfl ?_
      refine g_iadd C dX12_copies_20  ?_
      have hg1 := gd_1 h
      replace h := gd_2 h
      refine g_iald C 295 q_295 hg1 _ rfl dX12_copies_21 ?_
      have hg2 := gd_1 h
      replace h := gd_2 h
      refine g_iast C 293 q_293 hg2 _ rfl  dX12_copies_22 ?_
      refine g_iinc C (lv' := [(4, .int (x4 + 1)), (0, .ref (w_r w 295)), (1, .int x1), (2, .ref (w_r w 293)), (3, .int x3)]) (v := (x4 + 1)) dX12_copies_23 4 rfl rfl (by decide) rfl ?_
      refine g_goto C dX12_copies_26 (tgt := 3) rfl ?_
      refine g_sub [1, 2, 3, 4, 0] (lv' := [(0, .ref (w_r w 295)), (1, .int x1), (2, .ref (w_r w 293)), (3, .int x3), (4, .int (x4 + 1))]) rfl ?_
      exact hl1 ((x4 + 1), (wr d 293 (x3 + x4).toNatClampNeg (d 295 (x1 + x4).toNatClampNeg))) (Option.some.inj h).symm
  unfold f_M_copies_295_293 at h
  refine g_iconst C dX12_copies_0 (v := 0) rfl ?_
  refine g_istore C (lv' := [(4, .int 0), (0, .ref (w_r w 295)), (1, .int x1), (2, .ref (w_r w 293)), (3, .int x3)]) dX12_copies_1 (by decide) rfl ?_
  refine g_sub [1, 2, 3, 4, 0] (lv' := [(0, .ref (w_r w 295)), (1, .int x1), (2, .ref (w_r w 293)), (3, .int x3), (4, .int 0)]) rfl ?_
  exact R3 x1 x3 0 d h
set_option maxHeartbeats 4000000 in
set_option maxRecDepth 100000 in
theorem m_M_restore {w : wT} {l : Launch} {d : Dt} {rE : Int32} {dE : Dt} (hO : okW w) (h : f_M_restore  d = some (rE, dE)) : gM w l yX12_restore cX12_restore 1 (Option.some Jvm.ClassFile.FieldType.int) 1 [.ref (w_r w 292)] d dE (some (.int rE)) := by
  refine gM_of (by decide) [(0, .ref (w_r w 292))] rfl rfl ?_ hO
  intro p e R s m args below meth c C hR hr hlk
  have R13 : ∀ (v1 : Int32) (d : Dt), f_M_restore_13  v1 d = some (rE, dE) → gG w p l e R s m args below meth c 1 0 0 (gE w below args s dE (some (.int rE))) d [(0, .ref (w_r w 292))] 13 [.int v1, .ref (w_r w 292)] := by
    intro  v1 d  h
    unfold f_M_restore_13 at h
    obtain ⟨r4, d5, hc6, h⟩ := ob2_1 h
    refine g_callVi C 292 q_292 vk_M_61 hR rfl (m_M_fails C.2.2.2.2.2.2.1 hc6) rfl rfl rfl dX12_restore_13 rfl rfl ?_
    refine g_if_eq C dX12_restore_16 (tgt := 21) rfl (fun q => ?_) (fun q => ?_)
    · replace h := it_t q h
      refine g_aload_n C dX12_restore_21 0 rfl ?_
      refine g_get C (.ref (w_r w 295)) 292 q_292 fk_M_16 rfl dX12_restore_22 ?_
      refine g_iconst C dX12_restore_25 (v := 0) rfl ?_
      refine g_aload_n C dX12_restore_26 0 rfl ?_
      refine g_get C (.ref (w_r w 293)) 292 q_292 fk_M_7 rfl dX12_restore_27 ?_
      refine g_iconst C dX12_restore_30 (v := 0) rfl ?_
      obtain ⟨d7, hc8, h⟩ := ob1_1 h
      refine g_callSv C sk_M_49 hR rfl (m_M_copies_295_293 C.2.2.2.2.2.2.1 hc8) rfl rfl rfl dX12_restore_31 rfl rfl ?_
      refine g_aload_n C dX12_restore_34 0 rfl ?_
      refine g_iconst C dX12_restore_35 (v := 0) rfl ?_
      refine g_put C 292 q_292 pk_M_46 rfl rfl dX12_restore_36 ?_
      refine g_aload_n C dX12_restore_39 0 rfl ?_
      refine g_get C (.ref (w_r w 293)) 292 q_292 fk_M_7 rfl dX12_restore_40 ?_
      refine g_iconst C dX12_restore_43 (v := 0) rfl ?_
      refine g_iald C 293 q_293 (by decide) 0 (by decide) dX12_restore_44 ?_
      exact g_iret C hr hlk rfl (congrArg Prod.snd (Option.some.inj h)) (congrArg (fun z => some (Value.int z.1)) (Option.some.inj h)) dX12_restore_45
    · replace h := it_f q h
      refine g_iconst C dX12_restore_19 (v := 0) rfl ?_
      exact g_iret C hr hlk rfl (congrArg Prod.snd (Option.some.inj h)) (congrArg (fun z => some (Value.int z.1)) (Option.some.inj h)) dX12_restore_20
  unfold f_M_restore at h
  refine g_aload_n C dX12_restore_0 0 rfl ?_
  refine g_aload_n C dX12_restore_1 0 rfl ?_
  refine g_get C (.int (d 292 4)) 292 q_292 fk_M_264 rfl dX12_restore_2 ?_
  refine g_if_eq C dX12_restore_5 (tgt := 12) rfl (fun q => ?_) (fun q => ?_)
  · replace h := it_t q h
    refine g_iconst C dX12_restore_12 (v := 1) rfl ?_
    exact R13 1 d h
  · replace h := it_f q h
    refine g_iconst C dX12_restore_8 (v := 0) rfl ?_
    refine g_goto C dX12_restore_9 (tgt := 13) rfl ?_
    exact R13 0 d h
set_option maxHeartbeats 4000000 in
set_option maxRecDepth 100000 in
theorem m_M_retract {w : wT} {l : Launch} {x1 : Int32} {d : Dt} {rE : Int32} {dE : Dt} (hO : okW w) (h : f_M_retract x1 d = some (rE, dE)) : gM w l yX12_retract cX12_retract 3 (Option.some Jvm.ClassFile.FieldType.boolean) 2 [.ref (w_r w 292), .int x1] d dE (some (.int rE)) := by
  refine gM_of (by decide) [(0, .ref (w_r w 292)), (1, .int x1)] rfl rfl ?_ hO
  intro p e R s m args below meth c C hR hr hlk
  have R27 : ∀ (x1 : Int32) (v1 : Int32) (d : Dt), f_M_retract_27 x1 v1 d = some (rE, dE) → gG w p l e R s m args below meth c 3 0 0 (gE w below args s dE (some (.int rE))) d [(0, .ref (w_r w 292)), (1, .int x1)] 27 [.int v1, .ref (w_r w 292)] := by
    intro x1 v1 d  h
    unfold f_M_retract_27 at h
    obtain ⟨r8, d9, hc10, h⟩ := ob2_1 h
    refine g_callVi C 292 q_292 vk_M_61 hR rfl (m_M_fails C.2.2.2.2.2.2.1 hc10) rfl rfl rfl dX12_retract_27 rfl rfl ?_
    refine g_if_eq C dX12_retract_30 (tgt := 35) rfl (fun q => ?_) (fun q => ?_)
    · replace h := it_t q h
      refine g_aload_n C dX12_retract_35 0 rfl ?_
      refine g_iload_n C dX12_retract_36 1 rfl ?_
      refine g_iconst C dX12_retract_37 (v := 1) rfl ?_
      obtain ⟨r11, hc12, h⟩ := ob1_1 h
      refine g_callVi C 292 q_292 vk_M_87 hR rfl (m_M_of C.2.2.2.2.2.2.1 hc12) rfl rfl rfl dX12_retract_38 rfl rfl ?_
      refine g_istore_n C (lv' := [(2, .int r11), (0, .ref (w_r w 292)), (1, .int x1)]) dX12_retract_41 (by decide) rfl ?_
      refine g_aload_n C dX12_retract_42 1 rfl ?_
      refine g_aload_n C dX12_retract_43 1 rfl ?_
      refine g_get C (.ref (w_r w 293)) 292 q_292 fk_M_7 rfl dX12_retract_44 ?_
      obtain ⟨d13, hc14, h⟩ := ob1_1 h
      refine g_callVv C 292 q_292 vk_M_64 hR rfl (m_M_keeps C.2.2.2.2.2.2.1 hc14) rfl rfl rfl dX12_retract_47 rfl rfl ?_
      refine g_aload_n C dX12_retract_50 1 rfl ?_
      refine g_iload_n C dX12_retract_51 2 rfl ?_
      refine g_iconst C dX12_retract_52 (v := 1) rfl ?_
      refine g_iconst C dX12_retract_53 (v := 0) rfl ?_
      obtain ⟨d15, hc16, h⟩ := ob1_1 h
      refine g_callVv C 292 q_292 vk_M_68 hR rfl (m_M_lays C.2.2.2.2.2.2.1 hc16) rfl rfl rfl dX12_retract_54 rfl rfl ?_
      refine g_iload_n C dX12_retract_57 0 rfl ?_
      refine g_iconst C dX12_retract_58 (v := 1) rfl ?_
      refine g_icmp_ne C dX12_retract_59 (tgt := 66) rfl (fun q => ?_) (fun q => ?_)
      · replace h := it_f q h
        refine g_iconst C dX12_retract_66 (v := 0) rfl ?_
        exact g_iret C hr hlk rfl (congrArg Prod.snd (Option.some.inj h)) (congrArg (fun z => some (Value.int z.1)) (Option.some.inj h)) dX12_retract_67
      · replace h := it_t q h
        refine g_iconst C dX12_retract_62 (v := 1) rfl ?_
        refine g_goto C dX12_retract_63 (tgt := 67) rfl ?_
        exact g_iret C hr hlk rfl (congrArg Prod.snd (Option.some.inj h)) (congrArg (fun z => some (Value.int z.1)) (Option.some.inj h)) dX12_retract_67
    · replace h := it_f q h
      refine g_iconst C dX12_retract_33 (v := 0) rfl ?_
      exact g_iret C hr hlk rfl (congrArg Prod.snd (Option.some.inj h)) (congrArg (fun z => some (Value.int z.1)) (Option.some.inj h)) dX12_retract_34
  unfold f_M_retract at h
  refine g_aload_n C dX12_retract_0 0 rfl ?_
  refine g_aload_n C dX12_retract_1 0 rfl ?_
  refine g_iload_n C dX12_retract_2 1 rfl ?_
  obtain ⟨r17, hc18, h⟩ := ob1_1 h
  refine g_callVi C 292 q_292 vk_M_57 hR rfl (m_M_isLantern C.2.2.2.2.2.2.1 hc18) rfl rfl rfl dX12_retract_3 rfl rfl ?_
  refine g_if_ne C dX12_retract_6 (tgt := 13) rfl (fun q => ?_) (fun q => ?_)
  · replace h := it_f q h
    refine g_aload_n C dX12_retract_13 0 rfl ?_
    refine g_iload_n C dX12_retract_14 1 rfl ?_
    refine g_iconst C dX12_retract_15 (v := 1) rfl ?_
    obtain ⟨r19, hc20, h⟩ := ob1_1 h
    refine g_callVi C 292 q_292 vk_M_87 hR rfl (m_M_of C.2.2.2.2.2.2.1 hc20) rfl rfl rfl dX12_retract_16 rfl rfl ?_
    refine g_if_ne C dX12_retract_19 (tgt := 26) rfl (fun q => ?_) (fun q => ?_)
    · replace h := it_f q h
      refine g_iconst C dX12_retract_26 (v := 0) rfl ?_
      exact R27 x1 0 d h
    · replace h := it_t q h
      refine g_iconst C dX12_retract_22 (v := 2) rfl ?_
      refine g_goto C dX12_retract_23 (tgt := 27) rfl ?_
      exact R27 x1 2 d h
  · replace h := it_t q h
    refine g_iconst C dX12_retract_9 (v := 1) rfl ?_
    refine g_goto C dX12_retract_10 (tgt := 27) rfl ?_
    exact R27 x1 1 d h
set_option maxHeartbeats 4000000 in
set_option maxRecDepth 100000 in
theorem m_M_copies_296_294 {w : wT} {l : Launch} {x1 x3 : Int32} {d : Dt} {dE : Dt} (hO : okW w) (h : f_M_copies_296_294 x1 x3 d = some dE) : gM w l yX12_copies cX12_copies 5 (Option.none : Option Jvm.ClassFile.FieldType) 0 [.ref (w_r w 296), .int x1, .ref (w_r w 294), .int x3] d dE none := by
  refine gM_of (by decide) [(0, .ref (w_r w 296)), (1, .int x1), (2, .ref (w_r w 294)), (3, .int x3)] rfl rfl ?_ hO
  intro p e R s m args below meth c C hR hr hlk
  have R3 : ∀ (x1 : Int32) (x3 : Int32) (x4 : Int32) (d : Dt), f_M_copies_296_294_3 x1 x3 x4 d = some dE → gG w p l e R s m args below meth c 5 0 0 (gE w below args s dE none) d [(0, .ref (w_r w 296)), (1, .int x1), (2, .ref (w_r w 294)), (3, .int x3), (4, .int x4)] 3 [] := by
    intro x1 x3 x4 d  h
    refine iter_ind (G := fun s_ : (Int32 × Dt) => gG w p l e R s m args below meth c 5 0 0 (gE w below args s dE none) s_.2 [(0, .ref (w_r w 296)), (1, .int x1), (2, .ref (w_r w 294)), (3, .int x3), (4, .int s_.1)] 3 []) ?_ fu _ h
    clear h
    intro s_ y1 h hl1 hx1
    obtain ⟨x4, d⟩ := s_
    show gG w p l e R s m args below meth c 5 0 0 (gE w below args s dE none) d [(0, .ref (w_r w 296)), (1, .int x1), (2, .ref (w_r w 294)), (3, .int x3), (4, .int x4)] 3 []
    dsimp only at h
    unfold st_M_copies_296_294_3 at h
    refine g_iload C dX12_copies_3 4 rfl ?_
    refine g_sipush C dX12_copies_5 (v := 187) (by decide) ?_
    refine g_icmp_ge C dX12_copies_8 (tgt := 29) rfl (fun q => ?_) (fun q => ?_)
    · replace h := it_t q h
      replace h := ir_2 h hx1
      exact g_vret C hr hlk (Option.some.inj h) rfl dX12_copies_29
    · replace h := it_f q h
      refine g_aload_n C dX12_copies_11 2 rfl ?_
      refine g_iload_n C dX12_copies_12 3 rfl ?_
      refine g_iload C dX12_copies_13 4 rfl ?_
      refine g_iadd C dX12_copies_15  ?_
      refine g_aload_n C dX12_copies_16 0 rfl ?_
      refine g_iload_n C dX12_copies_17 1 rfl ?_
      refine g_iload C dX12_copies_18 4 rfl ?_
      refine g_iadd C dX12_copies_20  ?_
      have hg1 := gd_1 h
      replace h := gd_2 h
      refine g_iald C 296 q_296 hg1 _ rfl dX12_copies_21 ?_
      have hg2 := gd_1 h
      replace h := gd_2 h
      refine g_iast C 294 q_294 hg2 _ rfl  dX12_copies_22 ?_
      refine g_iinc C (lv' := [(4, .int (x4 + 1)), (0, .ref (w_r w 296)), (1, .int x1), (2, .ref (w_r w 294)), (3, .int x3)]) (v := (x4 + 1)) dX12_copies_23 4 rfl rfl (by decide) rfl ?_
      refine g_goto C dX12_copies_26 (tgt := 3) rfl ?_
      refine g_sub [1, 2, 3, 4, 0] (lv' := [(0, .ref (w_r w 296)), (1, .int x1), (2, .ref (w_r w 294)), (3, .int x3), (4, .int (x4 + 1))]) rfl ?_
      exact hl1 ((x4 + 1), (wr d 294 (x3 + x4).toNatClampNeg (d 296 (x1 + x4).toNatClampNeg))) (Option.some.inj h).symm
  unfold f_M_copies_296_294 at h
  refine g_iconst C dX12_copies_0 (v := 0) rfl ?_
  refine g_istore C (lv' := [(4, .int 0), (0, .ref (w_r w 296)), (1, .int x1), (2, .ref (w_r w 294)), (3, .int x3)]) dX12_copies_1 (by decide) rfl ?_
  refine g_sub [1, 2, 3, 4, 0] (lv' := [(0, .ref (w_r w 296)), (1, .int x1), (2, .ref (w_r w 294)), (3, .int x3), (4, .int 0)]) rfl ?_
  exact R3 x1 x3 0 d h
