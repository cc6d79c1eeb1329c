/-! 08: walks -/
set_option maxHeartbeats 4000000 in
set_option maxRecDepth 100000 in
theorem m_M_lays {w : wT} {l : Launch} {x1 x2 x3 : Int32} {d : Dt} {dE : Dt} (hO : okW w) (h : f_M_lays x1 x2 x3 d = some dE) : gM w l yX12_lays cX12_lays 4 (Option.none : Option Jvm.ClassFile.FieldType) 0 [.ref (w_r w 292), .int x1, .int x2, .int x3] d dE none := by
  refine gM_of (by decide) [(0, .ref (w_r w 292)), (1, .int x1), (2, .int x2), (3, .int x3)] rfl rfl ?_ hO
  intro p e R s m args below meth c C hR hr hlk
  unfold f_M_lays at h
  refine g_aload_n C dX12_lays_0 0 rfl ?_
  refine g_get C (.ref (w_r w 293)) 292 q_292 fk_M_7 rfl dX12_lays_1 ?_
  refine g_bipush C dX12_lays_4 (v := 13) (by decide) ?_
  refine g_bipush C dX12_lays_6 (v := 11) (by decide) ?_
  refine g_iload_n C dX12_lays_8 1 rfl ?_
  refine g_imul C dX12_lays_9  ?_
  refine g_iadd C dX12_lays_10  ?_
  refine g_iload_n C dX12_lays_11 2 rfl ?_
  refine g_iadd C dX12_lays_12  ?_
  refine g_iload_n C dX12_lays_13 3 rfl ?_
  have hg2 := gd_1 h
  replace h := gd_2 h
  refine g_iast C 293 q_293 hg2 _ rfl  dX12_lays_14 ?_
  obtain ⟨d3, hd3, h⟩ := bnd_1 h
  refine g_nmD hd3 ?_
  exact g_vret C hr hlk (Option.some.inj h) rfl dX12_lays_15
set_option maxHeartbeats 4000000 in
set_option maxRecDepth 100000 in
theorem m_M_fails {w : wT} {l : Launch} {x1 : Int32} {d : Dt} {rE : Int32} {dE : Dt} (hO : okW w) (h : f_M_fails x1 d = some (rE, dE)) : gM w l yX12_fails cX12_fails 2 (Option.some Jvm.ClassFile.FieldType.boolean) 0 [.ref (w_r w 292), .int x1] d dE (some (.int rE)) := by
  refine gM_of (by decide) [(0, .ref (w_r w 292)), (1, .int x1)] rfl rfl ?_ hO
  intro p e R s m args below meth c C hR hr hlk
  unfold f_M_fails at h
  refine g_aload_n C dX12_fails_0 0 rfl ?_
  refine g_iload_n C dX12_fails_1 1 rfl ?_
  refine g_put C 292 q_292 pk_M_39 rfl rfl dX12_fails_2 ?_
  obtain ⟨d2, hd2, h⟩ := bnd_1 h
  refine g_nmD hd2 ?_
  refine g_iload_n C dX12_fails_5 1 rfl ?_
  refine g_if_le C dX12_fails_6 (tgt := 13) rfl (fun q => ?_) (fun q => ?_)
  · replace h := it_t q h
    refine g_iconst C dX12_fails_13 (v := 0) rfl ?_
    exact g_iret C hr hlk rfl (congrArg Prod.snd (Option.some.inj h)) (congrArg (fun z => some (Value.int z.1)) (Option.some.inj h)) dX12_fails_14
  · replace h := it_f q h
    refine g_iconst C dX12_fails_9 (v := 1) rfl ?_
    refine g_goto C dX12_fails_10 (tgt := 14) rfl ?_
    exact g_iret C hr hlk rfl (congrArg Prod.snd (Option.some.inj h)) (congrArg (fun z => some (Value.int z.1)) (Option.some.inj h)) dX12_fails_14
set_option maxHeartbeats 4000000 in
set_option maxRecDepth 100000 in
theorem m_M_copies {w : wT} {l : Launch} {x1 x3 : Int32} {d : Dt} {dE : Dt} (hO : okW w) (h : f_M_copies x1 x3 d = some dE) : gM w l yX12_copies cX12_copies 5 (Option.none : Option Jvm.ClassFile.FieldType) 0 [.ref (w_r w 293), .int x1, .ref (w_r w 294), .int x3] d dE none := by
  refine gM_of (by decide) [(0, .ref (w_r w 293)), (1, .int x1), (2, .ref (w_r w 294)), (3, .int x3)] rfl rfl ?_ hO
  intro p e R s m args below meth c C hR hr hlk
  have R3 : ∀ (x1 : Int32) (x3 : Int32) (x4 : Int32) (d : Dt), f_M_copies_3 x1 x3 x4 d = some dE → gG w p l e R s m args below meth c 5 0 0 (gE w below args s dE none) d [(0, .ref (w_r w 293)), (1, .int x1), (2, .ref (w_r w 294)), (3, .int x3), (4, .int x4)] 3 [] := by
    intro x1 x3 x4 d  h
    refine iter_ind (G := fun s_ : (Int32 × Dt) => gG w p l e R s m args below meth c 5 0 0 (gE w below args s dE none) s_.2 [(0, .ref (w_r w 293)), (1, .int x1), (2, .ref (w_r w 294)), (3, .int x3), (4, .int s_.1)] 3 []) ?_ fu _ h
    clear h
    intro s_ y1 h hl1 hx1
    obtain ⟨x4, d⟩ := s_
    show gG w p l e R s m args below meth c 5 0 0 (gE w below args s dE none) d [(0, .ref (w_r w 293)), (1, .int x1), (2, .ref (w_r w 294)), (3, .int x3), (4, .int x4)] 3 []
    dsimp only at h
    unfold st_M_copies_3 at h
    refine g_iload C dX12_copies_3 4 rfl ?_
    refine g_sipush C dX12_copies_5 (v := 187) (by decide) ?_
    refine g_icmp_ge C dX12_copies_8 (tgt := 29) rfl (fun q => ?_) (fun q => ?_)
    · replace h := it_t q h
      replace h := ir_2 h hx1
      exact g_vret C hr hlk (Option.some.inj h) rfl dX12_copies_29
    · replace h := it_f q h
      refine g_aload_n C dX12_copies_11 2 rfl ?_
      refine g_iload_n C dX12_copies_12 3 rfl ?_
      refine g_iload C dX12_copies_13 4 rfl ?_
      refine g_iadd C dX12_copies_15  ?_
      refine g_aload_n C dX12_copies_16 0 rfl ?_
      refine g_iload_n C dX12_copies_17 1 rfl ?_
      refine g_iload C dX12_copies_18 4 rfl ?_
      refine g_iadd C dX12_copies_20  ?_
      have hg2 := gd_1 h
      replace h := gd_2 h
      refine g_iald C 293 q_293 hg2 _ rfl dX12_copies_21 ?_
      have hg3 := gd_1 h
      replace h := gd_2 h
      refine g_iast C 294 q_294 hg3 _ rfl  dX12_copies_22 ?_
      obtain ⟨d4, hd4, h⟩ := bnd_1 h
      refine g_nmD hd4 ?_
      refine g_iinc C (lv' := [(4, .int (x4 + 1)), (0, .ref (w_r w 293)), (1, .int x1), (2, .ref (w_r w 294)), (3, .int x3)]) (v := (x4 + 1)) dX12_copies_23 4 rfl rfl (by decide) rfl ?_
      refine g_goto C dX12_copies_26 (tgt := 3) rfl ?_
      refine g_sub [1, 2, 3, 4, 0] (lv' := [(0, .ref (w_r w 293)), (1, .int x1), (2, .ref (w_r w 294)), (3, .int x3), (4, .int (x4 + 1))]) rfl ?_
      exact hl1 ((x4 + 1), d4) (Option.some.inj h).symm
  unfold f_M_copies at h
  refine g_iconst C dX12_copies_0 (v := 0) rfl ?_
  refine g_istore C (lv' := [(4, .int 0), (0, .ref (w_r w 293)), (1, .int x1), (2, .ref (w_r w 294)), (3, .int x3)]) dX12_copies_1 (by decide) rfl ?_
  refine g_sub [1, 2, 3, 4, 0] (lv' := [(0, .ref (w_r w 293)), (1, .int x1), (2, .ref (w_r w 294)), (3, .int x3), (4, .int 0)]) rfl ?_
  exact R3 x1 x3 0 d h
set_option maxHeartbeats 4000000 in
set_option maxRecDepth 100000 in
theorem m_M_keeps {w : wT} {l : Launch} {d : Dt} {dE : Dt} (hO : okW w) (h : f_M_keeps  d = some dE) : gM w l yX12_keeps cX12_keeps 3 (Option.none : Option Jvm.ClassFile.FieldType) 1 [.ref (w_r w 292), .ref (w_r w 293)] d dE none := by
  refine gM_of (by decide) [(0, .ref (w_r w 292)), (1, .ref (w_r w 293))] rfl rfl ?_ hO
  intro p e R s m args below meth c C hR hr hlk
  have R63 : ∀ (d : Dt), f_M_keeps_63   d = some dE → gG w p l e R s m args below meth c 3 0 0 (gE w below args s dE none) d [(0, .ref (w_r w 292)), (1, .ref (w_r w 293))] 63 [] := by
    intro   d  h
    unfold f_M_keeps_63 at h
    refine g_aload_n C dX12_keeps_63 1 rfl ?_
    refine g_iconst C dX12_keeps_64 (v := 0) rfl ?_
    refine g_aload_n C dX12_keeps_65 0 rfl ?_
    refine g_get C (.ref (w_r w 294)) 292 q_292 fk_M_13 rfl dX12_keeps_66 ?_
    refine g_sipush C dX12_keeps_69 (v := 187) (by decide) ?_
    refine g_aload_n C dX12_keeps_72 0 rfl ?_
    refine g_get C (.int (d 292 5)) 292 q_292 fk_M_46 rfl dX12_keeps_73 ?_
    refine g_imul C dX12_keeps_76  ?_
    obtain ⟨d6, hc7, h⟩ := ob1_1 h
    refine g_callSv C sk_M_49 hR rfl (m_M_copies C.2.2.2.2.2.2.1 hc7) rfl rfl rfl dX12_keeps_77 rfl rfl ?_
    refine g_aload_n C dX12_keeps_80 0 rfl ?_
    refine g_dup C dX12_keeps_81 rfl ?_
    refine g_get C (.int (d6 292 5)) 292 q_292 fk_M_46 rfl dX12_keeps_82 ?_
    refine g_iconst C dX12_keeps_85 (v := 1) rfl ?_
    refine g_iadd C dX12_keeps_86  ?_
    refine g_put C 292 q_292 pk_M_46 rfl rfl dX12_keeps_87 ?_
    obtain ⟨d8, hd8, h⟩ := bnd_1 h
    refine g_nmD hd8 ?_
    exact g_vret C hr hlk (Option.some.inj h) rfl dX12_keeps_90
  have R24 : ∀ (x2 : Int32) (d : Dt), f_M_keeps_24 x2 d = some dE → gG w p l e R s m args below meth c 3 0 0 (gE w below args s dE none) d [(0, .ref (w_r w 292)), (1, .ref (w_r w 293)), (2, .int x2)] 24 [] := by
    intro x2 d  h
    refine iter_ind (G := fun s_ : (Int32 × Dt) => gG w p l e R s m args below meth c 3 0 0 (gE w below args s dE none) s_.2 [(0, .ref (w_r w 292)), (1, .ref (w_r w 293)), (2, .int s_.1)] 24 []) ?_ fu _ h
    clear h
    intro s_ y1 h hl1 hx1
    obtain ⟨x2, d⟩ := s_
    show gG w p l e R s m args below meth c 3 0 0 (gE w below args s dE none) d [(0, .ref (w_r w 292)), (1, .ref (w_r w 293)), (2, .int x2)] 24 []
    dsimp only at h
    unfold st_M_keeps_24 at h
    refine g_iload_n C dX12_keeps_24 2 rfl ?_
    refine g_sipush C dX12_keeps_25 (v := 1309) (by decide) ?_
    refine g_icmp_ge C dX12_keeps_28 (tgt := 53) rfl (fun q => ?_) (fun q => ?_)
    · replace h := it_t q h
      replace h := ir_2 h hx1
      refine g_aload_n C dX12_keeps_53 0 rfl ?_
      refine g_dup C dX12_keeps_54 rfl ?_
      refine g_get C (.int (d 292 5)) 292 q_292 fk_M_46 rfl dX12_keeps_55 ?_
      refine g_iconst C dX12_keeps_58 (v := 1) rfl ?_
      refine g_isub C dX12_keeps_59  ?_
      refine g_put C 292 q_292 pk_M_46 rfl rfl dX12_keeps_60 ?_
      obtain ⟨d9, hd9, h⟩ := bnd_1 h
      refine g_nmD hd9 ?_
      refine g_sub [0, 1] (lv' := [(0, .ref (w_r w 292)), (1, .ref (w_r w 293))]) rfl ?_
      exact R63 d9 h
    · replace h := it_f q h
      refine g_aload_n C dX12_keeps_31 0 rfl ?_
      refine g_get C (.ref (w_r w 294)) 292 q_292 fk_M_13 rfl dX12_keeps_32 ?_
      refine g_iload_n C dX12_keeps_35 2 rfl ?_
      refine g_aload_n C dX12_keeps_36 0 rfl ?_
      refine g_get C (.ref (w_r w 294)) 292 q_292 fk_M_13 rfl dX12_keeps_37 ?_
      refine g_iload_n C dX12_keeps_40 2 rfl ?_
      refine g_sipush C dX12_keeps_41 (v := 187) (by decide) ?_
      refine g_iadd C dX12_keeps_44  ?_
      have hg10 := gd_1 h
      replace h := gd_2 h
      refine g_iald C 294 q_294 hg10 _ rfl dX12_keeps_45 ?_
      have hg11 := gd_1 h
      replace h := gd_2 h
      refine g_iast C 294 q_294 hg11 _ rfl  dX12_keeps_46 ?_
      obtain ⟨d12, hd12, h⟩ := bnd_1 h
      refine g_nmD hd12 ?_
      refine g_iinc C (lv' := [(2, .int (x2 + 1)), (0, .ref (w_r w 292)), (1, .ref (w_r w 293))]) (v := (x2 + 1)) dX12_keeps_47 2 rfl rfl (by decide) rfl ?_
      refine g_goto C dX12_keeps_50 (tgt := 24) rfl ?_
      refine g_sub [1, 2, 0] (lv' := [(0, .ref (w_r w 292)), (1, .ref (w_r w 293)), (2, .int (x2 + 1))]) rfl ?_
      exact hl1 ((x2 + 1), d12) (Option.some.inj h).symm
  unfold f_M_keeps at h
  refine g_aload_n C dX12_keeps_0 0 rfl ?_
  refine g_iconst C dX12_keeps_1 (v := 0) rfl ?_
  refine g_put C 292 q_292 pk_M_39 rfl rfl dX12_keeps_2 ?_
  obtain ⟨d13, hd13, h⟩ := bnd_1 h
  refine g_nmD hd13 ?_
  refine g_aload_n C dX12_keeps_5 0 rfl ?_
  refine g_get C (.int (d13 292 6)) 292 q_292 fk_M_42 rfl dX12_keeps_6 ?_
  refine g_if_eq C dX12_keeps_9 (tgt := 13) rfl (fun q => ?_) (fun q => ?_)
  · replace h := it_t q h
    refine g_aload_n C dX12_keeps_13 0 rfl ?_
    refine g_get C (.int (d13 292 5)) 292 q_292 fk_M_46 rfl dX12_keeps_14 ?_
    refine g_bipush C dX12_keeps_17 (v := 8) (by decide) ?_
    refine g_icmp_ne C dX12_keeps_19 (tgt := 63) rfl (fun q => ?_) (fun q => ?_)
    · replace h := it_f q h
      exact R63 d13 h
    · replace h := it_t q h
      refine g_iconst C dX12_keeps_22 (v := 0) rfl ?_
      refine g_istore_n C (lv' := [(2, .int 0), (0, .ref (w_r w 292)), (1, .ref (w_r w 293))]) dX12_keeps_23 (by decide) rfl ?_
      refine g_sub [1, 2, 0] (lv' := [(0, .ref (w_r w 292)), (1, .ref (w_r w 293)), (2, .int 0)]) rfl ?_
      exact R24 0 d13 h
  · replace h := it_f q h
    exact g_vret C hr hlk (Option.some.inj h) rfl dX12_keeps_12
set_option maxHeartbeats 4000000 in
set_option maxRecDepth 100000 in
theorem m_M_addLantern {w : wT} {l : Launch} {d : Dt} {rE : Int32} {dE : Dt} (hO : okW w) (h : f_M_addLantern  d = some (rE, dE)) : gM w l yX12_addLantern cX12_addLantern 3 (Option.some Jvm.ClassFile.FieldType.int) 2 [.ref (w_r w 292)] d dE (some (.int rE)) := by
  refine gM_of (by decide) [(0, .ref (w_r w 292))] rfl rfl ?_ hO
  intro p e R s m args below meth c C hR hr hlk
  have R52 : ∀ (x1 : Int32) (x2 : Int32) (d : Dt), f_M_addLantern_52 x1 x2 d = some (rE, dE) → gG w p l e R s m args below meth c 3 0 0 (gE w below args s dE (some (.int rE))) d [(0, .ref (w_r w 292)), (1, .int x1), (2, .int x2)] 52 [] := by
    intro x1 x2 d  h
    refine iter_ind (G := fun s_ : (Int32 × Dt) => gG w p l e R s m args below meth c 3 0 0 (gE w below args s dE (some (.int rE))) s_.2 [(0, .ref (w_r w 292)), (1, .int x1), (2, .int s_.1)] 52 []) ?_ fu _ h
    clear h
    intro s_ y1 h hl1 hx1
    obtain ⟨x2, d⟩ := s_
    show gG w p l e R s m args below meth c 3 0 0 (gE w below args s dE (some (.int rE))) d [(0, .ref (w_r w 292)), (1, .int x1), (2, .int x2)] 52 []
    dsimp only at h
    unfold st_M_addLantern_52 at h
    refine g_iload_n C dX12_addLantern_52 2 rfl ?_
    refine g_bipush C dX12_addLantern_53 (v := 11) (by decide) ?_
    refine g_icmp_ge C dX12_addLantern_55 (tgt := 71) rfl (fun q => ?_) (fun q => ?_)
    · replace h := it_t q h
      replace h := ir_2 h hx1
      refine g_aload_n C dX12_addLantern_71 0 rfl ?_
      refine g_iload_n C dX12_addLantern_72 1 rfl ?_
      refine g_iconst C dX12_addLantern_73 (v := 0) rfl ?_
      refine g_bipush C dX12_addLantern_74 (v := 9) (by decide) ?_
      obtain ⟨d7, hc8, h⟩ := ob1_1 h
      refine g_callVv C 292 q_292 vk_M_68 hR rfl (m_M_lays C.2.2.2.2.2.2.1 hc8) rfl rfl rfl dX12_addLantern_76 rfl rfl ?_
      refine g_iload_n C dX12_addLantern_79 1 rfl ?_
      exact g_iret C hr hlk rfl (congrArg Prod.snd (Option.some.inj h)) (congrArg (fun z => some (Value.int z.1)) (Option.some.inj h)) dX12_addLantern_80
    · replace h := it_f q h
      refine g_aload_n C dX12_addLantern_58 0 rfl ?_
      refine g_iload_n C dX12_addLantern_59 1 rfl ?_
      refine g_iload_n C dX12_addLantern_60 2 rfl ?_
      refine g_iconst C dX12_addLantern_61 (v := 0) rfl ?_
      obtain ⟨d9, hc10, h⟩ := ob1_1 h
      refine g_callVv C 292 q_292 vk_M_68 hR rfl (m_M_lays C.2.2.2.2.2.2.1 hc10) rfl rfl rfl dX12_addLantern_62 rfl rfl ?_
      refine g_iinc C (lv' := [(2, .int (x2 + 1)), (0, .ref (w_r w 292)), (1, .int x1)]) (v := (x2 + 1)) dX12_addLantern_65 2 rfl rfl (by decide) rfl ?_
      refine g_goto C dX12_addLantern_68 (tgt := 52) rfl ?_
      refine g_sub [1, 2, 0] (lv' := [(0, .ref (w_r w 292)), (1, .int x1), (2, .int (x2 + 1))]) rfl ?_
      exact hl1 ((x2 + 1), d9) (Option.some.inj h).symm
  have R17 : ∀ (v1 : Int32) (d : Dt), f_M_addLantern_17  v1 d = some (rE, dE) → gG w p l e R s m args below meth c 3 0 0 (gE w below args s dE (some (.int rE))) d [(0, .ref (w_r w 292))] 17 [.int v1, .ref (w_r w 292)] := by
    intro  v1 d  h
    unfold f_M_addLantern_17 at h
    obtain ⟨r11, d12, hc13, h⟩ := ob2_1 h
    refine g_callVi C 292 q_292 vk_M_61 hR rfl (m_M_fails C.2.2.2.2.2.2.1 hc13) rfl rfl rfl dX12_addLantern_17 rfl rfl ?_
    refine g_if_eq C dX12_addLantern_20 (tgt := 25) rfl (fun q => ?_) (fun q => ?_)
    · replace h := it_t q h
      refine g_aload_n C dX12_addLantern_25 0 rfl ?_
      refine g_aload_n C dX12_addLantern_26 0 rfl ?_
      refine g_get C (.ref (w_r w 293)) 292 q_292 fk_M_7 rfl dX12_addLantern_27 ?_
      obtain ⟨d14, hc15, h⟩ := ob1_1 h
      refine g_callVv C 292 q_292 vk_M_64 hR rfl (m_M_keeps C.2.2.2.2.2.2.1 hc15) rfl rfl rfl dX12_addLantern_30 rfl rfl ?_
      refine g_aload_n C dX12_addLantern_33 0 rfl ?_
      refine g_get C (.ref (w_r w 293)) 292 q_292 fk_M_7 rfl dX12_addLantern_34 ?_
      refine g_iconst C dX12_addLantern_37 (v := 0) rfl ?_
      refine g_iald C 293 q_293 (by decide) 0 (by decide) dX12_addLantern_38 ?_
      refine g_istore_n C (lv' := [(1, .int (d14 293 0)), (0, .ref (w_r w 292))]) dX12_addLantern_39 (by decide) rfl ?_
      refine g_aload_n C dX12_addLantern_40 1 rfl ?_
      refine g_get C (.ref (w_r w 293)) 292 q_292 fk_M_7 rfl dX12_addLantern_41 ?_
      refine g_iconst C dX12_addLantern_44 (v := 0) rfl ?_
      refine g_dup2 C dX12_addLantern_45 rfl rfl ?_
      refine g_iald C 293 q_293 (by decide) 0 (by decide) dX12_addLantern_46 ?_
      refine g_iconst C dX12_addLantern_47 (v := 1) rfl ?_
      refine g_iadd C dX12_addLantern_48  ?_
      refine g_iast C 293 q_293 (by decide) 0 (by decide)  dX12_addLantern_49 ?_
      obtain ⟨d16, hd16, h⟩ := bnd_1 h
      refine g_nmD hd16 ?_
      refine g_iconst C dX12_addLantern_50 (v := 0) rfl ?_
      refine g_istore_n C (lv' := [(2, .int 0), (1, .int (d14 293 0)), (0, .ref (w_r w 292))]) dX12_addLantern_51 (by decide) rfl ?_
      refine g_sub [2, 1, 0] (lv' := [(0, .ref (w_r w 292)), (1, .int (d14 293 0)), (2, .int 0)]) rfl ?_
      exact R52 (d14 293 0) 0 d16 h
    · replace h := it_f q h
      refine g_iconst C dX12_addLantern_23 (v := 0) rfl ?_
      exact g_iret C hr hlk rfl (congrArg Prod.snd (Option.some.inj h)) (congrArg (fun z => some (Value.int z.1)) (Option.some.inj h)) dX12_addLantern_24
  unfold f_M_addLantern at h
  refine g_aload_n C dX12_addLantern_0 0 rfl ?_
  refine g_aload_n C dX12_addLantern_1 0 rfl ?_
  refine g_get C (.ref (w_r w 293)) 292 q_292 fk_M_7 rfl dX12_addLantern_2 ?_
  refine g_iconst C dX12_addLantern_5 (v := 0) rfl ?_
  refine g_iald C 293 q_293 (by decide) 0 (by decide) dX12_addLantern_6 ?_
  refine g_bipush C dX12_addLantern_7 (v := 8) (by decide) ?_
  refine g_icmp_ne C dX12_addLantern_9 (tgt := 16) rfl (fun q => ?_) (fun q => ?_)
  · replace h := it_f q h
    refine g_iconst C dX12_addLantern_16 (v := 0) rfl ?_
    exact R17 0 d h
  · replace h := it_t q h
    refine g_iconst C dX12_addLantern_12 (v := 1) rfl ?_
    refine g_goto C dX12_addLantern_13 (tgt := 17) rfl ?_
    exact R17 1 d h
set_option maxHeartbeats 4000000 in
set_option maxRecDepth 100000 in
theorem m_M_of {w : wT} {l : Launch} {x1 x2 : Int32} {d : Dt} {rE : Int32} (hO : okW w) (h : f_M_of x1 x2 d = some rE) : gM w l yX12_of cX12_of 3 (Option.some Jvm.ClassFile.FieldType.int) 0 [.ref (w_r w 292), .int x1, .int x2] d d (some (.int rE)) := by
  refine gM_of (by decide) [(0, .ref (w_r w 292)), (1, .int x1), (2, .int x2)] rfl rfl ?_ hO
  intro p e R s m args below meth c C hR hr hlk
  unfold f_M_of at h
  refine g_aload_n C dX12_of_0 0 rfl ?_
  refine g_get C (.ref (w_r w 293)) 292 q_292 fk_M_7 rfl dX12_of_1 ?_
  refine g_bipush C dX12_of_4 (v := 13) (by decide) ?_
  refine g_bipush C dX12_of_6 (v := 11) (by decide) ?_
  refine g_iload_n C dX12_of_8 1 rfl ?_
  refine g_imul C dX12_of_9  ?_
  refine g_iadd C dX12_of_10  ?_
  refine g_iload_n C dX12_of_11 2 rfl ?_
  refine g_iadd C dX12_of_12  ?_
  have hg1 := gd_1 h
  replace h := gd_2 h
  refine g_iald C 293 q_293 hg1 _ rfl dX12_of_13 ?_
  exact g_iret C hr hlk rfl rfl (congrArg (fun z => some (Value.int z)) (Option.some.inj h)) dX12_of_14
set_option maxHeartbeats 4000000 in
set_option maxRecDepth 100000 in
theorem m_M_in {w : wT} {l : Launch} {x0 x1 x2 : Int32} {d : Dt} {rE : Int32} (hO : okW w) (h : f_M_in x0 x1 x2 d = some rE) : gM w l yX12_in cX12_in 3 (Option.some Jvm.ClassFile.FieldType.boolean) 0 [.int x0, .int x1, .int x2] d d (some (.int rE)) := by
  refine gM_of (by decide) [(0, .int x0), (1, .int x1), (2, .int x2)] rfl rfl ?_ hO
  intro p e R s m args below meth c C hR hr hlk
  unfold f_M_in at h
  refine g_iload_n C dX12_in_0 0 rfl ?_
  refine g_iload_n C dX12_in_1 1 rfl ?_
  refine g_icmp_lt C dX12_in_2 (tgt := 14) rfl (fun q => ?_) (fun q => ?_)
  · replace h := it_t q h
    refine g_iconst C dX12_in_14 (v := 0) rfl ?_
    exact g_iret C hr hlk rfl rfl (congrArg (fun z => some (Value.int z)) (Option.some.inj h)) dX12_in_15
  · replace h := it_f q h
    refine g_iload_n C dX12_in_5 0 rfl ?_
    refine g_iload_n C dX12_in_6 2 rfl ?_
    refine g_icmp_gt C dX12_in_7 (tgt := 14) rfl (fun q => ?_) (fun q => ?_)
    · replace h := it_t q h
      refine g_iconst C dX12_in_14 (v := 0) rfl ?_
      exact g_iret C hr hlk rfl rfl (congrArg (fun z => some (Value.int z)) (Option.some.inj h)) dX12_in_15
    · replace h := it_f q h
      refine g_iconst C dX12_in_10 (v := 1) rfl ?_
      refine g_goto C dX12_in_11 (tgt := 15) rfl ?_
      exact g_iret C hr hlk rfl rfl (congrArg (fun z => some (Value.int z)) (Option.some.inj h)) dX12_in_15
set_option maxHeartbeats 4000000 in
set_option maxRecDepth 100000 in
theorem m_M_isLantern {w : wT} {l : Launch} {x1 : Int32} {d : Dt} {rE : Int32} (hO : okW w) (h : f_M_isLantern x1 d = some rE) : gM w l yX12_isLantern cX12_isLantern 2 (Option.some Jvm.ClassFile.FieldType.boolean) 1 [.ref (w_r w 292), .int x1] d d (some (.int rE)) := by
  refine gM_of (by decide) [(0, .ref (w_r w 292)), (1, .int x1)] rfl rfl ?_ hO
  intro p e R s m args below meth c C hR hr hlk
  unfold f_M_isLantern at h
  refine g_iload_n C dX12_isLantern_0 1 rfl ?_
  refine g_iconst C dX12_isLantern_1 (v := 0) rfl ?_
  refine g_aload_n C dX12_isLantern_2 0 rfl ?_
  refine g_get C (.ref (w_r w 293)) 292 q_292 fk_M_7 rfl dX12_isLantern_3 ?_
  refine g_iconst C dX12_isLantern_6 (v := 0) rfl ?_
  refine g_iald C 293 q_293 (by decide) 0 (by decide) dX12_isLantern_7 ?_
  refine g_iconst C dX12_isLantern_8 (v := 1) rfl ?_
  refine g_isub C dX12_isLantern_9  ?_
  obtain ⟨r2, hc3, h⟩ := ob1_1 h
  refine g_callSi C sk_M_53 hR rfl (m_M_in C.2.2.2.2.2.2.1 hc3) rfl rfl rfl dX12_isLantern_10 rfl rfl ?_
  have hg4 := gd_1 h
  replace h := gd_2 h
  exact g_iret C hr hlk (nar_n hg4) rfl (congrArg (fun z => some (Value.int z)) (Option.some.inj h)) dX12_isLantern_13
set_option maxHeartbeats 4000000 in
set_option maxRecDepth 100000 in
theorem m_M_admit {w : wT} {l : Launch} {x1 x2 : Int32} {d : Dt} {rE : Int32} {dE : Dt} (hO : okW w) (h : f_M_admit x1 x2 d = some (rE, dE)) : gM w l yX12_admit cX12_admit 5 (Option.some Jvm.ClassFile.FieldType.boolean) 2 [.ref (w_r w 292), .int x1, .int x2] d dE (some (.int rE)) := by
  refine gM_of (by decide) [(0, .ref (w_r w 292)), (1, .int x1), (2, .int x2)] rfl rfl ?_ hO
  intro p e R s m args below meth c C hR hr hlk
  have R38 : ∀ (x1 : Int32) (x3 : Int32) (v1 : Int32) (d : Dt), f_M_admit_38 x1 x3 v1 d = some (rE, dE) → gG w p l e R s m args below meth c 5 0 0 (gE w below args s dE (some (.int rE))) d [(0, .ref (w_r w 292)), (1, .int x1), (3, .int x3)] 38 [.int v1, .ref (w_r w 292)] := by
    intro x1 x3 v1 d  h
    unfold f_M_admit_38 at h
    obtain ⟨r8, d9, hc10, h⟩ := ob2_1 h
    refine g_callVi C 292 q_292 vk_M_61 hR rfl (m_M_fails C.2.2.2.2.2.2.1 hc10) rfl rfl rfl dX12_admit_38 rfl rfl ?_
    refine g_if_eq C dX12_admit_41 (tgt := 46) rfl (fun q => ?_) (fun q => ?_)
    · replace h := it_t q h
      refine g_aload_n C dX12_admit_46 0 rfl ?_
      refine g_iload_n C dX12_admit_47 1 rfl ?_
      refine g_iconst C dX12_admit_48 (v := 1) rfl ?_
      obtain ⟨r11, hc12, h⟩ := ob1_1 h
      refine g_callVi C 292 q_292 vk_M_87 hR rfl (m_M_of C.2.2.2.2.2.2.1 hc12) rfl rfl rfl dX12_admit_49 rfl rfl ?_
      refine g_istore C (lv' := [(4, .int r11), (0, .ref (w_r w 292)), (1, .int x1), (3, .int x3)]) dX12_admit_52 (by decide) rfl ?_
      refine g_aload_n C dX12_admit_54 1 rfl ?_
      refine g_aload_n C dX12_admit_55 1 rfl ?_
      refine g_get C (.ref (w_r w 293)) 292 q_292 fk_M_7 rfl dX12_admit_56 ?_
      obtain ⟨d13, hc14, h⟩ := ob1_1 h
      refine g_callVv C 292 q_292 vk_M_64 hR rfl (m_M_keeps C.2.2.2.2.2.2.1 hc14) rfl rfl rfl dX12_admit_59 rfl rfl ?_
      refine g_aload_n C dX12_admit_62 1 rfl ?_
      refine g_iload_n C dX12_admit_63 2 rfl ?_
      refine g_iconst C dX12_admit_64 (v := 1) rfl ?_
      refine g_iload_n C dX12_admit_65 3 rfl ?_
      obtain ⟨d15, hc16, h⟩ := ob1_1 h
      refine g_callVv C 292 q_292 vk_M_68 hR rfl (m_M_lays C.2.2.2.2.2.2.1 hc16) rfl rfl rfl dX12_admit_66 rfl rfl ?_
      refine g_iload C dX12_admit_69 0 rfl ?_
      refine g_if_le C dX12_admit_71 (tgt := 78) rfl (fun q => ?_) (fun q => ?_)
      · replace h := it_t q h
        refine g_iconst C dX12_admit_78 (v := 0) rfl ?_
        exact g_iret C hr hlk rfl (congrArg Prod.snd (Option.some.inj h)) (congrArg (fun z => some (Value.int z.1)) (Option.some.inj h)) dX12_admit_79
      · replace h := it_f q h
        refine g_iconst C dX12_admit_74 (v := 1) rfl ?_
        refine g_goto C dX12_admit_75 (tgt := 79) rfl ?_
        exact g_iret C hr hlk rfl (congrArg Prod.snd (Option.some.inj h)) (congrArg (fun z => some (Value.int z.1)) (Option.some.inj h)) dX12_admit_79
    · replace h := it_f q h
      refine g_iconst C dX12_admit_44 (v := 0) rfl ?_
      exact g_iret C hr hlk rfl (congrArg Prod.snd (Option.some.inj h)) (congrArg (fun z => some (Value.int z.1)) (Option.some.inj h)) dX12_admit_45
  have R9 : ∀ (x1 : Int32) (v0 : Int32) (d : Dt), f_M_admit_9 x1 v0 d = some (rE, dE) → gG w p l e R s m args below meth c 5 0 0 (gE w below args s dE (some (.int rE))) d [(0, .ref (w_r w 292)), (1, .int x1)] 9 [.int v0] := by
    intro x1 v0 d  h
    unfold f_M_admit_9 at h
    refine g_istore_n C (lv' := [(3, .int v0), (0, .ref (w_r w 292)), (1, .int x1)]) dX12_admit_9 (by decide) rfl ?_
    refine g_aload_n C dX12_admit_10 1 rfl ?_
    refine g_aload_n C dX12_admit_11 1 rfl ?_
    refine g_iload_n C dX12_admit_12 2 rfl ?_
    obtain ⟨r17, hc18, h⟩ := ob1_1 h
    refine g_callVi C 292 q_292 vk_M_57 hR rfl (m_M_isLantern C.2.2.2.2.2.2.1 hc18) rfl rfl rfl dX12_admit_13 rfl rfl ?_
    refine g_if_ne C dX12_admit_16 (tgt := 23) rfl (fun q => ?_) (fun q => ?_)
    · replace h := it_f q h
      refine g_aload_n C dX12_admit_23 1 rfl ?_
      refine g_iload_n C dX12_admit_24 2 rfl ?_
      refine g_iconst C dX12_admit_25 (v := 1) rfl ?_
      obtain ⟨r19, hc20, h⟩ := ob1_1 h
      refine g_callVi C 292 q_292 vk_M_87 hR rfl (m_M_of C.2.2.2.2.2.2.1 hc20) rfl rfl rfl dX12_admit_26 rfl rfl ?_
      refine g_iload_n C dX12_admit_29 0 rfl ?_
      refine g_icmp_ne C dX12_admit_30 (tgt := 37) rfl (fun q => ?_) (fun q => ?_)
      · replace h := it_f q h
        refine g_iconst C dX12_admit_37 (v := 0) rfl ?_
        refine g_sub [1, 2, 0] (lv' := [(0, .ref (w_r w 292)), (1, .int x1), (3, .int v0)]) rfl ?_
        exact R38 x1 v0 0 d h
      · replace h := it_t q h
        refine g_iconst C dX12_admit_33 (v := 2) rfl ?_
        refine g_goto C dX12_admit_34 (tgt := 38) rfl ?_
        refine g_sub [1, 2, 0] (lv' := [(0, .ref (w_r w 292)), (1, .int x1), (3, .int v0)]) rfl ?_
        exact R38 x1 v0 2 d h
    · replace h := it_t q h
      refine g_iconst C dX12_admit_19 (v := 1) rfl ?_
      refine g_goto C dX12_admit_20 (tgt := 38) rfl ?_
      refine g_sub [1, 2, 0] (lv' := [(0, .ref (w_r w 292)), (1, .int x1), (3, .int v0)]) rfl ?_
      exact R38 x1 v0 1 d h
  unfold f_M_admit at h
  refine g_iload_n C dX12_admit_0 2 rfl ?_
  refine g_if_eq C dX12_admit_1 (tgt := 8) rfl (fun q => ?_) (fun q => ?_)
  · replace h := it_t q h
    refine g_iconst C dX12_admit_8 (v := 2) rfl ?_
    refine g_sub [0, 1] (lv' := [(0, .ref (w_r w 292)), (1, .int x1)]) rfl ?_
    exact R9 x1 2 d h
  · replace h := it_f q h
    refine g_iconst C dX12_admit_4 (v := 1) rfl ?_
    refine g_goto C dX12_admit_5 (tgt := 9) rfl ?_
    refine g_sub [0, 1] (lv' := [(0, .ref (w_r w 292)), (1, .int x1)]) rfl ?_
    exact R9 x1 1 d h
set_option maxHeartbeats 4000000 in
set_option maxRecDepth 100000 in
theorem m_M_says {w : wT} {l : Launch} {x1 x2 : Int32} {d : Dt} {rE : Int32} (hO : okW w) (h : f_M_says x1 x2 d = some rE) : gM w l yX12_says cX12_says 3 (Option.some Jvm.ClassFile.FieldType.int) 0 [.ref (w_r w 292), .int x1, .int x2] d d (some (.int rE)) := by
  refine gM_of (by decide) [(0, .ref (w_r w 292)), (1, .int x1), (2, .int x2)] rfl rfl ?_ hO
  intro p e R s m args below meth c C hR hr hlk
  unfold f_M_says at h
  refine g_aload_n C dX12_says_0 0 rfl ?_
  refine g_get C (.ref (w_r w 293)) 292 q_292 fk_M_7 rfl dX12_says_1 ?_
  refine g_sipush C dX12_says_4 (v := 151) (by decide) ?_
  refine g_iconst C dX12_says_7 (v := 3) rfl ?_
  refine g_iload_n C dX12_says_8 1 rfl ?_
  refine g_imul C dX12_says_9  ?_
  refine g_iadd C dX12_says_10  ?_
  refine g_iload_n C dX12_says_11 2 rfl ?_
  refine g_iadd C dX12_says_12  ?_
  have hg1 := gd_1 h
  replace h := gd_2 h
  refine g_iald C 293 q_293 hg1 _ rfl dX12_says_13 ?_
  exact g_iret C hr hlk rfl rfl (congrArg (fun z => some (Value.int z)) (Option.some.inj h)) dX12_says_14
set_option maxHeartbeats 4000000 in
set_option maxRecDepth 100000 in
theorem m_M_isTrue {w : wT} {l : Launch} {x1 x2 : Int32} {d : Dt} {rE : Int32} (hO : okW w) (h : f_M_isTrue x1 x2 d = some rE) : gM w l yX12_isTrue cX12_isTrue 4 (Option.some Jvm.ClassFile.FieldType.boolean) 1 [.ref (w_r w 292), .int x1, .int x2] d d (some (.int rE)) := by
  refine gM_of (by decide) [(0, .ref (w_r w 292)), (1, .int x1), (2, .int x2)] rfl rfl ?_ hO
  intro p e R s m args below meth c C hR hr hlk
  have R45 : ∀ (v0 : Int32) (v1 : Int32), f_M_isTrue_45  v0 v1 d = some rE → gG w p l e R s m args below meth c 4 0 0 (gE w below args s d (some (.int rE))) d [] 45 [.int v1, .int v0] := by
    intro  v0 v1   h
    unfold f_M_isTrue_45 at h
    refine g_icmp_ne C dX12_isTrue_45 (tgt := 52) rfl (fun q => ?_) (fun q => ?_)
    · replace h := it_f q h
      refine g_iconst C dX12_isTrue_52 (v := 0) rfl ?_
      exact g_iret C hr hlk rfl rfl (congrArg (fun z => some (Value.int z)) (Option.some.inj h)) dX12_isTrue_53
    · replace h := it_t q h
      refine g_iconst C dX12_isTrue_48 (v := 1) rfl ?_
      refine g_goto C dX12_isTrue_49 (tgt := 53) rfl ?_
      exact g_iret C hr hlk rfl rfl (congrArg (fun z => some (Value.int z)) (Option.some.inj h)) dX12_isTrue_53
  have R28 : ∀ (x1 : Int32) (v0 : Int32), f_M_isTrue_28 x1 v0 d = some rE → gG w p l e R s m args below meth c 4 0 0 (gE w below args s d (some (.int rE))) d [(0, .ref (w_r w 292)), (1, .int x1)] 28 [.int v0] := by
    intro x1 v0   h
    unfold f_M_isTrue_28 at h
    refine g_istore_n C (lv' := [(3, .int v0), (0, .ref (w_r w 292)), (1, .int x1)]) dX12_isTrue_28 (by decide) rfl ?_
    refine g_iload_n C dX12_isTrue_29 0 rfl ?_
    refine g_aload_n C dX12_isTrue_30 1 rfl ?_
    refine g_iload_n C dX12_isTrue_31 2 rfl ?_
    refine g_iconst C dX12_isTrue_32 (v := 2) rfl ?_
    obtain ⟨r4, hc5, h⟩ := ob1_1 h
    refine g_callVi C 292 q_292 vk_M_97 hR rfl (m_M_says C.2.2.2.2.2.2.1 hc5) rfl rfl rfl dX12_isTrue_33 rfl rfl ?_
    refine g_iconst C dX12_isTrue_36 (v := 1) rfl ?_
    refine g_icmp_ne C dX12_isTrue_37 (tgt := 44) rfl (fun q => ?_) (fun q => ?_)
    · replace h := it_f q h
      refine g_iconst C dX12_isTrue_44 (v := 0) rfl ?_
      refine g_sub [] (lv' := []) rfl ?_
      exact R45 v0 0 h
    · replace h := it_t q h
      refine g_iconst C dX12_isTrue_40 (v := 1) rfl ?_
      refine g_goto C dX12_isTrue_41 (tgt := 45) rfl ?_
      refine g_sub [] (lv' := []) rfl ?_
      exact R45 v0 1 h
  unfold f_M_isTrue at h
  refine g_iload_n C dX12_isTrue_0 2 rfl ?_
  refine g_aload_n C dX12_isTrue_1 0 rfl ?_
  refine g_iload_n C dX12_isTrue_2 1 rfl ?_
  refine g_iconst C dX12_isTrue_3 (v := 0) rfl ?_
  obtain ⟨r6, hc7, h⟩ := ob1_1 h
  refine g_callVi C 292 q_292 vk_M_97 hR rfl (m_M_says C.2.2.2.2.2.2.1 hc7) rfl rfl rfl dX12_isTrue_4 rfl rfl ?_
  refine g_ishr C dX12_isTrue_7  ?_
  refine g_iconst C dX12_isTrue_8 (v := 1) rfl ?_
  refine g_iand C dX12_isTrue_9  ?_
  refine g_iload_n C dX12_isTrue_10 2 rfl ?_
  refine g_aload_n C dX12_isTrue_11 0 rfl ?_
  refine g_iload_n C dX12_isTrue_12 1 rfl ?_
  refine g_iconst C dX12_isTrue_13 (v := 1) rfl ?_
  obtain ⟨r8, hc9, h⟩ := ob1_1 h
  refine g_callVi C 292 q_292 vk_M_97 hR rfl (m_M_says C.2.2.2.2.2.2.1 hc9) rfl rfl rfl dX12_isTrue_14 rfl rfl ?_
  refine g_ishr C dX12_isTrue_17  ?_
  refine g_iconst C dX12_isTrue_18 (v := 1) rfl ?_
  refine g_iand C dX12_isTrue_19  ?_
  refine g_icmp_ne C dX12_isTrue_20 (tgt := 27) rfl (fun q => ?_) (fun q => ?_)
  · replace h := it_f q h
    refine g_iconst C dX12_isTrue_27 (v := 0) rfl ?_
    refine g_sub [0, 1] (lv' := [(0, .ref (w_r w 292)), (1, .int x1)]) rfl ?_
    exact R28 x1 0 h
  · replace h := it_t q h
    refine g_iconst C dX12_isTrue_23 (v := 1) rfl ?_
    refine g_goto C dX12_isTrue_24 (tgt := 28) rfl ?_
    refine g_sub [0, 1] (lv' := [(0, .ref (w_r w 292)), (1, .int x1)]) rfl ?_
    exact R28 x1 1 h
set_option maxHeartbeats 4000000 in
set_option maxRecDepth 100000 in
theorem m_M_areTrue {w : wT} {l : Launch} {x1 x2 : Int32} {d : Dt} {rE : Int32} (hO : okW w) (h : f_M_areTrue x1 x2 d = some rE) : gM w l yX12_areTrue cX12_areTrue 4 (Option.some Jvm.ClassFile.FieldType.boolean) 2 [.ref (w_r w 292), .int x1, .int x2] d d (some (.int rE)) := by
  refine gM_of (by decide) [(0, .ref (w_r w 292)), (1, .int x1), (2, .int x2)] rfl rfl ?_ hO
  intro p e R s m args below meth c C hR hr hlk
  have R2 : ∀ (x1 : Int32) (x2 : Int32) (x3 : Int32), f_M_areTrue_2 x1 x2 x3 d = some rE → gG w p l e R s m args below meth c 4 0 0 (gE w below args s d (some (.int rE))) d [(0, .ref (w_r w 292)), (1, .int x1), (2, .int x2), (3, .int x3)] 2 [] := by
    intro x1 x2 x3   h
    refine iter_ind (G := fun s_ : (Int32) => gG w p l e R s m args below meth c 4 0 0 (gE w below args s d (some (.int rE))) d [(0, .ref (w_r w 292)), (1, .int x1), (2, .int x2), (3, .int s_)] 2 []) ?_ fu _ h
    clear h
    intro x3 y1 h hl1 hx1
    show gG w p l e R s m args below meth c 4 0 0 (gE w below args s d (some (.int rE))) d [(0, .ref (w_r w 292)), (1, .int x1), (2, .int x2), (3, .int x3)] 2 []
    unfold st_M_areTrue_2 at h
    refine g_iload_n C dX12_areTrue_2 3 rfl ?_
    refine g_aload_n C dX12_areTrue_3 0 rfl ?_
    refine g_get C (.ref (w_r w 293)) 292 q_292 fk_M_7 rfl dX12_areTrue_4 ?_
    refine g_iconst C dX12_areTrue_7 (v := 4) rfl ?_
    refine g_iald C 293 q_293 (by decide) 4 (by decide) dX12_areTrue_8 ?_
    refine g_icmp_ge C dX12_areTrue_9 (tgt := 43) rfl (fun q => ?_) (fun q => ?_)
    · replace h := it_t q h
      replace h := ir_2 h hx1
      refine g_iconst C dX12_areTrue_43 (v := 1) rfl ?_
      exact g_iret C hr hlk rfl rfl (congrArg (fun z => some (Value.int z)) (Option.some.inj h)) dX12_areTrue_44
    · replace h := it_f q h
      refine g_iload_n C dX12_areTrue_12 1 rfl ?_
      refine g_aload_n C dX12_areTrue_13 0 rfl ?_
      refine g_iload_n C dX12_areTrue_14 3 rfl ?_
      refine g_iconst C dX12_areTrue_15 (v := 0) rfl ?_
      obtain ⟨r3, hc4, h⟩ := ob1_1 h
      refine g_callVi C 292 q_292 vk_M_97 hR rfl (m_M_says C.2.2.2.2.2.2.1 hc4) rfl rfl rfl dX12_areTrue_16 rfl rfl ?_
      refine g_ishr C dX12_areTrue_19  ?_
      refine g_iconst C dX12_areTrue_20 (v := 1) rfl ?_
      refine g_iand C dX12_areTrue_21  ?_
      refine g_iconst C dX12_areTrue_22 (v := 1) rfl ?_
      refine g_icmp_ne C dX12_areTrue_23 (tgt := 37) rfl (fun q => ?_) (fun q => ?_)
      · replace h := it_f q h
        refine g_iinc C (lv' := [(3, .int (x3 + 1)), (0, .ref (w_r w 292)), (1, .int x1), (2, .int x2)]) (v := (x3 + 1)) dX12_areTrue_37 3 rfl rfl (by decide) rfl ?_
        refine g_goto C dX12_areTrue_40 (tgt := 2) rfl ?_
        refine g_sub [1, 2, 3, 0] (lv' := [(0, .ref (w_r w 292)), (1, .int x1), (2, .int x2), (3, .int (x3 + 1))]) rfl ?_
        exact hl1 (x3 + 1) (Option.some.inj h).symm
      · replace h := it_t q h
        refine g_aload_n C dX12_areTrue_26 0 rfl ?_
        refine g_iload_n C dX12_areTrue_27 3 rfl ?_
        refine g_iload_n C dX12_areTrue_28 2 rfl ?_
        obtain ⟨r5, hc6, h⟩ := ob1_1 h
        refine g_callVi C 292 q_292 vk_M_100 hR rfl (m_M_isTrue C.2.2.2.2.2.2.1 hc6) rfl rfl rfl dX12_areTrue_29 rfl rfl ?_
        refine g_if_ne C dX12_areTrue_32 (tgt := 37) rfl (fun q => ?_) (fun q => ?_)
        · replace h := it_f q h
          refine g_iinc C (lv' := [(3, .int (x3 + 1)), (0, .ref (w_r w 292)), (1, .int x1), (2, .int x2)]) (v := (x3 + 1)) dX12_areTrue_37 3 rfl rfl (by decide) rfl ?_
          refine g_goto C dX12_areTrue_40 (tgt := 2) rfl ?_
          refine g_sub [1, 2, 3, 0] (lv' := [(0, .ref (w_r w 292)), (1, .int x1), (2, .int x2), (3, .int (x3 + 1))]) rfl ?_
          exact hl1 (x3 + 1) (Option.some.inj h).symm
        · replace h := it_t q h
          replace h := ir_2 h hx1
          refine g_iconst C dX12_areTrue_35 (v := 0) rfl ?_
          exact g_iret C hr hlk rfl rfl (congrArg (fun z => some (Value.int z)) (Option.some.inj h)) dX12_areTrue_36
  unfold f_M_areTrue at h
  refine g_iconst C dX12_areTrue_0 (v := 0) rfl ?_
  refine g_istore_n C (lv' := [(3, .int 0), (0, .ref (w_r w 292)), (1, .int x1), (2, .int x2)]) dX12_areTrue_1 (by decide) rfl ?_
  refine g_sub [1, 2, 3, 0] (lv' := [(0, .ref (w_r w 292)), (1, .int x1), (2, .int x2), (3, .int 0)]) rfl ?_
  exact R2 x1 x2 0 h
set_option maxHeartbeats 4000000 in
set_option maxRecDepth 100000 in
theorem m_M_bits {w : wT} {l : Launch} {x0 : Int32} {d : Dt} {rE : Int32} (hO : okW w) (h : f_M_bits x0 d = some rE) : gM w l yX12_bits cX12_bits 3 (Option.some Jvm.ClassFile.FieldType.int) 0 [.int x0] d d (some (.int rE)) := by
  refine gM_of (by decide) [(0, .int x0)] rfl rfl ?_ hO
  intro p e R s m args below meth c C hR hr hlk
  have R4 : ∀ (x0 : Int32) (x1 : Int32) (x2 : Int32), f_M_bits_4 x0 x1 x2 d = some rE → gG w p l e R s m args below meth c 3 0 0 (gE w below args s d (some (.int rE))) d [(0, .int x0), (1, .int x1), (2, .int x2)] 4 [] := by
    intro x0 x1 x2   h
    refine iter_ind (G := fun s_ : (Int32 × Int32) => gG w p l e R s m args below meth c 3 0 0 (gE w below args s d (some (.int rE))) d [(0, .int x0), (1, .int s_.1), (2, .int s_.2)] 4 []) ?_ fu _ h
    clear h
    intro s_ y1 h hl1 hx1
    obtain ⟨x1, x2⟩ := s_
    show gG w p l e R s m args below meth c 3 0 0 (gE w below args s d (some (.int rE))) d [(0, .int x0), (1, .int x1), (2, .int x2)] 4 []
    dsimp only at h
    unfold st_M_bits_4 at h
    refine g_iload_n C dX12_bits_4 2 rfl ?_
    refine g_bipush C dX12_bits_5 (v := 12) (by decide) ?_
    refine g_icmp_ge C dX12_bits_7 (tgt := 24) rfl (fun q => ?_) (fun q => ?_)
    · replace h := it_t q h
      replace h := ir_2 h hx1
      refine g_iload_n C dX12_bits_24 1 rfl ?_
      exact g_iret C hr hlk rfl rfl (congrArg (fun z => some (Value.int z)) (Option.some.inj h)) dX12_bits_25
    · replace h := it_f q h
      refine g_iload_n C dX12_bits_10 1 rfl ?_
      refine g_iload_n C dX12_bits_11 0 rfl ?_
      refine g_iload_n C dX12_bits_12 2 rfl ?_
      refine g_ishr C dX12_bits_13  ?_
      refine g_iconst C dX12_bits_14 (v := 1) rfl ?_
      refine g_iand C dX12_bits_15  ?_
      refine g_iadd C dX12_bits_16  ?_
      refine g_istore_n C (lv' := [(1, .int (x1 + ((x0 >>> (x2 &&& 31)) &&& 1))), (0, .int x0), (2, .int x2)]) dX12_bits_17 (by decide) rfl ?_
      refine g_iinc C (lv' := [(2, .int (x2 + 1)), (1, .int (x1 + ((x0 >>> (x2 &&& 31)) &&& 1))), (0, .int x0)]) (v := (x2 + 1)) dX12_bits_18 2 rfl rfl (by decide) rfl ?_
      refine g_goto C dX12_bits_21 (tgt := 4) rfl ?_
      refine g_sub [2, 1, 0] (lv' := [(0, .int x0), (1, .int (x1 + ((x0 >>> (x2 &&& 31)) &&& 1))), (2, .int (x2 + 1))]) rfl ?_
      exact hl1 ((x1 + ((x0 >>> (x2 &&& 31)) &&& 1)), (x2 + 1)) (Option.some.inj h).symm
  unfold f_M_bits at h
  refine g_iconst C dX12_bits_0 (v := 0) rfl ?_
  refine g_istore_n C (lv' := [(1, .int 0), (0, .int x0)]) dX12_bits_1 (by decide) rfl ?_
  refine g_iconst C dX12_bits_2 (v := 0) rfl ?_
  refine g_istore_n C (lv' := [(2, .int 0), (1, .int 0), (0, .int x0)]) dX12_bits_3 (by decide) rfl ?_
  refine g_sub [2, 1, 0] (lv' := [(0, .int x0), (1, .int 0), (2, .int 0)]) rfl ?_
  exact R4 x0 0 0 h
set_option maxHeartbeats 4000000 in
set_option maxRecDepth 100000 in
theorem m_M_brief {w : wT} {l : Launch} {x1 x2 : Int32} {d : Dt} {rE : Int32} (hO : okW w) (h : f_M_brief x1 x2 d = some rE) : gM w l yX12_brief cX12_brief 3 (Option.some Jvm.ClassFile.FieldType.int) 0 [.ref (w_r w 292), .int x1, .int x2] d d (some (.int rE)) := by
  refine gM_of (by decide) [(0, .ref (w_r w 292)), (1, .int x1), (2, .int x2)] rfl rfl ?_ hO
  intro p e R s m args below meth c C hR hr hlk
  unfold f_M_brief at h
  refine g_aload_n C dX12_brief_0 0 rfl ?_
  refine g_get C (.ref (w_r w 293)) 292 q_292 fk_M_7 rfl dX12_brief_1 ?_
  refine g_bipush C dX12_brief_4 (v := 101) (by decide) ?_
  refine g_iconst C dX12_brief_6 (v := 5) rfl ?_
  refine g_iload_n C dX12_brief_7 1 rfl ?_
  refine g_imul C dX12_brief_8  ?_
  refine g_iadd C dX12_brief_9  ?_
  refine g_iload_n C dX12_brief_10 2 rfl ?_
  refine g_iadd C dX12_brief_11  ?_
  have hg1 := gd_1 h
  replace h := gd_2 h
  refine g_iald C 293 q_293 hg1 _ rfl dX12_brief_12 ?_
  exact g_iret C hr hlk rfl rfl (congrArg (fun z => some (Value.int z)) (Option.some.inj h)) dX12_brief_13
set_option maxHeartbeats 4000000 in
set_option maxRecDepth 100000 in
theorem m_M_briefAt {w : wT} {l : Launch} {x1 : Int32} {d : Dt} {rE : Int32} {dE : Dt} (hO : okW w) (h : f_M_briefAt x1 d = some (rE, dE)) : gM w l yX12_briefAt cX12_briefAt 2 (Option.some Jvm.ClassFile.FieldType.int) 1 [.ref (w_r w 292), .int x1] d dE (some (.int rE)) := by
  refine gM_of (by decide) [(0, .ref (w_r w 292)), (1, .int x1)] rfl rfl ?_ hO
  intro p e R s m args below meth c C hR hr hlk
  have R22 : ∀ (x1 : Int32) (v1 : Int32) (d : Dt), f_M_briefAt_22 x1 v1 d = some (rE, dE) → gG w p l e R s m args below meth c 2 0 0 (gE w below args s dE (some (.int rE))) d [(0, .ref (w_r w 292)), (1, .int x1)] 22 [.int v1, .ref (w_r w 292)] := by
    intro x1 v1 d  h
    unfold f_M_briefAt_22 at h
    obtain ⟨r5, d6, hc7, h⟩ := ob2_1 h
    refine g_callVi C 292 q_292 vk_M_61 hR rfl (m_M_fails C.2.2.2.2.2.2.1 hc7) rfl rfl rfl dX12_briefAt_22 rfl rfl ?_
    refine g_if_eq C dX12_briefAt_25 (tgt := 32) rfl (fun q => ?_) (fun q => ?_)
    · replace h := it_t q h
      refine g_aload_n C dX12_briefAt_32 0 rfl ?_
      refine g_iload_n C dX12_briefAt_33 1 rfl ?_
      refine g_iconst C dX12_briefAt_34 (v := 0) rfl ?_
      obtain ⟨r8, hc9, h⟩ := ob1_1 h
      refine g_callVi C 292 q_292 vk_M_72 hR rfl (m_M_brief C.2.2.2.2.2.2.1 hc9) rfl rfl rfl dX12_briefAt_35 rfl rfl ?_
      exact g_iret C hr hlk rfl (congrArg Prod.snd (Option.some.inj h)) (congrArg (fun z => some (Value.int z.1)) (Option.some.inj h)) dX12_briefAt_38
    · replace h := it_f q h
      refine g_iconst C dX12_briefAt_28 (v := 0) rfl ?_
      refine g_goto C dX12_briefAt_29 (tgt := 38) rfl ?_
      exact g_iret C hr hlk rfl (congrArg Prod.snd (Option.some.inj h)) (congrArg (fun z => some (Value.int z.1)) (Option.some.inj h)) dX12_briefAt_38
  unfold f_M_briefAt at h
  refine g_aload_n C dX12_briefAt_0 0 rfl ?_
  refine g_iload_n C dX12_briefAt_1 1 rfl ?_
  refine g_iconst C dX12_briefAt_2 (v := 0) rfl ?_
  refine g_aload_n C dX12_briefAt_3 0 rfl ?_
  refine g_get C (.ref (w_r w 293)) 292 q_292 fk_M_7 rfl dX12_briefAt_4 ?_
  refine g_iconst C dX12_briefAt_7 (v := 3) rfl ?_
  refine g_iald C 293 q_293 (by decide) 3 (by decide) dX12_briefAt_8 ?_
  refine g_iconst C dX12_briefAt_9 (v := 1) rfl ?_
  refine g_isub C dX12_briefAt_10  ?_
  obtain ⟨r10, hc11, h⟩ := ob1_1 h
  refine g_callSi C sk_M_53 hR rfl (m_M_in C.2.2.2.2.2.2.1 hc11) rfl rfl rfl dX12_briefAt_11 rfl rfl ?_
  refine g_if_eq C dX12_briefAt_14 (tgt := 21) rfl (fun q => ?_) (fun q => ?_)
  · replace h := it_t q h
    refine g_iconst C dX12_briefAt_21 (v := 1) rfl ?_
    exact R22 x1 1 d h
  · replace h := it_f q h
    refine g_iconst C dX12_briefAt_17 (v := 0) rfl ?_
    refine g_goto C dX12_briefAt_18 (tgt := 22) rfl ?_
    exact R22 x1 0 d h
set_option maxHeartbeats 4000000 in
set_option maxRecDepth 100000 in
theorem m_M_briefCount {w : wT} {l : Launch} {d : Dt} {rE : Int32} {dE : Dt} (hO : okW w) (h : f_M_briefCount  d = some (rE, dE)) : gM w l yX12_briefCount cX12_briefCount 1 (Option.some Jvm.ClassFile.FieldType.int) 0 [.ref (w_r w 292)] d dE (some (.int rE)) := by
  refine gM_of (by decide) [(0, .ref (w_r w 292))] rfl rfl ?_ hO
  intro p e R s m args below meth c C hR hr hlk
  unfold f_M_briefCount at h
  refine g_aload_n C dX12_briefCount_0 0 rfl ?_
  refine g_iconst C dX12_briefCount_1 (v := 0) rfl ?_
  refine g_put C 292 q_292 pk_M_39 rfl rfl dX12_briefCount_2 ?_
  obtain ⟨d2, hd2, h⟩ := bnd_1 h
  refine g_nmD hd2 ?_
  refine g_aload_n C dX12_briefCount_5 0 rfl ?_
  refine g_get C (.ref (w_r w 293)) 292 q_292 fk_M_7 rfl dX12_briefCount_6 ?_
  refine g_iconst C dX12_briefCount_9 (v := 3) rfl ?_
  refine g_iald C 293 q_293 (by decide) 3 (by decide) dX12_briefCount_10 ?_
  exact g_iret C hr hlk rfl (congrArg Prod.snd (Option.some.inj h)) (congrArg (fun z => some (Value.int z.1)) (Option.some.inj h)) dX12_briefCount_11
set_option maxHeartbeats 4000000 in
set_option maxRecDepth 100000 in
theorem m_M_isNone {w : wT} {l : Launch} {x1 : Int32} {d : Dt} {rE : Int32} {dE : Dt} (hO : okW w) (h : f_M_isNone x1 d = some (rE, dE)) : gM w l yX12_isNone cX12_isNone 2 (Option.some Jvm.ClassFile.FieldType.boolean) 2 [.ref (w_r w 292), .int x1] d dE (some (.int rE)) := by
  refine gM_of (by decide) [(0, .ref (w_r w 292)), (1, .int x1)] rfl rfl ?_ hO
  intro p e R s m args below meth c C hR hr hlk
  have R14 : ∀ (v1 : Int32) (d : Dt), f_M_isNone_14  v1 d = some (rE, dE) → gG w p l e R s m args below meth c 2 0 0 (gE w below args s dE (some (.int rE))) d [] 14 [.int v1, .ref (w_r w 292)] := by
    intro  v1 d  h
    unfold f_M_isNone_14 at h
    obtain ⟨r4, d5, hc6, h⟩ := ob2_1 h
    refine g_callVi C 292 q_292 vk_M_61 hR rfl (m_M_fails C.2.2.2.2.2.2.1 hc6) rfl rfl rfl dX12_isNone_14 rfl rfl ?_
    have hg7 := gd_1 h
    replace h := gd_2 h
    exact g_iret C hr hlk (nar_n hg7) (congrArg Prod.snd (Option.some.inj h)) (congrArg (fun z => some (Value.int z.1)) (Option.some.inj h)) dX12_isNone_17
  unfold f_M_isNone at h
  refine g_aload_n C dX12_isNone_0 0 rfl ?_
  refine g_aload_n C dX12_isNone_1 0 rfl ?_
  refine g_iload_n C dX12_isNone_2 1 rfl ?_
  obtain ⟨r8, hc9, h⟩ := ob1_1 h
  refine g_callVi C 292 q_292 vk_M_57 hR rfl (m_M_isLantern C.2.2.2.2.2.2.1 hc9) rfl rfl rfl dX12_isNone_3 rfl rfl ?_
  refine g_if_eq C dX12_isNone_6 (tgt := 13) rfl (fun q => ?_) (fun q => ?_)
  · replace h := it_t q h
    refine g_iconst C dX12_isNone_13 (v := 1) rfl ?_
    refine g_sub [] (lv' := []) rfl ?_
    exact R14 1 d h
  · replace h := it_f q h
    refine g_iconst C dX12_isNone_9 (v := 0) rfl ?_
    refine g_goto C dX12_isNone_10 (tgt := 14) rfl ?_
    refine g_sub [] (lv' := []) rfl ?_
    exact R14 0 d h
set_option maxHeartbeats 4000000 in
set_option maxRecDepth 100000 in
theorem m_M_brightness {w : wT} {l : Launch} {x1 : Int32} {d : Dt} {rE : Int32} {dE : Dt} (hO : okW w) (h : f_M_brightness x1 d = some (rE, dE)) : gM w l yX12_brightness cX12_brightness 2 (Option.some Jvm.ClassFile.FieldType.int) 3 [.ref (w_r w 292), .int x1] d dE (some (.int rE)) := by
  refine gM_of (by decide) [(0, .ref (w_r w 292)), (1, .int x1)] rfl rfl ?_ hO
  intro p e R s m args below meth c C hR hr hlk
  unfold f_M_brightness at h
  refine g_aload_n C dX12_brightness_0 0 rfl ?_
  refine g_iload_n C dX12_brightness_1 1 rfl ?_
  obtain ⟨r4, d5, hc6, h⟩ := ob2_1 h
  refine g_callVi C 292 q_292 vk_M_134 hR rfl (m_M_isNone C.2.2.2.2.2.2.1 hc6) rfl rfl rfl dX12_brightness_2 rfl rfl ?_
  refine g_if_eq C dX12_brightness_5 (tgt := 12) rfl (fun q => ?_) (fun q => ?_)
  · replace h := it_t q h
    refine g_aload_n C dX12_brightness_12 0 rfl ?_
    refine g_iload_n C dX12_brightness_13 1 rfl ?_
    refine g_iconst C dX12_brightness_14 (v := 0) rfl ?_
    obtain ⟨r7, hc8, h⟩ := ob1_1 h
    refine g_callVi C 292 q_292 vk_M_87 hR rfl (m_M_of C.2.2.2.2.2.2.1 hc8) rfl rfl rfl dX12_brightness_15 rfl rfl ?_
    exact g_iret C hr hlk rfl (congrArg Prod.snd (Option.some.inj h)) (congrArg (fun z => some (Value.int z.1)) (Option.some.inj h)) dX12_brightness_18
  · replace h := it_f q h
    refine g_iconst C dX12_brightness_8 (v := 0) rfl ?_
    refine g_goto C dX12_brightness_9 (tgt := 18) rfl ?_
    exact g_iret C hr hlk rfl (congrArg Prod.snd (Option.some.inj h)) (congrArg (fun z => some (Value.int z.1)) (Option.some.inj h)) dX12_brightness_18
set_option maxHeartbeats 4000000 in
set_option maxRecDepth 100000 in
theorem m_M_makeStatement {w : wT} {l : Launch} {x1 x2 x3 : Int32} {d : Dt} {rE : Int32} {dE : Dt} (hO : okW w) (h : f_M_makeStatement x1 x2 x3 d = some (rE, dE)) : gM w l yX12_makeStatement cX12_makeStatement 5 (Option.some Jvm.ClassFile.FieldType.int) 2 [.ref (w_r w 292), .int x1, .int x2, .int x3] d dE (some (.int rE)) := by
  refine gM_of (by decide) [(0, .ref (w_r w 292)), (1, .int x1), (2, .int x2), (3, .int x3)] rfl rfl ?_ hO
  intro p e R s m args below meth c C hR hr hlk
  have R113 : ∀ (v1 : Int32) (v2 : Int32) (d : Dt), f_M_makeStatement_113  v1 v2 d = some (rE, dE) → gG w p l e R s m args below meth c 5 0 0 (gE w below args s dE (some (.int rE))) d [(0, .ref (w_r w 292))] 113 [.int v2, .int v1, .ref (w_r w 293)] := by
    intro  v1 v2 d  h
    unfold f_M_makeStatement_113 at h
    have hg10 := gd_1 h
    replace h := gd_2 h
    refine g_iast C 293 q_293 hg10 _ rfl  dX12_makeStatement_113 ?_
    obtain ⟨d11, hd11, h⟩ := bnd_1 h
    refine g_nmD hd11 ?_
    refine g_aload_n C dX12_makeStatement_114 0 rfl ?_
    refine g_get C (.ref (w_r w 293)) 292 q_292 fk_M_7 rfl dX12_makeStatement_115 ?_
    refine g_iconst C dX12_makeStatement_118 (v := 4) rfl ?_
    refine g_dup2 C dX12_makeStatement_119 rfl rfl ?_
    refine g_iald C 293 q_293 (by decide) 4 (by decide) dX12_makeStatement_120 ?_
    refine g_iconst C dX12_makeStatement_121 (v := 1) rfl ?_
    refine g_iadd C dX12_makeStatement_122  ?_
    refine g_iast C 293 q_293 (by decide) 4 (by decide)  dX12_makeStatement_123 ?_
    obtain ⟨d12, hd12, h⟩ := bnd_1 h
    refine g_nmD hd12 ?_
    refine g_aload_n C dX12_makeStatement_124 0 rfl ?_
    refine g_get C (.ref (w_r w 293)) 292 q_292 fk_M_7 rfl dX12_makeStatement_125 ?_
    refine g_iconst C dX12_makeStatement_128 (v := 4) rfl ?_
    refine g_iald C 293 q_293 (by decide) 4 (by decide) dX12_makeStatement_129 ?_
    refine g_iconst C dX12_makeStatement_130 (v := 1) rfl ?_
    refine g_isub C dX12_makeStatement_131  ?_
    exact g_iret C hr hlk rfl (congrArg Prod.snd (Option.some.inj h)) (congrArg (fun z => some (Value.int z.1)) (Option.some.inj h)) dX12_makeStatement_132
  have R46 : ∀ (x1 : Int32) (x2 : Int32) (x3 : Int32) (v1 : Int32) (d : Dt), f_M_makeStatement_46 x1 x2 x3 v1 d = some (rE, dE) → gG w p l e R s m args below meth c 5 0 0 (gE w below args s dE (some (.int rE))) d [(0, .ref (w_r w 292)), (1, .int x1), (2, .int x2), (3, .int x3)] 46 [.int v1, .ref (w_r w 292)] := by
    intro x1 x2 x3 v1 d  h
    unfold f_M_makeStatement_46 at h
    obtain ⟨r13, d14, hc15, h⟩ := ob2_1 h
    refine g_callVi C 292 q_292 vk_M_61 hR rfl (m_M_fails C.2.2.2.2.2.2.1 hc15) rfl rfl rfl dX12_makeStatement_46 rfl rfl ?_
    refine g_if_eq C dX12_makeStatement_49 (tgt := 54) rfl (fun q => ?_) (fun q => ?_)
    · replace h := it_t q h
      refine g_aload_n C dX12_makeStatement_54 0 rfl ?_
      refine g_aload_n C dX12_makeStatement_55 0 rfl ?_
      refine g_get C (.ref (w_r w 293)) 292 q_292 fk_M_7 rfl dX12_makeStatement_56 ?_
      obtain ⟨d16, hc17, h⟩ := ob1_1 h
      refine g_callVv C 292 q_292 vk_M_64 hR rfl (m_M_keeps C.2.2.2.2.2.2.1 hc17) rfl rfl rfl dX12_makeStatement_59 rfl rfl ?_
      refine g_sipush C dX12_makeStatement_62 (v := 151) (by decide) ?_
      refine g_iconst C dX12_makeStatement_65 (v := 3) rfl ?_
      refine g_aload_n C dX12_makeStatement_66 0 rfl ?_
      refine g_get C (.ref (w_r w 293)) 292 q_292 fk_M_7 rfl dX12_makeStatement_67 ?_
      refine g_iconst C dX12_makeStatement_70 (v := 4) rfl ?_
      refine g_iald C 293 q_293 (by decide) 4 (by decide) dX12_makeStatement_71 ?_
      refine g_imul C dX12_makeStatement_72  ?_
      refine g_iadd C dX12_makeStatement_73  ?_
      refine g_istore C (lv' := [(4, .int (151 + (3 * (d16 293 4)))), (0, .ref (w_r w 292)), (1, .int x1), (2, .int x2), (3, .int x3)]) dX12_makeStatement_74 (by decide) rfl ?_
      refine g_aload_n C dX12_makeStatement_76 1 rfl ?_
      refine g_get C (.ref (w_r w 293)) 292 q_292 fk_M_7 rfl dX12_makeStatement_77 ?_
      refine g_iload C dX12_makeStatement_80 0 rfl ?_
      refine g_iconst C dX12_makeStatement_82 (v := 0) rfl ?_
      refine g_iadd C dX12_makeStatement_83  ?_
      refine g_iload_n C dX12_makeStatement_84 2 rfl ?_
      have hg18 := gd_1 h
      replace h := gd_2 h
      refine g_iast C 293 q_293 hg18 _ rfl  dX12_makeStatement_85 ?_
      obtain ⟨d19, hd19, h⟩ := bnd_1 h
      refine g_nmD hd19 ?_
      refine g_aload_n C dX12_makeStatement_86 1 rfl ?_
      refine g_get C (.ref (w_r w 293)) 292 q_292 fk_M_7 rfl dX12_makeStatement_87 ?_
      refine g_iload C dX12_makeStatement_90 0 rfl ?_
      refine g_iconst C dX12_makeStatement_92 (v := 1) rfl ?_
      refine g_iadd C dX12_makeStatement_93  ?_
      refine g_iload_n C dX12_makeStatement_94 3 rfl ?_
      have hg20 := gd_1 h
      replace h := gd_2 h
      refine g_iast C 293 q_293 hg20 _ rfl  dX12_makeStatement_95 ?_
      obtain ⟨d21, hd21, h⟩ := bnd_1 h
      refine g_nmD hd21 ?_
      refine g_aload_n C dX12_makeStatement_96 1 rfl ?_
      refine g_get C (.ref (w_r w 293)) 292 q_292 fk_M_7 rfl dX12_makeStatement_97 ?_
      refine g_iload C dX12_makeStatement_100 0 rfl ?_
      refine g_iconst C dX12_makeStatement_102 (v := 2) rfl ?_
      refine g_iadd C dX12_makeStatement_103  ?_
      refine g_iload_n C dX12_makeStatement_104 4 rfl ?_
      refine g_if_eq C dX12_makeStatement_105 (tgt := 112) rfl (fun q => ?_) (fun q => ?_)
      · replace h := it_t q h
        refine g_iconst C dX12_makeStatement_112 (v := 0) rfl ?_
        refine g_sub [1] (lv' := [(0, .ref (w_r w 292))]) rfl ?_
        exact R113 ((151 + (3 * (d16 293 4))) + 2) 0 d21 h
      · replace h := it_f q h
        refine g_iconst C dX12_makeStatement_108 (v := 1) rfl ?_
        refine g_goto C dX12_makeStatement_109 (tgt := 113) rfl ?_
        refine g_sub [1] (lv' := [(0, .ref (w_r w 292))]) rfl ?_
        exact R113 ((151 + (3 * (d16 293 4))) + 2) 1 d21 h
    · replace h := it_f q h
      refine g_iconst C dX12_makeStatement_52 (v := 0) rfl ?_
      exact g_iret C hr hlk rfl (congrArg Prod.snd (Option.some.inj h)) (congrArg (fun z => some (Value.int z.1)) (Option.some.inj h)) dX12_makeStatement_53
  have R17 : ∀ (x1 : Int32) (x2 : Int32) (x3 : Int32) (d : Dt), f_M_makeStatement_17 x1 x2 x3  d = some (rE, dE) → gG w p l e R s m args below meth c 5 0 0 (gE w below args s dE (some (.int rE))) d [(0, .ref (w_r w 292)), (1, .int x1), (2, .int x2), (3, .int x3)] 17 [.ref (w_r w 292)] := by
    intro x1 x2 x3  d  h
    unfold f_M_makeStatement_17 at h
    refine g_iconst C dX12_makeStatement_17 (v := 1) rfl ?_
    refine g_goto C dX12_makeStatement_18 (tgt := 46) rfl ?_
    exact R46 x1 x2 x3 1 d h
  unfold f_M_makeStatement at h
  refine g_aload_n C dX12_makeStatement_0 0 rfl ?_
  refine g_aload_n C dX12_makeStatement_1 0 rfl ?_
  refine g_iload_n C dX12_makeStatement_2 1 rfl ?_
  obtain ⟨r22, hc23, h⟩ := ob1_1 h
  refine g_callVi C 292 q_292 vk_M_57 hR rfl (m_M_isLantern C.2.2.2.2.2.2.1 hc23) rfl rfl rfl dX12_makeStatement_3 rfl rfl ?_
  refine g_if_eq C dX12_makeStatement_6 (tgt := 17) rfl (fun q => ?_) (fun q => ?_)
  · replace h := it_t q h
    exact R17 x1 x2 x3 d h
  · replace h := it_f q h
    refine g_aload_n C dX12_makeStatement_9 0 rfl ?_
    refine g_iload_n C dX12_makeStatement_10 2 rfl ?_
    obtain ⟨r24, hc25, h⟩ := ob1_1 h
    refine g_callVi C 292 q_292 vk_M_57 hR rfl (m_M_isLantern C.2.2.2.2.2.2.1 hc25) rfl rfl rfl dX12_makeStatement_11 rfl rfl ?_
    refine g_if_ne C dX12_makeStatement_14 (tgt := 21) rfl (fun q => ?_) (fun q => ?_)
    · replace h := it_f q h
      refine g_iload_n C dX12_makeStatement_21 1 rfl ?_
      refine g_iload_n C dX12_makeStatement_22 2 rfl ?_
      refine g_icmp_ne C dX12_makeStatement_23 (tgt := 30) rfl (fun q => ?_) (fun q => ?_)
      · replace h := it_f q h
        refine g_aload_n C dX12_makeStatement_30 0 rfl ?_
        refine g_get C (.ref (w_r w 293)) 292 q_292 fk_M_7 rfl dX12_makeStatement_31 ?_
        refine g_iconst C dX12_makeStatement_34 (v := 4) rfl ?_
        refine g_iald C 293 q_293 (by decide) 4 (by decide) dX12_makeStatement_35 ?_
        refine g_bipush C dX12_makeStatement_36 (v := 12) (by decide) ?_
        refine g_icmp_ne C dX12_makeStatement_38 (tgt := 45) rfl (fun q => ?_) (fun q => ?_)
        · replace h := it_f q h
          refine g_iconst C dX12_makeStatement_45 (v := 0) rfl ?_
          exact R46 x1 x2 x3 0 d h
        · replace h := it_t q h
          refine g_iconst C dX12_makeStatement_41 (v := 3) rfl ?_
          refine g_goto C dX12_makeStatement_42 (tgt := 46) rfl ?_
          exact R46 x1 x2 x3 3 d h
      · replace h := it_t q h
        refine g_iconst C dX12_makeStatement_26 (v := 2) rfl ?_
        refine g_goto C dX12_makeStatement_27 (tgt := 46) rfl ?_
        exact R46 x1 x2 x3 2 d h
    · replace h := it_t q h
      exact R17 x1 x2 x3 d h
set_option maxHeartbeats 4000000 in
set_option maxRecDepth 100000 in
theorem m_M_file {w : wT} {l : Launch} {x1 x2 x3 x4 : Int32} {d : Dt} {rE : Int32} {dE : Dt} (hO : okW w) (h : f_M_file x1 x2 x3 x4 d = some (rE, dE)) : gM w l yX12_file cX12_file 6 (Option.some Jvm.ClassFile.FieldType.int) 2 [.ref (w_r w 292), .int x1, .int x2, .int x3, .int x4] d dE (some (.int rE)) := by
  refine gM_of (by decide) [(0, .ref (w_r w 292)), (1, .int x1), (2, .int x2), (3, .int x3), (4, .int x4)] rfl rfl ?_ hO
  intro p e R s m args below meth c C hR hr hlk
  have R64 : ∀ (x1 : Int32) (x2 : Int32) (x3 : Int32) (x4 : Int32) (v1 : Int32) (d : Dt), f_M_file_64 x1 x2 x3 x4 v1 d = some (rE, dE) → gG w p l e R s m args below meth c 6 0 0 (gE w below args s dE (some (.int rE))) d [(0, .ref (w_r w 292)), (1, .int x1), (2, .int x2), (3, .int x3), (4, .int x4)] 64 [.int v1, .ref (w_r w 292)] := by
    intro x1 x2 x3 x4 v1 d  h
    unfold f_M_file_64 at h
    obtain ⟨r16, d17, hc18, h⟩ := ob2_1 h
    refine g_callVi C 292 q_292 vk_M_61 hR rfl (m_M_fails C.2.2.2.2.2.2.1 hc18) rfl rfl rfl dX12_file_64 rfl rfl ?_
    refine g_if_eq C dX12_file_67 (tgt := 72) rfl (fun q => ?_) (fun q => ?_)
    · replace h := it_t q h
      refine g_aload_n C dX12_file_72 0 rfl ?_
      refine g_aload_n C dX12_file_73 0 rfl ?_
      refine g_get C (.ref (w_r w 293)) 292 q_292 fk_M_7 rfl dX12_file_74 ?_
      obtain ⟨d19, hc20, h⟩ := ob1_1 h
      refine g_callVv C 292 q_292 vk_M_64 hR rfl (m_M_keeps C.2.2.2.2.2.2.1 hc20) rfl rfl rfl dX12_file_77 rfl rfl ?_
      refine g_bipush C dX12_file_80 (v := 101) (by decide) ?_
      refine g_iconst C dX12_file_82 (v := 5) rfl ?_
      refine g_aload_n C dX12_file_83 0 rfl ?_
      refine g_get C (.ref (w_r w 293)) 292 q_292 fk_M_7 rfl dX12_file_84 ?_
      refine g_iconst C dX12_file_87 (v := 3) rfl ?_
      refine g_iald C 293 q_293 (by decide) 3 (by decide) dX12_file_88 ?_
      refine g_imul C dX12_file_89  ?_
      refine g_iadd C dX12_file_90  ?_
      refine g_istore C (lv' := [(5, .int (101 + (5 * (d19 293 3)))), (0, .ref (w_r w 292)), (1, .int x1), (2, .int x2), (3, .int x3), (4, .int x4)]) dX12_file_91 (by decide) rfl ?_
      refine g_aload_n C dX12_file_93 1 rfl ?_
      refine g_get C (.ref (w_r w 293)) 292 q_292 fk_M_7 rfl dX12_file_94 ?_
      refine g_iload C dX12_file_97 0 rfl ?_
      refine g_iconst C dX12_file_99 (v := 0) rfl ?_
      refine g_iadd C dX12_file_100  ?_
      refine g_aload_n C dX12_file_101 1 rfl ?_
      refine g_get C (.ref (w_r w 293)) 292 q_292 fk_M_7 rfl dX12_file_102 ?_
      refine g_iconst C dX12_file_105 (v := 2) rfl ?_
      refine g_iald C 293 q_293 (by decide) 2 (by decide) dX12_file_106 ?_
      have hg21 := gd_1 h
      replace h := gd_2 h
      refine g_iast C 293 q_293 hg21 _ rfl  dX12_file_107 ?_
      obtain ⟨d22, hd22, h⟩ := bnd_1 h
      refine g_nmD hd22 ?_
      refine g_aload_n C dX12_file_108 1 rfl ?_
      refine g_get C (.ref (w_r w 293)) 292 q_292 fk_M_7 rfl dX12_file_109 ?_
      refine g_iload C dX12_file_112 0 rfl ?_
      refine g_iconst C dX12_file_114 (v := 1) rfl ?_
      refine g_iadd C dX12_file_115  ?_
      refine g_iload_n C dX12_file_116 2 rfl ?_
      have hg23 := gd_1 h
      replace h := gd_2 h
      refine g_iast C 293 q_293 hg23 _ rfl  dX12_file_117 ?_
      obtain ⟨d24, hd24, h⟩ := bnd_1 h
      refine g_nmD hd24 ?_
      refine g_aload_n C dX12_file_118 1 rfl ?_
      refine g_get C (.ref (w_r w 293)) 292 q_292 fk_M_7 rfl dX12_file_119 ?_
      refine g_iload C dX12_file_122 0 rfl ?_
      refine g_iconst C dX12_file_124 (v := 2) rfl ?_
      refine g_iadd C dX12_file_125  ?_
      refine g_aload_n C dX12_file_126 1 rfl ?_
      refine g_get C (.ref (w_r w 293)) 292 q_292 fk_M_7 rfl dX12_file_127 ?_
      refine g_iconst C dX12_file_130 (v := 1) rfl ?_
      refine g_iald C 293 q_293 (by decide) 1 (by decide) dX12_file_131 ?_
      refine g_iload_n C dX12_file_132 3 rfl ?_
      refine g_iadd C dX12_file_133  ?_
      have hg25 := gd_1 h
      replace h := gd_2 h
      refine g_iast C 293 q_293 hg25 _ rfl  dX12_file_134 ?_
      obtain ⟨d26, hd26, h⟩ := bnd_1 h
      refine g_nmD hd26 ?_
      refine g_aload_n C dX12_file_135 1 rfl ?_
      refine g_get C (.ref (w_r w 293)) 292 q_292 fk_M_7 rfl dX12_file_136 ?_
      refine g_iload C dX12_file_139 0 rfl ?_
      refine g_iconst C dX12_file_141 (v := 3) rfl ?_
      refine g_iadd C dX12_file_142  ?_
      refine g_iload_n C dX12_file_143 4 rfl ?_
      have hg27 := gd_1 h
      replace h := gd_2 h
      refine g_iast C 293 q_293 hg27 _ rfl  dX12_file_144 ?_
      obtain ⟨d28, hd28, h⟩ := bnd_1 h
      refine g_nmD hd28 ?_
      refine g_aload_n C dX12_file_145 1 rfl ?_
      refine g_get C (.ref (w_r w 293)) 292 q_292 fk_M_7 rfl dX12_file_146 ?_
      refine g_iload C dX12_file_149 0 rfl ?_
      refine g_iconst C dX12_file_151 (v := 4) rfl ?_
      refine g_iadd C dX12_file_152  ?_
      refine g_iload C dX12_file_153 5 rfl ?_
      have hg29 := gd_1 h
      replace h := gd_2 h
      refine g_iast C 293 q_293 hg29 _ rfl  dX12_file_155 ?_
      obtain ⟨d30, hd30, h⟩ := bnd_1 h
      refine g_nmD hd30 ?_
      refine g_aload_n C dX12_file_156 1 rfl ?_
      refine g_get C (.ref (w_r w 293)) 292 q_292 fk_M_7 rfl dX12_file_157 ?_
      refine g_iconst C dX12_file_160 (v := 3) rfl ?_
      refine g_dup2 C dX12_file_161 rfl rfl ?_
      refine g_iald C 293 q_293 (by decide) 3 (by decide) dX12_file_162 ?_
      refine g_iconst C dX12_file_163 (v := 1) rfl ?_
      refine g_iadd C dX12_file_164  ?_
      refine g_iast C 293 q_293 (by decide) 3 (by decide)  dX12_file_165 ?_
      obtain ⟨d31, hd31, h⟩ := bnd_1 h
      refine g_nmD hd31 ?_
      refine g_aload_n C dX12_file_166 1 rfl ?_
      refine g_get C (.ref (w_r w 293)) 292 q_292 fk_M_7 rfl dX12_file_167 ?_
      refine g_iconst C dX12_file_170 (v := 2) rfl ?_
      refine g_dup2 C dX12_file_171 rfl rfl ?_
      refine g_iald C 293 q_293 (by decide) 2 (by decide) dX12_file_172 ?_
      refine g_iconst C dX12_file_173 (v := 1) rfl ?_
      refine g_iadd C dX12_file_174  ?_
      refine g_iast C 293 q_293 (by decide) 2 (by decide)  dX12_file_175 ?_
      obtain ⟨d32, hd32, h⟩ := bnd_1 h
      refine g_nmD hd32 ?_
      refine g_aload_n C dX12_file_176 1 rfl ?_
      refine g_get C (.ref (w_r w 293)) 292 q_292 fk_M_7 rfl dX12_file_177 ?_
      refine g_bipush C dX12_file_180 (v := 6) (by decide) ?_
      refine g_dup2 C dX12_file_182 rfl rfl ?_
      refine g_iald C 293 q_293 (by decide) 6 (by decide) dX12_file_183 ?_
      refine g_iload_n C dX12_file_184 4 rfl ?_
      refine g_iadd C dX12_file_185  ?_
      refine g_iast C 293 q_293 (by decide) 6 (by decide)  dX12_file_186 ?_
      obtain ⟨d33, hd33, h⟩ := bnd_1 h
      refine g_nmD hd33 ?_
      refine g_aload_n C dX12_file_187 1 rfl ?_
      refine g_get C (.ref (w_r w 293)) 292 q_292 fk_M_7 rfl dX12_file_188 ?_
      refine g_iconst C dX12_file_191 (v := 2) rfl ?_
      refine g_iald C 293 q_293 (by decide) 2 (by decide) dX12_file_192 ?_
      refine g_iconst C dX12_file_193 (v := 1) rfl ?_
      refine g_isub C dX12_file_194  ?_
      exact g_iret C hr hlk rfl (congrArg Prod.snd (Option.some.inj h)) (congrArg (fun z => some (Value.int z.1)) (Option.some.inj h)) dX12_file_195
    · replace h := it_f q h
      refine g_iconst C dX12_file_70 (v := 0) rfl ?_
      exact g_iret C hr hlk rfl (congrArg Prod.snd (Option.some.inj h)) (congrArg (fun z => some (Value.int z.1)) (Option.some.inj h)) dX12_file_71
  have R44 : ∀ (x1 : Int32) (x2 : Int32) (x3 : Int32) (x4 : Int32) (d : Dt), f_M_file_44 x1 x2 x3 x4  d = some (rE, dE) → gG w p l e R s m args below meth c 6 0 0 (gE w below args s dE (some (.int rE))) d [(0, .ref (w_r w 292)), (1, .int x1), (2, .int x2), (3, .int x3), (4, .int x4)] 44 [.ref (w_r w 292)] := by
    intro x1 x2 x3 x4  d  h
    unfold f_M_file_44 at h
    refine g_iconst C dX12_file_44 (v := 2) rfl ?_
    refine g_goto C dX12_file_45 (tgt := 64) rfl ?_
    exact R64 x1 x2 x3 x4 2 d h
  unfold f_M_file at h
  refine g_aload_n C dX12_file_0 0 rfl ?_
  refine g_aload_n C dX12_file_1 0 rfl ?_
  refine g_iload_n C dX12_file_2 1 rfl ?_
  obtain ⟨r34, hc35, h⟩ := ob1_1 h
  refine g_callVi C 292 q_292 vk_M_57 hR rfl (m_M_isLantern C.2.2.2.2.2.2.1 hc35) rfl rfl rfl dX12_file_3 rfl rfl ?_
  refine g_if_ne C dX12_file_6 (tgt := 13) rfl (fun q => ?_) (fun q => ?_)
  · replace h := it_f q h
    refine g_iload_n C dX12_file_13 2 rfl ?_
    refine g_iconst C dX12_file_14 (v := 1) rfl ?_
    refine g_bipush C dX12_file_15 (v := 12) (by decide) ?_
    obtain ⟨r36, hc37, h⟩ := ob1_1 h
    refine g_callSi C sk_M_53 hR rfl (m_M_in C.2.2.2.2.2.2.1 hc37) rfl rfl rfl dX12_file_17 rfl rfl ?_
    refine g_if_eq C dX12_file_20 (tgt := 44) rfl (fun q => ?_) (fun q => ?_)
    · replace h := it_t q h
      exact R44 x1 x2 x3 x4 d h
    · replace h := it_f q h
      refine g_iload_n C dX12_file_23 3 rfl ?_
      refine g_iconst C dX12_file_24 (v := 1) rfl ?_
      refine g_bipush C dX12_file_25 (v := 50) (by decide) ?_
      obtain ⟨r38, hc39, h⟩ := ob1_1 h
      refine g_callSi C sk_M_53 hR rfl (m_M_in C.2.2.2.2.2.2.1 hc39) rfl rfl rfl dX12_file_27 rfl rfl ?_
      refine g_if_eq C dX12_file_30 (tgt := 44) rfl (fun q => ?_) (fun q => ?_)
      · replace h := it_t q h
        exact R44 x1 x2 x3 x4 d h
      · replace h := it_f q h
        refine g_iload C dX12_file_33 4 rfl ?_
        refine g_iconst C dX12_file_35 (v := 1) rfl ?_
        refine g_bipush C dX12_file_36 (v := 9) (by decide) ?_
        obtain ⟨r40, hc41, h⟩ := ob1_1 h
        refine g_callSi C sk_M_53 hR rfl (m_M_in C.2.2.2.2.2.2.1 hc41) rfl rfl rfl dX12_file_38 rfl rfl ?_
        refine g_if_ne C dX12_file_41 (tgt := 48) rfl (fun q => ?_) (fun q => ?_)
        · replace h := it_f q h
          refine g_aload_n C dX12_file_48 0 rfl ?_
          refine g_get C (.ref (w_r w 293)) 292 q_292 fk_M_7 rfl dX12_file_49 ?_
          refine g_iconst C dX12_file_52 (v := 3) rfl ?_
          refine g_iald C 293 q_293 (by decide) 3 (by decide) dX12_file_53 ?_
          refine g_bipush C dX12_file_54 (v := 10) (by decide) ?_
          refine g_icmp_ne C dX12_file_56 (tgt := 63) rfl (fun q => ?_) (fun q => ?_)
          · replace h := it_f q h
            refine g_iconst C dX12_file_63 (v := 0) rfl ?_
            exact R64 x1 x2 x3 x4 0 d h
          · replace h := it_t q h
            refine g_iconst C dX12_file_59 (v := 3) rfl ?_
            refine g_goto C dX12_file_60 (tgt := 64) rfl ?_
            exact R64 x1 x2 x3 x4 3 d h
        · replace h := it_t q h
          exact R44 x1 x2 x3 x4 d h
  · replace h := it_t q h
    refine g_iconst C dX12_file_9 (v := 1) rfl ?_
    refine g_goto C dX12_file_10 (tgt := 64) rfl ?_
    exact R64 x1 x2 x3 x4 1 d h
set_option maxHeartbeats 4000000 in
set_option maxRecDepth 100000 in
theorem m_M_goes {w : wT} {l : Launch} {x1 : Int32} {d : Dt} {dE : Dt} (hO : okW w) (h : f_M_goes x1 d = some dE) : gM w l yX12_goes cX12_goes 3 (Option.none : Option Jvm.ClassFile.FieldType) 0 [.ref (w_r w 292), .int x1] d dE none := by
  refine gM_of (by decide) [(0, .ref (w_r w 292)), (1, .int x1)] rfl rfl ?_ hO
  intro p e R s m args below meth c C hR hr hlk
  have R54 : ∀ (x2 : Int32) (d : Dt), f_M_goes_54 x2 d = some dE → gG w p l e R s m args below meth c 3 0 0 (gE w below args s dE none) d [(0, .ref (w_r w 292)), (2, .int x2)] 54 [] := by
    intro x2 d  h
    refine iter_ind (G := fun s_ : (Int32 × Dt) => gG w p l e R s m args below meth c 3 0 0 (gE w below args s dE none) s_.2 [(0, .ref (w_r w 292)), (2, .int s_.1)] 54 []) ?_ fu _ h
    clear h
    intro s_ y1 h hl1 hx1
    obtain ⟨x2, d⟩ := s_
    show gG w p l e R s m args below meth c 3 0 0 (gE w below args s dE none) d [(0, .ref (w_r w 292)), (2, .int x2)] 54 []
    dsimp only at h
    unfold st_M_goes_54 at h
    refine g_iload_n C dX12_goes_54 1 rfl ?_
    refine g_iconst C dX12_goes_55 (v := 5) rfl ?_
    refine g_icmp_ge C dX12_goes_56 (tgt := 84) rfl (fun q => ?_) (fun q => ?_)
    · replace h := it_t q h
      replace h := ir_2 h hx1
      exact g_vret C hr hlk (Option.some.inj h) rfl dX12_goes_84
    · replace h := it_f q h
      refine g_aload_n C dX12_goes_59 0 rfl ?_
      refine g_get C (.ref (w_r w 293)) 292 q_292 fk_M_7 rfl dX12_goes_60 ?_
      refine g_bipush C dX12_goes_63 (v := 101) (by decide) ?_
      refine g_iconst C dX12_goes_65 (v := 5) rfl ?_
      refine g_aload_n C dX12_goes_66 0 rfl ?_
      refine g_get C (.ref (w_r w 293)) 292 q_292 fk_M_7 rfl dX12_goes_67 ?_
      refine g_iconst C dX12_goes_70 (v := 3) rfl ?_
      refine g_iald C 293 q_293 (by decide) 3 (by decide) dX12_goes_71 ?_
      refine g_imul C dX12_goes_72  ?_
      refine g_iadd C dX12_goes_73  ?_
      refine g_iload_n C dX12_goes_74 1 rfl ?_
      refine g_iadd C dX12_goes_75  ?_
      refine g_iconst C dX12_goes_76 (v := 0) rfl ?_
      have hg4 := gd_1 h
      replace h := gd_2 h
      refine g_iast C 293 q_293 hg4 _ rfl  dX12_goes_77 ?_
      obtain ⟨d5, hd5, h⟩ := bnd_1 h
      refine g_nmD hd5 ?_
      refine g_iinc C (lv' := [(2, .int (x2 + 1)), (0, .ref (w_r w 292))]) (v := (x2 + 1)) dX12_goes_78 1 rfl rfl (by decide) rfl ?_
      refine g_goto C dX12_goes_81 (tgt := 54) rfl ?_
      refine g_sub [1, 0] (lv' := [(0, .ref (w_r w 292)), (2, .int (x2 + 1))]) rfl ?_
      exact hl1 ((x2 + 1), d5) (Option.some.inj h).symm
  have R17 : ∀ (x2 : Int32) (d : Dt), f_M_goes_17 x2 d = some dE → gG w p l e R s m args below meth c 3 0 0 (gE w below args s dE none) d [(0, .ref (w_r w 292)), (2, .int x2)] 17 [] := by
    intro x2 d  h
    refine iter_ind (G := fun s_ : (Int32 × Dt) => gG w p l e R s m args below meth c 3 0 0 (gE w below args s dE none) s_.2 [(0, .ref (w_r w 292)), (2, .int s_.1)] 17 []) ?_ fu _ h
    clear h
    intro s_ y1 h hl1 hx1
    obtain ⟨x2, d⟩ := s_
    show gG w p l e R s m args below meth c 3 0 0 (gE w below args s dE none) d [(0, .ref (w_r w 292)), (2, .int x2)] 17 []
    dsimp only at h
    unfold st_M_goes_17 at h
    refine g_iload_n C dX12_goes_17 1 rfl ?_
    refine g_bipush C dX12_goes_18 (v := 101) (by decide) ?_
    refine g_iconst C dX12_goes_20 (v := 5) rfl ?_
    refine g_aload_n C dX12_goes_21 0 rfl ?_
    refine g_get C (.ref (w_r w 293)) 292 q_292 fk_M_7 rfl dX12_goes_22 ?_
    refine g_iconst C dX12_goes_25 (v := 3) rfl ?_
    refine g_iald C 293 q_293 (by decide) 3 (by decide) dX12_goes_26 ?_
    refine g_imul C dX12_goes_27  ?_
    refine g_iadd C dX12_goes_28  ?_
    refine g_icmp_ge C dX12_goes_29 (tgt := 52) rfl (fun q => ?_) (fun q => ?_)
    · replace h := it_t q h
      replace h := ir_2 h hx1
      refine g_iconst C dX12_goes_52 (v := 0) rfl ?_
      refine g_istore_n C (lv' := [(2, .int 0), (0, .ref (w_r w 292))]) dX12_goes_53 (by decide) rfl ?_
      refine g_sub [1, 0] (lv' := [(0, .ref (w_r w 292)), (2, .int 0)]) rfl ?_
      exact R54 0 d h
    · replace h := it_f q h
      refine g_aload_n C dX12_goes_32 0 rfl ?_
      refine g_get C (.ref (w_r w 293)) 292 q_292 fk_M_7 rfl dX12_goes_33 ?_
      refine g_iload_n C dX12_goes_36 1 rfl ?_
      refine g_aload_n C dX12_goes_37 0 rfl ?_
      refine g_get C (.ref (w_r w 293)) 292 q_292 fk_M_7 rfl dX12_goes_38 ?_
      refine g_iload_n C dX12_goes_41 1 rfl ?_
      refine g_iconst C dX12_goes_42 (v := 5) rfl ?_
      refine g_iadd C dX12_goes_43  ?_
      have hg6 := gd_1 h
      replace h := gd_2 h
      refine g_iald C 293 q_293 hg6 _ rfl dX12_goes_44 ?_
      have hg7 := gd_1 h
      replace h := gd_2 h
      refine g_iast C 293 q_293 hg7 _ rfl  dX12_goes_45 ?_
      obtain ⟨d8, hd8, h⟩ := bnd_1 h
      refine g_nmD hd8 ?_
      refine g_iinc C (lv' := [(2, .int (x2 + 1)), (0, .ref (w_r w 292))]) (v := (x2 + 1)) dX12_goes_46 1 rfl rfl (by decide) rfl ?_
      refine g_goto C dX12_goes_49 (tgt := 17) rfl ?_
      refine g_sub [1, 0] (lv' := [(0, .ref (w_r w 292)), (2, .int (x2 + 1))]) rfl ?_
      exact hl1 ((x2 + 1), d8) (Option.some.inj h).symm
  unfold f_M_goes at h
  refine g_aload_n C dX12_goes_0 0 rfl ?_
  refine g_get C (.ref (w_r w 293)) 292 q_292 fk_M_7 rfl dX12_goes_1 ?_
  refine g_iconst C dX12_goes_4 (v := 3) rfl ?_
  refine g_dup2 C dX12_goes_5 rfl rfl ?_
  refine g_iald C 293 q_293 (by decide) 3 (by decide) dX12_goes_6 ?_
  refine g_iconst C dX12_goes_7 (v := 1) rfl ?_
  refine g_isub C dX12_goes_8  ?_
  refine g_iast C 293 q_293 (by decide) 3 (by decide)  dX12_goes_9 ?_
  obtain ⟨d9, hd9, h⟩ := bnd_1 h
  refine g_nmD hd9 ?_
  refine g_bipush C dX12_goes_10 (v := 101) (by decide) ?_
  refine g_iconst C dX12_goes_12 (v := 5) rfl ?_
  refine g_iload_n C dX12_goes_13 1 rfl ?_
  refine g_imul C dX12_goes_14  ?_
  refine g_iadd C dX12_goes_15  ?_
  refine g_istore_n C (lv' := [(2, .int (101 + (5 * x1))), (0, .ref (w_r w 292)), (1, .int x1)]) dX12_goes_16 (by decide) rfl ?_
  refine g_sub [1, 0] (lv' := [(0, .ref (w_r w 292)), (2, .int (101 + (5 * x1)))]) rfl ?_
  exact R17 (101 + (5 * x1)) d9 h
set_option maxHeartbeats 4000000 in
set_option maxRecDepth 100000 in
theorem m_M_placeOf {w : wT} {l : Launch} {x1 : Int32} {d : Dt} {rE : Int32} (hO : okW w) (h : f_M_placeOf x1 d = some rE) : gM w l yX12_placeOf cX12_placeOf 3 (Option.some Jvm.ClassFile.FieldType.int) 1 [.ref (w_r w 292), .int x1] d d (some (.int rE)) := by
  refine gM_of (by decide) [(0, .ref (w_r w 292)), (1, .int x1)] rfl rfl ?_ hO
  intro p e R s m args below meth c C hR hr hlk
  have R2 : ∀ (x1 : Int32) (x2 : Int32), f_M_placeOf_2 x1 x2 d = some rE → gG w p l e R s m args below meth c 3 0 0 (gE w below args s d (some (.int rE))) d [(0, .ref (w_r w 292)), (1, .int x1), (2, .int x2)] 2 [] := by
    intro x1 x2   h
    refine iter_ind (G := fun s_ : (Int32) => gG w p l e R s m args below meth c 3 0 0 (gE w below args s d (some (.int rE))) d [(0, .ref (w_r w 292)), (1, .int x1), (2, .int s_)] 2 []) ?_ fu _ h
    clear h
    intro x2 y1 h hl1 hx1
    show gG w p l e R s m args below meth c 3 0 0 (gE w below args s d (some (.int rE))) d [(0, .ref (w_r w 292)), (1, .int x1), (2, .int x2)] 2 []
    unfold st_M_placeOf_2 at h
    refine g_iload_n C dX12_placeOf_2 2 rfl ?_
    refine g_aload_n C dX12_placeOf_3 0 rfl ?_
    refine g_get C (.ref (w_r w 293)) 292 q_292 fk_M_7 rfl dX12_placeOf_4 ?_
    refine g_iconst C dX12_placeOf_7 (v := 3) rfl ?_
    refine g_iald C 293 q_293 (by decide) 3 (by decide) dX12_placeOf_8 ?_
    refine g_icmp_ge C dX12_placeOf_9 (tgt := 30) rfl (fun q => ?_) (fun q => ?_)
    · replace h := it_t q h
      replace h := ir_2 h hx1
      refine g_iconst C dX12_placeOf_30 (v := (-1)) (by decide) ?_
      exact g_iret C hr hlk rfl rfl (congrArg (fun z => some (Value.int z)) (Option.some.inj h)) dX12_placeOf_31
    · replace h := it_f q h
      refine g_aload_n C dX12_placeOf_12 0 rfl ?_
      refine g_iload_n C dX12_placeOf_13 2 rfl ?_
      refine g_iconst C dX12_placeOf_14 (v := 0) rfl ?_
      obtain ⟨r2, hc3, h⟩ := ob1_1 h
      refine g_callVi C 292 q_292 vk_M_72 hR rfl (m_M_brief C.2.2.2.2.2.2.1 hc3) rfl rfl rfl dX12_placeOf_15 rfl rfl ?_
      refine g_iload_n C dX12_placeOf_18 1 rfl ?_
      refine g_icmp_ne C dX12_placeOf_19 (tgt := 24) rfl (fun q => ?_) (fun q => ?_)
      · replace h := it_f q h
        refine g_iinc C (lv' := [(2, .int (x2 + 1)), (0, .ref (w_r w 292)), (1, .int x1)]) (v := (x2 + 1)) dX12_placeOf_24 2 rfl rfl (by decide) rfl ?_
        refine g_goto C dX12_placeOf_27 (tgt := 2) rfl ?_
        refine g_sub [1, 2, 0] (lv' := [(0, .ref (w_r w 292)), (1, .int x1), (2, .int (x2 + 1))]) rfl ?_
        exact hl1 (x2 + 1) (Option.some.inj h).symm
      · replace h := it_t q h
        replace h := ir_2 h hx1
        refine g_iload_n C dX12_placeOf_22 2 rfl ?_
        exact g_iret C hr hlk rfl rfl (congrArg (fun z => some (Value.int z)) (Option.some.inj h)) dX12_placeOf_23
  unfold f_M_placeOf at h
  refine g_iconst C dX12_placeOf_0 (v := 0) rfl ?_
  refine g_istore_n C (lv' := [(2, .int 0), (0, .ref (w_r w 292)), (1, .int x1)]) dX12_placeOf_1 (by decide) rfl ?_
  refine g_sub [1, 2, 0] (lv' := [(0, .ref (w_r w 292)), (1, .int x1), (2, .int 0)]) rfl ?_
  exact R2 x1 0 h
set_option maxHeartbeats 4000000 in
set_option maxRecDepth 100000 in
theorem m_M_withdraw {w : wT} {l : Launch} {x1 : Int32} {d : Dt} {rE : Int32} {dE : Dt} (hO : okW w) (h : f_M_withdraw x1 d = some (rE, dE)) : gM w l yX12_withdraw cX12_withdraw 4 (Option.some Jvm.ClassFile.FieldType.int) 2 [.ref (w_r w 292), .int x1] d dE (some (.int rE)) := by
  refine gM_of (by decide) [(0, .ref (w_r w 292)), (1, .int x1)] rfl rfl ?_ hO
  intro p e R s m args below meth c C hR hr hlk
  have R16 : ∀ (x2 : Int32) (v1 : Int32) (d : Dt), f_M_withdraw_16 x2 v1 d = some (rE, dE) → gG w p l e R s m args below meth c 4 0 0 (gE w below args s dE (some (.int rE))) d [(0, .ref (w_r w 292)), (2, .int x2)] 16 [.int v1, .ref (w_r w 292)] := by
    intro x2 v1 d  h
    unfold f_M_withdraw_16 at h
    obtain ⟨r8, d9, hc10, h⟩ := ob2_1 h
    refine g_callVi C 292 q_292 vk_M_61 hR rfl (m_M_fails C.2.2.2.2.2.2.1 hc10) rfl rfl rfl dX12_withdraw_16 rfl rfl ?_
    refine g_if_eq C dX12_withdraw_19 (tgt := 24) rfl (fun q => ?_) (fun q => ?_)
    · replace h := it_t q h
      refine g_aload_n C dX12_withdraw_24 0 rfl ?_
      refine g_aload_n C dX12_withdraw_25 0 rfl ?_
      refine g_get C (.ref (w_r w 293)) 292 q_292 fk_M_7 rfl dX12_withdraw_26 ?_
      obtain ⟨d11, hc12, h⟩ := ob1_1 h
      refine g_callVv C 292 q_292 vk_M_64 hR rfl (m_M_keeps C.2.2.2.2.2.2.1 hc12) rfl rfl rfl dX12_withdraw_29 rfl rfl ?_
      refine g_aload_n C dX12_withdraw_32 0 rfl ?_
      refine g_iload_n C dX12_withdraw_33 1 rfl ?_
      refine g_iconst C dX12_withdraw_34 (v := 3) rfl ?_
      obtain ⟨r13, hc14, h⟩ := ob1_1 h
      refine g_callVi C 292 q_292 vk_M_72 hR rfl (m_M_brief C.2.2.2.2.2.2.1 hc14) rfl rfl rfl dX12_withdraw_35 rfl rfl ?_
      refine g_iconst C dX12_withdraw_38 (v := 2) rfl ?_
      refine g_idiv C dX12_withdraw_39 (by decide) ?_
      refine g_istore_n C (lv' := [(3, .int (r13 / 2)), (0, .ref (w_r w 292)), (2, .int x2)]) dX12_withdraw_40 (by decide) rfl ?_
      refine g_aload_n C dX12_withdraw_41 1 rfl ?_
      refine g_get C (.ref (w_r w 293)) 292 q_292 fk_M_7 rfl dX12_withdraw_42 ?_
      refine g_iconst C dX12_withdraw_45 (v := 5) rfl ?_
      refine g_dup2 C dX12_withdraw_46 rfl rfl ?_
      refine g_iald C 293 q_293 (by decide) 5 (by decide) dX12_withdraw_47 ?_
      refine g_iload_n C dX12_withdraw_48 0 rfl ?_
      refine g_iadd C dX12_withdraw_49  ?_
      refine g_iast C 293 q_293 (by decide) 5 (by decide)  dX12_withdraw_50 ?_
      obtain ⟨d15, hd15, h⟩ := bnd_1 h
      refine g_nmD hd15 ?_
      refine g_aload_n C dX12_withdraw_51 1 rfl ?_
      refine g_iload_n C dX12_withdraw_52 2 rfl ?_
      obtain ⟨d16, hc17, h⟩ := ob1_1 h
      refine g_callVv C 292 q_292 vk_M_80 hR rfl (m_M_goes C.2.2.2.2.2.2.1 hc17) rfl rfl rfl dX12_withdraw_53 rfl rfl ?_
      refine g_iload_n C dX12_withdraw_56 0 rfl ?_
      exact g_iret C hr hlk rfl (congrArg Prod.snd (Option.some.inj h)) (congrArg (fun z => some (Value.int z.1)) (Option.some.inj h)) dX12_withdraw_57
    · replace h := it_f q h
      refine g_iconst C dX12_withdraw_22 (v := 0) rfl ?_
      exact g_iret C hr hlk rfl (congrArg Prod.snd (Option.some.inj h)) (congrArg (fun z => some (Value.int z.1)) (Option.some.inj h)) dX12_withdraw_23
  unfold f_M_withdraw at h
  refine g_aload_n C dX12_withdraw_0 0 rfl ?_
  refine g_iload_n C dX12_withdraw_1 1 rfl ?_
  obtain ⟨r18, hc19, h⟩ := ob1_1 h
  refine g_callVi C 292 q_292 vk_M_76 hR rfl (m_M_placeOf C.2.2.2.2.2.2.1 hc19) rfl rfl rfl dX12_withdraw_2 rfl rfl ?_
  refine g_istore_n C (lv' := [(2, .int r18), (0, .ref (w_r w 292)), (1, .int x1)]) dX12_withdraw_5 (by decide) rfl ?_
  refine g_aload_n C dX12_withdraw_6 1 rfl ?_
  refine g_iload_n C dX12_withdraw_7 0 rfl ?_
  refine g_if_ge C dX12_withdraw_8 (tgt := 15) rfl (fun q => ?_) (fun q => ?_)
  · replace h := it_t q h
    refine g_iconst C dX12_withdraw_15 (v := 0) rfl ?_
    refine g_sub [1, 0] (lv' := [(0, .ref (w_r w 292)), (2, .int r18)]) rfl ?_
    exact R16 r18 0 d h
  · replace h := it_f q h
    refine g_iconst C dX12_withdraw_11 (v := 1) rfl ?_
    refine g_goto C dX12_withdraw_12 (tgt := 16) rfl ?_
    refine g_sub [1, 0] (lv' := [(0, .ref (w_r w 292)), (2, .int r18)]) rfl ?_
    exact R16 r18 1 d h
set_option maxHeartbeats 4000000 in
set_option maxRecDepth 100000 in
theorem m_M_isStatement {w : wT} {l : Launch} {x1 : Int32} {d : Dt} {rE : Int32} (hO : okW w) (h : f_M_isStatement x1 d = some rE) : gM w l yX12_isStatement cX12_isStatement 2 (Option.some Jvm.ClassFile.FieldType.boolean) 1 [.ref (w_r w 292), .int x1] d d (some (.int rE)) := by
  refine gM_of (by decide) [(0, .ref (w_r w 292)), (1, .int x1)] rfl rfl ?_ hO
  intro p e R s m args below meth c C hR hr hlk
  unfold f_M_isStatement at h
  refine g_iload_n C dX12_isStatement_0 1 rfl ?_
  refine g_iconst C dX12_isStatement_1 (v := 0) rfl ?_
  refine g_aload_n C dX12_isStatement_2 0 rfl ?_
  refine g_get C (.ref (w_r w 293)) 292 q_292 fk_M_7 rfl dX12_isStatement_3 ?_
  refine g_iconst C dX12_isStatement_6 (v := 4) rfl ?_
  refine g_iald C 293 q_293 (by decide) 4 (by decide) dX12_isStatement_7 ?_
  refine g_iconst C dX12_isStatement_8 (v := 1) rfl ?_
  refine g_isub C dX12_isStatement_9  ?_
  obtain ⟨r2, hc3, h⟩ := ob1_1 h
  refine g_callSi C sk_M_53 hR rfl (m_M_in C.2.2.2.2.2.2.1 hc3) rfl rfl rfl dX12_isStatement_10 rfl rfl ?_
  have hg4 := gd_1 h
  replace h := gd_2 h
  exact g_iret C hr hlk (nar_n hg4) rfl (congrArg (fun z => some (Value.int z)) (Option.some.inj h)) dX12_isStatement_13
set_option maxHeartbeats 4000000 in
set_option maxRecDepth 100000 in
theorem m_M_dropStatement {w : wT} {l : Launch} {x1 : Int32} {d : Dt} {rE : Int32} {dE : Dt} (hO : okW w) (h : f_M_dropStatement x1 d = some (rE, dE)) : gM w l yX12_dropStatement cX12_dropStatement 3 (Option.some Jvm.ClassFile.FieldType.int) 2 [.ref (w_r w 292), .int x1] d dE (some (.int rE)) := by
  refine gM_of (by decide) [(0, .ref (w_r w 292)), (1, .int x1)] rfl rfl ?_ hO
  intro p e R s m args below meth c C hR hr hlk
  have R86 : ∀ (x2 : Int32) (d : Dt), f_M_dropStatement_86 x2 d = some (rE, dE) → gG w p l e R s m args below meth c 3 0 0 (gE w below args s dE (some (.int rE))) d [(0, .ref (w_r w 292)), (2, .int x2)] 86 [] := by
    intro x2 d  h
    refine iter_ind (G := fun s_ : (Int32 × Dt) => gG w p l e R s m args below meth c 3 0 0 (gE w below args s dE (some (.int rE))) s_.2 [(0, .ref (w_r w 292)), (2, .int s_.1)] 86 []) ?_ fu _ h
    clear h
    intro s_ y1 h hl1 hx1
    obtain ⟨x2, d⟩ := s_
    show gG w p l e R s m args below meth c 3 0 0 (gE w below args s dE (some (.int rE))) d [(0, .ref (w_r w 292)), (2, .int x2)] 86 []
    dsimp only at h
    unfold st_M_dropStatement_86 at h
    refine g_iload_n C dX12_dropStatement_86 1 rfl ?_
    refine g_iconst C dX12_dropStatement_87 (v := 3) rfl ?_
    refine g_icmp_ge C dX12_dropStatement_88 (tgt := 117) rfl (fun q => ?_) (fun q => ?_)
    · replace h := it_t q h
      replace h := ir_2 h hx1
      refine g_aload_n C dX12_dropStatement_117 0 rfl ?_
      refine g_get C (.ref (w_r w 293)) 292 q_292 fk_M_7 rfl dX12_dropStatement_118 ?_
      refine g_iconst C dX12_dropStatement_121 (v := 4) rfl ?_
      refine g_iald C 293 q_293 (by decide) 4 (by decide) dX12_dropStatement_122 ?_
      exact g_iret C hr hlk rfl (congrArg Prod.snd (Option.some.inj h)) (congrArg (fun z => some (Value.int z.1)) (Option.some.inj h)) dX12_dropStatement_123
    · replace h := it_f q h
      refine g_aload_n C dX12_dropStatement_91 0 rfl ?_
      refine g_get C (.ref (w_r w 293)) 292 q_292 fk_M_7 rfl dX12_dropStatement_92 ?_
      refine g_sipush C dX12_dropStatement_95 (v := 151) (by decide) ?_
      refine g_iconst C dX12_dropStatement_98 (v := 3) rfl ?_
      refine g_aload_n C dX12_dropStatement_99 0 rfl ?_
      refine g_get C (.ref (w_r w 293)) 292 q_292 fk_M_7 rfl dX12_dropStatement_100 ?_
      refine g_iconst C dX12_dropStatement_103 (v := 4) rfl ?_
      refine g_iald C 293 q_293 (by decide) 4 (by decide) dX12_dropStatement_104 ?_
      refine g_imul C dX12_dropStatement_105  ?_
      refine g_iadd C dX12_dropStatement_106  ?_
      refine g_iload_n C dX12_dropStatement_107 1 rfl ?_
      refine g_iadd C dX12_dropStatement_108  ?_
      refine g_iconst C dX12_dropStatement_109 (v := 0) rfl ?_
      have hg8 := gd_1 h
      replace h := gd_2 h
      refine g_iast C 293 q_293 hg8 _ rfl  dX12_dropStatement_110 ?_
      obtain ⟨d9, hd9, h⟩ := bnd_1 h
      refine g_nmD hd9 ?_
      refine g_iinc C (lv' := [(2, .int (x2 + 1)), (0, .ref (w_r w 292))]) (v := (x2 + 1)) dX12_dropStatement_111 1 rfl rfl (by decide) rfl ?_
      refine g_goto C dX12_dropStatement_114 (tgt := 86) rfl ?_
      refine g_sub [1, 0] (lv' := [(0, .ref (w_r w 292)), (2, .int (x2 + 1))]) rfl ?_
      exact hl1 ((x2 + 1), d9) (Option.some.inj h).symm
  have R48 : ∀ (x2 : Int32) (d : Dt), f_M_dropStatement_48 x2 d = some (rE, dE) → gG w p l e R s m args below meth c 3 0 0 (gE w below args s dE (some (.int rE))) d [(0, .ref (w_r w 292)), (2, .int x2)] 48 [] := by
    intro x2 d  h
    refine iter_ind (G := fun s_ : (Int32 × Dt) => gG w p l e R s m args below meth c 3 0 0 (gE w below args s dE (some (.int rE))) s_.2 [(0, .ref (w_r w 292)), (2, .int s_.1)] 48 []) ?_ fu _ h
    clear h
    intro s_ y1 h hl1 hx1
    obtain ⟨x2, d⟩ := s_
    show gG w p l e R s m args below meth c 3 0 0 (gE w below args s dE (some (.int rE))) d [(0, .ref (w_r w 292)), (2, .int x2)] 48 []
    dsimp only at h
    unfold st_M_dropStatement_48 at h
    refine g_iload_n C dX12_dropStatement_48 1 rfl ?_
    refine g_sipush C dX12_dropStatement_49 (v := 151) (by decide) ?_
    refine g_iconst C dX12_dropStatement_52 (v := 3) rfl ?_
    refine g_aload_n C dX12_dropStatement_53 0 rfl ?_
    refine g_get C (.ref (w_r w 293)) 292 q_292 fk_M_7 rfl dX12_dropStatement_54 ?_
    refine g_iconst C dX12_dropStatement_57 (v := 4) rfl ?_
    refine g_iald C 293 q_293 (by decide) 4 (by decide) dX12_dropStatement_58 ?_
    refine g_imul C dX12_dropStatement_59  ?_
    refine g_iadd C dX12_dropStatement_60  ?_
    refine g_icmp_ge C dX12_dropStatement_61 (tgt := 84) rfl (fun q => ?_) (fun q => ?_)
    · replace h := it_t q h
      replace h := ir_2 h hx1
      refine g_iconst C dX12_dropStatement_84 (v := 0) rfl ?_
      refine g_istore_n C (lv' := [(2, .int 0), (0, .ref (w_r w 292))]) dX12_dropStatement_85 (by decide) rfl ?_
      refine g_sub [1, 0] (lv' := [(0, .ref (w_r w 292)), (2, .int 0)]) rfl ?_
      exact R86 0 d h
    · replace h := it_f q h
      refine g_aload_n C dX12_dropStatement_64 0 rfl ?_
      refine g_get C (.ref (w_r w 293)) 292 q_292 fk_M_7 rfl dX12_dropStatement_65 ?_
      refine g_iload_n C dX12_dropStatement_68 1 rfl ?_
      refine g_aload_n C dX12_dropStatement_69 0 rfl ?_
      refine g_get C (.ref (w_r w 293)) 292 q_292 fk_M_7 rfl dX12_dropStatement_70 ?_
      refine g_iload_n C dX12_dropStatement_73 1 rfl ?_
      refine g_iconst C dX12_dropStatement_74 (v := 3) rfl ?_
      refine g_iadd C dX12_dropStatement_75  ?_
      have hg10 := gd_1 h
      replace h := gd_2 h
      refine g_iald C 293 q_293 hg10 _ rfl dX12_dropStatement_76 ?_
      have hg11 := gd_1 h
      replace h := gd_2 h
      refine g_iast C 293 q_293 hg11 _ rfl  dX12_dropStatement_77 ?_
      obtain ⟨d12, hd12, h⟩ := bnd_1 h
      refine g_nmD hd12 ?_
      refine g_iinc C (lv' := [(2, .int (x2 + 1)), (0, .ref (w_r w 292))]) (v := (x2 + 1)) dX12_dropStatement_78 1 rfl rfl (by decide) rfl ?_
      refine g_goto C dX12_dropStatement_81 (tgt := 48) rfl ?_
      refine g_sub [1, 0] (lv' := [(0, .ref (w_r w 292)), (2, .int (x2 + 1))]) rfl ?_
      exact hl1 ((x2 + 1), d12) (Option.some.inj h).symm
  have R14 : ∀ (x1 : Int32) (v1 : Int32) (d : Dt), f_M_dropStatement_14 x1 v1 d = some (rE, dE) → gG w p l e R s m args below meth c 3 0 0 (gE w below args s dE (some (.int rE))) d [(0, .ref (w_r w 292)), (1, .int x1)] 14 [.int v1, .ref (w_r w 292)] := by
    intro x1 v1 d  h
    unfold f_M_dropStatement_14 at h
    obtain ⟨r13, d14, hc15, h⟩ := ob2_1 h
    refine g_callVi C 292 q_292 vk_M_61 hR rfl (m_M_fails C.2.2.2.2.2.2.1 hc15) rfl rfl rfl dX12_dropStatement_14 rfl rfl ?_
    refine g_if_eq C dX12_dropStatement_17 (tgt := 22) rfl (fun q => ?_) (fun q => ?_)
    · replace h := it_t q h
      refine g_aload_n C dX12_dropStatement_22 0 rfl ?_
      refine g_aload_n C dX12_dropStatement_23 0 rfl ?_
      refine g_get C (.ref (w_r w 293)) 292 q_292 fk_M_7 rfl dX12_dropStatement_24 ?_
      obtain ⟨d16, hc17, h⟩ := ob1_1 h
      refine g_callVv C 292 q_292 vk_M_64 hR rfl (m_M_keeps C.2.2.2.2.2.2.1 hc17) rfl rfl rfl dX12_dropStatement_27 rfl rfl ?_
      refine g_aload_n C dX12_dropStatement_30 0 rfl ?_
      refine g_get C (.ref (w_r w 293)) 292 q_292 fk_M_7 rfl dX12_dropStatement_31 ?_
      refine g_iconst C dX12_dropStatement_34 (v := 4) rfl ?_
      refine g_dup2 C dX12_dropStatement_35 rfl rfl ?_
      refine g_iald C 293 q_293 (by decide) 4 (by decide) dX12_dropStatement_36 ?_
      refine g_iconst C dX12_dropStatement_37 (v := 1) rfl ?_
      refine g_isub C dX12_dropStatement_38  ?_
      refine g_iast C 293 q_293 (by decide) 4 (by decide)  dX12_dropStatement_39 ?_
      obtain ⟨d18, hd18, h⟩ := bnd_1 h
      refine g_nmD hd18 ?_
      refine g_sipush C dX12_dropStatement_40 (v := 151) (by decide) ?_
      refine g_iconst C dX12_dropStatement_43 (v := 3) rfl ?_
      refine g_iload_n C dX12_dropStatement_44 1 rfl ?_
      refine g_imul C dX12_dropStatement_45  ?_
      refine g_iadd C dX12_dropStatement_46  ?_
      refine g_istore_n C (lv' := [(2, .int (151 + (3 * x1))), (0, .ref (w_r w 292)), (1, .int x1)]) dX12_dropStatement_47 (by decide) rfl ?_
      refine g_sub [1, 0] (lv' := [(0, .ref (w_r w 292)), (2, .int (151 + (3 * x1)))]) rfl ?_
      exact R48 (151 + (3 * x1)) d18 h
    · replace h := it_f q h
      refine g_iconst C dX12_dropStatement_20 (v := 0) rfl ?_
      exact g_iret C hr hlk rfl (congrArg Prod.snd (Option.some.inj h)) (congrArg (fun z => some (Value.int z.1)) (Option.some.inj h)) dX12_dropStatement_21
  unfold f_M_dropStatement at h
  refine g_aload_n C dX12_dropStatement_0 0 rfl ?_
  refine g_aload_n C dX12_dropStatement_1 0 rfl ?_
  refine g_iload_n C dX12_dropStatement_2 1 rfl ?_
  obtain ⟨r19, hc20, h⟩ := ob1_1 h
  refine g_callVi C 292 q_292 vk_M_84 hR rfl (m_M_isStatement C.2.2.2.2.2.2.1 hc20) rfl rfl rfl dX12_dropStatement_3 rfl rfl ?_
  refine g_if_eq C dX12_dropStatement_6 (tgt := 13) rfl (fun q => ?_) (fun q => ?_)
  · replace h := it_t q h
    refine g_iconst C dX12_dropStatement_13 (v := 1) rfl ?_
    exact R14 x1 1 d h
  · replace h := it_f q h
    refine g_iconst C dX12_dropStatement_9 (v := 0) rfl ?_
    refine g_goto C dX12_dropStatement_10 (tgt := 14) rfl ?_
    exact R14 x1 0 d h
set_option maxHeartbeats 4000000 in
set_option maxRecDepth 100000 in
theorem m_M_ends {w : wT} {l : Launch} {x1 : Int32} {d : Dt} {dE : Dt} (hO : okW w) (h : f_M_ends x1 d = some dE) : gM w l yX12_ends cX12_ends 4 (Option.none : Option Jvm.ClassFile.FieldType) 1 [.ref (w_r w 292), .int x1] d dE none := by
  refine gM_of (by decide) [(0, .ref (w_r w 292)), (1, .int x1)] rfl rfl ?_ hO
  intro p e R s m args below meth c C hR hr hlk
  have R11 : ∀ (x1 : Int32) (x2 : Int32) (x3 : Int32) (d : Dt), f_M_ends_11 x1 x2 x3 d = some dE → gG w p l e R s m args below meth c 4 0 0 (gE w below args s dE none) d [(0, .ref (w_r w 292)), (1, .int x1), (2, .int x2), (3, .int x3)] 11 [] := by
    intro x1 x2 x3 d  h
    refine iter_ind (G := fun s_ : (Int32 × Dt) => gG w p l e R s m args below meth c 4 0 0 (gE w below args s dE none) s_.2 [(0, .ref (w_r w 292)), (1, .int x1), (2, .int x2), (3, .int s_.1)] 11 []) ?_ fu _ h
    clear h
    intro s_ y1 h hl1 hx1
    obtain ⟨x3, d⟩ := s_
    show gG w p l e R s m args below meth c 4 0 0 (gE w below args s dE none) d [(0, .ref (w_r w 292)), (1, .int x1), (2, .int x2), (3, .int x3)] 11 []
    dsimp only at h
    unfold st_M_ends_11 at h
    refine g_iload_n C dX12_ends_11 3 rfl ?_
    refine g_iload_n C dX12_ends_12 2 rfl ?_
    refine g_icmp_ge C dX12_ends_13 (tgt := 40) rfl (fun q => ?_) (fun q => ?_)
    · replace h := it_t q h
      replace h := ir_2 h hx1
      refine g_aload_n C dX12_ends_40 0 rfl ?_
      refine g_iload_n C dX12_ends_41 1 rfl ?_
      refine g_iconst C dX12_ends_42 (v := 3) rfl ?_
      refine g_iload_n C dX12_ends_43 2 rfl ?_
      refine g_iadd C dX12_ends_44  ?_
      refine g_iconst C dX12_ends_45 (v := 0) rfl ?_
      obtain ⟨d6, hc7, h⟩ := ob1_1 h
      refine g_callVv C 292 q_292 vk_M_68 hR rfl (m_M_lays C.2.2.2.2.2.2.1 hc7) rfl rfl rfl dX12_ends_46 rfl rfl ?_
      refine g_aload_n C dX12_ends_49 0 rfl ?_
      refine g_iload_n C dX12_ends_50 1 rfl ?_
      refine g_iconst C dX12_ends_51 (v := 2) rfl ?_
      refine g_iload_n C dX12_ends_52 2 rfl ?_
      obtain ⟨d8, hc9, h⟩ := ob1_1 h
      refine g_callVv C 292 q_292 vk_M_68 hR rfl (m_M_lays C.2.2.2.2.2.2.1 hc9) rfl rfl rfl dX12_ends_53 rfl rfl ?_
      exact g_vret C hr hlk (Option.some.inj h) rfl dX12_ends_56
    · replace h := it_f q h
      refine g_aload_n C dX12_ends_16 0 rfl ?_
      refine g_iload_n C dX12_ends_17 1 rfl ?_
      refine g_iconst C dX12_ends_18 (v := 3) rfl ?_
      refine g_iload_n C dX12_ends_19 3 rfl ?_
      refine g_iadd C dX12_ends_20  ?_
      refine g_aload_n C dX12_ends_21 0 rfl ?_
      refine g_iload_n C dX12_ends_22 1 rfl ?_
      refine g_iconst C dX12_ends_23 (v := 3) rfl ?_
      refine g_iload_n C dX12_ends_24 3 rfl ?_
      refine g_iadd C dX12_ends_25  ?_
      refine g_iconst C dX12_ends_26 (v := 1) rfl ?_
      refine g_iadd C dX12_ends_27  ?_
      obtain ⟨r10, hc11, h⟩ := ob1_1 h
      refine g_callVi C 292 q_292 vk_M_87 hR rfl (m_M_of C.2.2.2.2.2.2.1 hc11) rfl rfl rfl dX12_ends_28 rfl rfl ?_
      obtain ⟨d12, hc13, h⟩ := ob1_1 h
      refine g_callVv C 292 q_292 vk_M_68 hR rfl (m_M_lays C.2.2.2.2.2.2.1 hc13) rfl rfl rfl dX12_ends_31 rfl rfl ?_
      refine g_iinc C (lv' := [(3, .int (x3 + 1)), (0, .ref (w_r w 292)), (1, .int x1), (2, .int x2)]) (v := (x3 + 1)) dX12_ends_34 3 rfl rfl (by decide) rfl ?_
      refine g_goto C dX12_ends_37 (tgt := 11) rfl ?_
      refine g_sub [1, 2, 3, 0] (lv' := [(0, .ref (w_r w 292)), (1, .int x1), (2, .int x2), (3, .int (x3 + 1))]) rfl ?_
      exact hl1 ((x3 + 1), d12) (Option.some.inj h).symm
  unfold f_M_ends at h
  refine g_aload_n C dX12_ends_0 0 rfl ?_
  refine g_iload_n C dX12_ends_1 1 rfl ?_
  refine g_iconst C dX12_ends_2 (v := 2) rfl ?_
  obtain ⟨r14, hc15, h⟩ := ob1_1 h
  refine g_callVi C 292 q_292 vk_M_87 hR rfl (m_M_of C.2.2.2.2.2.2.1 hc15) rfl rfl rfl dX12_ends_3 rfl rfl ?_
  refine g_iconst C dX12_ends_6 (v := 1) rfl ?_
  refine g_isub C dX12_ends_7  ?_
  refine g_istore_n C (lv' := [(2, .int (r14 - 1)), (0, .ref (w_r w 292)), (1, .int x1)]) dX12_ends_8 (by decide) rfl ?_
  refine g_iconst C dX12_ends_9 (v := 0) rfl ?_
  refine g_istore_n C (lv' := [(3, .int 0), (2, .int (r14 - 1)), (0, .ref (w_r w 292)), (1, .int x1)]) dX12_ends_10 (by decide) rfl ?_
  refine g_sub [2, 3, 1, 0] (lv' := [(0, .ref (w_r w 292)), (1, .int x1), (2, .int (r14 - 1)), (3, .int 0)]) rfl ?_
  exact R11 x1 (r14 - 1) 0 d h
set_option maxHeartbeats 4000000 in
set_option maxRecDepth 100000 in
theorem m_M_pardon {w : wT} {l : Launch} {x1 : Int32} {d : Dt} {rE : Int32} {dE : Dt} (hO : okW w) (h : f_M_pardon x1 d = some (rE, dE)) : gM w l yX12_pardon cX12_pardon 3 (Option.some Jvm.ClassFile.FieldType.int) 2 [.ref (w_r w 292), .int x1] d dE (some (.int rE)) := by
  refine gM_of (by decide) [(0, .ref (w_r w 292)), (1, .int x1)] rfl rfl ?_ hO
  intro p e R s m args below meth c C hR hr hlk
  have R27 : ∀ (x1 : Int32) (v1 : Int32) (d : Dt), f_M_pardon_27 x1 v1 d = some (rE, dE) → gG w p l e R s m args below meth c 3 0 0 (gE w below args s dE (some (.int rE))) d [(0, .ref (w_r w 292)), (1, .int x1)] 27 [.int v1, .ref (w_r w 292)] := by
    intro x1 v1 d  h
    unfold f_M_pardon_27 at h
    obtain ⟨r8, d9, hc10, h⟩ := ob2_1 h
    refine g_callVi C 292 q_292 vk_M_61 hR rfl (m_M_fails C.2.2.2.2.2.2.1 hc10) rfl rfl rfl dX12_pardon_27 rfl rfl ?_
    refine g_if_eq C dX12_pardon_30 (tgt := 35) rfl (fun q => ?_) (fun q => ?_)
    · replace h := it_t q h
      refine g_aload_n C dX12_pardon_35 0 rfl ?_
      refine g_iload_n C dX12_pardon_36 1 rfl ?_
      refine g_iconst C dX12_pardon_37 (v := 3) rfl ?_
      obtain ⟨r11, hc12, h⟩ := ob1_1 h
      refine g_callVi C 292 q_292 vk_M_87 hR rfl (m_M_of C.2.2.2.2.2.2.1 hc12) rfl rfl rfl dX12_pardon_38 rfl rfl ?_
      refine g_istore_n C (lv' := [(2, .int r11), (0, .ref (w_r w 292)), (1, .int x1)]) dX12_pardon_41 (by decide) rfl ?_
      refine g_aload_n C dX12_pardon_42 1 rfl ?_
      refine g_aload_n C dX12_pardon_43 1 rfl ?_
      refine g_get C (.ref (w_r w 293)) 292 q_292 fk_M_7 rfl dX12_pardon_44 ?_
      obtain ⟨d13, hc14, h⟩ := ob1_1 h
      refine g_callVv C 292 q_292 vk_M_64 hR rfl (m_M_keeps C.2.2.2.2.2.2.1 hc14) rfl rfl rfl dX12_pardon_47 rfl rfl ?_
      refine g_aload_n C dX12_pardon_50 1 rfl ?_
      refine g_iload_n C dX12_pardon_51 2 rfl ?_
      obtain ⟨d15, hc16, h⟩ := ob1_1 h
      refine g_callVv C 292 q_292 vk_M_115 hR rfl (m_M_ends C.2.2.2.2.2.2.1 hc16) rfl rfl rfl dX12_pardon_52 rfl rfl ?_
      refine g_iload_n C dX12_pardon_55 0 rfl ?_
      exact g_iret C hr hlk rfl (congrArg Prod.snd (Option.some.inj h)) (congrArg (fun z => some (Value.int z.1)) (Option.some.inj h)) dX12_pardon_56
    · replace h := it_f q h
      refine g_iconst C dX12_pardon_33 (v := 0) rfl ?_
      exact g_iret C hr hlk rfl (congrArg Prod.snd (Option.some.inj h)) (congrArg (fun z => some (Value.int z.1)) (Option.some.inj h)) dX12_pardon_34
  unfold f_M_pardon at h
  refine g_aload_n C dX12_pardon_0 0 rfl ?_
  refine g_aload_n C dX12_pardon_1 0 rfl ?_
  refine g_iload_n C dX12_pardon_2 1 rfl ?_
  obtain ⟨r17, hc18, h⟩ := ob1_1 h
  refine g_callVi C 292 q_292 vk_M_57 hR rfl (m_M_isLantern C.2.2.2.2.2.2.1 hc18) rfl rfl rfl dX12_pardon_3 rfl rfl ?_
  refine g_if_ne C dX12_pardon_6 (tgt := 13) rfl (fun q => ?_) (fun q => ?_)
  · replace h := it_f q h
    refine g_aload_n C dX12_pardon_13 0 rfl ?_
    refine g_iload_n C dX12_pardon_14 1 rfl ?_
    refine g_iconst C dX12_pardon_15 (v := 2) rfl ?_
    obtain ⟨r19, hc20, h⟩ := ob1_1 h
    refine g_callVi C 292 q_292 vk_M_87 hR rfl (m_M_of C.2.2.2.2.2.2.1 hc20) rfl rfl rfl dX12_pardon_16 rfl rfl ?_
    refine g_if_ne C dX12_pardon_19 (tgt := 26) rfl (fun q => ?_) (fun q => ?_)
    · replace h := it_f q h
      refine g_iconst C dX12_pardon_26 (v := 0) rfl ?_
      exact R27 x1 0 d h
    · replace h := it_t q h
      refine g_iconst C dX12_pardon_22 (v := 2) rfl ?_
      refine g_goto C dX12_pardon_23 (tgt := 27) rfl ?_
      exact R27 x1 2 d h
  · replace h := it_t q h
    refine g_iconst C dX12_pardon_9 (v := 1) rfl ?_
    refine g_goto C dX12_pardon_10 (tgt := 27) rfl ?_
    exact R27 x1 1 d h
set_option maxHeartbeats 4000000 in
set_option maxRecDepth 100000 in
theorem m_M_serves {w : wT} {l : Launch} {x1 : Int32} {d : Dt} {dE : Dt} (hO : okW w) (h : f_M_serves x1 d = some dE) : gM w l yX12_serves cX12_serves 3 (Option.none : Option Jvm.ClassFile.FieldType) 2 [.ref (w_r w 292), .int x1] d dE none := by
  refine gM_of (by decide) [(0, .ref (w_r w 292)), (1, .int x1)] rfl rfl ?_ hO
  intro p e R s m args below meth c C hR hr hlk
  have R33 : ∀ (v1 : Int32) (v2 : Int32) (v3 : Int32) (d : Dt), f_M_serves_33  v1 v2 v3 d = some dE → gG w p l e R s m args below meth c 3 0 0 (gE w below args s dE none) d [] 33 [.int v3, .int v2, .int v1, .ref (w_r w 292)] := by
    intro  v1 v2 v3 d  h
    unfold f_M_serves_33 at h
    obtain ⟨d10, hc11, h⟩ := ob1_1 h
    refine g_callVv C 292 q_292 vk_M_68 hR rfl (m_M_lays C.2.2.2.2.2.2.1 hc11) rfl rfl rfl dX12_serves_33 rfl rfl ?_
    exact g_vret C hr hlk (Option.some.inj h) rfl dX12_serves_36
  have R51 : ∀ (x1 : Int32) (v1 : Int32) (v2 : Int32) (v3 : Int32) (d : Dt), f_M_serves_51 x1 v1 v2 v3 d = some dE → gG w p l e R s m args below meth c 3 0 0 (gE w below args s dE none) d [(0, .ref (w_r w 292)), (1, .int x1)] 51 [.int v3, .int v2, .int v1, .ref (w_r w 292)] := by
    intro x1 v1 v2 v3 d  h
    unfold f_M_serves_51 at h
    obtain ⟨d12, hc13, h⟩ := ob1_1 h
    refine g_callVv C 292 q_292 vk_M_68 hR rfl (m_M_lays C.2.2.2.2.2.2.1 hc13) rfl rfl rfl dX12_serves_51 rfl rfl ?_
    refine g_aload_n C dX12_serves_54 0 rfl ?_
    refine g_iload_n C dX12_serves_55 1 rfl ?_
    refine g_iconst C dX12_serves_56 (v := 3) rfl ?_
    refine g_aload_n C dX12_serves_57 0 rfl ?_
    refine g_iload_n C dX12_serves_58 1 rfl ?_
    refine g_iconst C dX12_serves_59 (v := 3) rfl ?_
    obtain ⟨r14, hc15, h⟩ := ob1_1 h
    refine g_callVi C 292 q_292 vk_M_87 hR rfl (m_M_of C.2.2.2.2.2.2.1 hc15) rfl rfl rfl dX12_serves_60 rfl rfl ?_
    refine g_iconst C dX12_serves_63 (v := 1) rfl ?_
    refine g_isub C dX12_serves_64  ?_
    obtain ⟨d16, hc17, h⟩ := ob1_1 h
    refine g_callVv C 292 q_292 vk_M_68 hR rfl (m_M_lays C.2.2.2.2.2.2.1 hc17) rfl rfl rfl dX12_serves_65 rfl rfl ?_
    refine g_aload_n C dX12_serves_68 0 rfl ?_
    refine g_get C (.ref (w_r w 293)) 292 q_292 fk_M_7 rfl dX12_serves_69 ?_
    refine g_bipush C dX12_serves_72 (v := 12) (by decide) ?_
    refine g_dup2 C dX12_serves_74 rfl rfl ?_
    refine g_iald C 293 q_293 (by decide) 12 (by decide) dX12_serves_75 ?_
    refine g_iconst C dX12_serves_76 (v := 1) rfl ?_
    refine g_iadd C dX12_serves_77  ?_
    refine g_iast C 293 q_293 (by decide) 12 (by decide)  dX12_serves_78 ?_
    obtain ⟨d18, hd18, h⟩ := bnd_1 h
    refine g_nmD hd18 ?_
    refine g_aload_n C dX12_serves_79 0 rfl ?_
    refine g_iload_n C dX12_serves_80 1 rfl ?_
    refine g_iconst C dX12_serves_81 (v := 3) rfl ?_
    obtain ⟨r19, hc20, h⟩ := ob1_1 h
    refine g_callVi C 292 q_292 vk_M_87 hR rfl (m_M_of C.2.2.2.2.2.2.1 hc20) rfl rfl rfl dX12_serves_82 rfl rfl ?_
    refine g_if_ne C dX12_serves_85 (tgt := 93) rfl (fun q => ?_) (fun q => ?_)
    · replace h := it_f q h
      exact g_vret C hr hlk (Option.some.inj h) rfl dX12_serves_93
    · replace h := it_t q h
      refine g_aload_n C dX12_serves_88 0 rfl ?_
      refine g_iload_n C dX12_serves_89 1 rfl ?_
      obtain ⟨d21, hc22, h⟩ := ob1_1 h
      refine g_callVv C 292 q_292 vk_M_115 hR rfl (m_M_ends C.2.2.2.2.2.2.1 hc22) rfl rfl rfl dX12_serves_90 rfl rfl ?_
      exact g_vret C hr hlk (Option.some.inj h) rfl dX12_serves_93
  unfold f_M_serves at h
  refine g_aload_n C dX12_serves_0 0 rfl ?_
  refine g_iload_n C dX12_serves_1 1 rfl ?_
  refine g_iconst C dX12_serves_2 (v := 0) rfl ?_
  obtain ⟨r23, hc24, h⟩ := ob1_1 h
  refine g_callVi C 292 q_292 vk_M_87 hR rfl (m_M_of C.2.2.2.2.2.2.1 hc24) rfl rfl rfl dX12_serves_3 rfl rfl ?_
  refine g_istore_n C (lv' := [(2, .int r23), (0, .ref (w_r w 292)), (1, .int x1)]) dX12_serves_6 (by decide) rfl ?_
  refine g_aload_n C dX12_serves_7 1 rfl ?_
  refine g_iload_n C dX12_serves_8 2 rfl ?_
  refine g_iconst C dX12_serves_9 (v := 2) rfl ?_
  obtain ⟨r25, hc26, h⟩ := ob1_1 h
  refine g_callVi C 292 q_292 vk_M_87 hR rfl (m_M_of C.2.2.2.2.2.2.1 hc26) rfl rfl rfl dX12_serves_10 rfl rfl ?_
  refine g_if_ne C dX12_serves_13 (tgt := 37) rfl (fun q => ?_) (fun q => ?_)
  · replace h := it_f q h
    refine g_aload_n C dX12_serves_37 1 rfl ?_
    refine g_iload_n C dX12_serves_38 2 rfl ?_
    refine g_iconst C dX12_serves_39 (v := 0) rfl ?_
    refine g_iload_n C dX12_serves_40 0 rfl ?_
    refine g_if_le C dX12_serves_41 (tgt := 50) rfl (fun q => ?_) (fun q => ?_)
    · replace h := it_t q h
      refine g_iconst C dX12_serves_50 (v := 0) rfl ?_
      refine g_sub [1, 2] (lv' := [(0, .ref (w_r w 292)), (1, .int x1)]) rfl ?_
      exact R51 x1 x1 0 0 d h
    · replace h := it_f q h
      refine g_iload_n C dX12_serves_44 0 rfl ?_
      refine g_iconst C dX12_serves_45 (v := 1) rfl ?_
      refine g_isub C dX12_serves_46  ?_
      refine g_goto C dX12_serves_47 (tgt := 51) rfl ?_
      refine g_sub [1, 2] (lv' := [(0, .ref (w_r w 292)), (1, .int x1)]) rfl ?_
      exact R51 x1 x1 0 (r23 - 1) d h
  · replace h := it_t q h
    refine g_aload_n C dX12_serves_16 1 rfl ?_
    refine g_iload_n C dX12_serves_17 2 rfl ?_
    refine g_iconst C dX12_serves_18 (v := 0) rfl ?_
    refine g_iload_n C dX12_serves_19 0 rfl ?_
    refine g_bipush C dX12_serves_20 (v := 9) (by decide) ?_
    refine g_icmp_ge C dX12_serves_22 (tgt := 31) rfl (fun q => ?_) (fun q => ?_)
    · replace h := it_t q h
      refine g_bipush C dX12_serves_31 (v := 9) (by decide) ?_
      refine g_sub [] (lv' := []) rfl ?_
      exact R33 x1 0 9 d h
    · replace h := it_f q h
      refine g_iload_n C dX12_serves_25 0 rfl ?_
      refine g_iconst C dX12_serves_26 (v := 1) rfl ?_
      refine g_iadd C dX12_serves_27  ?_
      refine g_goto C dX12_serves_28 (tgt := 33) rfl ?_
      refine g_sub [] (lv' := []) rfl ?_
      exact R33 x1 0 (r23 + 1) d h
set_option maxHeartbeats 4000000 in
set_option maxRecDepth 100000 in
theorem m_M_isPossible {w : wT} {l : Launch} {x1 : Int32} {d : Dt} {rE : Int32} (hO : okW w) (h : f_M_isPossible x1 d = some rE) : gM w l yX12_isPossible cX12_isPossible 5 (Option.some Jvm.ClassFile.FieldType.boolean) 1 [.ref (w_r w 292), .int x1] d d (some (.int rE)) := by
  refine gM_of (by decide) [(0, .ref (w_r w 292)), (1, .int x1)] rfl rfl ?_ hO
  intro p e R s m args below meth c C hR hr hlk
  have R2 : ∀ (x1 : Int32) (x2 : Int32), f_M_isPossible_2 x1 x2 d = some rE → gG w p l e R s m args below meth c 5 0 0 (gE w below args s d (some (.int rE))) d [(0, .ref (w_r w 292)), (1, .int x1), (2, .int x2)] 2 [] := by
    intro x1 x2   h
    refine iter_ind (G := fun s_ : (Int32) => gG w p l e R s m args below meth c 5 0 0 (gE w below args s d (some (.int rE))) d [(0, .ref (w_r w 292)), (1, .int x1), (2, .int s_)] 2 []) ?_ fu _ h
    clear h
    intro x2 y1 h hl1 hx1
    show gG w p l e R s m args below meth c 5 0 0 (gE w below args s d (some (.int rE))) d [(0, .ref (w_r w 292)), (1, .int x1), (2, .int x2)] 2 []
    unfold st_M_isPossible_2 at h
    have R13 : ∀ (x2 : Int32) (x3 : Int32) (x4 : Int32), f_M_isPossible_13 x1 x2 x3 x4 d = some y1 → gG w p l e R s m args below meth c 5 0 0 (gE w below args s d (some (.int rE))) d [(0, .ref (w_r w 292)), (1, .int x1), (2, .int x2), (3, .int x3), (4, .int x4)] 13 [] := by
      intro x2 x3 x4   h
      refine iter_ind (G := fun s_ : (Int32 × Int32) => gG w p l e R s m args below meth c 5 0 0 (gE w below args s d (some (.int rE))) d [(0, .ref (w_r w 292)), (1, .int x1), (2, .int x2), (3, .int s_.1), (4, .int s_.2)] 13 []) ?_ fu _ h
      clear h
      intro s_ y2 h hl2 hx2
      obtain ⟨x3, x4⟩ := s_
      show gG w p l e R s m args below meth c 5 0 0 (gE w below args s d (some (.int rE))) d [(0, .ref (w_r w 292)), (1, .int x1), (2, .int x2), (3, .int x3), (4, .int x4)] 13 []
      dsimp only at h
      unfold st_M_isPossible_13 at h
      refine g_iload C dX12_isPossible_13 4 rfl ?_
      refine g_aload_n C dX12_isPossible_15 0 rfl ?_
      refine g_get C (.ref (w_r w 293)) 292 q_292 fk_M_7 rfl dX12_isPossible_16 ?_
      refine g_iconst C dX12_isPossible_19 (v := 3) rfl ?_
      refine g_iald C 293 q_293 (by decide) 3 (by decide) dX12_isPossible_20 ?_
      refine g_icmp_ge C dX12_isPossible_21 (tgt := 66) rfl (fun q => ?_) (fun q => ?_)
      · replace h := it_t q h
        replace h := ir_2 h hx2
        refine g_iload_n C dX12_isPossible_66 3 rfl ?_
        refine g_iload_n C dX12_isPossible_67 2 rfl ?_
        refine g_icmp_le C dX12_isPossible_68 (tgt := 73) rfl (fun q => ?_) (fun q => ?_)
        · replace h := it_t q h
          refine g_iinc C (lv' := [(2, .int (x2 + 1)), (0, .ref (w_r w 292)), (1, .int x1), (3, .int x3), (4, .int x4)]) (v := (x2 + 1)) dX12_isPossible_73 2 rfl rfl (by decide) rfl ?_
          refine g_goto C dX12_isPossible_76 (tgt := 2) rfl ?_
          refine g_sub [1, 2, 0] (lv' := [(0, .ref (w_r w 292)), (1, .int x1), (2, .int (x2 + 1))]) rfl ?_
          exact hl1 (x2 + 1) (Option.some.inj h).symm
        · replace h := it_f q h
          replace h := ir_2 h hx1
          refine g_iconst C dX12_isPossible_71 (v := 0) rfl ?_
          exact g_iret C hr hlk rfl rfl (congrArg (fun z => some (Value.int z)) (Option.some.inj h)) dX12_isPossible_72
      · replace h := it_f q h
        refine g_iload_n C dX12_isPossible_24 3 rfl ?_
        refine g_iload_n C dX12_isPossible_25 1 rfl ?_
        refine g_iload C dX12_isPossible_26 4 rfl ?_
        refine g_ishr C dX12_isPossible_28  ?_
        refine g_iconst C dX12_isPossible_29 (v := 1) rfl ?_
        refine g_iand C dX12_isPossible_30  ?_
        refine g_iconst C dX12_isPossible_31 (v := 1) rfl ?_
        refine g_icmp_ne C dX12_isPossible_32 (tgt := 57) rfl (fun q => ?_) (fun q => ?_)
        · replace h := it_f q h
          refine g_iconst C dX12_isPossible_57 (v := 0) rfl ?_
          refine g_iadd C dX12_isPossible_58  ?_
          refine g_istore_n C (lv' := [(3, .int (x3 + 0)), (0, .ref (w_r w 292)), (1, .int x1), (2, .int x2), (4, .int x4)]) dX12_isPossible_59 (by decide) rfl ?_
          refine g_iinc C (lv' := [(4, .int (x4 + 1)), (3, .int (x3 + 0)), (0, .ref (w_r w 292)), (1, .int x1), (2, .int x2)]) (v := (x4 + 1)) dX12_isPossible_60 4 rfl rfl (by decide) rfl ?_
          refine g_goto C dX12_isPossible_63 (tgt := 13) rfl ?_
          refine g_sub [2, 3, 4, 1, 0] (lv' := [(0, .ref (w_r w 292)), (1, .int x1), (2, .int x2), (3, .int (x3 + 0)), (4, .int (x4 + 1))]) rfl ?_
          exact hl2 ((x3 + 0), (x4 + 1)) (Option.some.inj h).symm
        · replace h := it_t q h
          refine g_aload_n C dX12_isPossible_35 0 rfl ?_
          refine g_iload C dX12_isPossible_36 4 rfl ?_
          refine g_iconst C dX12_isPossible_38 (v := 2) rfl ?_
          obtain ⟨r2, hc3, h⟩ := ob1_1 h
          refine g_callVi C 292 q_292 vk_M_72 hR rfl (m_M_brief C.2.2.2.2.2.2.1 hc3) rfl rfl rfl dX12_isPossible_39 rfl rfl ?_
          refine g_aload_n C dX12_isPossible_42 0 rfl ?_
          refine g_get C (.ref (w_r w 293)) 292 q_292 fk_M_7 rfl dX12_isPossible_43 ?_
          refine g_iconst C dX12_isPossible_46 (v := 1) rfl ?_
          refine g_iald C 293 q_293 (by decide) 1 (by decide) dX12_isPossible_47 ?_
          refine g_iload_n C dX12_isPossible_48 2 rfl ?_
          refine g_iadd C dX12_isPossible_49  ?_
          refine g_icmp_gt C dX12_isPossible_50 (tgt := 57) rfl (fun q => ?_) (fun q => ?_)
          · replace h := it_t q h
            refine g_iconst C dX12_isPossible_57 (v := 0) rfl ?_
            refine g_iadd C dX12_isPossible_58  ?_
            refine g_istore_n C (lv' := [(3, .int (x3 + 0)), (0, .ref (w_r w 292)), (1, .int x1), (2, .int x2), (4, .int x4)]) dX12_isPossible_59 (by decide) rfl ?_
            refine g_iinc C (lv' := [(4, .int (x4 + 1)), (3, .int (x3 + 0)), (0, .ref (w_r w 292)), (1, .int x1), (2, .int x2)]) (v := (x4 + 1)) dX12_isPossible_60 4 rfl rfl (by decide) rfl ?_
            refine g_goto C dX12_isPossible_63 (tgt := 13) rfl ?_
            refine g_sub [2, 3, 4, 1, 0] (lv' := [(0, .ref (w_r w 292)), (1, .int x1), (2, .int x2), (3, .int (x3 + 0)), (4, .int (x4 + 1))]) rfl ?_
            exact hl2 ((x3 + 0), (x4 + 1)) (Option.some.inj h).symm
          · replace h := it_f q h
            refine g_iconst C dX12_isPossible_53 (v := 1) rfl ?_
            refine g_goto C dX12_isPossible_54 (tgt := 58) rfl ?_
            refine g_iadd C dX12_isPossible_58  ?_
            refine g_istore_n C (lv' := [(3, .int (x3 + 1)), (0, .ref (w_r w 292)), (1, .int x1), (2, .int x2), (4, .int x4)]) dX12_isPossible_59 (by decide) rfl ?_
            refine g_iinc C (lv' := [(4, .int (x4 + 1)), (3, .int (x3 + 1)), (0, .ref (w_r w 292)), (1, .int x1), (2, .int x2)]) (v := (x4 + 1)) dX12_isPossible_60 4 rfl rfl (by decide) rfl ?_
            refine g_goto C dX12_isPossible_63 (tgt := 13) rfl ?_
            refine g_sub [2, 3, 4, 1, 0] (lv' := [(0, .ref (w_r w 292)), (1, .int x1), (2, .int x2), (3, .int (x3 + 1)), (4, .int (x4 + 1))]) rfl ?_
            exact hl2 ((x3 + 1), (x4 + 1)) (Option.some.inj h).symm
    refine g_iload_n C dX12_isPossible_2 2 rfl ?_
    refine g_bipush C dX12_isPossible_3 (v := 12) (by decide) ?_
    refine g_icmp_gt C dX12_isPossible_5 (tgt := 79) rfl (fun q => ?_) (fun q => ?_)
    · replace h := it_t q h
      replace h := ir_2 h hx1
      refine g_iconst C dX12_isPossible_79 (v := 1) rfl ?_
      exact g_iret C hr hlk rfl rfl (congrArg (fun z => some (Value.int z)) (Option.some.inj h)) dX12_isPossible_80
    · replace h := it_f q h
      refine g_iconst C dX12_isPossible_8 (v := 0) rfl ?_
      refine g_istore_n C (lv' := [(3, .int 0), (0, .ref (w_r w 292)), (1, .int x1), (2, .int x2)]) dX12_isPossible_9 (by decide) rfl ?_
      refine g_iconst C dX12_isPossible_10 (v := 0) rfl ?_
      refine g_istore C (lv' := [(4, .int 0), (3, .int 0), (0, .ref (w_r w 292)), (1, .int x1), (2, .int x2)]) dX12_isPossible_11 (by decide) rfl ?_
      refine g_sub [2, 3, 4, 1, 0] (lv' := [(0, .ref (w_r w 292)), (1, .int x1), (2, .int x2), (3, .int 0), (4, .int 0)]) rfl ?_
      exact R13 x2 0 0 h
  unfold f_M_isPossible at h
  refine g_iconst C dX12_isPossible_0 (v := 1) rfl ?_
  refine g_istore_n C (lv' := [(2, .int 1), (0, .ref (w_r w 292)), (1, .int x1)]) dX12_isPossible_1 (by decide) rfl ?_
  refine g_sub [1, 2, 0] (lv' := [(0, .ref (w_r w 292)), (1, .int x1), (2, .int 1)]) rfl ?_
  exact R2 x1 1 h
