/-! 08: walks -/
set_option maxHeartbeats 4000000 in
set_option maxRecDepth 100000 in
theorem m_M_copies_295_293 {w : wT} {l : Launch} {x1 x3 : Int32} {d : Dt} {dE : Dt} (hO : okW w) (h : f_M_copies_295_293 x1 x3 d = some dE) : gM w l yX12_copies cX12_copies 5 (Option.none : Option Jvm.ClassFile.FieldType) 0 [.ref (w_r w 295), .int x1, .ref (w_r w 293), .int x3] d dE none := by
  refine gM_of (by decide) [(0, .ref (w_r w 295)), (1, .int x1), (2, .ref (w_r w 293)), (3, .int x3)] rfl rfl ?_ hO
  intro p e R s m args below meth c C hR hr hlk
  have R3 : ∀ (x1 : Int32) (x3 : Int32) (x4 : Int32) (d : Dt), f_M_copies_295_293_3 x1 x3 x4 d = some dE → gG w p l e R s m args below meth c 5 0 0 (gE w below args s dE none) d [(0, .ref (w_r w 295)), (1, .int x1), (2, .ref (w_r w 293)), (3, .int x3), (4, .int x4)] 3 [] := by
    intro x1 x3 x4 d  h
    refine iter_ind (G := fun s_ : (Int32 × Dt) => gG w p l e R s m args below meth c 5 0 0 (gE w below args s dE none) s_.2 [(0, .ref (w_r w 295)), (1, .int x1), (2, .ref (w_r w 293)), (3, .int x3), (4, .int s_.1)] 3 []) ?_ fu _ h
    clear h
    intro s_ y1 h hl1 hx1
    obtain ⟨x4, d⟩ := s_
    show gG w p l e R s m args below meth c 5 0 0 (gE w below args s dE none) d [(0, .ref (w_r w 295)), (1, .int x1), (2, .ref (w_r w 293)), (3, .int x3), (4, .int x4)] 3 []
    dsimp only at h
    unfold st_M_copies_295_293_3 at h
    refine g_iload C dX12_copies_3 4 rfl ?_
    refine g_sipush C dX12_copies_5 (v := 187) (by decide) ?_
    refine g_icmp_ge C dX12_copies_8 (tgt := 29) rfl (fun q => ?_) (fun q => ?_)
    · replace h := it_t q h
      replace h := ir_2 h hx1
      exact g_vret C hr hlk (Option.some.inj h) rfl dX12_copies_29
    · replace h := it_f q h
      refine g_aload_n C dX12_copies_11 2 rfl ?_
      refine g_iload_n C dX12_copies_12 3 rfl ?_
      refine g_iload C dX12_copies_13 4 rfl ?_
      refine g_iadd C dX12_copies_15  ?_
      refine g_aload_n C dX12_copies_16 0 rfl ?_
      refine g_iload_n C dX12_copies_17 1 rfl ?_
      refine g_iload C dX12_copies_18 4 rfl ?_
      refine g_iadd C dX12_copies_20  ?_
      have hg1 := gd_1 h
      replace h := gd_2 h
      refine g_iald C 295 q_295 hg1 _ rfl dX12_copies_21 ?_
      have hg2 := gd_1 h
      replace h := gd_2 h
      refine g_iast C 293 q_293 hg2 _ rfl  dX12_copies_22 ?_
      refine g_iinc C (lv' := [(4, .int (x4 + 1)), (0, .ref (w_r w 295)), (1, .int x1), (2, .ref (w_r w 293)), (3, .int x3)]) (v := (x4 + 1)) dX12_copies_23 4 rfl rfl (by decide) rfl ?_
      refine g_goto C dX12_copies_26 (tgt := 3) rfl ?_
      refine g_sub [1, 2, 3, 4, 0] (lv' := [(0, .ref (w_r w 295)), (1, .int x1), (2, .ref (w_r w 293)), (3, .int x3), (4, .int (x4 + 1))]) rfl ?_
      exact hl1 ((x4 + 1), (wr d 293 (x3 + x4).toNatClampNeg (d 295 (x1 + x4).toNatClampNeg))) (Option.some.inj h).symm
  unfold f_M_copies_295_293 at h
  refine g_iconst C dX12_copies_0 (v := 0) rfl ?_
  refine g_istore C (lv' := [(4, .int 0), (0, .ref (w_r w 295)), (1, .int x1), (2, .ref (w_r w 293)), (3, .int x3)]) dX12_copies_1 (by decide) rfl ?_
  refine g_sub [1, 2, 3, 4, 0] (lv' := [(0, .ref (w_r w 295)), (1, .int x1), (2, .ref (w_r w 293)), (3, .int x3), (4, .int 0)]) rfl ?_
  exact R3 x1 x3 0 d h
set_option maxHeartbeats 4000000 in
set_option maxRecDepth 100000 in
theorem m_M_restore {w : wT} {l : Launch} {d : Dt} {rE : Int32} {dE : Dt} (hO : okW w) (h : f_M_restore  d = some (rE, dE)) : gM w l yX12_restore cX12_restore 1 (Option.some Jvm.ClassFile.FieldType.int) 1 [.ref (w_r w 292)] d dE (some (.int rE)) := by
  refine gM_of (by decide) [(0, .ref (w_r w 292))] rfl rfl ?_ hO
  intro p e R s m args below meth c C hR hr hlk
  have R13 : ∀ (v1 : Int32) (d : Dt), f_M_restore_13  v1 d = some (rE, dE) → gG w p l e R s m args below meth c 1 0 0 (gE w below args s dE (some (.int rE))) d [(0, .ref (w_r w 292))] 13 [.int v1, .ref (w_r w 292)] := by
    intro  v1 d  h
    unfold f_M_restore_13 at h
    obtain ⟨r4, d5, hc6, h⟩ := ob2_1 h
    refine g_callVi C 292 q_292 vk_M_61 hR rfl (m_M_fails C.2.2.2.2.2.2.1 hc6) rfl rfl rfl dX12_restore_13 ?_
    refine g_if_eq C dX12_restore_16 (tgt := 21) rfl (fun q => ?_) (fun q => ?_)
    · replace h := it_t q h
      refine g_aload_n C dX12_restore_21 0 rfl ?_
      refine g_get C (.ref (w_r w 295)) 292 q_292 fk_M_16 rfl dX12_restore_22 ?_
      refine g_iconst C dX12_restore_25 (v := 0) rfl ?_
      refine g_aload_n C dX12_restore_26 0 rfl ?_
      refine g_get C (.ref (w_r w 293)) 292 q_292 fk_M_7 rfl dX12_restore_27 ?_
      refine g_iconst C dX12_restore_30 (v := 0) rfl ?_
      obtain ⟨d7, hc8, h⟩ := ob1_1 h
      refine g_callSv C sk_M_49 hR rfl (m_M_copies_295_293 C.2.2.2.2.2.2.1 hc8) rfl rfl rfl dX12_restore_31 ?_
      refine g_aload_n C dX12_restore_34 0 rfl ?_
      refine g_iconst C dX12_restore_35 (v := 0) rfl ?_
      refine g_put C 292 q_292 pk_M_46 rfl rfl dX12_restore_36 ?_
      refine g_aload_n C dX12_restore_39 0 rfl ?_
      refine g_get C (.ref (w_r w 293)) 292 q_292 fk_M_7 rfl dX12_restore_40 ?_
      refine g_iconst C dX12_restore_43 (v := 0) rfl ?_
      refine g_iald C 293 q_293 (by decide) 0 (by decide) dX12_restore_44 ?_
      exact g_iret C hr hlk rfl (congrArg Prod.snd (Option.some.inj h)) (congrArg (fun z => some (Value.int z.1)) (Option.some.inj h)) dX12_restore_45
    · replace h := it_f q h
      refine g_iconst C dX12_restore_19 (v := 0) rfl ?_
      exact g_iret C hr hlk rfl (congrArg Prod.snd (Option.some.inj h)) (congrArg (fun z => some (Value.int z.1)) (Option.some.inj h)) dX12_restore_20
  unfold f_M_restore at h
  refine g_aload_n C dX12_restore_0 0 rfl ?_
  refine g_aload_n C dX12_restore_1 0 rfl ?_
  refine g_get C (.int (d 292 4)) 292 q_292 fk_M_264 rfl dX12_restore_2 ?_
  refine g_if_eq C dX12_restore_5 (tgt := 12) rfl (fun q => ?_) (fun q => ?_)
  · replace h := it_t q h
    refine g_iconst C dX12_restore_12 (v := 1) rfl ?_
    exact R13 1 d h
  · replace h := it_f q h
    refine g_iconst C dX12_restore_8 (v := 0) rfl ?_
    refine g_goto C dX12_restore_9 (tgt := 13) rfl ?_
    exact R13 0 d h
set_option maxHeartbeats 4000000 in
set_option maxRecDepth 100000 in
theorem m_M_retract {w : wT} {l : Launch} {x1 : Int32} {d : Dt} {rE : Int32} {dE : Dt} (hO : okW w) (h : f_M_retract x1 d = some (rE, dE)) : gM w l yX12_retract cX12_retract 3 (Option.some Jvm.ClassFile.FieldType.boolean) 2 [.ref (w_r w 292), .int x1] d dE (some (.int rE)) := by
  refine gM_of (by decide) [(0, .ref (w_r w 292)), (1, .int x1)] rfl rfl ?_ hO
  intro p e R s m args below meth c C hR hr hlk
  have R27 : ∀ (x1 : Int32) (v1 : Int32) (d : Dt), f_M_retract_27 x1 v1 d = some (rE, dE) → gG w p l e R s m args below meth c 3 0 0 (gE w below args s dE (some (.int rE))) d [(0, .ref (w_r w 292)), (1, .int x1)] 27 [.int v1, .ref (w_r w 292)] := by
    intro x1 v1 d  h
    unfold f_M_retract_27 at h
    obtain ⟨r8, d9, hc10, h⟩ := ob2_1 h
    refine g_callVi C 292 q_292 vk_M_61 hR rfl (m_M_fails C.2.2.2.2.2.2.1 hc10) rfl rfl rfl dX12_retract_27 ?_
    refine g_if_eq C dX12_retract_30 (tgt := 35) rfl (fun q => ?_) (fun q => ?_)
    · replace h := it_t q h
      refine g_aload_n C dX12_retract_35 0 rfl ?_
      refine g_iload_n C dX12_retract_36 1 rfl ?_
      refine g_iconst C dX12_retract_37 (v := 1) rfl ?_
      obtain ⟨r11, hc12, h⟩ := ob1_1 h
      refine g_callVi C 292 q_292 vk_M_87 hR rfl (m_M_of C.2.2.2.2.2.2.1 hc12) rfl rfl rfl dX12_retract_38 ?_
      refine g_istore_n C (lv' := [(2, .int r11), (0, .ref (w_r w 292)), (1, .int x1)]) dX12_retract_41 (by decide) rfl ?_
      refine g_aload_n C dX12_retract_42 1 rfl ?_
      refine g_aload_n C dX12_retract_43 1 rfl ?_
      refine g_get C (.ref (w_r w 293)) 292 q_292 fk_M_7 rfl dX12_retract_44 ?_
      obtain ⟨d13, hc14, h⟩ := ob1_1 h
      refine g_callVv C 292 q_292 vk_M_64 hR rfl (m_M_keeps C.2.2.2.2.2.2.1 hc14) rfl rfl rfl dX12_retract_47 ?_
      refine g_aload_n C dX12_retract_50 1 rfl ?_
      refine g_iload_n C dX12_retract_51 2 rfl ?_
      refine g_iconst C dX12_retract_52 (v := 1) rfl ?_
      refine g_iconst C dX12_retract_53 (v := 0) rfl ?_
      obtain ⟨d15, hc16, h⟩ := ob1_1 h
      refine g_callVv C 292 q_292 vk_M_68 hR rfl (m_M_lays C.2.2.2.2.2.2.1 hc16) rfl rfl rfl dX12_retract_54 ?_
      refine g_iload_n C dX12_retract_57 0 rfl ?_
      refine g_iconst C dX12_retract_58 (v := 1) rfl ?_
      refine g_icmp_ne C dX12_retract_59 (tgt := 66) rfl (fun q => ?_) (fun q => ?_)
      · replace h := it_f q h
        refine g_iconst C dX12_retract_66 (v := 0) rfl ?_
        exact g_iret C hr hlk rfl (congrArg Prod.snd (Option.some.inj h)) (congrArg (fun z => some (Value.int z.1)) (Option.some.inj h)) dX12_retract_67
      · replace h := it_t q h
        refine g_iconst C dX12_retract_62 (v := 1) rfl ?_
        refine g_goto C dX12_retract_63 (tgt := 67) rfl ?_
        exact g_iret C hr hlk rfl (congrArg Prod.snd (Option.some.inj h)) (congrArg (fun z => some (Value.int z.1)) (Option.some.inj h)) dX12_retract_67
    · replace h := it_f q h
      refine g_iconst C dX12_retract_33 (v := 0) rfl ?_
      exact g_iret C hr hlk rfl (congrArg Prod.snd (Option.some.inj h)) (congrArg (fun z => some (Value.int z.1)) (Option.some.inj h)) dX12_retract_34
  unfold f_M_retract at h
  refine g_aload_n C dX12_retract_0 0 rfl ?_
  refine g_aload_n C dX12_retract_1 0 rfl ?_
  refine g_iload_n C dX12_retract_2 1 rfl ?_
  obtain ⟨r17, hc18, h⟩ := ob1_1 h
  refine g_callVi C 292 q_292 vk_M_57 hR rfl (m_M_isLantern C.2.2.2.2.2.2.1 hc18) rfl rfl rfl dX12_retract_3 ?_
  refine g_if_ne C dX12_retract_6 (tgt := 13) rfl (fun q => ?_) (fun q => ?_)
  · replace h := it_f q h
    refine g_aload_n C dX12_retract_13 0 rfl ?_
    refine g_iload_n C dX12_retract_14 1 rfl ?_
    refine g_iconst C dX12_retract_15 (v := 1) rfl ?_
    obtain ⟨r19, hc20, h⟩ := ob1_1 h
    refine g_callVi C 292 q_292 vk_M_87 hR rfl (m_M_of C.2.2.2.2.2.2.1 hc20) rfl rfl rfl dX12_retract_16 ?_
    refine g_if_ne C dX12_retract_19 (tgt := 26) rfl (fun q => ?_) (fun q => ?_)
    · replace h := it_f q h
      refine g_iconst C dX12_retract_26 (v := 0) rfl ?_
      exact R27 x1 0 d h
    · replace h := it_t q h
      refine g_iconst C dX12_retract_22 (v := 2) rfl ?_
      refine g_goto C dX12_retract_23 (tgt := 27) rfl ?_
      exact R27 x1 2 d h
  · replace h := it_t q h
    refine g_iconst C dX12_retract_9 (v := 1) rfl ?_
    refine g_goto C dX12_retract_10 (tgt := 27) rfl ?_
    exact R27 x1 1 d h
set_option maxHeartbeats 4000000 in
set_option maxRecDepth 100000 in
theorem m_M_copies_296_294 {w : wT} {l : Launch} {x1 x3 : Int32} {d : Dt} {dE : Dt} (hO : okW w) (h : f_M_copies_296_294 x1 x3 d = some dE) : gM w l yX12_copies cX12_copies 5 (Option.none : Option Jvm.ClassFile.FieldType) 0 [.ref (w_r w 296), .int x1, .ref (w_r w 294), .int x3] d dE none := by
  refine gM_of (by decide) [(0, .ref (w_r w 296)), (1, .int x1), (2, .ref (w_r w 294)), (3, .int x3)] rfl rfl ?_ hO
  intro p e R s m args below meth c C hR hr hlk
  have R3 : ∀ (x1 : Int32) (x3 : Int32) (x4 : Int32) (d : Dt), f_M_copies_296_294_3 x1 x3 x4 d = some dE → gG w p l e R s m args below meth c 5 0 0 (gE w below args s dE none) d [(0, .ref (w_r w 296)), (1, .int x1), (2, .ref (w_r w 294)), (3, .int x3), (4, .int x4)] 3 [] := by
    intro x1 x3 x4 d  h
    refine iter_ind (G := fun s_ : (Int32 × Dt) => gG w p l e R s m args below meth c 5 0 0 (gE w below args s dE none) s_.2 [(0, .ref (w_r w 296)), (1, .int x1), (2, .ref (w_r w 294)), (3, .int x3), (4, .int s_.1)] 3 []) ?_ fu _ h
    clear h
    intro s_ y1 h hl1 hx1
    obtain ⟨x4, d⟩ := s_
    show gG w p l e R s m args below meth c 5 0 0 (gE w below args s dE none) d [(0, .ref (w_r w 296)), (1, .int x1), (2, .ref (w_r w 294)), (3, .int x3), (4, .int x4)] 3 []
    dsimp only at h
    unfold st_M_copies_296_294_3 at h
    refine g_iload C dX12_copies_3 4 rfl ?_
    refine g_sipush C dX12_copies_5 (v := 187) (by decide) ?_
    refine g_icmp_ge C dX12_copies_8 (tgt := 29) rfl (fun q => ?_) (fun q => ?_)
    · replace h := it_t q h
      replace h := ir_2 h hx1
      exact g_vret C hr hlk (Option.some.inj h) rfl dX12_copies_29
    · replace h := it_f q h
      refine g_aload_n C dX12_copies_11 2 rfl ?_
      refine g_iload_n C dX12_copies_12 3 rfl ?_
      refine g_iload C dX12_copies_13 4 rfl ?_
      refine g_iadd C dX12_copies_15  ?_
      refine g_aload_n C dX12_copies_16 0 rfl ?_
      refine g_iload_n C dX12_copies_17 1 rfl ?_
      refine g_iload C dX12_copies_18 4 rfl ?_
      refine g_iadd C dX12_copies_20  ?_
      have hg1 := gd_1 h
      replace h := gd_2 h
      refine g_iald C 296 q_296 hg1 _ rfl dX12_copies_21 ?_
      have hg2 := gd_1 h
      replace h := gd_2 h
      refine g_iast C 294 q_294 hg2 _ rfl  dX12_copies_22 ?_
      refine g_iinc C (lv' := [(4, .int (x4 + 1)), (0, .ref (w_r w 296)), (1, .int x1), (2, .ref (w_r w 294)), (3, .int x3)]) (v := (x4 + 1)) dX12_copies_23 4 rfl rfl (by decide) rfl ?_
      refine g_goto C dX12_copies_26 (tgt := 3) rfl ?_
      refine g_sub [1, 2, 3, 4, 0] (lv' := [(0, .ref (w_r w 296)), (1, .int x1), (2, .ref (w_r w 294)), (3, .int x3), (4, .int (x4 + 1))]) rfl ?_
      exact hl1 ((x4 + 1), (wr d 294 (x3 + x4).toNatClampNeg (d 296 (x1 + x4).toNatClampNeg))) (Option.some.inj h).symm
  unfold f_M_copies_296_294 at h
  refine g_iconst C dX12_copies_0 (v := 0) rfl ?_
  refine g_istore C (lv' := [(4, .int 0), (0, .ref (w_r w 296)), (1, .int x1), (2, .ref (w_r w 294)), (3, .int x3)]) dX12_copies_1 (by decide) rfl ?_
  refine g_sub [1, 2, 3, 4, 0] (lv' := [(0, .ref (w_r w 296)), (1, .int x1), (2, .ref (w_r w 294)), (3, .int x3), (4, .int 0)]) rfl ?_
  exact R3 x1 x3 0 d h
set_option maxHeartbeats 4000000 in
set_option maxRecDepth 100000 in
theorem m_M_keeps_292_296 {w : wT} {l : Launch} {d : Dt} {dE : Dt} (hO : okW w) (h : f_M_keeps_292_296  d = some dE) : gM w l yX12_keeps cX12_keeps 3 (Option.none : Option Jvm.ClassFile.FieldType) 1 [.ref (w_r w 292), .ref (w_r w 296)] d dE none := by
  refine gM_of (by decide) [(0, .ref (w_r w 292)), (1, .ref (w_r w 296))] rfl rfl ?_ hO
  intro p e R s m args below meth c C hR hr hlk
  have R63 : ∀ (d : Dt), f_M_keeps_292_296_63   d = some dE → gG w p l e R s m args below meth c 3 0 0 (gE w below args s dE none) d [(0, .ref (w_r w 292)), (1, .ref (w_r w 296))] 63 [] := by
    intro   d  h
    unfold f_M_keeps_292_296_63 at h
    refine g_aload_n C dX12_keeps_63 1 rfl ?_
    refine g_iconst C dX12_keeps_64 (v := 0) rfl ?_
    refine g_aload_n C dX12_keeps_65 0 rfl ?_
    refine g_get C (.ref (w_r w 294)) 292 q_292 fk_M_13 rfl dX12_keeps_66 ?_
    refine g_sipush C dX12_keeps_69 (v := 187) (by decide) ?_
    refine g_aload_n C dX12_keeps_72 0 rfl ?_
    refine g_get C (.int (d 292 5)) 292 q_292 fk_M_46 rfl dX12_keeps_73 ?_
    refine g_imul C dX12_keeps_76  ?_
    obtain ⟨d2, hc3, h⟩ := ob1_1 h
    refine g_callSv C sk_M_49 hR rfl (m_M_copies_296_294 C.2.2.2.2.2.2.1 hc3) rfl rfl rfl dX12_keeps_77 ?_
    refine g_aload_n C dX12_keeps_80 0 rfl ?_
    refine g_dup C dX12_keeps_81 rfl ?_
    refine g_get C (.int (d2 292 5)) 292 q_292 fk_M_46 rfl dX12_keeps_82 ?_
    refine g_iconst C dX12_keeps_85 (v := 1) rfl ?_
    refine g_iadd C dX12_keeps_86  ?_
    refine g_put C 292 q_292 pk_M_46 rfl rfl dX12_keeps_87 ?_
    exact g_vret C hr hlk (Option.some.inj h) rfl dX12_keeps_90
  have R24 : ∀ (x2 : Int32) (d : Dt), f_M_keeps_292_296_24 x2 d = some dE → gG w p l e R s m args below meth c 3 0 0 (gE w below args s dE none) d [(0, .ref (w_r w 292)), (1, .ref (w_r w 296)), (2, .int x2)] 24 [] := by
    intro x2 d  h
    refine iter_ind (G := fun s_ : (Int32 × Dt) => gG w p l e R s m args below meth c 3 0 0 (gE w below args s dE none) s_.2 [(0, .ref (w_r w 292)), (1, .ref (w_r w 296)), (2, .int s_.1)] 24 []) ?_ fu _ h
    clear h
    intro s_ y1 h hl1 hx1
    obtain ⟨x2, d⟩ := s_
    show gG w p l e R s m args below meth c 3 0 0 (gE w below args s dE none) d [(0, .ref (w_r w 292)), (1, .ref (w_r w 296)), (2, .int x2)] 24 []
    dsimp only at h
    unfold st_M_keeps_292_296_24 at h
    refine g_iload_n C dX12_keeps_24 2 rfl ?_
    refine g_sipush C dX12_keeps_25 (v := 1309) (by decide) ?_
    refine g_icmp_ge C dX12_keeps_28 (tgt := 53) rfl (fun q => ?_) (fun q => ?_)
    · replace h := it_t q h
      replace h := ir_2 h hx1
      refine g_aload_n C dX12_keeps_53 0 rfl ?_
      refine g_dup C dX12_keeps_54 rfl ?_
      refine g_get C (.int (d 292 5)) 292 q_292 fk_M_46 rfl dX12_keeps_55 ?_
      refine g_iconst C dX12_keeps_58 (v := 1) rfl ?_
      refine g_isub C dX12_keeps_59  ?_
      refine g_put C 292 q_292 pk_M_46 rfl rfl dX12_keeps_60 ?_
      refine g_sub [0, 1] (lv' := [(0, .ref (w_r w 292)), (1, .ref (w_r w 296))]) rfl ?_
      exact R63 (wr d 292 5 ((d 292 5) - 1)) h
    · replace h := it_f q h
      refine g_aload_n C dX12_keeps_31 0 rfl ?_
      refine g_get C (.ref (w_r w 294)) 292 q_292 fk_M_13 rfl dX12_keeps_32 ?_
      refine g_iload_n C dX12_keeps_35 2 rfl ?_
      refine g_aload_n C dX12_keeps_36 0 rfl ?_
      refine g_get C (.ref (w_r w 294)) 292 q_292 fk_M_13 rfl dX12_keeps_37 ?_
      refine g_iload_n C dX12_keeps_40 2 rfl ?_
      refine g_sipush C dX12_keeps_41 (v := 187) (by decide) ?_
      refine g_iadd C dX12_keeps_44  ?_
      have hg4 := gd_1 h
      replace h := gd_2 h
      refine g_iald C 294 q_294 hg4 _ rfl dX12_keeps_45 ?_
      have hg5 := gd_1 h
      replace h := gd_2 h
      refine g_iast C 294 q_294 hg5 _ rfl  dX12_keeps_46 ?_
      refine g_iinc C (lv' := [(2, .int (x2 + 1)), (0, .ref (w_r w 292)), (1, .ref (w_r w 296))]) (v := (x2 + 1)) dX12_keeps_47 2 rfl rfl (by decide) rfl ?_
      refine g_goto C dX12_keeps_50 (tgt := 24) rfl ?_
      refine g_sub [1, 2, 0] (lv' := [(0, .ref (w_r w 292)), (1, .ref (w_r w 296)), (2, .int (x2 + 1))]) rfl ?_
      exact hl1 ((x2 + 1), (wr d 294 x2.toNatClampNeg (d 294 (x2 + 187).toNatClampNeg))) (Option.some.inj h).symm
  unfold f_M_keeps_292_296 at h
  refine g_aload_n C dX12_keeps_0 0 rfl ?_
  refine g_iconst C dX12_keeps_1 (v := 0) rfl ?_
  refine g_put C 292 q_292 pk_M_39 rfl rfl dX12_keeps_2 ?_
  refine g_aload_n C dX12_keeps_5 0 rfl ?_
  refine g_get C (.int ((wr d 292 7 0) 292 6)) 292 q_292 fk_M_42 rfl dX12_keeps_6 ?_
  refine g_if_eq C dX12_keeps_9 (tgt := 13) rfl (fun q => ?_) (fun q => ?_)
  · replace h := it_t q h
    refine g_aload_n C dX12_keeps_13 0 rfl ?_
    refine g_get C (.int ((wr d 292 7 0) 292 5)) 292 q_292 fk_M_46 rfl dX12_keeps_14 ?_
    refine g_bipush C dX12_keeps_17 (v := 8) (by decide) ?_
    refine g_icmp_ne C dX12_keeps_19 (tgt := 63) rfl (fun q => ?_) (fun q => ?_)
    · replace h := it_f q h
      exact R63 (wr d 292 7 0) h
    · replace h := it_t q h
      refine g_iconst C dX12_keeps_22 (v := 0) rfl ?_
      refine g_istore_n C (lv' := [(2, .int 0), (0, .ref (w_r w 292)), (1, .ref (w_r w 296))]) dX12_keeps_23 (by decide) rfl ?_
      refine g_sub [1, 2, 0] (lv' := [(0, .ref (w_r w 292)), (1, .ref (w_r w 296)), (2, .int 0)]) rfl ?_
      exact R24 0 (wr d 292 7 0) h
  · replace h := it_f q h
    exact g_vret C hr hlk (Option.some.inj h) rfl dX12_keeps_12
set_option maxHeartbeats 4000000 in
set_option maxRecDepth 100000 in
theorem m_M_copies_296_293 {w : wT} {l : Launch} {x1 x3 : Int32} {d : Dt} {dE : Dt} (hO : okW w) (h : f_M_copies_296_293 x1 x3 d = some dE) : gM w l yX12_copies cX12_copies 5 (Option.none : Option Jvm.ClassFile.FieldType) 0 [.ref (w_r w 296), .int x1, .ref (w_r w 293), .int x3] d dE none := by
  refine gM_of (by decide) [(0, .ref (w_r w 296)), (1, .int x1), (2, .ref (w_r w 293)), (3, .int x3)] rfl rfl ?_ hO
  intro p e R s m args below meth c C hR hr hlk
  have R3 : ∀ (x1 : Int32) (x3 : Int32) (x4 : Int32) (d : Dt), f_M_copies_296_293_3 x1 x3 x4 d = some dE → gG w p l e R s m args below meth c 5 0 0 (gE w below args s dE none) d [(0, .ref (w_r w 296)), (1, .int x1), (2, .ref (w_r w 293)), (3, .int x3), (4, .int x4)] 3 [] := by
    intro x1 x3 x4 d  h
    refine iter_ind (G := fun s_ : (Int32 × Dt) => gG w p l e R s m args below meth c 5 0 0 (gE w below args s dE none) s_.2 [(0, .ref (w_r w 296)), (1, .int x1), (2, .ref (w_r w 293)), (3, .int x3), (4, .int s_.1)] 3 []) ?_ fu _ h
    clear h
    intro s_ y1 h hl1 hx1
    obtain ⟨x4, d⟩ := s_
    show gG w p l e R s m args below meth c 5 0 0 (gE w below args s dE none) d [(0, .ref (w_r w 296)), (1, .int x1), (2, .ref (w_r w 293)), (3, .int x3), (4, .int x4)] 3 []
    dsimp only at h
    unfold st_M_copies_296_293_3 at h
    refine g_iload C dX12_copies_3 4 rfl ?_
    refine g_sipush C dX12_copies_5 (v := 187) (by decide) ?_
    refine g_icmp_ge C dX12_copies_8 (tgt := 29) rfl (fun q => ?_) (fun q => ?_)
    · replace h := it_t q h
      replace h := ir_2 h hx1
      exact g_vret C hr hlk (Option.some.inj h) rfl dX12_copies_29
    · replace h := it_f q h
      refine g_aload_n C dX12_copies_11 2 rfl ?_
      refine g_iload_n C dX12_copies_12 3 rfl ?_
      refine g_iload C dX12_copies_13 4 rfl ?_
      refine g_iadd C dX12_copies_15  ?_
      refine g_aload_n C dX12_copies_16 0 rfl ?_
      refine g_iload_n C dX12_copies_17 1 rfl ?_
      refine g_iload C dX12_copies_18 4 rfl ?_
      refine g_iadd C dX12_copies_20  ?_
      have hg1 := gd_1 h
      replace h := gd_2 h
      refine g_iald C 296 q_296 hg1 _ rfl dX12_copies_21 ?_
      have hg2 := gd_1 h
      replace h := gd_2 h
      refine g_iast C 293 q_293 hg2 _ rfl  dX12_copies_22 ?_
      refine g_iinc C (lv' := [(4, .int (x4 + 1)), (0, .ref (w_r w 296)), (1, .int x1), (2, .ref (w_r w 293)), (3, .int x3)]) (v := (x4 + 1)) dX12_copies_23 4 rfl rfl (by decide) rfl ?_
      refine g_goto C dX12_copies_26 (tgt := 3) rfl ?_
      refine g_sub [1, 2, 3, 4, 0] (lv' := [(0, .ref (w_r w 296)), (1, .int x1), (2, .ref (w_r w 293)), (3, .int x3), (4, .int (x4 + 1))]) rfl ?_
      exact hl1 ((x4 + 1), (wr d 293 (x3 + x4).toNatClampNeg (d 296 (x1 + x4).toNatClampNeg))) (Option.some.inj h).symm
  unfold f_M_copies_296_293 at h
  refine g_iconst C dX12_copies_0 (v := 0) rfl ?_
  refine g_istore C (lv' := [(4, .int 0), (0, .ref (w_r w 296)), (1, .int x1), (2, .ref (w_r w 293)), (3, .int x3)]) dX12_copies_1 (by decide) rfl ?_
  refine g_sub [1, 2, 3, 4, 0] (lv' := [(0, .ref (w_r w 296)), (1, .int x1), (2, .ref (w_r w 293)), (3, .int x3), (4, .int 0)]) rfl ?_
  exact R3 x1 x3 0 d h
set_option maxHeartbeats 4000000 in
set_option maxRecDepth 100000 in
theorem m_M_copies_293_296 {w : wT} {l : Launch} {x1 x3 : Int32} {d : Dt} {dE : Dt} (hO : okW w) (h : f_M_copies_293_296 x1 x3 d = some dE) : gM w l yX12_copies cX12_copies 5 (Option.none : Option Jvm.ClassFile.FieldType) 0 [.ref (w_r w 293), .int x1, .ref (w_r w 296), .int x3] d dE none := by
  refine gM_of (by decide) [(0, .ref (w_r w 293)), (1, .int x1), (2, .ref (w_r w 296)), (3, .int x3)] rfl rfl ?_ hO
  intro p e R s m args below meth c C hR hr hlk
  have R3 : ∀ (x1 : Int32) (x3 : Int32) (x4 : Int32) (d : Dt), f_M_copies_293_296_3 x1 x3 x4 d = some dE → gG w p l e R s m args below meth c 5 0 0 (gE w below args s dE none) d [(0, .ref (w_r w 293)), (1, .int x1), (2, .ref (w_r w 296)), (3, .int x3), (4, .int x4)] 3 [] := by
    intro x1 x3 x4 d  h
    refine iter_ind (G := fun s_ : (Int32 × Dt) => gG w p l e R s m args below meth c 5 0 0 (gE w below args s dE none) s_.2 [(0, .ref (w_r w 293)), (1, .int x1), (2, .ref (w_r w 296)), (3, .int x3), (4, .int s_.1)] 3 []) ?_ fu _ h
    clear h
    intro s_ y1 h hl1 hx1
    obtain ⟨x4, d⟩ := s_
    show gG w p l e R s m args below meth c 5 0 0 (gE w below args s dE none) d [(0, .ref (w_r w 293)), (1, .int x1), (2, .ref (w_r w 296)), (3, .int x3), (4, .int x4)] 3 []
    dsimp only at h
    unfold st_M_copies_293_296_3 at h
    refine g_iload C dX12_copies_3 4 rfl ?_
    refine g_sipush C dX12_copies_5 (v := 187) (by decide) ?_
    refine g_icmp_ge C dX12_copies_8 (tgt := 29) rfl (fun q => ?_) (fun q => ?_)
    · replace h := it_t q h
      replace h := ir_2 h hx1
      exact g_vret C hr hlk (Option.some.inj h) rfl dX12_copies_29
    · replace h := it_f q h
      refine g_aload_n C dX12_copies_11 2 rfl ?_
      refine g_iload_n C dX12_copies_12 3 rfl ?_
      refine g_iload C dX12_copies_13 4 rfl ?_
      refine g_iadd C dX12_copies_15  ?_
      refine g_aload_n C dX12_copies_16 0 rfl ?_
      refine g_iload_n C dX12_copies_17 1 rfl ?_
      refine g_iload C dX12_copies_18 4 rfl ?_
      refine g_iadd C dX12_copies_20  ?_
      have hg1 := gd_1 h
      replace h := gd_2 h
      refine g_iald C 293 q_293 hg1 _ rfl dX12_copies_21 ?_
      have hg2 := gd_1 h
      replace h := gd_2 h
      refine g_iast C 296 q_296 hg2 _ rfl  dX12_copies_22 ?_
      refine g_iinc C (lv' := [(4, .int (x4 + 1)), (0, .ref (w_r w 293)), (1, .int x1), (2, .ref (w_r w 296)), (3, .int x3)]) (v := (x4 + 1)) dX12_copies_23 4 rfl rfl (by decide) rfl ?_
      refine g_goto C dX12_copies_26 (tgt := 3) rfl ?_
      refine g_sub [1, 2, 3, 4, 0] (lv' := [(0, .ref (w_r w 293)), (1, .int x1), (2, .ref (w_r w 296)), (3, .int x3), (4, .int (x4 + 1))]) rfl ?_
      exact hl1 ((x4 + 1), (wr d 296 (x3 + x4).toNatClampNeg (d 293 (x1 + x4).toNatClampNeg))) (Option.some.inj h).symm
  unfold f_M_copies_293_296 at h
  refine g_iconst C dX12_copies_0 (v := 0) rfl ?_
  refine g_istore C (lv' := [(4, .int 0), (0, .ref (w_r w 293)), (1, .int x1), (2, .ref (w_r w 296)), (3, .int x3)]) dX12_copies_1 (by decide) rfl ?_
  refine g_sub [1, 2, 3, 4, 0] (lv' := [(0, .ref (w_r w 293)), (1, .int x1), (2, .ref (w_r w 296)), (3, .int x3), (4, .int 0)]) rfl ?_
  exact R3 x1 x3 0 d h
set_option maxHeartbeats 4000000 in
set_option maxRecDepth 100000 in
theorem m_M_copies_293_295 {w : wT} {l : Launch} {x1 x3 : Int32} {d : Dt} {dE : Dt} (hO : okW w) (h : f_M_copies_293_295 x1 x3 d = some dE) : gM w l yX12_copies cX12_copies 5 (Option.none : Option Jvm.ClassFile.FieldType) 0 [.ref (w_r w 293), .int x1, .ref (w_r w 295), .int x3] d dE none := by
  refine gM_of (by decide) [(0, .ref (w_r w 293)), (1, .int x1), (2, .ref (w_r w 295)), (3, .int x3)] rfl rfl ?_ hO
  intro p e R s m args below meth c C hR hr hlk
  have R3 : ∀ (x1 : Int32) (x3 : Int32) (x4 : Int32) (d : Dt), f_M_copies_293_295_3 x1 x3 x4 d = some dE → gG w p l e R s m args below meth c 5 0 0 (gE w below args s dE none) d [(0, .ref (w_r w 293)), (1, .int x1), (2, .ref (w_r w 295)), (3, .int x3), (4, .int x4)] 3 [] := by
    intro x1 x3 x4 d  h
    refine iter_ind (G := fun s_ : (Int32 × Dt) => gG w p l e R s m args below meth c 5 0 0 (gE w below args s dE none) s_.2 [(0, .ref (w_r w 293)), (1, .int x1), (2, .ref (w_r w 295)), (3, .int x3), (4, .int s_.1)] 3 []) ?_ fu _ h
    clear h
    intro s_ y1 h hl1 hx1
    obtain ⟨x4, d⟩ := s_
    show gG w p l e R s m args below meth c 5 0 0 (gE w below args s dE none) d [(0, .ref (w_r w 293)), (1, .int x1), (2, .ref (w_r w 295)), (3, .int x3), (4, .int x4)] 3 []
    dsimp only at h
    unfold st_M_copies_293_295_3 at h
    refine g_iload C dX12_copies_3 4 rfl ?_
    refine g_sipush C dX12_copies_5 (v := 187) (by decide) ?_
    refine g_icmp_ge C dX12_copies_8 (tgt := 29) rfl (fun q => ?_) (fun q => ?_)
    · replace h := it_t q h
      replace h := ir_2 h hx1
      exact g_vret C hr hlk (Option.some.inj h) rfl dX12_copies_29
    · replace h := it_f q h
      refine g_aload_n C dX12_copies_11 2 rfl ?_
      refine g_iload_n C dX12_copies_12 3 rfl ?_
      refine g_iload C dX12_copies_13 4 rfl ?_
      refine g_iadd C dX12_copies_15  ?_
      refine g_aload_n C dX12_copies_16 0 rfl ?_
      refine g_iload_n C dX12_copies_17 1 rfl ?_
      refine g_iload C dX12_copies_18 4 rfl ?_
      refine g_iadd C dX12_copies_20  ?_
      have hg1 := gd_1 h
      replace h := gd_2 h
      refine g_iald C 293 q_293 hg1 _ rfl dX12_copies_21 ?_
      have hg2 := gd_1 h
      replace h := gd_2 h
      refine g_iast C 295 q_295 hg2 _ rfl  dX12_copies_22 ?_
      refine g_iinc C (lv' := [(4, .int (x4 + 1)), (0, .ref (w_r w 293)), (1, .int x1), (2, .ref (w_r w 295)), (3, .int x3)]) (v := (x4 + 1)) dX12_copies_23 4 rfl rfl (by decide) rfl ?_
      refine g_goto C dX12_copies_26 (tgt := 3) rfl ?_
      refine g_sub [1, 2, 3, 4, 0] (lv' := [(0, .ref (w_r w 293)), (1, .int x1), (2, .ref (w_r w 295)), (3, .int x3), (4, .int (x4 + 1))]) rfl ?_
      exact hl1 ((x4 + 1), (wr d 295 (x3 + x4).toNatClampNeg (d 293 (x1 + x4).toNatClampNeg))) (Option.some.inj h).symm
  unfold f_M_copies_293_295 at h
  refine g_iconst C dX12_copies_0 (v := 0) rfl ?_
  refine g_istore C (lv' := [(4, .int 0), (0, .ref (w_r w 293)), (1, .int x1), (2, .ref (w_r w 295)), (3, .int x3)]) dX12_copies_1 (by decide) rfl ?_
  refine g_sub [1, 2, 3, 4, 0] (lv' := [(0, .ref (w_r w 293)), (1, .int x1), (2, .ref (w_r w 295)), (3, .int x3), (4, .int 0)]) rfl ?_
  exact R3 x1 x3 0 d h
set_option maxHeartbeats 4000000 in
set_option maxRecDepth 100000 in
theorem m_M_save {w : wT} {l : Launch} {d : Dt} {rE : Int32} {dE : Dt} (hO : okW w) (h : f_M_save  d = some (rE, dE)) : gM w l yX12_save cX12_save 1 (Option.some Jvm.ClassFile.FieldType.int) 1 [.ref (w_r w 292)] d dE (some (.int rE)) := by
  refine gM_of (by decide) [(0, .ref (w_r w 292))] rfl rfl ?_ hO
  intro p e R s m args below meth c C hR hr hlk
  unfold f_M_save at h
  refine g_aload_n C dX12_save_0 0 rfl ?_
  refine g_iconst C dX12_save_1 (v := 0) rfl ?_
  refine g_put C 292 q_292 pk_M_39 rfl rfl dX12_save_2 ?_
  refine g_aload_n C dX12_save_5 0 rfl ?_
  refine g_iconst C dX12_save_6 (v := 1) rfl ?_
  refine g_put C 292 q_292 pk_M_264 rfl rfl dX12_save_7 ?_
  refine g_aload_n C dX12_save_10 0 rfl ?_
  refine g_get C (.ref (w_r w 293)) 292 q_292 fk_M_7 rfl dX12_save_11 ?_
  refine g_iconst C dX12_save_14 (v := 0) rfl ?_
  refine g_aload_n C dX12_save_15 0 rfl ?_
  refine g_get C (.ref (w_r w 295)) 292 q_292 fk_M_16 rfl dX12_save_16 ?_
  refine g_iconst C dX12_save_19 (v := 0) rfl ?_
  obtain ⟨d2, hc3, h⟩ := ob1_1 h
  refine g_callSv C sk_M_49 hR rfl (m_M_copies_293_295 C.2.2.2.2.2.2.1 hc3) rfl rfl rfl dX12_save_20 ?_
  refine g_aload_n C dX12_save_23 0 rfl ?_
  refine g_get C (.ref (w_r w 293)) 292 q_292 fk_M_7 rfl dX12_save_24 ?_
  refine g_iconst C dX12_save_27 (v := 0) rfl ?_
  refine g_iald C 293 q_293 (by decide) 0 (by decide) dX12_save_28 ?_
  exact g_iret C hr hlk rfl (congrArg Prod.snd (Option.some.inj h)) (congrArg (fun z => some (Value.int z.1)) (Option.some.inj h)) dX12_save_29
set_option maxHeartbeats 4000000 in
set_option maxRecDepth 100000 in
theorem m_M_secondOf {w : wT} {l : Launch} {x1 : Int32} {d : Dt} {rE : Int32} {dE : Dt} (hO : okW w) (h : f_M_secondOf x1 d = some (rE, dE)) : gM w l yX12_secondOf cX12_secondOf 2 (Option.some Jvm.ClassFile.FieldType.int) 2 [.ref (w_r w 292), .int x1] d dE (some (.int rE)) := by
  refine gM_of (by decide) [(0, .ref (w_r w 292)), (1, .int x1)] rfl rfl ?_ hO
  intro p e R s m args below meth c C hR hr hlk
  have R14 : ∀ (x1 : Int32) (v1 : Int32) (d : Dt), f_M_secondOf_14 x1 v1 d = some (rE, dE) → gG w p l e R s m args below meth c 2 0 0 (gE w below args s dE (some (.int rE))) d [(0, .ref (w_r w 292)), (1, .int x1)] 14 [.int v1, .ref (w_r w 292)] := by
    intro x1 v1 d  h
    unfold f_M_secondOf_14 at h
    obtain ⟨r5, d6, hc7, h⟩ := ob2_1 h
    refine g_callVi C 292 q_292 vk_M_61 hR rfl (m_M_fails C.2.2.2.2.2.2.1 hc7) rfl rfl rfl dX12_secondOf_14 ?_
    refine g_if_eq C dX12_secondOf_17 (tgt := 24) rfl (fun q => ?_) (fun q => ?_)
    · replace h := it_t q h
      refine g_aload_n C dX12_secondOf_24 0 rfl ?_
      refine g_iload_n C dX12_secondOf_25 1 rfl ?_
      refine g_iconst C dX12_secondOf_26 (v := 1) rfl ?_
      obtain ⟨r8, hc9, h⟩ := ob1_1 h
      refine g_callVi C 292 q_292 vk_M_97 hR rfl (m_M_says C.2.2.2.2.2.2.1 hc9) rfl rfl rfl dX12_secondOf_27 ?_
      exact g_iret C hr hlk rfl (congrArg Prod.snd (Option.some.inj h)) (congrArg (fun z => some (Value.int z.1)) (Option.some.inj h)) dX12_secondOf_30
    · replace h := it_f q h
      refine g_iconst C dX12_secondOf_20 (v := 0) rfl ?_
      refine g_goto C dX12_secondOf_21 (tgt := 30) rfl ?_
      exact g_iret C hr hlk rfl (congrArg Prod.snd (Option.some.inj h)) (congrArg (fun z => some (Value.int z.1)) (Option.some.inj h)) dX12_secondOf_30
  unfold f_M_secondOf at h
  refine g_aload_n C dX12_secondOf_0 0 rfl ?_
  refine g_aload_n C dX12_secondOf_1 0 rfl ?_
  refine g_iload_n C dX12_secondOf_2 1 rfl ?_
  obtain ⟨r10, hc11, h⟩ := ob1_1 h
  refine g_callVi C 292 q_292 vk_M_84 hR rfl (m_M_isStatement C.2.2.2.2.2.2.1 hc11) rfl rfl rfl dX12_secondOf_3 ?_
  refine g_if_eq C dX12_secondOf_6 (tgt := 13) rfl (fun q => ?_) (fun q => ?_)
  · replace h := it_t q h
    refine g_iconst C dX12_secondOf_13 (v := 1) rfl ?_
    exact R14 x1 1 d h
  · replace h := it_f q h
    refine g_iconst C dX12_secondOf_9 (v := 0) rfl ?_
    refine g_goto C dX12_secondOf_10 (tgt := 14) rfl ?_
    exact R14 x1 0 d h
set_option maxHeartbeats 4000000 in
set_option maxRecDepth 100000 in
theorem m_M_sentenceCount {w : wT} {l : Launch} {x1 : Int32} {d : Dt} {rE : Int32} {dE : Dt} (hO : okW w) (h : f_M_sentenceCount x1 d = some (rE, dE)) : gM w l yX12_sentenceCount cX12_sentenceCount 2 (Option.some Jvm.ClassFile.FieldType.int) 3 [.ref (w_r w 292), .int x1] d dE (some (.int rE)) := by
  refine gM_of (by decide) [(0, .ref (w_r w 292)), (1, .int x1)] rfl rfl ?_ hO
  intro p e R s m args below meth c C hR hr hlk
  unfold f_M_sentenceCount at h
  refine g_aload_n C dX12_sentenceCount_0 0 rfl ?_
  refine g_iload_n C dX12_sentenceCount_1 1 rfl ?_
  obtain ⟨r4, d5, hc6, h⟩ := ob2_1 h
  refine g_callVi C 292 q_292 vk_M_134 hR rfl (m_M_isNone C.2.2.2.2.2.2.1 hc6) rfl rfl rfl dX12_sentenceCount_2 ?_
  refine g_if_eq C dX12_sentenceCount_5 (tgt := 12) rfl (fun q => ?_) (fun q => ?_)
  · replace h := it_t q h
    refine g_aload_n C dX12_sentenceCount_12 0 rfl ?_
    refine g_iload_n C dX12_sentenceCount_13 1 rfl ?_
    refine g_iconst C dX12_sentenceCount_14 (v := 2) rfl ?_
    obtain ⟨r7, hc8, h⟩ := ob1_1 h
    refine g_callVi C 292 q_292 vk_M_87 hR rfl (m_M_of C.2.2.2.2.2.2.1 hc8) rfl rfl rfl dX12_sentenceCount_15 ?_
    exact g_iret C hr hlk rfl (congrArg Prod.snd (Option.some.inj h)) (congrArg (fun z => some (Value.int z.1)) (Option.some.inj h)) dX12_sentenceCount_18
  · replace h := it_f q h
    refine g_iconst C dX12_sentenceCount_8 (v := 0) rfl ?_
    refine g_goto C dX12_sentenceCount_9 (tgt := 18) rfl ?_
    exact g_iret C hr hlk rfl (congrArg Prod.snd (Option.some.inj h)) (congrArg (fun z => some (Value.int z.1)) (Option.some.inj h)) dX12_sentenceCount_18
set_option maxHeartbeats 4000000 in
set_option maxRecDepth 100000 in
theorem m_M_servedDays {w : wT} {l : Launch} {d : Dt} {rE : Int32} {dE : Dt} (hO : okW w) (h : f_M_servedDays  d = some (rE, dE)) : gM w l yX12_servedDays cX12_servedDays 1 (Option.some Jvm.ClassFile.FieldType.int) 0 [.ref (w_r w 292)] d dE (some (.int rE)) := by
  refine gM_of (by decide) [(0, .ref (w_r w 292))] rfl rfl ?_ hO
  intro p e R s m args below meth c C hR hr hlk
  unfold f_M_servedDays at h
  refine g_aload_n C dX12_servedDays_0 0 rfl ?_
  refine g_iconst C dX12_servedDays_1 (v := 0) rfl ?_
  refine g_put C 292 q_292 pk_M_39 rfl rfl dX12_servedDays_2 ?_
  refine g_aload_n C dX12_servedDays_5 0 rfl ?_
  refine g_get C (.ref (w_r w 293)) 292 q_292 fk_M_7 rfl dX12_servedDays_6 ?_
  refine g_bipush C dX12_servedDays_9 (v := 12) (by decide) ?_
  refine g_iald C 293 q_293 (by decide) 12 (by decide) dX12_servedDays_11 ?_
  exact g_iret C hr hlk rfl (congrArg Prod.snd (Option.some.inj h)) (congrArg (fun z => some (Value.int z.1)) (Option.some.inj h)) dX12_servedDays_12
set_option maxHeartbeats 4000000 in
set_option maxRecDepth 100000 in
theorem m_M_severity {w : wT} {l : Launch} {x1 : Int32} {d : Dt} {rE : Int32} {dE : Dt} (hO : okW w) (h : f_M_severity x1 d = some (rE, dE)) : gM w l yX12_severity cX12_severity 2 (Option.some Jvm.ClassFile.FieldType.int) 3 [.ref (w_r w 292), .int x1] d dE (some (.int rE)) := by
  refine gM_of (by decide) [(0, .ref (w_r w 292)), (1, .int x1)] rfl rfl ?_ hO
  intro p e R s m args below meth c C hR hr hlk
  unfold f_M_severity at h
  refine g_aload_n C dX12_severity_0 0 rfl ?_
  refine g_iload_n C dX12_severity_1 1 rfl ?_
  refine g_iconst C dX12_severity_2 (v := 4) rfl ?_
  obtain ⟨r3, d4, hc5, h⟩ := ob2_1 h
  refine g_callVi C 292 q_292 vk_M_140 hR rfl (m_M_ofBrief C.2.2.2.2.2.2.1 hc5) rfl rfl rfl dX12_severity_3 ?_
  exact g_iret C hr hlk rfl (congrArg Prod.snd (Option.some.inj h)) (congrArg (fun z => some (Value.int z.1)) (Option.some.inj h)) dX12_severity_6
set_option maxHeartbeats 4000000 in
set_option maxRecDepth 100000 in
theorem m_M_statementCount {w : wT} {l : Launch} {d : Dt} {rE : Int32} {dE : Dt} (hO : okW w) (h : f_M_statementCount  d = some (rE, dE)) : gM w l yX12_statementCount cX12_statementCount 1 (Option.some Jvm.ClassFile.FieldType.int) 0 [.ref (w_r w 292)] d dE (some (.int rE)) := by
  refine gM_of (by decide) [(0, .ref (w_r w 292))] rfl rfl ?_ hO
  intro p e R s m args below meth c C hR hr hlk
  unfold f_M_statementCount at h
  refine g_aload_n C dX12_statementCount_0 0 rfl ?_
  refine g_iconst C dX12_statementCount_1 (v := 0) rfl ?_
  refine g_put C 292 q_292 pk_M_39 rfl rfl dX12_statementCount_2 ?_
  refine g_aload_n C dX12_statementCount_5 0 rfl ?_
  refine g_get C (.ref (w_r w 293)) 292 q_292 fk_M_7 rfl dX12_statementCount_6 ?_
  refine g_iconst C dX12_statementCount_9 (v := 4) rfl ?_
  refine g_iald C 293 q_293 (by decide) 4 (by decide) dX12_statementCount_10 ?_
  exact g_iret C hr hlk rfl (congrArg Prod.snd (Option.some.inj h)) (congrArg (fun z => some (Value.int z.1)) (Option.some.inj h)) dX12_statementCount_11
set_option maxHeartbeats 4000000 in
set_option maxRecDepth 100000 in
theorem m_M_thrown {w : wT} {l : Launch} {d : Dt} {rE : Int32} (hO : okW w) (h : f_M_thrown  d = some rE) : gM w l yX12_thrown cX12_thrown 1 (Option.some Jvm.ClassFile.FieldType.int) 0 [.ref (w_r w 292)] d d (some (.int rE)) := by
  refine gM_of (by decide) [(0, .ref (w_r w 292))] rfl rfl ?_ hO
  intro p e R s m args below meth c C hR hr hlk
  unfold f_M_thrown at h
  refine g_aload_n C dX12_thrown_0 0 rfl ?_
  refine g_get C (.int (d 292 7)) 292 q_292 fk_M_39 rfl dX12_thrown_1 ?_
  exact g_iret C hr hlk rfl rfl (congrArg (fun z => some (Value.int z)) (Option.some.inj h)) dX12_thrown_4
set_option maxHeartbeats 4000000 in
set_option maxRecDepth 100000 in
theorem m_M_copies_294_293 {w : wT} {l : Launch} {x1 x3 : Int32} {d : Dt} {dE : Dt} (hO : okW w) (h : f_M_copies_294_293 x1 x3 d = some dE) : gM w l yX12_copies cX12_copies 5 (Option.none : Option Jvm.ClassFile.FieldType) 0 [.ref (w_r w 294), .int x1, .ref (w_r w 293), .int x3] d dE none := by
  refine gM_of (by decide) [(0, .ref (w_r w 294)), (1, .int x1), (2, .ref (w_r w 293)), (3, .int x3)] rfl rfl ?_ hO
  intro p e R s m args below meth c C hR hr hlk
  have R3 : ∀ (x1 : Int32) (x3 : Int32) (x4 : Int32) (d : Dt), f_M_copies_294_293_3 x1 x3 x4 d = some dE → gG w p l e R s m args below meth c 5 0 0 (gE w below args s dE none) d [(0, .ref (w_r w 294)), (1, .int x1), (2, .ref (w_r w 293)), (3, .int x3), (4, .int x4)] 3 [] := by
    intro x1 x3 x4 d  h
    refine iter_ind (G := fun s_ : (Int32 × Dt) => gG w p l e R s m args below meth c 5 0 0 (gE w below args s dE none) s_.2 [(0, .ref (w_r w 294)), (1, .int x1), (2, .ref (w_r w 293)), (3, .int x3), (4, .int s_.1)] 3 []) ?_ fu _ h
    clear h
    intro s_ y1 h hl1 hx1
    obtain ⟨x4, d⟩ := s_
    show gG w p l e R s m args below meth c 5 0 0 (gE w below args s dE none) d [(0, .ref (w_r w 294)), (1, .int x1), (2, .ref (w_r w 293)), (3, .int x3), (4, .int x4)] 3 []
    dsimp only at h
    unfold st_M_copies_294_293_3 at h
    refine g_iload C dX12_copies_3 4 rfl ?_
    refine g_sipush C dX12_copies_5 (v := 187) (by decide) ?_
    refine g_icmp_ge C dX12_copies_8 (tgt := 29) rfl (fun q => ?_) (fun q => ?_)
    · replace h := it_t q h
      replace h := ir_2 h hx1
      exact g_vret C hr hlk (Option.some.inj h) rfl dX12_copies_29
    · replace h := it_f q h
      refine g_aload_n C dX12_copies_11 2 rfl ?_
      refine g_iload_n C dX12_copies_12 3 rfl ?_
      refine g_iload C dX12_copies_13 4 rfl ?_
      refine g_iadd C dX12_copies_15  ?_
      refine g_aload_n C dX12_copies_16 0 rfl ?_
      refine g_iload_n C dX12_copies_17 1 rfl ?_
      refine g_iload C dX12_copies_18 4 rfl ?_
      refine g_iadd C dX12_copies_20  ?_
      have hg1 := gd_1 h
      replace h := gd_2 h
      refine g_iald C 294 q_294 hg1 _ rfl dX12_copies_21 ?_
      have hg2 := gd_1 h
      replace h := gd_2 h
      refine g_iast C 293 q_293 hg2 _ rfl  dX12_copies_22 ?_
      refine g_iinc C (lv' := [(4, .int (x4 + 1)), (0, .ref (w_r w 294)), (1, .int x1), (2, .ref (w_r w 293)), (3, .int x3)]) (v := (x4 + 1)) dX12_copies_23 4 rfl rfl (by decide) rfl ?_
      refine g_goto C dX12_copies_26 (tgt := 3) rfl ?_
      refine g_sub [1, 2, 3, 4, 0] (lv' := [(0, .ref (w_r w 294)), (1, .int x1), (2, .ref (w_r w 293)), (3, .int x3), (4, .int (x4 + 1))]) rfl ?_
      exact hl1 ((x4 + 1), (wr d 293 (x3 + x4).toNatClampNeg (d 294 (x1 + x4).toNatClampNeg))) (Option.some.inj h).symm
  unfold f_M_copies_294_293 at h
  refine g_iconst C dX12_copies_0 (v := 0) rfl ?_
  refine g_istore C (lv' := [(4, .int 0), (0, .ref (w_r w 294)), (1, .int x1), (2, .ref (w_r w 293)), (3, .int x3)]) dX12_copies_1 (by decide) rfl ?_
  refine g_sub [1, 2, 3, 4, 0] (lv' := [(0, .ref (w_r w 294)), (1, .int x1), (2, .ref (w_r w 293)), (3, .int x3), (4, .int 0)]) rfl ?_
  exact R3 x1 x3 0 d h
set_option maxHeartbeats 4000000 in
set_option maxRecDepth 100000 in
theorem m_M_undo {w : wT} {l : Launch} {d : Dt} {rE : Int32} {dE : Dt} (hO : okW w) (h : f_M_undo  d = some (rE, dE)) : gM w l yX12_undo cX12_undo 1 (Option.some Jvm.ClassFile.FieldType.int) 1 [.ref (w_r w 292)] d dE (some (.int rE)) := by
  refine gM_of (by decide) [(0, .ref (w_r w 292))] rfl rfl ?_ hO
  intro p e R s m args below meth c C hR hr hlk
  have R13 : ∀ (v1 : Int32) (d : Dt), f_M_undo_13  v1 d = some (rE, dE) → gG w p l e R s m args below meth c 1 0 0 (gE w below args s dE (some (.int rE))) d [(0, .ref (w_r w 292))] 13 [.int v1, .ref (w_r w 292)] := by
    intro  v1 d  h
    unfold f_M_undo_13 at h
    obtain ⟨r4, d5, hc6, h⟩ := ob2_1 h
    refine g_callVi C 292 q_292 vk_M_61 hR rfl (m_M_fails C.2.2.2.2.2.2.1 hc6) rfl rfl rfl dX12_undo_13 ?_
    refine g_if_eq C dX12_undo_16 (tgt := 21) rfl (fun q => ?_) (fun q => ?_)
    · replace h := it_t q h
      refine g_aload_n C dX12_undo_21 0 rfl ?_
      refine g_dup C dX12_undo_22 rfl ?_
      refine g_get C (.int (d5 292 5)) 292 q_292 fk_M_46 rfl dX12_undo_23 ?_
      refine g_iconst C dX12_undo_26 (v := 1) rfl ?_
      refine g_isub C dX12_undo_27  ?_
      refine g_put C 292 q_292 pk_M_46 rfl rfl dX12_undo_28 ?_
      refine g_aload_n C dX12_undo_31 0 rfl ?_
      refine g_get C (.ref (w_r w 294)) 292 q_292 fk_M_13 rfl dX12_undo_32 ?_
      refine g_sipush C dX12_undo_35 (v := 187) (by decide) ?_
      refine g_aload_n C dX12_undo_38 0 rfl ?_
      refine g_get C (.int ((wr d5 292 5 ((d5 292 5) - 1)) 292 5)) 292 q_292 fk_M_46 rfl dX12_undo_39 ?_
      refine g_imul C dX12_undo_42  ?_
      refine g_aload_n C dX12_undo_43 0 rfl ?_
      refine g_get C (.ref (w_r w 293)) 292 q_292 fk_M_7 rfl dX12_undo_44 ?_
      refine g_iconst C dX12_undo_47 (v := 0) rfl ?_
      obtain ⟨d7, hc8, h⟩ := ob1_1 h
      refine g_callSv C sk_M_49 hR rfl (m_M_copies_294_293 C.2.2.2.2.2.2.1 hc8) rfl rfl rfl dX12_undo_48 ?_
      refine g_aload_n C dX12_undo_51 0 rfl ?_
      refine g_get C (.int (d7 292 5)) 292 q_292 fk_M_46 rfl dX12_undo_52 ?_
      exact g_iret C hr hlk rfl (congrArg Prod.snd (Option.some.inj h)) (congrArg (fun z => some (Value.int z.1)) (Option.some.inj h)) dX12_undo_55
    · replace h := it_f q h
      refine g_iconst C dX12_undo_19 (v := 0) rfl ?_
      exact g_iret C hr hlk rfl (congrArg Prod.snd (Option.some.inj h)) (congrArg (fun z => some (Value.int z.1)) (Option.some.inj h)) dX12_undo_20
  unfold f_M_undo at h
  refine g_aload_n C dX12_undo_0 0 rfl ?_
  refine g_aload_n C dX12_undo_1 0 rfl ?_
  refine g_get C (.int (d 292 5)) 292 q_292 fk_M_46 rfl dX12_undo_2 ?_
  refine g_if_ne C dX12_undo_5 (tgt := 12) rfl (fun q => ?_) (fun q => ?_)
  · replace h := it_f q h
    refine g_iconst C dX12_undo_12 (v := 0) rfl ?_
    exact R13 0 d h
  · replace h := it_t q h
    refine g_iconst C dX12_undo_8 (v := 1) rfl ?_
    refine g_goto C dX12_undo_9 (tgt := 13) rfl ?_
    exact R13 1 d h
set_option maxHeartbeats 4000000 in
set_option maxRecDepth 100000 in
theorem m_M_undoCount {w : wT} {l : Launch} {d : Dt} {rE : Int32} {dE : Dt} (hO : okW w) (h : f_M_undoCount  d = some (rE, dE)) : gM w l yX12_undoCount cX12_undoCount 1 (Option.some Jvm.ClassFile.FieldType.int) 0 [.ref (w_r w 292)] d dE (some (.int rE)) := by
  refine gM_of (by decide) [(0, .ref (w_r w 292))] rfl rfl ?_ hO
  intro p e R s m args below meth c C hR hr hlk
  unfold f_M_undoCount at h
  refine g_aload_n C dX12_undoCount_0 0 rfl ?_
  refine g_iconst C dX12_undoCount_1 (v := 0) rfl ?_
  refine g_put C 292 q_292 pk_M_39 rfl rfl dX12_undoCount_2 ?_
  refine g_aload_n C dX12_undoCount_5 0 rfl ?_
  refine g_get C (.int ((wr d 292 7 0) 292 5)) 292 q_292 fk_M_46 rfl dX12_undoCount_6 ?_
  exact g_iret C hr hlk rfl (congrArg Prod.snd (Option.some.inj h)) (congrArg (fun z => some (Value.int z.1)) (Option.some.inj h)) dX12_undoCount_9
set_option maxHeartbeats 4000000 in
set_option maxRecDepth 100000 in
theorem m_M_writes {w : wT} {l : Launch} {x1 : Int32} {d : Dt} {dE : Dt} (hO : okW w) (h : f_M_writes x1 d = some dE) : gM w l yX12_writes cX12_writes 2 (Option.none : Option Jvm.ClassFile.FieldType) 0 [.ref (w_r w 292), .int x1] d dE none := by
  refine gM_of (by decide) [(0, .ref (w_r w 292)), (1, .int x1)] rfl rfl ?_ hO
  intro p e R s m args below meth c C hR hr hlk
  unfold f_M_writes at h
  refine g_aload_n C dX12_writes_0 0 rfl ?_
  refine g_get C (.ref (w_r w 298)) 292 q_292 fk_M_32 rfl dX12_writes_1 ?_
  refine g_aload_n C dX12_writes_4 0 rfl ?_
  refine g_get C (.int (d 292 13)) 292 q_292 fk_M_252 rfl dX12_writes_5 ?_
  refine g_iload_n C dX12_writes_8 1 rfl ?_
  refine g_i2c C dX12_writes_9  ?_
  have hg1 := gd_1 h
  replace h := gd_2 h
  have hg2 := gd_1 h
  replace h := gd_2 h
  refine g_cast C 298 q_298 hg1 _ rfl (nar_v hg2) dX12_writes_10 ?_
  refine g_aload_n C dX12_writes_11 0 rfl ?_
  refine g_dup C dX12_writes_12 rfl ?_
  refine g_get C (.int ((wr d 298 (d 292 13).toNatClampNeg ((x1.toUInt32 % 65536).toInt32)) 292 13)) 292 q_292 fk_M_252 rfl dX12_writes_13 ?_
  refine g_iconst C dX12_writes_16 (v := 1) rfl ?_
  refine g_iadd C dX12_writes_17  ?_
  refine g_put C 292 q_292 pk_M_252 rfl rfl dX12_writes_18 ?_
  exact g_vret C hr hlk (Option.some.inj h) rfl dX12_writes_21
set_option maxHeartbeats 4000000 in
set_option maxRecDepth 100000 in
theorem m_M_writesNumber_r0 {w : wT} {l : Launch} {x1 : Int32} {d : Dt} {dE : Dt} (hO : okW w) (h : f_M_writesNumber_r0 x1 d = some dE) : gM w l yX12_writesNumber cX12_writesNumber 2 (Option.none : Option Jvm.ClassFile.FieldType) 1 [.ref (w_r w 292), .int x1] d dE none := by
  refine gM_of (by decide) [(0, .ref (w_r w 292)), (1, .int x1)] rfl rfl ?_ hO
  intro p e R s m args below meth c C hR hr hlk
  have R14 : ∀ (x1 : Int32) (d : Dt), f_M_writesNumber_r0_14 x1  d = some dE → gG w p l e R s m args below meth c 2 0 0 (gE w below args s dE none) d [(0, .ref (w_r w 292)), (1, .int x1)] 14 [] := by
    intro x1  d  h
    unfold f_M_writesNumber_r0_14 at h
    refine g_aload_n C dX12_writesNumber_14 0 rfl ?_
    refine g_bipush C dX12_writesNumber_15 (v := 48) (by decide) ?_
    refine g_iload_n C dX12_writesNumber_17 1 rfl ?_
    refine g_bipush C dX12_writesNumber_18 (v := 10) (by decide) ?_
    refine g_irem C dX12_writesNumber_20 (by decide) ?_
    refine g_iadd C dX12_writesNumber_21  ?_
    obtain ⟨d2, hc3, h⟩ := ob1_1 h
    refine g_callVv C 292 q_292 vk_M_258 hR rfl (m_M_writes C.2.2.2.2.2.2.1 hc3) rfl rfl rfl dX12_writesNumber_22 ?_
    exact g_vret C hr hlk (Option.some.inj h) rfl dX12_writesNumber_25
  unfold f_M_writesNumber_r0 at h
  refine g_iload_n C dX12_writesNumber_0 1 rfl ?_
  refine g_bipush C dX12_writesNumber_1 (v := 9) (by decide) ?_
  refine g_icmp_le C dX12_writesNumber_3 (tgt := 14) rfl (fun q => ?_) (fun q => ?_)
  · replace h := it_t q h
    exact R14 x1 d h
  · replace h := it_f q h
    refine g_aload_n C dX12_writesNumber_6 0 rfl ?_
    refine g_iload_n C dX12_writesNumber_7 1 rfl ?_
    refine g_bipush C dX12_writesNumber_8 (v := 10) (by decide) ?_
    refine g_idiv C dX12_writesNumber_10 (by decide) ?_
    cases h
set_option maxHeartbeats 4000000 in
set_option maxRecDepth 100000 in
theorem m_M_writesNumber_r1 {w : wT} {l : Launch} {x1 : Int32} {d : Dt} {dE : Dt} (hO : okW w) (h : f_M_writesNumber_r1 x1 d = some dE) : gM w l yX12_writesNumber cX12_writesNumber 2 (Option.none : Option Jvm.ClassFile.FieldType) 2 [.ref (w_r w 292), .int x1] d dE none := by
  refine gM_of (by decide) [(0, .ref (w_r w 292)), (1, .int x1)] rfl rfl ?_ hO
  intro p e R s m args below meth c C hR hr hlk
  have R14 : ∀ (x1 : Int32) (d : Dt), f_M_writesNumber_r1_14 x1  d = some dE → gG w p l e R s m args below meth c 2 0 0 (gE w below args s dE none) d [(0, .ref (w_r w 292)), (1, .int x1)] 14 [] := by
    intro x1  d  h
    unfold f_M_writesNumber_r1_14 at h
    refine g_aload_n C dX12_writesNumber_14 0 rfl ?_
    refine g_bipush C dX12_writesNumber_15 (v := 48) (by decide) ?_
    refine g_iload_n C dX12_writesNumber_17 1 rfl ?_
    refine g_bipush C dX12_writesNumber_18 (v := 10) (by decide) ?_
    refine g_irem C dX12_writesNumber_20 (by decide) ?_
    refine g_iadd C dX12_writesNumber_21  ?_
    obtain ⟨d3, hc4, h⟩ := ob1_1 h
    refine g_callVv C 292 q_292 vk_M_258 hR rfl (m_M_writes C.2.2.2.2.2.2.1 hc4) rfl rfl rfl dX12_writesNumber_22 ?_
    exact g_vret C hr hlk (Option.some.inj h) rfl dX12_writesNumber_25
  unfold f_M_writesNumber_r1 at h
  refine g_iload_n C dX12_writesNumber_0 1 rfl ?_
  refine g_bipush C dX12_writesNumber_1 (v := 9) (by decide) ?_
  refine g_icmp_le C dX12_writesNumber_3 (tgt := 14) rfl (fun q => ?_) (fun q => ?_)
  · replace h := it_t q h
    exact R14 x1 d h
  · replace h := it_f q h
    refine g_aload_n C dX12_writesNumber_6 0 rfl ?_
    refine g_iload_n C dX12_writesNumber_7 1 rfl ?_
    refine g_bipush C dX12_writesNumber_8 (v := 10) (by decide) ?_
    refine g_idiv C dX12_writesNumber_10 (by decide) ?_
    obtain ⟨d5, hc6, h⟩ := ob1_1 h
    refine g_callVv C 292 q_292 vk_M_255 hR rfl (m_M_writesNumber_r0 C.2.2.2.2.2.2.1 hc6) rfl rfl rfl dX12_writesNumber_11 ?_
    exact R14 x1 d5 h
set_option maxHeartbeats 4000000 in
set_option maxRecDepth 100000 in
theorem m_M_writesNumber_r2 {w : wT} {l : Launch} {x1 : Int32} {d : Dt} {dE : Dt} (hO : okW w) (h : f_M_writesNumber_r2 x1 d = some dE) : gM w l yX12_writesNumber cX12_writesNumber 2 (Option.none : Option Jvm.ClassFile.FieldType) 3 [.ref (w_r w 292), .int x1] d dE none := by
  refine gM_of (by decide) [(0, .ref (w_r w 292)), (1, .int x1)] rfl rfl ?_ hO
  intro p e R s m args below meth c C hR hr hlk
  have R14 : ∀ (x1 : Int32) (d : Dt), f_M_writesNumber_r2_14 x1  d = some dE → gG w p l e R s m args below meth c 2 0 0 (gE w below args s dE none) d [(0, .ref (w_r w 292)), (1, .int x1)] 14 [] := by
    intro x1  d  h
    unfold f_M_writesNumber_r2_14 at h
    refine g_aload_n C dX12_writesNumber_14 0 rfl ?_
    refine g_bipush C dX12_writesNumber_15 (v := 48) (by decide) ?_
    refine g_iload_n C dX12_writesNumber_17 1 rfl ?_
    refine g_bipush C dX12_writesNumber_18 (v := 10) (by decide) ?_
    refine g_irem C dX12_writesNumber_20 (by decide) ?_
    refine g_iadd C dX12_writesNumber_21  ?_
    obtain ⟨d3, hc4, h⟩ := ob1_1 h
    refine g_callVv C 292 q_292 vk_M_258 hR rfl (m_M_writes C.2.2.2.2.2.2.1 hc4) rfl rfl rfl dX12_writesNumber_22 ?_
    exact g_vret C hr hlk (Option.some.inj h) rfl dX12_writesNumber_25
  unfold f_M_writesNumber_r2 at h
  refine g_iload_n C dX12_writesNumber_0 1 rfl ?_
  refine g_bipush C dX12_writesNumber_1 (v := 9) (by decide) ?_
  refine g_icmp_le C dX12_writesNumber_3 (tgt := 14) rfl (fun q => ?_) (fun q => ?_)
  · replace h := it_t q h
    exact R14 x1 d h
  · replace h := it_f q h
    refine g_aload_n C dX12_writesNumber_6 0 rfl ?_
    refine g_iload_n C dX12_writesNumber_7 1 rfl ?_
    refine g_bipush C dX12_writesNumber_8 (v := 10) (by decide) ?_
    refine g_idiv C dX12_writesNumber_10 (by decide) ?_
    obtain ⟨d5, hc6, h⟩ := ob1_1 h
    refine g_callVv C 292 q_292 vk_M_255 hR rfl (m_M_writesNumber_r1 C.2.2.2.2.2.2.1 hc6) rfl rfl rfl dX12_writesNumber_11 ?_
    exact R14 x1 d5 h
set_option maxHeartbeats 4000000 in
set_option maxRecDepth 100000 in
theorem m_M_writesNumber_r3 {w : wT} {l : Launch} {x1 : Int32} {d : Dt} {dE : Dt} (hO : okW w) (h : f_M_writesNumber_r3 x1 d = some dE) : gM w l yX12_writesNumber cX12_writesNumber 2 (Option.none : Option Jvm.ClassFile.FieldType) 4 [.ref (w_r w 292), .int x1] d dE none := by
  refine gM_of (by decide) [(0, .ref (w_r w 292)), (1, .int x1)] rfl rfl ?_ hO
  intro p e R s m args below meth c C hR hr hlk
  have R14 : ∀ (x1 : Int32) (d : Dt), f_M_writesNumber_r3_14 x1  d = some dE → gG w p l e R s m args below meth c 2 0 0 (gE w below args s dE none) d [(0, .ref (w_r w 292)), (1, .int x1)] 14 [] := by
    intro x1  d  h
    unfold f_M_writesNumber_r3_14 at h
    refine g_aload_n C dX12_writesNumber_14 0 rfl ?_
    refine g_bipush C dX12_writesNumber_15 (v := 48) (by decide) ?_
    refine g_iload_n C dX12_writesNumber_17 1 rfl ?_
    refine g_bipush C dX12_writesNumber_18 (v := 10) (by decide) ?_
    refine g_irem C dX12_writesNumber_20 (by decide) ?_
    refine g_iadd C dX12_writesNumber_21  ?_
    obtain ⟨d3, hc4, h⟩ := ob1_1 h
    refine g_callVv C 292 q_292 vk_M_258 hR rfl (m_M_writes C.2.2.2.2.2.2.1 hc4) rfl rfl rfl dX12_writesNumber_22 ?_
    exact g_vret C hr hlk (Option.some.inj h) rfl dX12_writesNumber_25
  unfold f_M_writesNumber_r3 at h
  refine g_iload_n C dX12_writesNumber_0 1 rfl ?_
  refine g_bipush C dX12_writesNumber_1 (v := 9) (by decide) ?_
  refine g_icmp_le C dX12_writesNumber_3 (tgt := 14) rfl (fun q => ?_) (fun q => ?_)
  · replace h := it_t q h
    exact R14 x1 d h
  · replace h := it_f q h
    refine g_aload_n C dX12_writesNumber_6 0 rfl ?_
    refine g_iload_n C dX12_writesNumber_7 1 rfl ?_
    refine g_bipush C dX12_writesNumber_8 (v := 10) (by decide) ?_
    refine g_idiv C dX12_writesNumber_10 (by decide) ?_
    obtain ⟨d5, hc6, h⟩ := ob1_1 h
    refine g_callVv C 292 q_292 vk_M_255 hR rfl (m_M_writesNumber_r2 C.2.2.2.2.2.2.1 hc6) rfl rfl rfl dX12_writesNumber_11 ?_
    exact R14 x1 d5 h
set_option maxHeartbeats 4000000 in
set_option maxRecDepth 100000 in
theorem m_M_writeLantern {w : wT} {l : Launch} {x1 : Int32} {d : Dt} {rE : Int32} {dE : Dt} (hO : okW w) (h : f_M_writeLantern x1 d = some (rE, dE)) : gM w l yX12_writeLantern cX12_writeLantern 3 (Option.some Jvm.ClassFile.FieldType.int) 5 [.ref (w_r w 292), .int x1] d dE (some (.int rE)) := by
  refine gM_of (by decide) [(0, .ref (w_r w 292)), (1, .int x1)] rfl rfl ?_ hO
  intro p e R s m args below meth c C hR hr hlk
  have R76 : ∀ (x1 : Int32) (x2 : Int32) (d : Dt), f_M_writeLantern_76 x1 x2 d = some (rE, dE) → gG w p l e R s m args below meth c 3 0 0 (gE w below args s dE (some (.int rE))) d [(0, .ref (w_r w 292)), (1, .int x1), (2, .int x2)] 76 [] := by
    intro x1 x2 d  h
    refine iter_ind (G := fun s_ : (Int32 × Dt) => gG w p l e R s m args below meth c 3 0 0 (gE w below args s dE (some (.int rE))) s_.2 [(0, .ref (w_r w 292)), (1, .int x1), (2, .int s_.1)] 76 []) ?_ fu _ h
    clear h
    intro s_ y1 h hl1 hx1
    obtain ⟨x2, d⟩ := s_
    show gG w p l e R s m args below meth c 3 0 0 (gE w below args s dE (some (.int rE))) d [(0, .ref (w_r w 292)), (1, .int x1), (2, .int x2)] 76 []
    dsimp only at h
    unfold st_M_writeLantern_76 at h
    refine g_iload_n C dX12_writeLantern_76 2 rfl ?_
    refine g_aload_n C dX12_writeLantern_77 0 rfl ?_
    refine g_iload_n C dX12_writeLantern_78 1 rfl ?_
    refine g_iconst C dX12_writeLantern_79 (v := 2) rfl ?_
    obtain ⟨r13, hc14, h⟩ := ob1_1 h
    refine g_callVi C 292 q_292 vk_M_87 hR rfl (m_M_of C.2.2.2.2.2.2.1 hc14) rfl rfl rfl dX12_writeLantern_80 ?_
    refine g_icmp_ge C dX12_writeLantern_83 (tgt := 110) rfl (fun q => ?_) (fun q => ?_)
    · replace h := it_t q h
      replace h := ir_2 h hx1
      refine g_aload_n C dX12_writeLantern_110 0 rfl ?_
      refine g_get C (.int (d 292 13)) 292 q_292 fk_M_252 rfl dX12_writeLantern_111 ?_
      exact g_iret C hr hlk rfl (congrArg Prod.snd (Option.some.inj h)) (congrArg (fun z => some (Value.int z.1)) (Option.some.inj h)) dX12_writeLantern_114
    · replace h := it_f q h
      refine g_aload_n C dX12_writeLantern_86 0 rfl ?_
      refine g_bipush C dX12_writeLantern_87 (v := 47) (by decide) ?_
      obtain ⟨d15, hc16, h⟩ := ob1_1 h
      refine g_callVv C 292 q_292 vk_M_258 hR rfl (m_M_writes C.2.2.2.2.2.2.1 hc16) rfl rfl rfl dX12_writeLantern_89 ?_
      refine g_aload_n C dX12_writeLantern_92 0 rfl ?_
      refine g_aload_n C dX12_writeLantern_93 0 rfl ?_
      refine g_iload_n C dX12_writeLantern_94 1 rfl ?_
      refine g_iconst C dX12_writeLantern_95 (v := 3) rfl ?_
      refine g_iload_n C dX12_writeLantern_96 2 rfl ?_
      refine g_iadd C dX12_writeLantern_97  ?_
      obtain ⟨r17, hc18, h⟩ := ob1_1 h
      refine g_callVi C 292 q_292 vk_M_87 hR rfl (m_M_of C.2.2.2.2.2.2.1 hc18) rfl rfl rfl dX12_writeLantern_98 ?_
      obtain ⟨d19, hc20, h⟩ := ob1_1 h
      refine g_callVv C 292 q_292 vk_M_255 hR rfl (m_M_writesNumber_r3 C.2.2.2.2.2.2.1 hc20) rfl rfl rfl dX12_writeLantern_101 ?_
      refine g_iinc C (lv' := [(2, .int (x2 + 1)), (0, .ref (w_r w 292)), (1, .int x1)]) (v := (x2 + 1)) dX12_writeLantern_104 2 rfl rfl (by decide) rfl ?_
      refine g_goto C dX12_writeLantern_107 (tgt := 76) rfl ?_
      refine g_sub [1, 2, 0] (lv' := [(0, .ref (w_r w 292)), (1, .int x1), (2, .int (x2 + 1))]) rfl ?_
      exact hl1 ((x2 + 1), d19) (Option.some.inj h).symm
  have R71 : ∀ (x1 : Int32) (v1 : Int32) (d : Dt), f_M_writeLantern_71 x1 v1 d = some (rE, dE) → gG w p l e R s m args below meth c 3 0 0 (gE w below args s dE (some (.int rE))) d [(0, .ref (w_r w 292)), (1, .int x1)] 71 [.int v1, .ref (w_r w 292)] := by
    intro x1 v1 d  h
    unfold f_M_writeLantern_71 at h
    obtain ⟨d21, hc22, h⟩ := ob1_1 h
    refine g_callVv C 292 q_292 vk_M_258 hR rfl (m_M_writes C.2.2.2.2.2.2.1 hc22) rfl rfl rfl dX12_writeLantern_71 ?_
    refine g_iconst C dX12_writeLantern_74 (v := 0) rfl ?_
    refine g_istore_n C (lv' := [(2, .int 0), (0, .ref (w_r w 292)), (1, .int x1)]) dX12_writeLantern_75 (by decide) rfl ?_
    refine g_sub [1, 2, 0] (lv' := [(0, .ref (w_r w 292)), (1, .int x1), (2, .int 0)]) rfl ?_
    exact R76 x1 0 d21 h
  have R22 : ∀ (x1 : Int32) (x2 : Int32) (d : Dt), f_M_writeLantern_22 x1 x2 d = some (rE, dE) → gG w p l e R s m args below meth c 3 0 0 (gE w below args s dE (some (.int rE))) d [(0, .ref (w_r w 292)), (1, .int x1), (2, .int x2)] 22 [] := by
    intro x1 x2 d  h
    refine iter_ind (G := fun s_ : (Int32 × Dt) => gG w p l e R s m args below meth c 3 0 0 (gE w below args s dE (some (.int rE))) s_.2 [(0, .ref (w_r w 292)), (1, .int x1), (2, .int s_.1)] 22 []) ?_ fu _ h
    clear h
    intro s_ y1 h hl1 hx1
    obtain ⟨x2, d⟩ := s_
    show gG w p l e R s m args below meth c 3 0 0 (gE w below args s dE (some (.int rE))) d [(0, .ref (w_r w 292)), (1, .int x1), (2, .int x2)] 22 []
    dsimp only at h
    unfold st_M_writeLantern_22 at h
    refine g_iload_n C dX12_writeLantern_22 2 rfl ?_
    refine g_aload_n C dX12_writeLantern_23 0 rfl ?_
    refine g_iload_n C dX12_writeLantern_24 1 rfl ?_
    refine g_iconst C dX12_writeLantern_25 (v := 0) rfl ?_
    obtain ⟨r23, hc24, h⟩ := ob1_1 h
    refine g_callVi C 292 q_292 vk_M_87 hR rfl (m_M_of C.2.2.2.2.2.2.1 hc24) rfl rfl rfl dX12_writeLantern_26 ?_
    refine g_icmp_ge C dX12_writeLantern_29 (tgt := 44) rfl (fun q => ?_) (fun q => ?_)
    · replace h := it_t q h
      replace h := ir_2 h hx1
      refine g_aload_n C dX12_writeLantern_44 0 rfl ?_
      refine g_iload_n C dX12_writeLantern_45 1 rfl ?_
      refine g_iconst C dX12_writeLantern_46 (v := 1) rfl ?_
      obtain ⟨r25, hc26, h⟩ := ob1_1 h
      refine g_callVi C 292 q_292 vk_M_87 hR rfl (m_M_of C.2.2.2.2.2.2.1 hc26) rfl rfl rfl dX12_writeLantern_47 ?_
      refine g_if_le C dX12_writeLantern_50 (tgt := 74) rfl (fun q => ?_) (fun q => ?_)
      · replace h := it_t q h
        refine g_iconst C dX12_writeLantern_74 (v := 0) rfl ?_
        refine g_istore_n C (lv' := [(2, .int 0), (0, .ref (w_r w 292)), (1, .int x1)]) dX12_writeLantern_75 (by decide) rfl ?_
        refine g_sub [1, 2, 0] (lv' := [(0, .ref (w_r w 292)), (1, .int x1), (2, .int 0)]) rfl ?_
        exact R76 x1 0 d h
      · replace h := it_f q h
        refine g_aload_n C dX12_writeLantern_53 0 rfl ?_
        refine g_aload_n C dX12_writeLantern_54 0 rfl ?_
        refine g_iload_n C dX12_writeLantern_55 1 rfl ?_
        refine g_iconst C dX12_writeLantern_56 (v := 1) rfl ?_
        obtain ⟨r27, hc28, h⟩ := ob1_1 h
        refine g_callVi C 292 q_292 vk_M_87 hR rfl (m_M_of C.2.2.2.2.2.2.1 hc28) rfl rfl rfl dX12_writeLantern_57 ?_
        refine g_iconst C dX12_writeLantern_60 (v := 1) rfl ?_
        refine g_icmp_ne C dX12_writeLantern_61 (tgt := 69) rfl (fun q => ?_) (fun q => ?_)
        · replace h := it_f q h
          refine g_bipush C dX12_writeLantern_69 (v := 105) (by decide) ?_
          refine g_sub [0, 1] (lv' := [(0, .ref (w_r w 292)), (1, .int x1)]) rfl ?_
          exact R71 x1 105 d h
        · replace h := it_t q h
          refine g_bipush C dX12_writeLantern_64 (v := 103) (by decide) ?_
          refine g_goto C dX12_writeLantern_66 (tgt := 71) rfl ?_
          refine g_sub [0, 1] (lv' := [(0, .ref (w_r w 292)), (1, .int x1)]) rfl ?_
          exact R71 x1 103 d h
    · replace h := it_f q h
      refine g_aload_n C dX12_writeLantern_32 0 rfl ?_
      refine g_bipush C dX12_writeLantern_33 (v := 42) (by decide) ?_
      obtain ⟨d29, hc30, h⟩ := ob1_1 h
      refine g_callVv C 292 q_292 vk_M_258 hR rfl (m_M_writes C.2.2.2.2.2.2.1 hc30) rfl rfl rfl dX12_writeLantern_35 ?_
      refine g_iinc C (lv' := [(2, .int (x2 + 1)), (0, .ref (w_r w 292)), (1, .int x1)]) (v := (x2 + 1)) dX12_writeLantern_38 2 rfl rfl (by decide) rfl ?_
      refine g_goto C dX12_writeLantern_41 (tgt := 22) rfl ?_
      refine g_sub [1, 2, 0] (lv' := [(0, .ref (w_r w 292)), (1, .int x1), (2, .int (x2 + 1))]) rfl ?_
      exact hl1 ((x2 + 1), d29) (Option.some.inj h).symm
  unfold f_M_writeLantern at h
  refine g_aload_n C dX12_writeLantern_0 0 rfl ?_
  refine g_iload_n C dX12_writeLantern_1 1 rfl ?_
  obtain ⟨r31, d32, hc33, h⟩ := ob2_1 h
  refine g_callVi C 292 q_292 vk_M_134 hR rfl (m_M_isNone C.2.2.2.2.2.2.1 hc33) rfl rfl rfl dX12_writeLantern_2 ?_
  refine g_if_eq C dX12_writeLantern_5 (tgt := 10) rfl (fun q => ?_) (fun q => ?_)
  · replace h := it_t q h
    refine g_aload_n C dX12_writeLantern_10 0 rfl ?_
    refine g_iconst C dX12_writeLantern_11 (v := 0) rfl ?_
    refine g_put C 292 q_292 pk_M_252 rfl rfl dX12_writeLantern_12 ?_
    refine g_aload_n C dX12_writeLantern_15 0 rfl ?_
    refine g_iload_n C dX12_writeLantern_16 1 rfl ?_
    obtain ⟨d34, hc35, h⟩ := ob1_1 h
    refine g_callVv C 292 q_292 vk_M_255 hR rfl (m_M_writesNumber_r3 C.2.2.2.2.2.2.1 hc35) rfl rfl rfl dX12_writeLantern_17 ?_
    refine g_iconst C dX12_writeLantern_20 (v := 0) rfl ?_
    refine g_istore_n C (lv' := [(2, .int 0), (0, .ref (w_r w 292)), (1, .int x1)]) dX12_writeLantern_21 (by decide) rfl ?_
    refine g_sub [1, 2, 0] (lv' := [(0, .ref (w_r w 292)), (1, .int x1), (2, .int 0)]) rfl ?_
    exact R22 x1 0 d34 h
  · replace h := it_f q h
    refine g_iconst C dX12_writeLantern_8 (v := 0) rfl ?_
    exact g_iret C hr hlk rfl (congrArg Prod.snd (Option.some.inj h)) (congrArg (fun z => some (Value.int z.1)) (Option.some.inj h)) dX12_writeLantern_9
set_option maxHeartbeats 4000000 in
set_option maxRecDepth 100000 in
theorem m_M_writePlan {w : wT} {l : Launch} {d : Dt} {rE : Int32} {dE : Dt} (hO : okW w) (h : f_M_writePlan  d = some (rE, dE)) : gM w l yX12_writePlan cX12_writePlan 3 (Option.some Jvm.ClassFile.FieldType.int) 5 [.ref (w_r w 292)] d dE (some (.int rE)) := by
  refine gM_of (by decide) [(0, .ref (w_r w 292))] rfl rfl ?_ hO
  intro p e R s m args below meth c C hR hr hlk
  have R17 : ∀ (x1 : Int32) (x2 : Int32) (d : Dt), f_M_writePlan_17 x1 x2 d = some (rE, dE) → gG w p l e R s m args below meth c 3 0 0 (gE w below args s dE (some (.int rE))) d [(0, .ref (w_r w 292)), (1, .int x1), (2, .int x2)] 17 [] := by
    intro x1 x2 d  h
    refine iter_ind (G := fun s_ : (Int32 × Dt) => gG w p l e R s m args below meth c 3 0 0 (gE w below args s dE (some (.int rE))) s_.2 [(0, .ref (w_r w 292)), (1, .int x1), (2, .int s_.1)] 17 []) ?_ fu _ h
    clear h
    intro s_ y1 h hl1 hx1
    obtain ⟨x2, d⟩ := s_
    show gG w p l e R s m args below meth c 3 0 0 (gE w below args s dE (some (.int rE))) d [(0, .ref (w_r w 292)), (1, .int x1), (2, .int x2)] 17 []
    dsimp only at h
    unfold st_M_writePlan_17 at h
    have R35 : ∀ (x2 : Int32) (d : Dt), f_M_writePlan_35 x1 x2  d = some y1 → gG w p l e R s m args below meth c 3 0 0 (gE w below args s dE (some (.int rE))) d [(0, .ref (w_r w 292)), (1, .int x1), (2, .int x2)] 35 [] := by
      intro x2  d  h
      unfold f_M_writePlan_35 at h
      refine g_aload_n C dX12_writePlan_35 0 rfl ?_
      refine g_aload_n C dX12_writePlan_36 0 rfl ?_
      refine g_aload_n C dX12_writePlan_37 0 rfl ?_
      refine g_iload_n C dX12_writePlan_38 1 rfl ?_
      refine g_iload_n C dX12_writePlan_39 2 rfl ?_
      obtain ⟨r7, hc8, h⟩ := ob1_1 h
      refine g_callVi C 292 q_292 vk_M_122 hR rfl (m_M_hearing C.2.2.2.2.2.2.1 hc8) rfl rfl rfl dX12_writePlan_40 ?_
      refine g_iconst C dX12_writePlan_43 (v := 0) rfl ?_
      obtain ⟨r9, hc10, h⟩ := ob1_1 h
      refine g_callVi C 292 q_292 vk_M_72 hR rfl (m_M_brief C.2.2.2.2.2.2.1 hc10) rfl rfl rfl dX12_writePlan_44 ?_
      obtain ⟨d11, hc12, h⟩ := ob1_1 h
      refine g_callVv C 292 q_292 vk_M_255 hR rfl (m_M_writesNumber_r3 C.2.2.2.2.2.2.1 hc12) rfl rfl rfl dX12_writePlan_47 ?_
      refine g_iinc C (lv' := [(2, .int (x2 + 1)), (0, .ref (w_r w 292)), (1, .int x1)]) (v := (x2 + 1)) dX12_writePlan_50 2 rfl rfl (by decide) rfl ?_
      refine g_goto C dX12_writePlan_53 (tgt := 17) rfl ?_
      refine g_sub [1, 2, 0] (lv' := [(0, .ref (w_r w 292)), (1, .int x1), (2, .int (x2 + 1))]) rfl ?_
      exact hl1 ((x2 + 1), d11) (Option.some.inj h).symm
    refine g_iload_n C dX12_writePlan_17 2 rfl ?_
    refine g_iload_n C dX12_writePlan_18 1 rfl ?_
    obtain ⟨r13, hc14, h⟩ := ob1_1 h
    refine g_callSi C sk_M_261 hR rfl (m_M_bits C.2.2.2.2.2.2.1 hc14) rfl rfl rfl dX12_writePlan_19 ?_
    refine g_icmp_ge C dX12_writePlan_22 (tgt := 56) rfl (fun q => ?_) (fun q => ?_)
    · replace h := it_t q h
      replace h := ir_2 h hx1
      refine g_aload_n C dX12_writePlan_56 0 rfl ?_
      refine g_get C (.int (d 292 13)) 292 q_292 fk_M_252 rfl dX12_writePlan_57 ?_
      exact g_iret C hr hlk rfl (congrArg Prod.snd (Option.some.inj h)) (congrArg (fun z => some (Value.int z.1)) (Option.some.inj h)) dX12_writePlan_60
    · replace h := it_f q h
      refine g_iload_n C dX12_writePlan_25 2 rfl ?_
      refine g_if_le C dX12_writePlan_26 (tgt := 35) rfl (fun q => ?_) (fun q => ?_)
      · replace h := it_t q h
        exact R35 x2 d h
      · replace h := it_f q h
        refine g_aload_n C dX12_writePlan_29 0 rfl ?_
        refine g_bipush C dX12_writePlan_30 (v := 32) (by decide) ?_
        obtain ⟨d15, hc16, h⟩ := ob1_1 h
        refine g_callVv C 292 q_292 vk_M_258 hR rfl (m_M_writes C.2.2.2.2.2.2.1 hc16) rfl rfl rfl dX12_writePlan_32 ?_
        exact R35 x2 d15 h
  unfold f_M_writePlan at h
  refine g_aload_n C dX12_writePlan_0 0 rfl ?_
  refine g_iconst C dX12_writePlan_1 (v := 0) rfl ?_
  refine g_put C 292 q_292 pk_M_39 rfl rfl dX12_writePlan_2 ?_
  refine g_aload_n C dX12_writePlan_5 0 rfl ?_
  obtain ⟨r17, hc18, h⟩ := ob1_1 h
  refine g_callVi C 292 q_292 vk_M_118 hR rfl (m_M_plan C.2.2.2.2.2.2.1 hc18) rfl rfl rfl dX12_writePlan_6 ?_
  refine g_istore_n C (lv' := [(1, .int r17), (0, .ref (w_r w 292))]) dX12_writePlan_9 (by decide) rfl ?_
  refine g_aload_n C dX12_writePlan_10 1 rfl ?_
  refine g_iconst C dX12_writePlan_11 (v := 0) rfl ?_
  refine g_put C 292 q_292 pk_M_252 rfl rfl dX12_writePlan_12 ?_
  refine g_iconst C dX12_writePlan_15 (v := 0) rfl ?_
  refine g_istore_n C (lv' := [(2, .int 0), (1, .int r17), (0, .ref (w_r w 292))]) dX12_writePlan_16 (by decide) rfl ?_
  refine g_sub [2, 1, 0] (lv' := [(0, .ref (w_r w 292)), (1, .int r17), (2, .int 0)]) rfl ?_
  exact R17 r17 0 (wr (wr d 292 7 0) 292 13 0) h
