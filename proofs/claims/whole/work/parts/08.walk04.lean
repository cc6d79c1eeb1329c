/-! 08: walks -/
set_option maxHeartbeats 4000000 in
set_option maxRecDepth 100000 in
theorem m_M_keeps_292_296 {w : wT} {l : Launch} {d : Dt} {dE : Dt} (hO : okW w) (h : f_M_keeps_292_296  d = some dE) : gM w l yX12_keeps cX12_keeps 3 (Option.none : Option Jvm.ClassFile.FieldType) 1 [.ref (w_r w 292), .ref (w_r w 296)] d dE none := by
  refine gM_of (by decide) [(0, .ref (w_r w 292)), (1, .ref (w_r w 296))] rfl rfl ?_ hO
  intro p e R s m args below meth c C hR hr hlk
  have R63 : ∀ (d : Dt), f_M_keeps_292_296_63   d = some dE → gG w p l e R s m args below meth c 3 0 0 (gE w below args s dE none) d [(0, .ref (w_r w 292)), (1, .ref (w_r w 296))] 63 [] := by
    intro   d  h
    unfold f_M_keeps_292_296_63 at h
    refine g_aload_n C dX12_keeps_63 1 rfl ?_
    refine g_iconst C dX12_keeps_64 (v := 0) rfl ?_
    refine g_aload_n C dX12_keeps_65 0 rfl ?_
    refine g_get C (.ref (w_r w 294)) 292 q_292 fk_M_13 rfl dX12_keeps_66 ?_
    refine g_sipush C dX12_keeps_69 (v := 187) (by decide) ?_
    refine g_aload_n C dX12_keeps_72 0 rfl ?_
    refine g_get C (.int (d 292 5)) 292 q_292 fk_M_46 rfl dX12_keeps_73 ?_
    refine g_imul C dX12_keeps_76  ?_
    obtain ⟨d2, hc3, h⟩ := ob1_1 h
    refine g_callSv C sk_M_49 hR rfl (m_M_copies_296_294 C.2.2.2.2.2.2.1 hc3) rfl rfl rfl dX12_keeps_77 rfl rfl ?_
    refine g_aload_n C dX12_keeps_80 0 rfl ?_
    refine g_dup C dX12_keeps_81 rfl ?_
    refine g_get C (.int (d2 292 5)) 292 q_292 fk_M_46 rfl dX12_keeps_82 ?_
    refine g_iconst C dX12_keeps_85 (v := 1) rfl ?_
    refine g_iadd C dX12_keeps_86  ?_
    refine g_put C 292 q_292 pk_M_46 rfl rfl dX12_keeps_87 ?_
    exact g_vret C hr hlk (Option.some.inj h) rfl dX12_keeps_90
  have R24 : ∀ (x2 : Int32) (d : Dt), f_M_keeps_292_296_24 x2 d = some dE → gG w p l e R s m args below meth c 3 0 0 (gE w below args s dE none) d [(0, .ref (w_r w 292)), (1, .ref (w_r w 296)), (2, .int x2)] 24 [] := by
    intro x2 d  h
    refine iter_ind (G := fun s_ : (Int32 × Dt) => gG w p l e R s m args below meth c 3 0 0 (gE w below args s dE none) s_.2 [(0, .ref (w_r w 292)), (1, .ref (w_r w 296)), (2, .int s_.1)] 24 []) ?_ fu _ h
    clear h
    intro s_ y1 h hl1 hx1
    obtain ⟨x2, d⟩ := s_
    show gG w p l e R s m args below meth c 3 0 0 (gE w below args s dE none) d [(0, .ref (w_r w 292)), (1, .ref (w_r w 296)), (2, .int x2)] 24 []
    dsimp only at h
    unfold st_M_keeps_292_296_24 at h
    refine g_iload_n C dX12_keeps_24 2 rfl ?_
    refine g_sipush C dX12_keeps_25 (v := 1309) (by decide) ?_
    refine g_icmp_ge C dX12_keeps_28 (tgt := 53) rfl (fun q => ?_) (fun q => ?_)
    · replace h := it_t q h
      replace h := ir_2 h hx1
      refine g_aload_n C dX12_keeps_53 0 rfl ?_
      refine g_dup C dX12_keeps_54 rfl ?_
      refine g_get C (.int (d 292 5)) 292 q_292 fk_M_46 rfl dX12_keeps_55 ?_
      refine g_iconst C dX12_keeps_58 (v := 1) rfl ?_
      refine g_isub C dX12_keeps_59  ?_
      refine g_put C 292 q_292 pk_M_46 rfl rfl dX12_keeps_60 ?_
      refine g_sub [0, 1] (lv' := [(0, .ref (w_r w 292)), (1, .ref (w_r w 296))]) rfl ?_
      exact R63 (wr d 292 5 ((d 292 5) - 1)) h
    · replace h := it_f q h
      refine g_aload_n C dX12_keeps_31 0 rfl ?_
      refine g_get C (.ref (w_r w 294)) 292 q_292 fk_M_13 rfl dX12_keeps_32 ?_
      refine g_iload_n C dX12_keeps_35 2 rfl ?_
      refine g_aload_n C dX12_keeps_36 0 rfl ?_
      refine g_get C (.ref (w_r w 294)) 292 q_292 fk_M_13 rfl dX12_keeps_37 ?_
      refine g_iload_n C dX12_keeps_40 2 rfl ?_
      refine g_sipush C dX12_keeps_41 (v := 187) (by decide) ?_
      refine g_iadd C dX12_keeps_44  ?_
      have hg4 := gd_1 h
      replace h := gd_2 h
      refine g_iald C 294 q_294 hg4 _ rfl dX12_keeps_45 ?_
      have hg5 := gd_1 h
      replace h := gd_2 h
      refine g_iast C 294 q_294 hg5 _ rfl  dX12_keeps_46 ?_
      refine g_iinc C (lv' := [(2, .int (x2 + 1)), (0, .ref (w_r w 292)), (1, .ref (w_r w 296))]) (v := (x2 + 1)) dX12_keeps_47 2 rfl rfl (by decide) rfl ?_
      refine g_goto C dX12_keeps_50 (tgt := 24) rfl ?_
      refine g_sub [1, 2, 0] (lv' := [(0, .ref (w_r w 292)), (1, .ref (w_r w 296)), (2, .int (x2 + 1))]) rfl ?_
      exact hl1 ((x2 + 1), (wr d 294 x2.toNatClampNeg (d 294 (x2 + 187).toNatClampNeg))) (Option.some.inj h).symm
  unfold f_M_keeps_292_296 at h
  refine g_aload_n C dX12_keeps_0 0 rfl ?_
  refine g_iconst C dX12_keeps_1 (v := 0) rfl ?_
  refine g_put C 292 q_292 pk_M_39 rfl rfl dX12_keeps_2 ?_
  refine g_aload_n C dX12_keeps_5 0 rfl ?_
  refine g_get C (.int ((wr d 292 7 0) 292 6)) 292 q_292 fk_M_42 rfl dX12_keeps_6 ?_
  refine g_if_eq C dX12_keeps_9 (tgt := 13) rfl (fun q => ?_) (fun q => ?_)
  · replace h := it_t q h
    refine g_aload_n C dX12_keeps_13 0 rfl ?_
    refine g_get C (.int ((wr d 292 7 0) 292 5)) 292 q_292 fk_M_46 rfl dX12_keeps_14 ?_
    refine g_bipush C dX12_keeps_17 (v := 8) (by decide) ?_
    refine g_icmp_ne C dX12_keeps_19 (tgt := 63) rfl (fun q => ?_) (fun q => ?_)
    · replace h := it_f q h
      exact R63 (wr d 292 7 0) h
    · replace h := it_t q h
      refine g_iconst C dX12_keeps_22 (v := 0) rfl ?_
      refine g_istore_n C (lv' := [(2, .int 0), (0, .ref (w_r w 292)), (1, .ref (w_r w 296))]) dX12_keeps_23 (by decide) rfl ?_
      refine g_sub [1, 2, 0] (lv' := [(0, .ref (w_r w 292)), (1, .ref (w_r w 296)), (2, .int 0)]) rfl ?_
      exact R24 0 (wr d 292 7 0) h
  · replace h := it_f q h
    exact g_vret C hr hlk (Option.some.inj h) rfl dX12_keeps_12
set_option maxHeartbeats 4000000 in
set_option maxRecDepth 100000 in
theorem m_M_copies_296_293 {w : wT} {l : Launch} {x1 x3 : Int32} {d : Dt} {dE : Dt} (hO : okW w) (h : f_M_copies_296_293 x1 x3 d = some dE) : gM w l yX12_copies cX12_copies 5 (Option.none : Option Jvm.ClassFile.FieldType) 0 [.ref (w_r w 296), .int x1, .ref (w_r w 293), .int x3] d dE none := by
  refine gM_of (by decide) [(0, .ref (w_r w 296)), (1, .int x1), (2, .ref (w_r w 293)), (3, .int x3)] rfl rfl ?_ hO
  intro p e R s m args below meth c C hR hr hlk
  have R3 : ∀ (x1 : Int32) (x3 : Int32) (x4 : Int32) (d : Dt), f_M_copies_296_293_3 x1 x3 x4 d = some dE → gG w p l e R s m args below meth c 5 0 0 (gE w below args s dE none) d [(0, .ref (w_r w 296)), (1, .int x1), (2, .ref (w_r w 293)), (3, .int x3), (4, .int x4)] 3 [] := by
    intro x1 x3 x4 d  h
    refine iter_ind (G := fun s_ : (Int32 × Dt) => gG w p l e R s m args below meth c 5 0 0 (gE w below args s dE none) s_.2 [(0, .ref (w_r w 296)), (1, .int x1), (2, .ref (w_r w 293)), (3, .int x3), (4, .int s_.1)] 3 []) ?_ fu _ h
    clear h
    intro s_ y1 h hl1 hx1
    obtain ⟨x4, d⟩ := s_
    show gG w p l e R s m args below meth c 5 0 0 (gE w below args s dE none) d [(0, .ref (w_r w 296)), (1, .int x1), (2, .ref (w_r w 293)), (3, .int x3), (4, .int x4)] 3 []
    dsimp only at h
    unfold st_M_copies_296_293_3 at h
    refine g_iload C dX12_copies_3 4 rfl ?_
    refine g_sipush C dX12_copies_5 (v := 187) (by decide) ?_
    refine g_icmp_ge C dX12_copies_8 (tgt := 29) rfl (fun q => ?_) (fun q => ?_)
    · replace h := it_t q h
      replace h := ir_2 h hx1
      exact g_vret C hr hlk (Option.some.inj h) rfl dX12_copies_29
    · replace h := it_f q h
      refine g_aload_n C dX12_copies_11 2 rfl ?_
      refine g_iload_n C dX12_copies_12 3 rfl ?_
      refine g_iload C dX12_copies_13 4 rfl ?_
      refine g_iadd C dX12_copies_15  ?_
      refine g_aload_n C dX12_copies_16 0 rfl ?_
      refine g_iload_n C dX12_copies_17 1 rfl ?_
      refine g_iload C dX12_copies_18 4 rfl ?_
      refine g_iadd C dX12_copies_20  ?_
      have hg1 := gd_1 h
      replace h := gd_2 h
      refine g_iald C 296 q_296 hg1 _ rfl dX12_copies_21 ?_
      have hg2 := gd_1 h
      replace h := gd_2 h
      refine g_iast C 293 q_293 hg2 _ rfl  dX12_copies_22 ?_
      refine g_iinc C (lv' := [(4, .int (x4 + 1)), (0, .ref (w_r w 296)), (1, .int x1), (2, .ref (w_r w 293)), (3, .int x3)]) (v := (x4 + 1)) dX12_copies_23 4 rfl rfl (by decide) rfl ?_
      refine g_goto C dX12_copies_26 (tgt := 3) rfl ?_
      refine g_sub [1, 2, 3, 4, 0] (lv' := [(0, .ref (w_r w 296)), (1, .int x1), (2, .ref (w_r w 293)), (3, .int x3), (4, .int (x4 + 1))]) rfl ?_
      exact hl1 ((x4 + 1), (wr d 293 (x3 + x4).toNatClampNeg (d 296 (x1 + x4).toNatClampNeg))) (Option.some.inj h).symm
  unfold f_M_copies_296_293 at h
  refine g_iconst C dX12_copies_0 (v := 0) rfl ?_
  refine g_istore C (lv' := [(4, .int 0), (0, .ref (w_r w 296)), (1, .int x1), (2, .ref (w_r w 293)), (3, .int x3)]) dX12_copies_1 (by decide) rfl ?_
  refine g_sub [1, 2, 3, 4, 0] (lv' := [(0, .ref (w_r w 296)), (1, .int x1), (2, .ref (w_r w 293)), (3, .int x3), (4, .int 0)]) rfl ?_
  exact R3 x1 x3 0 d h
set_option maxHeartbeats 4000000 in
set_option maxRecDepth 100000 in
theorem m_M_copies_293_296 {w : wT} {l : Launch} {x1 x3 : Int32} {d : Dt} {dE : Dt} (hO : okW w) (h : f_M_copies_293_296 x1 x3 d = some dE) : gM w l yX12_copies cX12_copies 5 (Option.none : Option Jvm.ClassFile.FieldType) 0 [.ref (w_r w 293), .int x1, .ref (w_r w 296), .int x3] d dE none := by
  refine gM_of (by decide) [(0, .ref (w_r w 293)), (1, .int x1), (2, .ref (w_r w 296)), (3, .int x3)] rfl rfl ?_ hO
  intro p e R s m args below meth c C hR hr hlk
  have R3 : ∀ (x1 : Int32) (x3 : Int32) (x4 : Int32) (d : Dt), f_M_copies_293_296_3 x1 x3 x4 d = some dE → gG w p l e R s m args below meth c 5 0 0 (gE w below args s dE none) d [(0, .ref (w_r w 293)), (1, .int x1), (2, .ref (w_r w 296)), (3, .int x3), (4, .int x4)] 3 [] := by
    intro x1 x3 x4 d  h
    refine iter_ind (G := fun s_ : (Int32 × Dt) => gG w p l e R s m args below meth c 5 0 0 (gE w below args s dE none) s_.2 [(0, .ref (w_r w 293)), (1, .int x1), (2, .ref (w_r w 296)), (3, .int x3), (4, .int s_.1)] 3 []) ?_ fu _ h
    clear h
    intro s_ y1 h hl1 hx1
    obtain ⟨x4, d⟩ := s_
    show gG w p l e R s m args below meth c 5 0 0 (gE w below args s dE none) d [(0, .ref (w_r w 293)), (1, .int x1), (2, .ref (w_r w 296)), (3, .int x3), (4, .int x4)] 3 []
    dsimp only at h
    unfold st_M_copies_293_296_3 at h
    refine g_iload C dX12_copies_3 4 rfl ?_
    refine g_sipush C dX12_copies_5 (v := 187) (by decide) ?_
    refine g_icmp_ge C dX12_copies_8 (tgt := 29) rfl (fun q => ?_) (fun q => ?_)
    · replace h := it_t q h
      replace h := ir_2 h hx1
      exact g_vret C hr hlk (Option.some.inj h) rfl dX12_copies_29
    · replace h := it_f q h
      refine g_aload_n C dX12_copies_11 2 rfl ?_
      refine g_iload_n C dX12_copies_12 3 rfl ?_
      refine g_iload C dX12_copies_13 4 rfl ?_
      refine g_iadd C dX12_copies_15  ?_
      refine g_aload_n C dX12_copies_16 0 rfl ?_
      refine g_iload_n C dX12_copies_17 1 rfl ?_
      refine g_iload C dX12_copies_18 4 rfl ?_
      refine g_iadd C dX12_copies_20  ?_
      have hg1 := gd_1 h
      replace h := gd_2 h
      refine g_iald C 293 q_293 hg1 _ rfl dX12_copies_21 ?_
      have hg2 := gd_1 h
      replace h := gd_2 h
      refine g_iast C 296 q_296 hg2 _ rfl  dX12_copies_22 ?_
      refine g_iinc C (lv' := [(4, .int (x4 + 1)), (0, .ref (w_r w 293)), (1, .int x1), (2, .ref (w_r w 296)), (3, .int x3)]) (v := (x4 + 1)) dX12_copies_23 4 rfl rfl (by decide) rfl ?_
      refine g_goto C dX12_copies_26 (tgt := 3) rfl ?_
      refine g_sub [1, 2, 3, 4, 0] (lv' := [(0, .ref (w_r w 293)), (1, .int x1), (2, .ref (w_r w 296)), (3, .int x3), (4, .int (x4 + 1))]) rfl ?_
      exact hl1 ((x4 + 1), (wr d 296 (x3 + x4).toNatClampNeg (d 293 (x1 + x4).toNatClampNeg))) (Option.some.inj h).symm
  unfold f_M_copies_293_296 at h
  refine g_iconst C dX12_copies_0 (v := 0) rfl ?_
  refine g_istore C (lv' := [(4, .int 0), (0, .ref (w_r w 293)), (1, .int x1), (2, .ref (w_r w 296)), (3, .int x3)]) dX12_copies_1 (by decide) rfl ?_
  refine g_sub [1, 2, 3, 4, 0] (lv' := [(0, .ref (w_r w 293)), (1, .int x1), (2, .ref (w_r w 296)), (3, .int x3), (4, .int 0)]) rfl ?_
  exact R3 x1 x3 0 d h
set_option maxHeartbeats 4000000 in
set_option maxRecDepth 100000 in
theorem m_M_runCommands {w : wT} {l : Launch} {d : Dt} {rE : Int32} {dE : Dt} (hO : okW w) (h : f_M_runCommands  d = some (rE, dE)) : gM w l yX12_runCommands cX12_runCommands 4 (Option.some Jvm.ClassFile.FieldType.int) 8 [.ref (w_r w 292)] d dE (some (.int rE)) := by
  refine gM_of (by decide) [(0, .ref (w_r w 292))] rfl rfl ?_ hO
  intro p e R s m args below meth c C hR hr hlk
  have R98 : ∀ (x2 : Int32) (x3 : Int32) (d : Dt), f_M_runCommands_98 x2 x3  d = some (rE, dE) → gG w p l e R s m args below meth c 4 0 0 (gE w below args s dE (some (.int rE))) d [(0, .ref (w_r w 292)), (2, .int x2), (3, .int x3)] 98 [] := by
    intro x2 x3  d  h
    unfold f_M_runCommands_98 at h
    refine g_aload_n C dX12_runCommands_98 0 rfl ?_
    refine g_iconst C dX12_runCommands_99 (v := 0) rfl ?_
    refine g_put C 292 q_292 pk_M_42 rfl rfl dX12_runCommands_100 ?_
    refine g_aload_n C dX12_runCommands_103 0 rfl ?_
    refine g_get C (.int ((wr d 292 6 0) 292 7)) 292 q_292 fk_M_39 rfl dX12_runCommands_104 ?_
    refine g_if_le C dX12_runCommands_107 (tgt := 143) rfl (fun q => ?_) (fun q => ?_)
    · replace h := it_t q h
      refine g_aload_n C dX12_runCommands_143 0 rfl ?_
      refine g_aload_n C dX12_runCommands_144 0 rfl ?_
      refine g_get C (.ref (w_r w 296)) 292 q_292 fk_M_19 rfl dX12_runCommands_145 ?_
      obtain ⟨d10, hc11, h⟩ := ob1_1 h
      refine g_callVv C 292 q_292 vk_M_64 hR rfl (m_M_keeps_292_296 C.2.2.2.2.2.2.1 hc11) rfl rfl rfl dX12_runCommands_148 rfl rfl ?_
      refine g_aload_n C dX12_runCommands_151 0 rfl ?_
      refine g_get C (.int (d10 292 16)) 292 q_292 fk_M_178 rfl dX12_runCommands_152 ?_
      exact g_iret C hr hlk rfl (congrArg Prod.snd (Option.some.inj h)) (congrArg (fun z => some (Value.int z.1)) (Option.some.inj h)) dX12_runCommands_155
    · replace h := it_f q h
      refine g_aload_n C dX12_runCommands_110 0 rfl ?_
      refine g_get C (.ref (w_r w 296)) 292 q_292 fk_M_19 rfl dX12_runCommands_111 ?_
      refine g_iconst C dX12_runCommands_114 (v := 0) rfl ?_
      refine g_aload_n C dX12_runCommands_115 0 rfl ?_
      refine g_get C (.ref (w_r w 293)) 292 q_292 fk_M_7 rfl dX12_runCommands_116 ?_
      refine g_iconst C dX12_runCommands_119 (v := 0) rfl ?_
      obtain ⟨d12, hc13, h⟩ := ob1_1 h
      refine g_callSv C sk_M_49 hR rfl (m_M_copies_296_293 C.2.2.2.2.2.2.1 hc13) rfl rfl rfl dX12_runCommands_120 rfl rfl ?_
      refine g_aload_n C dX12_runCommands_123 0 rfl ?_
      refine g_iload_n C dX12_runCommands_124 1 rfl ?_
      refine g_put C 292 q_292 pk_M_29 rfl rfl dX12_runCommands_125 ?_
      refine g_aload_n C dX12_runCommands_128 0 rfl ?_
      refine g_iconst C dX12_runCommands_129 (v := 2) rfl ?_
      refine g_put C 292 q_292 pk_M_39 rfl rfl dX12_runCommands_130 ?_
      refine g_iload_n C dX12_runCommands_133 2 rfl ?_
      refine g_if_le C dX12_runCommands_134 (tgt := 141) rfl (fun q => ?_) (fun q => ?_)
      · replace h := it_t q h
        refine g_iload_n C dX12_runCommands_141 2 rfl ?_
        exact g_iret C hr hlk rfl (congrArg Prod.snd (Option.some.inj h)) (congrArg (fun z => some (Value.int z.1)) (Option.some.inj h)) dX12_runCommands_142
      · replace h := it_f q h
        refine g_iconst C dX12_runCommands_137 (v := 0) rfl ?_
        refine g_goto C dX12_runCommands_138 (tgt := 142) rfl ?_
        exact g_iret C hr hlk rfl (congrArg Prod.snd (Option.some.inj h)) (congrArg (fun z => some (Value.int z.1)) (Option.some.inj h)) dX12_runCommands_142
  have R62 : ∀ (x2 : Int32) (x3 : Int32) (d : Dt), f_M_runCommands_62 x2 x3 d = some (rE, dE) → gG w p l e R s m args below meth c 4 0 0 (gE w below args s dE (some (.int rE))) d [(0, .ref (w_r w 292)), (2, .int x2), (3, .int x3)] 62 [] := by
    intro x2 x3 d  h
    refine iter_ind (G := fun s_ : (Int32 × Int32 × Dt) => gG w p l e R s m args below meth c 4 0 0 (gE w below args s dE (some (.int rE))) s_.2.2 [(0, .ref (w_r w 292)), (2, .int s_.1), (3, .int s_.2.1)] 62 []) ?_ fu _ h
    clear h
    intro s_ y1 h hl1 hx1
    obtain ⟨x2, x3, d⟩ := s_
    show gG w p l e R s m args below meth c 4 0 0 (gE w below args s dE (some (.int rE))) d [(0, .ref (w_r w 292)), (2, .int x2), (3, .int x3)] 62 []
    dsimp only at h
    unfold st_M_runCommands_62 at h
    refine g_iload_n C dX12_runCommands_62 1 rfl ?_
    refine g_aload_n C dX12_runCommands_63 0 rfl ?_
    refine g_get C (.int (d 292 16)) 292 q_292 fk_M_178 rfl dX12_runCommands_64 ?_
    refine g_icmp_ge C dX12_runCommands_67 (tgt := 98) rfl (fun q => ?_) (fun q => ?_)
    · replace h := it_t q h
      replace h := ir_2 h hx1
      exact R98 x2 x3 d h
    · replace h := it_f q h
      refine g_aload_n C dX12_runCommands_70 0 rfl ?_
      refine g_get C (.int (d 292 7)) 292 q_292 fk_M_39 rfl dX12_runCommands_71 ?_
      refine g_if_ne C dX12_runCommands_74 (tgt := 98) rfl (fun q => ?_) (fun q => ?_)
      · replace h := it_f q h
        replace h := ir_2 h hx1
        exact R98 x2 x3 d h
      · replace h := it_t q h
        refine g_aload_n C dX12_runCommands_77 0 rfl ?_
        refine g_iconst C dX12_runCommands_78 (v := 5) rfl ?_
        refine g_iload_n C dX12_runCommands_79 1 rfl ?_
        refine g_imul C dX12_runCommands_80  ?_
        obtain ⟨r14, d15, hc16, h⟩ := ob2_1 h
        refine g_callVi C 292 q_292 vk_M_249 hR rfl (m_M_carries C.2.2.2.2.2.2.1 hc16) rfl rfl rfl dX12_runCommands_81 rfl rfl ?_
        refine g_istore_n C (lv' := [(3, .int r14), (0, .ref (w_r w 292)), (2, .int x2)]) dX12_runCommands_84 (by decide) rfl ?_
        refine g_aload_n C dX12_runCommands_85 1 rfl ?_
        refine g_get C (.int (d15 292 7)) 292 q_292 fk_M_39 rfl dX12_runCommands_86 ?_
        refine g_if_ne C dX12_runCommands_89 (tgt := 62) rfl (fun q => ?_) (fun q => ?_)
        · replace h := it_f q h
          refine g_sub [1, 2, 0] (lv' := [(0, .ref (w_r w 292)), (2, .int x2), (3, .int r14)]) rfl ?_
          exact hl1 (x2, r14, d15) (Option.some.inj h).symm
        · replace h := it_t q h
          refine g_iinc C (lv' := [(2, .int (x2 + 1)), (3, .int r14), (0, .ref (w_r w 292))]) (v := (x2 + 1)) dX12_runCommands_92 2 rfl rfl (by decide) rfl ?_
          refine g_goto C dX12_runCommands_95 (tgt := 62) rfl ?_
          refine g_sub [2, 0, 1] (lv' := [(0, .ref (w_r w 292)), (2, .int (x2 + 1)), (3, .int r14)]) rfl ?_
          exact hl1 ((x2 + 1), r14, d15) (Option.some.inj h).symm
  have R32 : ∀ (v1 : Int32) (d : Dt), f_M_runCommands_32  v1 d = some (rE, dE) → gG w p l e R s m args below meth c 4 0 0 (gE w below args s dE (some (.int rE))) d [(0, .ref (w_r w 292))] 32 [.int v1, .ref (w_r w 292)] := by
    intro  v1 d  h
    unfold f_M_runCommands_32 at h
    obtain ⟨r17, d18, hc19, h⟩ := ob2_1 h
    refine g_callVi C 292 q_292 vk_M_61 hR rfl (m_M_fails C.2.2.2.2.2.2.1 hc19) rfl rfl rfl dX12_runCommands_32 rfl rfl ?_
    refine g_if_eq C dX12_runCommands_35 (tgt := 40) rfl (fun q => ?_) (fun q => ?_)
    · replace h := it_t q h
      refine g_aload_n C dX12_runCommands_40 0 rfl ?_
      refine g_get C (.ref (w_r w 293)) 292 q_292 fk_M_7 rfl dX12_runCommands_41 ?_
      refine g_iconst C dX12_runCommands_44 (v := 0) rfl ?_
      refine g_aload_n C dX12_runCommands_45 0 rfl ?_
      refine g_get C (.ref (w_r w 296)) 292 q_292 fk_M_19 rfl dX12_runCommands_46 ?_
      refine g_iconst C dX12_runCommands_49 (v := 0) rfl ?_
      obtain ⟨d20, hc21, h⟩ := ob1_1 h
      refine g_callSv C sk_M_49 hR rfl (m_M_copies_293_296 C.2.2.2.2.2.2.1 hc21) rfl rfl rfl dX12_runCommands_50 rfl rfl ?_
      refine g_aload_n C dX12_runCommands_53 0 rfl ?_
      refine g_iconst C dX12_runCommands_54 (v := 1) rfl ?_
      refine g_put C 292 q_292 pk_M_42 rfl rfl dX12_runCommands_55 ?_
      refine g_iconst C dX12_runCommands_58 (v := 0) rfl ?_
      refine g_istore_n C (lv' := [(2, .int 0), (0, .ref (w_r w 292))]) dX12_runCommands_59 (by decide) rfl ?_
      refine g_iconst C dX12_runCommands_60 (v := 0) rfl ?_
      refine g_istore_n C (lv' := [(3, .int 0), (2, .int 0), (0, .ref (w_r w 292))]) dX12_runCommands_61 (by decide) rfl ?_
      refine g_sub [2, 1, 0] (lv' := [(0, .ref (w_r w 292)), (2, .int 0), (3, .int 0)]) rfl ?_
      exact R62 0 0 (wr d20 292 6 1) h
    · replace h := it_f q h
      refine g_iconst C dX12_runCommands_38 (v := 0) rfl ?_
      exact g_iret C hr hlk rfl (congrArg Prod.snd (Option.some.inj h)) (congrArg (fun z => some (Value.int z.1)) (Option.some.inj h)) dX12_runCommands_39
  have R17 : ∀ (x1 : Int32) (d : Dt), f_M_runCommands_17 x1  d = some (rE, dE) → gG w p l e R s m args below meth c 4 0 0 (gE w below args s dE (some (.int rE))) d [(0, .ref (w_r w 292)), (1, .int x1)] 17 [] := by
    intro x1  d  h
    unfold f_M_runCommands_17 at h
    refine g_aload_n C dX12_runCommands_17 0 rfl ?_
    refine g_iconst C dX12_runCommands_18 (v := 0) rfl ?_
    refine g_put C 292 q_292 pk_M_169 rfl rfl dX12_runCommands_19 ?_
    refine g_aload_n C dX12_runCommands_22 0 rfl ?_
    refine g_iload_n C dX12_runCommands_23 1 rfl ?_
    refine g_if_eq C dX12_runCommands_24 (tgt := 31) rfl (fun q => ?_) (fun q => ?_)
    · replace h := it_t q h
      refine g_iconst C dX12_runCommands_31 (v := 1) rfl ?_
      refine g_sub [0] (lv' := [(0, .ref (w_r w 292))]) rfl ?_
      exact R32 1 (wr d 292 9 0) h
    · replace h := it_f q h
      refine g_iconst C dX12_runCommands_27 (v := 0) rfl ?_
      refine g_goto C dX12_runCommands_28 (tgt := 32) rfl ?_
      refine g_sub [0] (lv' := [(0, .ref (w_r w 292))]) rfl ?_
      exact R32 0 (wr d 292 9 0) h
  unfold f_M_runCommands at h
  refine g_aload_n C dX12_runCommands_0 0 rfl ?_
  obtain ⟨r22, d23, hc24, h⟩ := ob2_1 h
  refine g_callVi C 292 q_292 vk_M_246 hR rfl (m_M_isText C.2.2.2.2.2.2.1 hc24) rfl rfl rfl dX12_runCommands_1 rfl rfl ?_
  refine g_istore_n C (lv' := [(1, .int r22), (0, .ref (w_r w 292))]) dX12_runCommands_4 (by decide) rfl ?_
  refine g_iload_n C dX12_runCommands_5 0 rfl ?_
  refine g_if_ne C dX12_runCommands_6 (tgt := 17) rfl (fun q => ?_) (fun q => ?_)
  · replace h := it_f q h
    refine g_sub [1, 0] (lv' := [(0, .ref (w_r w 292)), (1, .int r22)]) rfl ?_
    exact R17 r22 d23 h
  · replace h := it_t q h
    refine g_aload_n C dX12_runCommands_9 1 rfl ?_
    refine g_aload_n C dX12_runCommands_10 1 rfl ?_
    refine g_get C (.int (d23 292 14)) 292 q_292 fk_M_172 rfl dX12_runCommands_11 ?_
    refine g_put C 292 q_292 pk_M_25 rfl rfl dX12_runCommands_14 ?_
    refine g_sub [1, 0] (lv' := [(0, .ref (w_r w 292)), (1, .int r22)]) rfl ?_
    exact R17 r22 (wr d23 292 10 (d23 292 14)) h
set_option maxHeartbeats 4000000 in
set_option maxRecDepth 100000 in
theorem m_M_copies_293_295 {w : wT} {l : Launch} {x1 x3 : Int32} {d : Dt} {dE : Dt} (hO : okW w) (h : f_M_copies_293_295 x1 x3 d = some dE) : gM w l yX12_copies cX12_copies 5 (Option.none : Option Jvm.ClassFile.FieldType) 0 [.ref (w_r w 293), .int x1, .ref (w_r w 295), .int x3] d dE none := by
  refine gM_of (by decide) [(0, .ref (w_r w 293)), (1, .int x1), (2, .ref (w_r w 295)), (3, .int x3)] rfl rfl ?_ hO
  intro p e R s m args below meth c C hR hr hlk
  have R3 : ∀ (x1 : Int32) (x3 : Int32) (x4 : Int32) (d : Dt), f_M_copies_293_295_3 x1 x3 x4 d = some dE → gG w p l e R s m args below meth c 5 0 0 (gE w below args s dE none) d [(0, .ref (w_r w 293)), (1, .int x1), (2, .ref (w_r w 295)), (3, .int x3), (4, .int x4)] 3 [] := by
    intro x1 x3 x4 d  h
    refine iter_ind (G := fun s_ : (Int32 × Dt) => gG w p l e R s m args below meth c 5 0 0 (gE w below args s dE none) s_.2 [(0, .ref (w_r w 293)), (1, .int x1), (2, .ref (w_r w 295)), (3, .int x3), (4, .int s_.1)] 3 []) ?_ fu _ h
    clear h
    intro s_ y1 h hl1 hx1
    obtain ⟨x4, d⟩ := s_
    show gG w p l e R s m args below meth c 5 0 0 (gE w below args s dE none) d [(0, .ref (w_r w 293)), (1, .int x1), (2, .ref (w_r w 295)), (3, .int x3), (4, .int x4)] 3 []
    dsimp only at h
    unfold st_M_copies_293_295_3 at h
    refine g_iload C dX12_copies_3 4 rfl ?_
    refine g_sipush C dX12_copies_5 (v := 187) (by decide) ?_
    refine g_icmp_ge C dX12_copies_8 (tgt := 29) rfl (fun q => ?_) (fun q => ?_)
    · replace h := it_t q h
      replace h := ir_2 h hx1
      exact g_vret C hr hlk (Option.some.inj h) rfl dX12_copies_29
    · replace h := it_f q h
      refine g_aload_n C dX12_copies_11 2 rfl ?_
      refine g_iload_n C dX12_copies_12 3 rfl ?_
      refine g_iload C dX12_copies_13 4 rfl ?_
      refine g_iadd C dX12_copies_15  ?_
      refine g_aload_n C dX12_copies_16 0 rfl ?_
      refine g_iload_n C dX12_copies_17 1 rfl ?_
      refine g_iload C dX12_copies_18 4 rfl ?_
      refine g_iadd C dX12_copies_20  ?_
      have hg1 := gd_1 h
      replace h := gd_2 h
      refine g_iald C 293 q_293 hg1 _ rfl dX12_copies_21 ?_
      have hg2 := gd_1 h
      replace h := gd_2 h
      refine g_iast C 295 q_295 hg2 _ rfl  dX12_copies_22 ?_
      refine g_iinc C (lv' := [(4, .int (x4 + 1)), (0, .ref (w_r w 293)), (1, .int x1), (2, .ref (w_r w 295)), (3, .int x3)]) (v := (x4 + 1)) dX12_copies_23 4 rfl rfl (by decide) rfl ?_
      refine g_goto C dX12_copies_26 (tgt := 3) rfl ?_
      refine g_sub [1, 2, 3, 4, 0] (lv' := [(0, .ref (w_r w 293)), (1, .int x1), (2, .ref (w_r w 295)), (3, .int x3), (4, .int (x4 + 1))]) rfl ?_
      exact hl1 ((x4 + 1), (wr d 295 (x3 + x4).toNatClampNeg (d 293 (x1 + x4).toNatClampNeg))) (Option.some.inj h).symm
  unfold f_M_copies_293_295 at h
  refine g_iconst C dX12_copies_0 (v := 0) rfl ?_
  refine g_istore C (lv' := [(4, .int 0), (0, .ref (w_r w 293)), (1, .int x1), (2, .ref (w_r w 295)), (3, .int x3)]) dX12_copies_1 (by decide) rfl ?_
  refine g_sub [1, 2, 3, 4, 0] (lv' := [(0, .ref (w_r w 293)), (1, .int x1), (2, .ref (w_r w 295)), (3, .int x3), (4, .int 0)]) rfl ?_
  exact R3 x1 x3 0 d h
set_option maxHeartbeats 4000000 in
set_option maxRecDepth 100000 in
theorem m_M_save {w : wT} {l : Launch} {d : Dt} {rE : Int32} {dE : Dt} (hO : okW w) (h : f_M_save  d = some (rE, dE)) : gM w l yX12_save cX12_save 1 (Option.some Jvm.ClassFile.FieldType.int) 1 [.ref (w_r w 292)] d dE (some (.int rE)) := by
  refine gM_of (by decide) [(0, .ref (w_r w 292))] rfl rfl ?_ hO
  intro p e R s m args below meth c C hR hr hlk
  unfold f_M_save at h
  refine g_aload_n C dX12_save_0 0 rfl ?_
  refine g_iconst C dX12_save_1 (v := 0) rfl ?_
  refine g_put C 292 q_292 pk_M_39 rfl rfl dX12_save_2 ?_
  refine g_aload_n C dX12_save_5 0 rfl ?_
  refine g_iconst C dX12_save_6 (v := 1) rfl ?_
  refine g_put C 292 q_292 pk_M_264 rfl rfl dX12_save_7 ?_
  refine g_aload_n C dX12_save_10 0 rfl ?_
  refine g_get C (.ref (w_r w 293)) 292 q_292 fk_M_7 rfl dX12_save_11 ?_
  refine g_iconst C dX12_save_14 (v := 0) rfl ?_
  refine g_aload_n C dX12_save_15 0 rfl ?_
  refine g_get C (.ref (w_r w 295)) 292 q_292 fk_M_16 rfl dX12_save_16 ?_
  refine g_iconst C dX12_save_19 (v := 0) rfl ?_
  obtain ⟨d2, hc3, h⟩ := ob1_1 h
  refine g_callSv C sk_M_49 hR rfl (m_M_copies_293_295 C.2.2.2.2.2.2.1 hc3) rfl rfl rfl dX12_save_20 rfl rfl ?_
  refine g_aload_n C dX12_save_23 0 rfl ?_
  refine g_get C (.ref (w_r w 293)) 292 q_292 fk_M_7 rfl dX12_save_24 ?_
  refine g_iconst C dX12_save_27 (v := 0) rfl ?_
  refine g_iald C 293 q_293 (by decide) 0 (by decide) dX12_save_28 ?_
  exact g_iret C hr hlk rfl (congrArg Prod.snd (Option.some.inj h)) (congrArg (fun z => some (Value.int z.1)) (Option.some.inj h)) dX12_save_29
set_option maxHeartbeats 4000000 in
set_option maxRecDepth 100000 in
theorem m_M_secondOf {w : wT} {l : Launch} {x1 : Int32} {d : Dt} {rE : Int32} {dE : Dt} (hO : okW w) (h : f_M_secondOf x1 d = some (rE, dE)) : gM w l yX12_secondOf cX12_secondOf 2 (Option.some Jvm.ClassFile.FieldType.int) 2 [.ref (w_r w 292), .int x1] d dE (some (.int rE)) := by
  refine gM_of (by decide) [(0, .ref (w_r w 292)), (1, .int x1)] rfl rfl ?_ hO
  intro p e R s m args below meth c C hR hr hlk
  have R14 : ∀ (x1 : Int32) (v1 : Int32) (d : Dt), f_M_secondOf_14 x1 v1 d = some (rE, dE) → gG w p l e R s m args below meth c 2 0 0 (gE w below args s dE (some (.int rE))) d [(0, .ref (w_r w 292)), (1, .int x1)] 14 [.int v1, .ref (w_r w 292)] := by
    intro x1 v1 d  h
    unfold f_M_secondOf_14 at h
    obtain ⟨r5, d6, hc7, h⟩ := ob2_1 h
    refine g_callVi C 292 q_292 vk_M_61 hR rfl (m_M_fails C.2.2.2.2.2.2.1 hc7) rfl rfl rfl dX12_secondOf_14 rfl rfl ?_
    refine g_if_eq C dX12_secondOf_17 (tgt := 24) rfl (fun q => ?_) (fun q => ?_)
    · replace h := it_t q h
      refine g_aload_n C dX12_secondOf_24 0 rfl ?_
      refine g_iload_n C dX12_secondOf_25 1 rfl ?_
      refine g_iconst C dX12_secondOf_26 (v := 1) rfl ?_
      obtain ⟨r8, hc9, h⟩ := ob1_1 h
      refine g_callVi C 292 q_292 vk_M_97 hR rfl (m_M_says C.2.2.2.2.2.2.1 hc9) rfl rfl rfl dX12_secondOf_27 rfl rfl ?_
      exact g_iret C hr hlk rfl (congrArg Prod.snd (Option.some.inj h)) (congrArg (fun z => some (Value.int z.1)) (Option.some.inj h)) dX12_secondOf_30
    · replace h := it_f q h
      refine g_iconst C dX12_secondOf_20 (v := 0) rfl ?_
      refine g_goto C dX12_secondOf_21 (tgt := 30) rfl ?_
      exact g_iret C hr hlk rfl (congrArg Prod.snd (Option.some.inj h)) (congrArg (fun z => some (Value.int z.1)) (Option.some.inj h)) dX12_secondOf_30
  unfold f_M_secondOf at h
  refine g_aload_n C dX12_secondOf_0 0 rfl ?_
  refine g_aload_n C dX12_secondOf_1 0 rfl ?_
  refine g_iload_n C dX12_secondOf_2 1 rfl ?_
  obtain ⟨r10, hc11, h⟩ := ob1_1 h
  refine g_callVi C 292 q_292 vk_M_84 hR rfl (m_M_isStatement C.2.2.2.2.2.2.1 hc11) rfl rfl rfl dX12_secondOf_3 rfl rfl ?_
  refine g_if_eq C dX12_secondOf_6 (tgt := 13) rfl (fun q => ?_) (fun q => ?_)
  · replace h := it_t q h
    refine g_iconst C dX12_secondOf_13 (v := 1) rfl ?_
    exact R14 x1 1 d h
  · replace h := it_f q h
    refine g_iconst C dX12_secondOf_9 (v := 0) rfl ?_
    refine g_goto C dX12_secondOf_10 (tgt := 14) rfl ?_
    exact R14 x1 0 d h
set_option maxHeartbeats 4000000 in
set_option maxRecDepth 100000 in
theorem m_M_sentenceCount {w : wT} {l : Launch} {x1 : Int32} {d : Dt} {rE : Int32} {dE : Dt} (hO : okW w) (h : f_M_sentenceCount x1 d = some (rE, dE)) : gM w l yX12_sentenceCount cX12_sentenceCount 2 (Option.some Jvm.ClassFile.FieldType.int) 3 [.ref (w_r w 292), .int x1] d dE (some (.int rE)) := by
  refine gM_of (by decide) [(0, .ref (w_r w 292)), (1, .int x1)] rfl rfl ?_ hO
  intro p e R s m args below meth c C hR hr hlk
  unfold f_M_sentenceCount at h
  refine g_aload_n C dX12_sentenceCount_0 0 rfl ?_
  refine g_iload_n C dX12_sentenceCount_1 1 rfl ?_
  obtain ⟨r4, d5, hc6, h⟩ := ob2_1 h
  refine g_callVi C 292 q_292 vk_M_134 hR rfl (m_M_isNone C.2.2.2.2.2.2.1 hc6) rfl rfl rfl dX12_sentenceCount_2 rfl rfl ?_
  refine g_if_eq C dX12_sentenceCount_5 (tgt := 12) rfl (fun q => ?_) (fun q => ?_)
  · replace h := it_t q h
    refine g_aload_n C dX12_sentenceCount_12 0 rfl ?_
    refine g_iload_n C dX12_sentenceCount_13 1 rfl ?_
    refine g_iconst C dX12_sentenceCount_14 (v := 2) rfl ?_
    obtain ⟨r7, hc8, h⟩ := ob1_1 h
    refine g_callVi C 292 q_292 vk_M_87 hR rfl (m_M_of C.2.2.2.2.2.2.1 hc8) rfl rfl rfl dX12_sentenceCount_15 rfl rfl ?_
    exact g_iret C hr hlk rfl (congrArg Prod.snd (Option.some.inj h)) (congrArg (fun z => some (Value.int z.1)) (Option.some.inj h)) dX12_sentenceCount_18
  · replace h := it_f q h
    refine g_iconst C dX12_sentenceCount_8 (v := 0) rfl ?_
    refine g_goto C dX12_sentenceCount_9 (tgt := 18) rfl ?_
    exact g_iret C hr hlk rfl (congrArg Prod.snd (Option.some.inj h)) (congrArg (fun z => some (Value.int z.1)) (Option.some.inj h)) dX12_sentenceCount_18
set_option maxHeartbeats 4000000 in
set_option maxRecDepth 100000 in
theorem m_M_servedDays {w : wT} {l : Launch} {d : Dt} {rE : Int32} {dE : Dt} (hO : okW w) (h : f_M_servedDays  d = some (rE, dE)) : gM w l yX12_servedDays cX12_servedDays 1 (Option.some Jvm.ClassFile.FieldType.int) 0 [.ref (w_r w 292)] d dE (some (.int rE)) := by
  refine gM_of (by decide) [(0, .ref (w_r w 292))] rfl rfl ?_ hO
  intro p e R s m args below meth c C hR hr hlk
  unfold f_M_servedDays at h
  refine g_aload_n C dX12_servedDays_0 0 rfl ?_
  refine g_iconst C dX12_servedDays_1 (v := 0) rfl ?_
  refine g_put C 292 q_292 pk_M_39 rfl rfl dX12_servedDays_2 ?_
  refine g_aload_n C dX12_servedDays_5 0 rfl ?_
  refine g_get C (.ref (w_r w 293)) 292 q_292 fk_M_7 rfl dX12_servedDays_6 ?_
  refine g_bipush C dX12_servedDays_9 (v := 12) (by decide) ?_
  refine g_iald C 293 q_293 (by decide) 12 (by decide) dX12_servedDays_11 ?_
  exact g_iret C hr hlk rfl (congrArg Prod.snd (Option.some.inj h)) (congrArg (fun z => some (Value.int z.1)) (Option.some.inj h)) dX12_servedDays_12
set_option maxHeartbeats 4000000 in
set_option maxRecDepth 100000 in
theorem m_M_severity {w : wT} {l : Launch} {x1 : Int32} {d : Dt} {rE : Int32} {dE : Dt} (hO : okW w) (h : f_M_severity x1 d = some (rE, dE)) : gM w l yX12_severity cX12_severity 2 (Option.some Jvm.ClassFile.FieldType.int) 3 [.ref (w_r w 292), .int x1] d dE (some (.int rE)) := by
  refine gM_of (by decide) [(0, .ref (w_r w 292)), (1, .int x1)] rfl rfl ?_ hO
  intro p e R s m args below meth c C hR hr hlk
  unfold f_M_severity at h
  refine g_aload_n C dX12_severity_0 0 rfl ?_
  refine g_iload_n C dX12_severity_1 1 rfl ?_
  refine g_iconst C dX12_severity_2 (v := 4) rfl ?_
  obtain ⟨r3, d4, hc5, h⟩ := ob2_1 h
  refine g_callVi C 292 q_292 vk_M_140 hR rfl (m_M_ofBrief C.2.2.2.2.2.2.1 hc5) rfl rfl rfl dX12_severity_3 rfl rfl ?_
  exact g_iret C hr hlk rfl (congrArg Prod.snd (Option.some.inj h)) (congrArg (fun z => some (Value.int z.1)) (Option.some.inj h)) dX12_severity_6
set_option maxHeartbeats 4000000 in
set_option maxRecDepth 100000 in
theorem m_M_statementCount {w : wT} {l : Launch} {d : Dt} {rE : Int32} {dE : Dt} (hO : okW w) (h : f_M_statementCount  d = some (rE, dE)) : gM w l yX12_statementCount cX12_statementCount 1 (Option.some Jvm.ClassFile.FieldType.int) 0 [.ref (w_r w 292)] d dE (some (.int rE)) := by
  refine gM_of (by decide) [(0, .ref (w_r w 292))] rfl rfl ?_ hO
  intro p e R s m args below meth c C hR hr hlk
  unfold f_M_statementCount at h
  refine g_aload_n C dX12_statementCount_0 0 rfl ?_
  refine g_iconst C dX12_statementCount_1 (v := 0) rfl ?_
  refine g_put C 292 q_292 pk_M_39 rfl rfl dX12_statementCount_2 ?_
  refine g_aload_n C dX12_statementCount_5 0 rfl ?_
  refine g_get C (.ref (w_r w 293)) 292 q_292 fk_M_7 rfl dX12_statementCount_6 ?_
  refine g_iconst C dX12_statementCount_9 (v := 4) rfl ?_
  refine g_iald C 293 q_293 (by decide) 4 (by decide) dX12_statementCount_10 ?_
  exact g_iret C hr hlk rfl (congrArg Prod.snd (Option.some.inj h)) (congrArg (fun z => some (Value.int z.1)) (Option.some.inj h)) dX12_statementCount_11
set_option maxHeartbeats 4000000 in
set_option maxRecDepth 100000 in
theorem m_M_thrown {w : wT} {l : Launch} {d : Dt} {rE : Int32} (hO : okW w) (h : f_M_thrown  d = some rE) : gM w l yX12_thrown cX12_thrown 1 (Option.some Jvm.ClassFile.FieldType.int) 0 [.ref (w_r w 292)] d d (some (.int rE)) := by
  refine gM_of (by decide) [(0, .ref (w_r w 292))] rfl rfl ?_ hO
  intro p e R s m args below meth c C hR hr hlk
  unfold f_M_thrown at h
  refine g_aload_n C dX12_thrown_0 0 rfl ?_
  refine g_get C (.int (d 292 7)) 292 q_292 fk_M_39 rfl dX12_thrown_1 ?_
  exact g_iret C hr hlk rfl rfl (congrArg (fun z => some (Value.int z)) (Option.some.inj h)) dX12_thrown_4
set_option maxHeartbeats 4000000 in
set_option maxRecDepth 100000 in
theorem m_M_copies_294_293 {w : wT} {l : Launch} {x1 x3 : Int32} {d : Dt} {dE : Dt} (hO : okW w) (h : f_M_copies_294_293 x1 x3 d = some dE) : gM w l yX12_copies cX12_copies 5 (Option.none : Option Jvm.ClassFile.FieldType) 0 [.ref (w_r w 294), .int x1, .ref (w_r w 293), .int x3] d dE none := by
  refine gM_of (by decide) [(0, .ref (w_r w 294)), (1, .int x1), (2, .ref (w_r w 293)), (3, .int x3)] rfl rfl ?_ hO
  intro p e R s m args below meth c C hR hr hlk
  have R3 : ∀ (x1 : Int32) (x3 : Int32) (x4 : Int32) (d : Dt), f_M_copies_294_293_3 x1 x3 x4 d = some dE → gG w p l e R s m args below meth c 5 0 0 (gE w below args s dE none) d [(0, .ref (w_r w 294)), (1, .int x1), (2, .ref (w_r w 293)), (3, .int x3), (4, .int x4)] 3 [] := by
    intro x1 x3 x4 d  h
    refine iter_ind (G := fun s_ : (Int32 × Dt) => gG w p l e R s m args below meth c 5 0 0 (gE w below args s dE none) s_.2 [(0, .ref (w_r w 294)), (1, .int x1), (2, .ref (w_r w 293)), (3, .int x3), (4, .int s_.1)] 3 []) ?_ fu _ h
    clear h
    intro s_ y1 h hl1 hx1
    obtain ⟨x4, d⟩ := s_
    show gG w p l e R s m args below meth c 5 0 0 (gE w below args s dE none) d [(0, .ref (w_r w 294)), (1, .int x1), (2, .ref (w_r w 293)), (3, .int x3), (4, .int x4)] 3 []
    dsimp only at h
    unfold st_M_copies_294_293_3 at h
    refine g_iload C dX12_copies_3 4 rfl ?_
    refine g_sipush C dX12_copies_5 (v := 187) (by decide) ?_
    refine g_icmp_ge C dX12_copies_8 (tgt := 29) rfl (fun q => ?_) (fun q => ?_)
    · replace h := it_t q h
      replace h := ir_2 h hx1
      exact g_vret C hr hlk (Option.some.inj h) rfl dX12_copies_29
    · replace h := it_f q h
      refine g_aload_n C dX12_copies_11 2 rfl ?_
      refine g_iload_n C dX12_copies_12 3 rfl ?_
      refine g_iload C dX12_copies_13 4 rfl ?_
      refine g_iadd C dX12_copies_15  ?_
      refine g_aload_n C dX12_copies_16 0 rfl ?_
      refine g_iload_n C dX12_copies_17 1 rfl ?_
      refine g_iload C dX12_copies_18 4 rfl ?_
      refine g_iadd C dX12_copies_20  ?_
      have hg1 := gd_1 h
      replace h := gd_2 h
      refine g_iald C 294 q_294 hg1 _ rfl dX12_copies_21 ?_
      have hg2 := gd_1 h
      replace h := gd_2 h
      refine g_iast C 293 q_293 hg2 _ rfl  dX12_copies_22 ?_
      refine g_iinc C (lv' := [(4, .int (x4 + 1)), (0, .ref (w_r w 294)), (1, .int x1), (2, .ref (w_r w 293)), (3, .int x3)]) (v := (x4 + 1)) dX12_copies_23 4 rfl rfl (by decide) rfl ?_
      refine g_goto C dX12_copies_26 (tgt := 3) rfl ?_
      refine g_sub [1, 2, 3, 4, 0] (lv' := [(0, .ref (w_r w 294)), (1, .int x1), (2, .ref (w_r w 293)), (3, .int x3), (4, .int (x4 + 1))]) rfl ?_
      exact hl1 ((x4 + 1), (wr d 293 (x3 + x4).toNatClampNeg (d 294 (x1 + x4).toNatClampNeg))) (Option.some.inj h).symm
  unfold f_M_copies_294_293 at h
  refine g_iconst C dX12_copies_0 (v := 0) rfl ?_
  refine g_istore C (lv' := [(4, .int 0), (0, .ref (w_r w 294)), (1, .int x1), (2, .ref (w_r w 293)), (3, .int x3)]) dX12_copies_1 (by decide) rfl ?_
  refine g_sub [1, 2, 3, 4, 0] (lv' := [(0, .ref (w_r w 294)), (1, .int x1), (2, .ref (w_r w 293)), (3, .int x3), (4, .int 0)]) rfl ?_
  exact R3 x1 x3 0 d h
set_option maxHeartbeats 4000000 in
set_option maxRecDepth 100000 in
theorem m_M_undo {w : wT} {l : Launch} {d : Dt} {rE : Int32} {dE : Dt} (hO : okW w) (h : f_M_undo  d = some (rE, dE)) : gM w l yX12_undo cX12_undo 1 (Option.some Jvm.ClassFile.FieldType.int) 1 [.ref (w_r w 292)] d dE (some (.int rE)) := by
  refine gM_of (by decide) [(0, .ref (w_r w 292))] rfl rfl ?_ hO
  intro p e R s m args below meth c C hR hr hlk
  have R13 : ∀ (v1 : Int32) (d : Dt), f_M_undo_13  v1 d = some (rE, dE) → gG w p l e R s m args below meth c 1 0 0 (gE w below args s dE (some (.int rE))) d [(0, .ref (w_r w 292))] 13 [.int v1, .ref (w_r w 292)] := by
    intro  v1 d  h
    unfold f_M_undo_13 at h
    obtain ⟨r4, d5, hc6, h⟩ := ob2_1 h
    refine g_callVi C 292 q_292 vk_M_61 hR rfl (m_M_fails C.2.2.2.2.2.2.1 hc6) rfl rfl rfl dX12_undo_13 rfl rfl ?_
    refine g_if_eq C dX12_undo_16 (tgt := 21) rfl (fun q => ?_) (fun q => ?_)
    · replace h := it_t q h
      refine g_aload_n C dX12_undo_21 0 rfl ?_
      refine g_dup C dX12_undo_22 rfl ?_
      refine g_get C (.int (d5 292 5)) 292 q_292 fk_M_46 rfl dX12_undo_23 ?_
      refine g_iconst C dX12_undo_26 (v := 1) rfl ?_
      refine g_isub C dX12_undo_27  ?_
      refine g_put C 292 q_292 pk_M_46 rfl rfl dX12_undo_28 ?_
      refine g_aload_n C dX12_undo_31 0 rfl ?_
      refine g_get C (.ref (w_r w 294)) 292 q_292 fk_M_13 rfl dX12_undo_32 ?_
      refine g_sipush C dX12_undo_35 (v := 187) (by decide) ?_
      refine g_aload_n C dX12_undo_38 0 rfl ?_
      refine g_get C (.int ((wr d5 292 5 ((d5 292 5) - 1)) 292 5)) 292 q_292 fk_M_46 rfl dX12_undo_39 ?_
      refine g_imul C dX12_undo_42  ?_
      refine g_aload_n C dX12_undo_43 0 rfl ?_
      refine g_get C (.ref (w_r w 293)) 292 q_292 fk_M_7 rfl dX12_undo_44 ?_
      refine g_iconst C dX12_undo_47 (v := 0) rfl ?_
      obtain ⟨d7, hc8, h⟩ := ob1_1 h
      refine g_callSv C sk_M_49 hR rfl (m_M_copies_294_293 C.2.2.2.2.2.2.1 hc8) rfl rfl rfl dX12_undo_48 rfl rfl ?_
      refine g_aload_n C dX12_undo_51 0 rfl ?_
      refine g_get C (.int (d7 292 5)) 292 q_292 fk_M_46 rfl dX12_undo_52 ?_
      exact g_iret C hr hlk rfl (congrArg Prod.snd (Option.some.inj h)) (congrArg (fun z => some (Value.int z.1)) (Option.some.inj h)) dX12_undo_55
    · replace h := it_f q h
      refine g_iconst C dX12_undo_19 (v := 0) rfl ?_
      exact g_iret C hr hlk rfl (congrArg Prod.snd (Option.some.inj h)) (congrArg (fun z => some (Value.int z.1)) (Option.some.inj h)) dX12_undo_20
  unfold f_M_undo at h
  refine g_aload_n C dX12_undo_0 0 rfl ?_
  refine g_aload_n C dX12_undo_1 0 rfl ?_
  refine g_get C (.int (d 292 5)) 292 q_292 fk_M_46 rfl dX12_undo_2 ?_
  refine g_if_ne C dX12_undo_5 (tgt := 12) rfl (fun q => ?_) (fun q => ?_)
  · replace h := it_f q h
    refine g_iconst C dX12_undo_12 (v := 0) rfl ?_
    exact R13 0 d h
  · replace h := it_t q h
    refine g_iconst C dX12_undo_8 (v := 1) rfl ?_
    refine g_goto C dX12_undo_9 (tgt := 13) rfl ?_
    exact R13 1 d h
set_option maxHeartbeats 4000000 in
set_option maxRecDepth 100000 in
theorem m_M_undoCount {w : wT} {l : Launch} {d : Dt} {rE : Int32} {dE : Dt} (hO : okW w) (h : f_M_undoCount  d = some (rE, dE)) : gM w l yX12_undoCount cX12_undoCount 1 (Option.some Jvm.ClassFile.FieldType.int) 0 [.ref (w_r w 292)] d dE (some (.int rE)) := by
  refine gM_of (by decide) [(0, .ref (w_r w 292))] rfl rfl ?_ hO
  intro p e R s m args below meth c C hR hr hlk
  unfold f_M_undoCount at h
  refine g_aload_n C dX12_undoCount_0 0 rfl ?_
  refine g_iconst C dX12_undoCount_1 (v := 0) rfl ?_
  refine g_put C 292 q_292 pk_M_39 rfl rfl dX12_undoCount_2 ?_
  refine g_aload_n C dX12_undoCount_5 0 rfl ?_
  refine g_get C (.int ((wr d 292 7 0) 292 5)) 292 q_292 fk_M_46 rfl dX12_undoCount_6 ?_
  exact g_iret C hr hlk rfl (congrArg Prod.snd (Option.some.inj h)) (congrArg (fun z => some (Value.int z.1)) (Option.some.inj h)) dX12_undoCount_9
set_option maxHeartbeats 4000000 in
set_option maxRecDepth 100000 in
theorem m_M_verdictOf {w : wT} {l : Launch} {x1 : Int32} {d : Dt} {rE : Int32} {dE : Dt} (hO : okW w) (h : f_M_verdictOf x1 d = some (rE, dE)) : gM w l yX12_verdictOf cX12_verdictOf 2 (Option.some Jvm.ClassFile.FieldType.char) 4 [.ref (w_r w 292), .int x1] d dE (some (.int rE)) := by
  refine gM_of (by decide) [(0, .ref (w_r w 292)), (1, .int x1)] rfl rfl ?_ hO
  intro p e R s m args below meth c C hR hr hlk
  unfold f_M_verdictOf at h
  refine g_aload_n C dX12_verdictOf_0 0 rfl ?_
  refine g_iload_n C dX12_verdictOf_1 1 rfl ?_
  obtain ⟨r5, d6, hc7, h⟩ := ob2_1 h
  refine g_callVi C 292 q_292 vk_M_134 hR rfl (m_M_isNone C.2.2.2.2.2.2.1 hc7) rfl rfl rfl dX12_verdictOf_2 rfl rfl ?_
  refine g_if_eq C dX12_verdictOf_5 (tgt := 13) rfl (fun q => ?_) (fun q => ?_)
  · replace h := it_t q h
    refine g_ldcS C 29 (by decide) (by decide +kernel) (by decide +kernel) dX12_verdictOf_13 ?_
    refine g_aload_n C dX12_verdictOf_15 0 rfl ?_
    refine g_iload_n C dX12_verdictOf_16 1 rfl ?_
    obtain ⟨r8, hc9, h⟩ := ob1_1 h
    refine g_callVi C 292 q_292 vk_M_112 hR rfl (m_M_judges C.2.2.2.2.2.2.1 hc9) rfl rfl rfl dX12_verdictOf_17 rfl rfl ?_
    obtain ⟨r10, hc11, h⟩ := ob1_1 h
    refine g_callO C _ (ks_obj C (by decide)) yk_J0_charAt_5068e rfl (wA 1786 (by decide +kernel) (by decide +kernel)) (wA 1335 (by decide +kernel) (by decide +kernel)) (wA 1336 (by decide +kernel) (by decide +kernel)) hR rfl (m_JS_charAt C.2.2.2.2.2.2.1 (by decide) hc11) rfl rfl rfl dX12_verdictOf_20 rfl rfl ?_
    have hg12 := gd_1 h
    replace h := gd_2 h
    exact g_iret C hr hlk (nar_n hg12) (congrArg Prod.snd (Option.some.inj h)) (congrArg (fun z => some (Value.int z.1)) (Option.some.inj h)) dX12_verdictOf_23
  · replace h := it_f q h
    refine g_bipush C dX12_verdictOf_8 (v := 32) (by decide) ?_
    refine g_goto C dX12_verdictOf_10 (tgt := 23) rfl ?_
    exact g_iret C hr hlk rfl (congrArg Prod.snd (Option.some.inj h)) (congrArg (fun z => some (Value.int z.1)) (Option.some.inj h)) dX12_verdictOf_23
set_option maxHeartbeats 4000000 in
set_option maxRecDepth 100000 in
theorem m_M_verdict {w : wT} {l : Launch} {x1 : Int32} {d : Dt} {rE : Int32} {dE : Dt} (hO : okW w) (h : f_M_verdict x1 d = some (rE, dE)) : gM w l yX12_verdict cX12_verdict 2 (Option.some Jvm.ClassFile.FieldType.char) 5 [.ref (w_r w 292), .int x1] d dE (some (.int rE)) := by
  refine gM_of (by decide) [(0, .ref (w_r w 292)), (1, .int x1)] rfl rfl ?_ hO
  intro p e R s m args below meth c C hR hr hlk
  unfold f_M_verdict at h
  refine g_aload_n C dX12_verdict_0 0 rfl ?_
  refine g_iload_n C dX12_verdict_1 1 rfl ?_
  obtain ⟨r3, d4, hc5, h⟩ := ob2_1 h
  refine g_callVi C 292 q_292 vk_M_154 hR rfl (m_M_verdictOf C.2.2.2.2.2.2.1 hc5) rfl rfl rfl dX12_verdict_2 rfl rfl ?_
  have hg6 := gd_1 h
  replace h := gd_2 h
  exact g_iret C hr hlk (nar_n hg6) (congrArg Prod.snd (Option.some.inj h)) (congrArg (fun z => some (Value.int z.1)) (Option.some.inj h)) dX12_verdict_5
set_option maxHeartbeats 4000000 in
set_option maxRecDepth 100000 in
theorem m_M_verdictByExplanations {w : wT} {l : Launch} {x1 : Int32} {d : Dt} {rE : Int32} {dE : Dt} (hO : okW w) (h : f_M_verdictByExplanations x1 d = some (rE, dE)) : gM w l yX12_verdictByExplanations cX12_verdictByExplanations 2 (Option.some Jvm.ClassFile.FieldType.char) 5 [.ref (w_r w 292), .int x1] d dE (some (.int rE)) := by
  refine gM_of (by decide) [(0, .ref (w_r w 292)), (1, .int x1)] rfl rfl ?_ hO
  intro p e R s m args below meth c C hR hr hlk
  unfold f_M_verdictByExplanations at h
  refine g_aload_n C dX12_verdictByExplanations_0 0 rfl ?_
  refine g_iload_n C dX12_verdictByExplanations_1 1 rfl ?_
  obtain ⟨r3, d4, hc5, h⟩ := ob2_1 h
  refine g_callVi C 292 q_292 vk_M_154 hR rfl (m_M_verdictOf C.2.2.2.2.2.2.1 hc5) rfl rfl rfl dX12_verdictByExplanations_2 rfl rfl ?_
  have hg6 := gd_1 h
  replace h := gd_2 h
  exact g_iret C hr hlk (nar_n hg6) (congrArg Prod.snd (Option.some.inj h)) (congrArg (fun z => some (Value.int z.1)) (Option.some.inj h)) dX12_verdictByExplanations_5
set_option maxHeartbeats 4000000 in
set_option maxRecDepth 100000 in
theorem m_M_writes {w : wT} {l : Launch} {x1 : Int32} {d : Dt} {dE : Dt} (hO : okW w) (h : f_M_writes x1 d = some dE) : gM w l yX12_writes cX12_writes 2 (Option.none : Option Jvm.ClassFile.FieldType) 0 [.ref (w_r w 292), .int x1] d dE none := by
  refine gM_of (by decide) [(0, .ref (w_r w 292)), (1, .int x1)] rfl rfl ?_ hO
  intro p e R s m args below meth c C hR hr hlk
  unfold f_M_writes at h
  refine g_aload_n C dX12_writes_0 0 rfl ?_
  refine g_get C (.ref (w_r w 298)) 292 q_292 fk_M_32 rfl dX12_writes_1 ?_
  refine g_aload_n C dX12_writes_4 0 rfl ?_
  refine g_get C (.int (d 292 13)) 292 q_292 fk_M_252 rfl dX12_writes_5 ?_
  refine g_iload_n C dX12_writes_8 1 rfl ?_
  refine g_i2c C dX12_writes_9  ?_
  have hg1 := gd_1 h
  replace h := gd_2 h
  have hg2 := gd_1 h
  replace h := gd_2 h
  refine g_cast C 298 q_298 hg1 _ rfl (nar_v hg2) dX12_writes_10 ?_
  refine g_aload_n C dX12_writes_11 0 rfl ?_
  refine g_dup C dX12_writes_12 rfl ?_
  refine g_get C (.int ((wr d 298 (d 292 13).toNatClampNeg ((x1.toUInt32 % 65536).toInt32)) 292 13)) 292 q_292 fk_M_252 rfl dX12_writes_13 ?_
  refine g_iconst C dX12_writes_16 (v := 1) rfl ?_
  refine g_iadd C dX12_writes_17  ?_
  refine g_put C 292 q_292 pk_M_252 rfl rfl dX12_writes_18 ?_
  exact g_vret C hr hlk (Option.some.inj h) rfl dX12_writes_21
set_option maxHeartbeats 4000000 in
set_option maxRecDepth 100000 in
theorem m_M_writesNumber_r0 {w : wT} {l : Launch} {x1 : Int32} {d : Dt} {dE : Dt} (hO : okW w) (h : f_M_writesNumber_r0 x1 d = some dE) : gM w l yX12_writesNumber cX12_writesNumber 2 (Option.none : Option Jvm.ClassFile.FieldType) 1 [.ref (w_r w 292), .int x1] d dE none := by
  refine gM_of (by decide) [(0, .ref (w_r w 292)), (1, .int x1)] rfl rfl ?_ hO
  intro p e R s m args below meth c C hR hr hlk
  have R14 : ∀ (x1 : Int32) (d : Dt), f_M_writesNumber_r0_14 x1  d = some dE → gG w p l e R s m args below meth c 2 0 0 (gE w below args s dE none) d [(0, .ref (w_r w 292)), (1, .int x1)] 14 [] := by
    intro x1  d  h
    unfold f_M_writesNumber_r0_14 at h
    refine g_aload_n C dX12_writesNumber_14 0 rfl ?_
    refine g_bipush C dX12_writesNumber_15 (v := 48) (by decide) ?_
    refine g_iload_n C dX12_writesNumber_17 1 rfl ?_
    refine g_bipush C dX12_writesNumber_18 (v := 10) (by decide) ?_
    refine g_irem C dX12_writesNumber_20 (by decide) ?_
    refine g_iadd C dX12_writesNumber_21  ?_
    obtain ⟨d2, hc3, h⟩ := ob1_1 h
    refine g_callVv C 292 q_292 vk_M_258 hR rfl (m_M_writes C.2.2.2.2.2.2.1 hc3) rfl rfl rfl dX12_writesNumber_22 rfl rfl ?_
    exact g_vret C hr hlk (Option.some.inj h) rfl dX12_writesNumber_25
  unfold f_M_writesNumber_r0 at h
  refine g_iload_n C dX12_writesNumber_0 1 rfl ?_
  refine g_bipush C dX12_writesNumber_1 (v := 9) (by decide) ?_
  refine g_icmp_le C dX12_writesNumber_3 (tgt := 14) rfl (fun q => ?_) (fun q => ?_)
  · replace h := it_t q h
    exact R14 x1 d h
  · replace h := it_f q h
    refine g_aload_n C dX12_writesNumber_6 0 rfl ?_
    refine g_iload_n C dX12_writesNumber_7 1 rfl ?_
    refine g_bipush C dX12_writesNumber_8 (v := 10) (by decide) ?_
    refine g_idiv C dX12_writesNumber_10 (by decide) ?_
    cases h
set_option maxHeartbeats 4000000 in
set_option maxRecDepth 100000 in
theorem m_M_writesNumber_r1 {w : wT} {l : Launch} {x1 : Int32} {d : Dt} {dE : Dt} (hO : okW w) (h : f_M_writesNumber_r1 x1 d = some dE) : gM w l yX12_writesNumber cX12_writesNumber 2 (Option.none : Option Jvm.ClassFile.FieldType) 2 [.ref (w_r w 292), .int x1] d dE none := by
  refine gM_of (by decide) [(0, .ref (w_r w 292)), (1, .int x1)] rfl rfl ?_ hO
  intro p e R s m args below meth c C hR hr hlk
  have R14 : ∀ (x1 : Int32) (d : Dt), f_M_writesNumber_r1_14 x1  d = some dE → gG w p l e R s m args below meth c 2 0 0 (gE w below args s dE none) d [(0, .ref (w_r w 292)), (1, .int x1)] 14 [] := by
    intro x1  d  h
    unfold f_M_writesNumber_r1_14 at h
    refine g_aload_n C dX12_writesNumber_14 0 rfl ?_
    refine g_bipush C dX12_writesNumber_15 (v := 48) (by decide) ?_
    refine g_iload_n C dX12_writesNumber_17 1 rfl ?_
    refine g_bipush C dX12_writesNumber_18 (v := 10) (by decide) ?_
    refine g_irem C dX12_writesNumber_20 (by decide) ?_
    refine g_iadd C dX12_writesNumber_21  ?_
    obtain ⟨d3, hc4, h⟩ := ob1_1 h
    refine g_callVv C 292 q_292 vk_M_258 hR rfl (m_M_writes C.2.2.2.2.2.2.1 hc4) rfl rfl rfl dX12_writesNumber_22 rfl rfl ?_
    exact g_vret C hr hlk (Option.some.inj h) rfl dX12_writesNumber_25
  unfold f_M_writesNumber_r1 at h
  refine g_iload_n C dX12_writesNumber_0 1 rfl ?_
  refine g_bipush C dX12_writesNumber_1 (v := 9) (by decide) ?_
  refine g_icmp_le C dX12_writesNumber_3 (tgt := 14) rfl (fun q => ?_) (fun q => ?_)
  · replace h := it_t q h
    exact R14 x1 d h
  · replace h := it_f q h
    refine g_aload_n C dX12_writesNumber_6 0 rfl ?_
    refine g_iload_n C dX12_writesNumber_7 1 rfl ?_
    refine g_bipush C dX12_writesNumber_8 (v := 10) (by decide) ?_
    refine g_idiv C dX12_writesNumber_10 (by decide) ?_
    obtain ⟨d5, hc6, h⟩ := ob1_1 h
    refine g_callVv C 292 q_292 vk_M_255 hR rfl (m_M_writesNumber_r0 C.2.2.2.2.2.2.1 hc6) rfl rfl rfl dX12_writesNumber_11 rfl rfl ?_
    exact R14 x1 d5 h
set_option maxHeartbeats 4000000 in
set_option maxRecDepth 100000 in
theorem m_M_writesNumber_r2 {w : wT} {l : Launch} {x1 : Int32} {d : Dt} {dE : Dt} (hO : okW w) (h : f_M_writesNumber_r2 x1 d = some dE) : gM w l yX12_writesNumber cX12_writesNumber 2 (Option.none : Option Jvm.ClassFile.FieldType) 3 [.ref (w_r w 292), .int x1] d dE none := by
  refine gM_of (by decide) [(0, .ref (w_r w 292)), (1, .int x1)] rfl rfl ?_ hO
  intro p e R s m args below meth c C hR hr hlk
  have R14 : ∀ (x1 : Int32) (d : Dt), f_M_writesNumber_r2_14 x1  d = some dE → gG w p l e R s m args below meth c 2 0 0 (gE w below args s dE none) d [(0, .ref (w_r w 292)), (1, .int x1)] 14 [] := by
    intro x1  d  h
    unfold f_M_writesNumber_r2_14 at h
    refine g_aload_n C dX12_writesNumber_14 0 rfl ?_
    refine g_bipush C dX12_writesNumber_15 (v := 48) (by decide) ?_
    refine g_iload_n C dX12_writesNumber_17 1 rfl ?_
    refine g_bipush C dX12_writesNumber_18 (v := 10) (by decide) ?_
    refine g_irem C dX12_writesNumber_20 (by decide) ?_
    refine g_iadd C dX12_writesNumber_21  ?_
    obtain ⟨d3, hc4, h⟩ := ob1_1 h
    refine g_callVv C 292 q_292 vk_M_258 hR rfl (m_M_writes C.2.2.2.2.2.2.1 hc4) rfl rfl rfl dX12_writesNumber_22 rfl rfl ?_
    exact g_vret C hr hlk (Option.some.inj h) rfl dX12_writesNumber_25
  unfold f_M_writesNumber_r2 at h
  refine g_iload_n C dX12_writesNumber_0 1 rfl ?_
  refine g_bipush C dX12_writesNumber_1 (v := 9) (by decide) ?_
  refine g_icmp_le C dX12_writesNumber_3 (tgt := 14) rfl (fun q => ?_) (fun q => ?_)
  · replace h := it_t q h
    exact R14 x1 d h
  · replace h := it_f q h
    refine g_aload_n C dX12_writesNumber_6 0 rfl ?_
    refine g_iload_n C dX12_writesNumber_7 1 rfl ?_
    refine g_bipush C dX12_writesNumber_8 (v := 10) (by decide) ?_
    refine g_idiv C dX12_writesNumber_10 (by decide) ?_
    obtain ⟨d5, hc6, h⟩ := ob1_1 h
    refine g_callVv C 292 q_292 vk_M_255 hR rfl (m_M_writesNumber_r1 C.2.2.2.2.2.2.1 hc6) rfl rfl rfl dX12_writesNumber_11 rfl rfl ?_
    exact R14 x1 d5 h
set_option maxHeartbeats 4000000 in
set_option maxRecDepth 100000 in
theorem m_M_writesNumber_r3 {w : wT} {l : Launch} {x1 : Int32} {d : Dt} {dE : Dt} (hO : okW w) (h : f_M_writesNumber_r3 x1 d = some dE) : gM w l yX12_writesNumber cX12_writesNumber 2 (Option.none : Option Jvm.ClassFile.FieldType) 4 [.ref (w_r w 292), .int x1] d dE none := by
  refine gM_of (by decide) [(0, .ref (w_r w 292)), (1, .int x1)] rfl rfl ?_ hO
  intro p e R s m args below meth c C hR hr hlk
  have R14 : ∀ (x1 : Int32) (d : Dt), f_M_writesNumber_r3_14 x1  d = some dE → gG w p l e R s m args below meth c 2 0 0 (gE w below args s dE none) d [(0, .ref (w_r w 292)), (1, .int x1)] 14 [] := by
    intro x1  d  h
    unfold f_M_writesNumber_r3_14 at h
    refine g_aload_n C dX12_writesNumber_14 0 rfl ?_
    refine g_bipush C dX12_writesNumber_15 (v := 48) (by decide) ?_
    refine g_iload_n C dX12_writesNumber_17 1 rfl ?_
    refine g_bipush C dX12_writesNumber_18 (v := 10) (by decide) ?_
    refine g_irem C dX12_writesNumber_20 (by decide) ?_
    refine g_iadd C dX12_writesNumber_21  ?_
    obtain ⟨d3, hc4, h⟩ := ob1_1 h
    refine g_callVv C 292 q_292 vk_M_258 hR rfl (m_M_writes C.2.2.2.2.2.2.1 hc4) rfl rfl rfl dX12_writesNumber_22 rfl rfl ?_
    exact g_vret C hr hlk (Option.some.inj h) rfl dX12_writesNumber_25
  unfold f_M_writesNumber_r3 at h
  refine g_iload_n C dX12_writesNumber_0 1 rfl ?_
  refine g_bipush C dX12_writesNumber_1 (v := 9) (by decide) ?_
  refine g_icmp_le C dX12_writesNumber_3 (tgt := 14) rfl (fun q => ?_) (fun q => ?_)
  · replace h := it_t q h
    exact R14 x1 d h
  · replace h := it_f q h
    refine g_aload_n C dX12_writesNumber_6 0 rfl ?_
    refine g_iload_n C dX12_writesNumber_7 1 rfl ?_
    refine g_bipush C dX12_writesNumber_8 (v := 10) (by decide) ?_
    refine g_idiv C dX12_writesNumber_10 (by decide) ?_
    obtain ⟨d5, hc6, h⟩ := ob1_1 h
    refine g_callVv C 292 q_292 vk_M_255 hR rfl (m_M_writesNumber_r2 C.2.2.2.2.2.2.1 hc6) rfl rfl rfl dX12_writesNumber_11 rfl rfl ?_
    exact R14 x1 d5 h
set_option maxHeartbeats 4000000 in
set_option maxRecDepth 100000 in
theorem m_M_writeLantern {w : wT} {l : Launch} {x1 : Int32} {d : Dt} {rE : Int32} {dE : Dt} (hO : okW w) (h : f_M_writeLantern x1 d = some (rE, dE)) : gM w l yX12_writeLantern cX12_writeLantern 3 (Option.some Jvm.ClassFile.FieldType.int) 5 [.ref (w_r w 292), .int x1] d dE (some (.int rE)) := by
  refine gM_of (by decide) [(0, .ref (w_r w 292)), (1, .int x1)] rfl rfl ?_ hO
  intro p e R s m args below meth c C hR hr hlk
  have R76 : ∀ (x1 : Int32) (x2 : Int32) (d : Dt), f_M_writeLantern_76 x1 x2 d = some (rE, dE) → gG w p l e R s m args below meth c 3 0 0 (gE w below args s dE (some (.int rE))) d [(0, .ref (w_r w 292)), (1, .int x1), (2, .int x2)] 76 [] := by
    intro x1 x2 d  h
    refine iter_ind (G := fun s_ : (Int32 × Dt) => gG w p l e R s m args below meth c 3 0 0 (gE w below args s dE (some (.int rE))) s_.2 [(0, .ref (w_r w 292)), (1, .int x1), (2, .int s_.1)] 76 []) ?_ fu _ h
    clear h
    intro s_ y1 h hl1 hx1
    obtain ⟨x2, d⟩ := s_
    show gG w p l e R s m args below meth c 3 0 0 (gE w below args s dE (some (.int rE))) d [(0, .ref (w_r w 292)), (1, .int x1), (2, .int x2)] 76 []
    dsimp only at h
    unfold st_M_writeLantern_76 at h
    refine g_iload_n C dX12_writeLantern_76 2 rfl ?_
    refine g_aload_n C dX12_writeLantern_77 0 rfl ?_
    refine g_iload_n C dX12_writeLantern_78 1 rfl ?_
    refine g_iconst C dX12_writeLantern_79 (v := 2) rfl ?_
    obtain ⟨r13, hc14, h⟩ := ob1_1 h
    refine g_callVi C 292 q_292 vk_M_87 hR rfl (m_M_of C.2.2.2.2.2.2.1 hc14) rfl rfl rfl dX12_writeLantern_80 rfl rfl ?_
    refine g_icmp_ge C dX12_writeLantern_83 (tgt := 110) rfl (fun q => ?_) (fun q => ?_)
    · replace h := it_t q h
      replace h := ir_2 h hx1
      refine g_aload_n C dX12_writeLantern_110 0 rfl ?_
      refine g_get C (.int (d 292 13)) 292 q_292 fk_M_252 rfl dX12_writeLantern_111 ?_
      exact g_iret C hr hlk rfl (congrArg Prod.snd (Option.some.inj h)) (congrArg (fun z => some (Value.int z.1)) (Option.some.inj h)) dX12_writeLantern_114
    · replace h := it_f q h
      refine g_aload_n C dX12_writeLantern_86 0 rfl ?_
      refine g_bipush C dX12_writeLantern_87 (v := 47) (by decide) ?_
      obtain ⟨d15, hc16, h⟩ := ob1_1 h
      refine g_callVv C 292 q_292 vk_M_258 hR rfl (m_M_writes C.2.2.2.2.2.2.1 hc16) rfl rfl rfl dX12_writeLantern_89 rfl rfl ?_
      refine g_aload_n C dX12_writeLantern_92 0 rfl ?_
      refine g_aload_n C dX12_writeLantern_93 0 rfl ?_
      refine g_iload_n C dX12_writeLantern_94 1 rfl ?_
      refine g_iconst C dX12_writeLantern_95 (v := 3) rfl ?_
      refine g_iload_n C dX12_writeLantern_96 2 rfl ?_
      refine g_iadd C dX12_writeLantern_97  ?_
      obtain ⟨r17, hc18, h⟩ := ob1_1 h
      refine g_callVi C 292 q_292 vk_M_87 hR rfl (m_M_of C.2.2.2.2.2.2.1 hc18) rfl rfl rfl dX12_writeLantern_98 rfl rfl ?_
      obtain ⟨d19, hc20, h⟩ := ob1_1 h
      refine g_callVv C 292 q_292 vk_M_255 hR rfl (m_M_writesNumber_r3 C.2.2.2.2.2.2.1 hc20) rfl rfl rfl dX12_writeLantern_101 rfl rfl ?_
      refine g_iinc C (lv' := [(2, .int (x2 + 1)), (0, .ref (w_r w 292)), (1, .int x1)]) (v := (x2 + 1)) dX12_writeLantern_104 2 rfl rfl (by decide) rfl ?_
      refine g_goto C dX12_writeLantern_107 (tgt := 76) rfl ?_
      refine g_sub [1, 2, 0] (lv' := [(0, .ref (w_r w 292)), (1, .int x1), (2, .int (x2 + 1))]) rfl ?_
      exact hl1 ((x2 + 1), d19) (Option.some.inj h).symm
  have R71 : ∀ (x1 : Int32) (v1 : Int32) (d : Dt), f_M_writeLantern_71 x1 v1 d = some (rE, dE) → gG w p l e R s m args below meth c 3 0 0 (gE w below args s dE (some (.int rE))) d [(0, .ref (w_r w 292)), (1, .int x1)] 71 [.int v1, .ref (w_r w 292)] := by
    intro x1 v1 d  h
    unfold f_M_writeLantern_71 at h
    obtain ⟨d21, hc22, h⟩ := ob1_1 h
    refine g_callVv C 292 q_292 vk_M_258 hR rfl (m_M_writes C.2.2.2.2.2.2.1 hc22) rfl rfl rfl dX12_writeLantern_71 rfl rfl ?_
    refine g_iconst C dX12_writeLantern_74 (v := 0) rfl ?_
    refine g_istore_n C (lv' := [(2, .int 0), (0, .ref (w_r w 292)), (1, .int x1)]) dX12_writeLantern_75 (by decide) rfl ?_
    refine g_sub [1, 2, 0] (lv' := [(0, .ref (w_r w 292)), (1, .int x1), (2, .int 0)]) rfl ?_
    exact R76 x1 0 d21 h
  have R22 : ∀ (x1 : Int32) (x2 : Int32) (d : Dt), f_M_writeLantern_22 x1 x2 d = some (rE, dE) → gG w p l e R s m args below meth c 3 0 0 (gE w below args s dE (some (.int rE))) d [(0, .ref (w_r w 292)), (1, .int x1), (2, .int x2)] 22 [] := by
    intro x1 x2 d  h
    refine iter_ind (G := fun s_ : (Int32 × Dt) => gG w p l e R s m args below meth c 3 0 0 (gE w below args s dE (some (.int rE))) s_.2 [(0, .ref (w_r w 292)), (1, .int x1), (2, .int s_.1)] 22 []) ?_ fu _ h
    clear h
    intro s_ y1 h hl1 hx1
    obtain ⟨x2, d⟩ := s_
    show gG w p l e R s m args below meth c 3 0 0 (gE w below args s dE (some (.int rE))) d [(0, .ref (w_r w 292)), (1, .int x1), (2, .int x2)] 22 []
    dsimp only at h
    unfold st_M_writeLantern_22 at h
    refine g_iload_n C dX12_writeLantern_22 2 rfl ?_
    refine g_aload_n C dX12_writeLantern_23 0 rfl ?_
    refine g_iload_n C dX12_writeLantern_24 1 rfl ?_
    refine g_iconst C dX12_writeLantern_25 (v := 0) rfl ?_
    obtain ⟨r23, hc24, h⟩ := ob1_1 h
    refine g_callVi C 292 q_292 vk_M_87 hR rfl (m_M_of C.2.2.2.2.2.2.1 hc24) rfl rfl rfl dX12_writeLantern_26 rfl rfl ?_
    refine g_icmp_ge C dX12_writeLantern_29 (tgt := 44) rfl (fun q => ?_) (fun q => ?_)
    · replace h := it_t q h
      replace h := ir_2 h hx1
      refine g_aload_n C dX12_writeLantern_44 0 rfl ?_
      refine g_iload_n C dX12_writeLantern_45 1 rfl ?_
      refine g_iconst C dX12_writeLantern_46 (v := 1) rfl ?_
      obtain ⟨r25, hc26, h⟩ := ob1_1 h
      refine g_callVi C 292 q_292 vk_M_87 hR rfl (m_M_of C.2.2.2.2.2.2.1 hc26) rfl rfl rfl dX12_writeLantern_47 rfl rfl ?_
      refine g_if_le C dX12_writeLantern_50 (tgt := 74) rfl (fun q => ?_) (fun q => ?_)
      · replace h := it_t q h
        refine g_iconst C dX12_writeLantern_74 (v := 0) rfl ?_
        refine g_istore_n C (lv' := [(2, .int 0), (0, .ref (w_r w 292)), (1, .int x1)]) dX12_writeLantern_75 (by decide) rfl ?_
        refine g_sub [1, 2, 0] (lv' := [(0, .ref (w_r w 292)), (1, .int x1), (2, .int 0)]) rfl ?_
        exact R76 x1 0 d h
      · replace h := it_f q h
        refine g_aload_n C dX12_writeLantern_53 0 rfl ?_
        refine g_aload_n C dX12_writeLantern_54 0 rfl ?_
        refine g_iload_n C dX12_writeLantern_55 1 rfl ?_
        refine g_iconst C dX12_writeLantern_56 (v := 1) rfl ?_
        obtain ⟨r27, hc28, h⟩ := ob1_1 h
        refine g_callVi C 292 q_292 vk_M_87 hR rfl (m_M_of C.2.2.2.2.2.2.1 hc28) rfl rfl rfl dX12_writeLantern_57 rfl rfl ?_
        refine g_iconst C dX12_writeLantern_60 (v := 1) rfl ?_
        refine g_icmp_ne C dX12_writeLantern_61 (tgt := 69) rfl (fun q => ?_) (fun q => ?_)
        · replace h := it_f q h
          refine g_bipush C dX12_writeLantern_69 (v := 105) (by decide) ?_
          refine g_sub [0, 1] (lv' := [(0, .ref (w_r w 292)), (1, .int x1)]) rfl ?_
          exact R71 x1 105 d h
        · replace h := it_t q h
          refine g_bipush C dX12_writeLantern_64 (v := 103) (by decide) ?_
          refine g_goto C dX12_writeLantern_66 (tgt := 71) rfl ?_
          refine g_sub [0, 1] (lv' := [(0, .ref (w_r w 292)), (1, .int x1)]) rfl ?_
          exact R71 x1 103 d h
    · replace h := it_f q h
      refine g_aload_n C dX12_writeLantern_32 0 rfl ?_
      refine g_bipush C dX12_writeLantern_33 (v := 42) (by decide) ?_
      obtain ⟨d29, hc30, h⟩ := ob1_1 h
      refine g_callVv C 292 q_292 vk_M_258 hR rfl (m_M_writes C.2.2.2.2.2.2.1 hc30) rfl rfl rfl dX12_writeLantern_35 rfl rfl ?_
      refine g_iinc C (lv' := [(2, .int (x2 + 1)), (0, .ref (w_r w 292)), (1, .int x1)]) (v := (x2 + 1)) dX12_writeLantern_38 2 rfl rfl (by decide) rfl ?_
      refine g_goto C dX12_writeLantern_41 (tgt := 22) rfl ?_
      refine g_sub [1, 2, 0] (lv' := [(0, .ref (w_r w 292)), (1, .int x1), (2, .int (x2 + 1))]) rfl ?_
      exact hl1 ((x2 + 1), d29) (Option.some.inj h).symm
  unfold f_M_writeLantern at h
  refine g_aload_n C dX12_writeLantern_0 0 rfl ?_
  refine g_iload_n C dX12_writeLantern_1 1 rfl ?_
  obtain ⟨r31, d32, hc33, h⟩ := ob2_1 h
  refine g_callVi C 292 q_292 vk_M_134 hR rfl (m_M_isNone C.2.2.2.2.2.2.1 hc33) rfl rfl rfl dX12_writeLantern_2 rfl rfl ?_
  refine g_if_eq C dX12_writeLantern_5 (tgt := 10) rfl (fun q => ?_) (fun q => ?_)
  · replace h := it_t q h
    refine g_aload_n C dX12_writeLantern_10 0 rfl ?_
    refine g_iconst C dX12_writeLantern_11 (v := 0) rfl ?_
    refine g_put C 292 q_292 pk_M_252 rfl rfl dX12_writeLantern_12 ?_
    refine g_aload_n C dX12_writeLantern_15 0 rfl ?_
    refine g_iload_n C dX12_writeLantern_16 1 rfl ?_
    obtain ⟨d34, hc35, h⟩ := ob1_1 h
    refine g_callVv C 292 q_292 vk_M_255 hR rfl (m_M_writesNumber_r3 C.2.2.2.2.2.2.1 hc35) rfl rfl rfl dX12_writeLantern_17 rfl rfl ?_
    refine g_iconst C dX12_writeLantern_20 (v := 0) rfl ?_
    refine g_istore_n C (lv' := [(2, .int 0), (0, .ref (w_r w 292)), (1, .int x1)]) dX12_writeLantern_21 (by decide) rfl ?_
    refine g_sub [1, 2, 0] (lv' := [(0, .ref (w_r w 292)), (1, .int x1), (2, .int 0)]) rfl ?_
    exact R22 x1 0 d34 h
  · replace h := it_f q h
    refine g_iconst C dX12_writeLantern_8 (v := 0) rfl ?_
    exact g_iret C hr hlk rfl (congrArg Prod.snd (Option.some.inj h)) (congrArg (fun z => some (Value.int z.1)) (Option.some.inj h)) dX12_writeLantern_9
set_option maxHeartbeats 4000000 in
set_option maxRecDepth 100000 in
theorem m_M_writePlan {w : wT} {l : Launch} {d : Dt} {rE : Int32} {dE : Dt} (hO : okW w) (h : f_M_writePlan  d = some (rE, dE)) : gM w l yX12_writePlan cX12_writePlan 3 (Option.some Jvm.ClassFile.FieldType.int) 5 [.ref (w_r w 292)] d dE (some (.int rE)) := by
  refine gM_of (by decide) [(0, .ref (w_r w 292))] rfl rfl ?_ hO
  intro p e R s m args below meth c C hR hr hlk
  have R17 : ∀ (x1 : Int32) (x2 : Int32) (d : Dt), f_M_writePlan_17 x1 x2 d = some (rE, dE) → gG w p l e R s m args below meth c 3 0 0 (gE w below args s dE (some (.int rE))) d [(0, .ref (w_r w 292)), (1, .int x1), (2, .int x2)] 17 [] := by
    intro x1 x2 d  h
    refine iter_ind (G := fun s_ : (Int32 × Dt) => gG w p l e R s m args below meth c 3 0 0 (gE w below args s dE (some (.int rE))) s_.2 [(0, .ref (w_r w 292)), (1, .int x1), (2, .int s_.1)] 17 []) ?_ fu _ h
    clear h
    intro s_ y1 h hl1 hx1
    obtain ⟨x2, d⟩ := s_
    show gG w p l e R s m args below meth c 3 0 0 (gE w below args s dE (some (.int rE))) d [(0, .ref (w_r w 292)), (1, .int x1), (2, .int x2)] 17 []
    dsimp only at h
    unfold st_M_writePlan_17 at h
    have R35 : ∀ (x2 : Int32) (d : Dt), f_M_writePlan_35 x1 x2  d = some y1 → gG w p l e R s m args below meth c 3 0 0 (gE w below args s dE (some (.int rE))) d [(0, .ref (w_r w 292)), (1, .int x1), (2, .int x2)] 35 [] := by
      intro x2  d  h
      unfold f_M_writePlan_35 at h
      refine g_aload_n C dX12_writePlan_35 0 rfl ?_
      refine g_aload_n C dX12_writePlan_36 0 rfl ?_
      refine g_aload_n C dX12_writePlan_37 0 rfl ?_
      refine g_iload_n C dX12_writePlan_38 1 rfl ?_
      refine g_iload_n C dX12_writePlan_39 2 rfl ?_
      obtain ⟨r7, hc8, h⟩ := ob1_1 h
      refine g_callVi C 292 q_292 vk_M_122 hR rfl (m_M_hearing C.2.2.2.2.2.2.1 hc8) rfl rfl rfl dX12_writePlan_40 rfl rfl ?_
      refine g_iconst C dX12_writePlan_43 (v := 0) rfl ?_
      obtain ⟨r9, hc10, h⟩ := ob1_1 h
      refine g_callVi C 292 q_292 vk_M_72 hR rfl (m_M_brief C.2.2.2.2.2.2.1 hc10) rfl rfl rfl dX12_writePlan_44 rfl rfl ?_
      obtain ⟨d11, hc12, h⟩ := ob1_1 h
      refine g_callVv C 292 q_292 vk_M_255 hR rfl (m_M_writesNumber_r3 C.2.2.2.2.2.2.1 hc12) rfl rfl rfl dX12_writePlan_47 rfl rfl ?_
      refine g_iinc C (lv' := [(2, .int (x2 + 1)), (0, .ref (w_r w 292)), (1, .int x1)]) (v := (x2 + 1)) dX12_writePlan_50 2 rfl rfl (by decide) rfl ?_
      refine g_goto C dX12_writePlan_53 (tgt := 17) rfl ?_
      refine g_sub [1, 2, 0] (lv' := [(0, .ref (w_r w 292)), (1, .int x1), (2, .int (x2 + 1))]) rfl ?_
      exact hl1 ((x2 + 1), d11) (Option.some.inj h).symm
    refine g_iload_n C dX12_writePlan_17 2 rfl ?_
    refine g_iload_n C dX12_writePlan_18 1 rfl ?_
    obtain ⟨r13, hc14, h⟩ := ob1_1 h
    refine g_callSi C sk_M_261 hR rfl (m_M_bits C.2.2.2.2.2.2.1 hc14) rfl rfl rfl dX12_writePlan_19 rfl rfl ?_
    refine g_icmp_ge C dX12_writePlan_22 (tgt := 56) rfl (fun q => ?_) (fun q => ?_)
    · replace h := it_t q h
      replace h := ir_2 h hx1
      refine g_aload_n C dX12_writePlan_56 0 rfl ?_
      refine g_get C (.int (d 292 13)) 292 q_292 fk_M_252 rfl dX12_writePlan_57 ?_
      exact g_iret C hr hlk rfl (congrArg Prod.snd (Option.some.inj h)) (congrArg (fun z => some (Value.int z.1)) (Option.some.inj h)) dX12_writePlan_60
    · replace h := it_f q h
      refine g_iload_n C dX12_writePlan_25 2 rfl ?_
      refine g_if_le C dX12_writePlan_26 (tgt := 35) rfl (fun q => ?_) (fun q => ?_)
      · replace h := it_t q h
        exact R35 x2 d h
      · replace h := it_f q h
        refine g_aload_n C dX12_writePlan_29 0 rfl ?_
        refine g_bipush C dX12_writePlan_30 (v := 32) (by decide) ?_
        obtain ⟨d15, hc16, h⟩ := ob1_1 h
        refine g_callVv C 292 q_292 vk_M_258 hR rfl (m_M_writes C.2.2.2.2.2.2.1 hc16) rfl rfl rfl dX12_writePlan_32 rfl rfl ?_
        exact R35 x2 d15 h
  unfold f_M_writePlan at h
  refine g_aload_n C dX12_writePlan_0 0 rfl ?_
  refine g_iconst C dX12_writePlan_1 (v := 0) rfl ?_
  refine g_put C 292 q_292 pk_M_39 rfl rfl dX12_writePlan_2 ?_
  refine g_aload_n C dX12_writePlan_5 0 rfl ?_
  obtain ⟨r17, hc18, h⟩ := ob1_1 h
  refine g_callVi C 292 q_292 vk_M_118 hR rfl (m_M_plan C.2.2.2.2.2.2.1 hc18) rfl rfl rfl dX12_writePlan_6 rfl rfl ?_
  refine g_istore_n C (lv' := [(1, .int r17), (0, .ref (w_r w 292))]) dX12_writePlan_9 (by decide) rfl ?_
  refine g_aload_n C dX12_writePlan_10 1 rfl ?_
  refine g_iconst C dX12_writePlan_11 (v := 0) rfl ?_
  refine g_put C 292 q_292 pk_M_252 rfl rfl dX12_writePlan_12 ?_
  refine g_iconst C dX12_writePlan_15 (v := 0) rfl ?_
  refine g_istore_n C (lv' := [(2, .int 0), (1, .int r17), (0, .ref (w_r w 292))]) dX12_writePlan_16 (by decide) rfl ?_
  refine g_sub [2, 1, 0] (lv' := [(0, .ref (w_r w 292)), (1, .int r17), (2, .int 0)]) rfl ?_
  exact R17 r17 0 (wr (wr d 292 7 0) 292 13 0) h
set_option maxHeartbeats 4000000 in
set_option maxRecDepth 100000 in
theorem m_L_isFull {w : wT} {l : Launch} {d : Dt} {rE : Int32} (hO : okW w) (h : f_L_isFull  d = some rE) : gM w l yX5_isFull cX5_isFull 1 (Option.some Jvm.ClassFile.FieldType.boolean) 0 [.ref (w_r w 3)] d d (some (.int rE)) := by
  refine gM_of (by decide) [(0, .ref (w_r w 3))] rfl rfl ?_ hO
  intro p e R s m args below meth c C hR hr hlk
  unfold f_L_isFull at h
  refine g_aload_n C dX5_isFull_0 0 rfl ?_
  refine g_get C (.int (d 3 0)) 3 q_3 fk_L_26 rfl dX5_isFull_1 ?_
  refine g_bipush C dX5_isFull_4 (v := 8) (by decide) ?_
  refine g_icmp_lt C dX5_isFull_6 (tgt := 13) rfl (fun q => ?_) (fun q => ?_)
  · replace h := it_t q h
    refine g_iconst C dX5_isFull_13 (v := 0) rfl ?_
    exact g_iret C hr hlk rfl rfl (congrArg (fun z => some (Value.int z)) (Option.some.inj h)) dX5_isFull_14
  · replace h := it_f q h
    refine g_iconst C dX5_isFull_9 (v := 1) rfl ?_
    refine g_goto C dX5_isFull_10 (tgt := 14) rfl ?_
    exact g_iret C hr hlk rfl rfl (congrArg (fun z => some (Value.int z)) (Option.some.inj h)) dX5_isFull_14
set_option maxHeartbeats 4000000 in
set_option maxRecDepth 100000 in
theorem m_L_copyFrom {w : wT} {l : Launch} {a : Nat} {b : Nat} {d : Dt} {dE : Dt} (hO : okW w) (ha : stB a) (hb : stB b) (h : f_L_copyFrom a b  d = some dE) : gM w l yX5_copyFrom cX5_copyFrom 3 (Option.none : Option Jvm.ClassFile.FieldType) 1 [.ref (w_r w (a + 1)), .ref (w_r w (b + 1))] d dE none := by
  refine gM_of (by decide) [(0, .ref (w_r w (a + 1))), (1, .ref (w_r w (b + 1)))] rfl rfl ?_ hO
  intro p e R s m args below meth c C hR hr hlk
  have R55 : ∀ (x2 : Int32) (d : Dt), f_L_copyFrom_55 a b x2 d = some dE → gG w p l e R s m args below meth c 3 0 0 (gE w below args s dE none) d [(0, .ref (w_r w (a + 1))), (1, .ref (w_r w (b + 1))), (2, .int x2)] 55 [] := by
    intro x2 d  h
    refine iter_ind (G := fun s_ : (Int32 × Dt) => gG w p l e R s m args below meth c 3 0 0 (gE w below args s dE none) s_.2 [(0, .ref (w_r w (a + 1))), (1, .ref (w_r w (b + 1))), (2, .int s_.1)] 55 []) ?_ fu _ h
    clear h
    intro s_ y1 h hl1 hx1
    obtain ⟨x2, d⟩ := s_
    show gG w p l e R s m args below meth c 3 0 0 (gE w below args s dE none) d [(0, .ref (w_r w (a + 1))), (1, .ref (w_r w (b + 1))), (2, .int x2)] 55 []
    dsimp only at h
    unfold st_L_copyFrom_55 at h
    refine g_iload_n C dX5_copyFrom_55 2 rfl ?_
    refine g_bipush C dX5_copyFrom_56 (v := 8) (by decide) ?_
    refine g_icmp_ge C dX5_copyFrom_58 (tgt := 86) rfl (fun q => ?_) (fun q => ?_)
    · replace h := it_t q h
      replace h := ir_2 h hx1
      exact g_vret C hr hlk (Option.some.inj h) rfl dX5_copyFrom_86
    · replace h := it_f q h
      refine g_aload_n C dX5_copyFrom_61 1 rfl ?_
      refine g_get C (.ref (w_r w (b + 5))) (b + 1) (show isC (b + 1) 5 0 from hb 1 (by decide)) fk_L_23 rfl dX5_copyFrom_62 ?_
      refine g_iload_n C dX5_copyFrom_65 2 rfl ?_
      have hg1 := gd_1 h
      replace h := gd_2 h
      refine g_aald C (b + 5) (show isC (b + 5) 24 8 from hb 5 (by decide)) hg1 dX5_copyFrom_66 ?_
      refine g_iconst C dX5_copyFrom_67 (v := 0) rfl ?_
      refine g_aload_n C dX5_copyFrom_68 0 rfl ?_
      refine g_get C (.ref (w_r w (a + 5))) (a + 1) (show isC (a + 1) 5 0 from ha 1 (by decide)) fk_L_23 rfl dX5_copyFrom_69 ?_
      refine g_iload_n C dX5_copyFrom_72 2 rfl ?_
      have hg2 := gd_1 h
      replace h := gd_2 h
      refine g_aald C (a + 5) (show isC (a + 5) 24 8 from ha 5 (by decide)) hg2 dX5_copyFrom_73 ?_
      refine g_iconst C dX5_copyFrom_74 (v := 0) rfl ?_
      refine g_bipush C dX5_copyFrom_75 (v := 8) (by decide) ?_
      refine g_copy C ((b + 5) + 1 + x2.toNatClampNeg) ((a + 5) + 1 + x2.toNatClampNeg) (isC_rowS hb hg1) (isC_rowS ha hg2) 8 (by decide) (by decide) rfl rfl ac_L_30 ac_nat ac_sta ac_ini hR rfl dX5_copyFrom_77 ?_
      refine g_iinc C (lv' := [(2, .int (x2 + 1)), (0, .ref (w_r w (a + 1))), (1, .ref (w_r w (b + 1)))]) (v := (x2 + 1)) dX5_copyFrom_80 2 rfl rfl (by decide) rfl ?_
      refine g_goto C dX5_copyFrom_83 (tgt := 55) rfl ?_
      refine g_sub [1, 2, 0] (lv' := [(0, .ref (w_r w (a + 1))), (1, .ref (w_r w (b + 1))), (2, .int (x2 + 1))]) rfl ?_
      exact hl1 ((x2 + 1), (wrf d ((a + 5) + 1 + x2.toNatClampNeg) (va_cpy (d ((b + 5) + 1 + x2.toNatClampNeg)) (d ((a + 5) + 1 + x2.toNatClampNeg)) 0 0 8))) (Option.some.inj h).symm
  unfold f_L_copyFrom at h
  refine g_aload_n C dX5_copyFrom_0 0 rfl ?_
  refine g_aload_n C dX5_copyFrom_1 1 rfl ?_
  refine g_get C (.int (d (b + 1) 0)) (b + 1) (show isC (b + 1) 5 0 from hb 1 (by decide)) fk_L_26 rfl dX5_copyFrom_2 ?_
  refine g_put C (a + 1) (show isC (a + 1) 5 0 from ha 1 (by decide)) pk_L_26 rfl rfl dX5_copyFrom_5 ?_
  refine g_aload_n C dX5_copyFrom_8 1 rfl ?_
  refine g_get C (.ref (w_r w (b + 2))) (b + 1) (show isC (b + 1) 5 0 from hb 1 (by decide)) fk_L_9 rfl dX5_copyFrom_9 ?_
  refine g_iconst C dX5_copyFrom_12 (v := 0) rfl ?_
  refine g_aload_n C dX5_copyFrom_13 0 rfl ?_
  refine g_get C (.ref (w_r w (a + 2))) (a + 1) (show isC (a + 1) 5 0 from ha 1 (by decide)) fk_L_9 rfl dX5_copyFrom_14 ?_
  refine g_iconst C dX5_copyFrom_17 (v := 0) rfl ?_
  refine g_bipush C dX5_copyFrom_18 (v := 8) (by decide) ?_
  refine g_copy C (b + 2) (a + 2) (show isC (b + 2) 20 8 from hb 2 (by decide)) (show isC (a + 2) 20 8 from ha 2 (by decide)) 8 (by decide) (by decide) rfl rfl ac_L_30 ac_nat ac_sta ac_ini hR rfl dX5_copyFrom_20 ?_
  refine g_aload_n C dX5_copyFrom_23 1 rfl ?_
  refine g_get C (.ref (w_r w (b + 3))) (b + 1) (show isC (b + 1) 5 0 from hb 1 (by decide)) fk_L_15 rfl dX5_copyFrom_24 ?_
  refine g_iconst C dX5_copyFrom_27 (v := 0) rfl ?_
  refine g_aload_n C dX5_copyFrom_28 0 rfl ?_
  refine g_get C (.ref (w_r w (a + 3))) (a + 1) (show isC (a + 1) 5 0 from ha 1 (by decide)) fk_L_15 rfl dX5_copyFrom_29 ?_
  refine g_iconst C dX5_copyFrom_32 (v := 0) rfl ?_
  refine g_bipush C dX5_copyFrom_33 (v := 8) (by decide) ?_
  refine g_copy C (b + 3) (a + 3) (show isC (b + 3) 20 8 from hb 3 (by decide)) (show isC (a + 3) 20 8 from ha 3 (by decide)) 8 (by decide) (by decide) rfl rfl ac_L_30 ac_nat ac_sta ac_ini hR rfl dX5_copyFrom_35 ?_
  refine g_aload_n C dX5_copyFrom_38 1 rfl ?_
  refine g_get C (.ref (w_r w (b + 4))) (b + 1) (show isC (b + 1) 5 0 from hb 1 (by decide)) fk_L_18 rfl dX5_copyFrom_39 ?_
  refine g_iconst C dX5_copyFrom_42 (v := 0) rfl ?_
  refine g_aload_n C dX5_copyFrom_43 0 rfl ?_
  refine g_get C (.ref (w_r w (a + 4))) (a + 1) (show isC (a + 1) 5 0 from ha 1 (by decide)) fk_L_18 rfl dX5_copyFrom_44 ?_
  refine g_iconst C dX5_copyFrom_47 (v := 0) rfl ?_
  refine g_bipush C dX5_copyFrom_48 (v := 8) (by decide) ?_
  refine g_copy C (b + 4) (a + 4) (show isC (b + 4) 20 8 from hb 4 (by decide)) (show isC (a + 4) 20 8 from ha 4 (by decide)) 8 (by decide) (by decide) rfl rfl ac_L_30 ac_nat ac_sta ac_ini hR rfl dX5_copyFrom_50 ?_
  refine g_iconst C dX5_copyFrom_53 (v := 0) rfl ?_
  refine g_istore_n C (lv' := [(2, .int 0), (0, .ref (w_r w (a + 1))), (1, .ref (w_r w (b + 1)))]) dX5_copyFrom_54 (by decide) rfl ?_
  refine g_sub [1, 2, 0] (lv' := [(0, .ref (w_r w (a + 1))), (1, .ref (w_r w (b + 1))), (2, .int 0)]) rfl ?_
  exact R55 0 (wrf (wrf (wrf (wr d (a + 1) 0 (d (b + 1) 0)) (a + 2) (va_cpy ((wr d (a + 1) 0 (d (b + 1) 0)) (b + 2)) ((wr d (a + 1) 0 (d (b + 1) 0)) (a + 2)) 0 0 8)) (a + 3) (va_cpy ((wrf (wr d (a + 1) 0 (d (b + 1) 0)) (a + 2) (va_cpy ((wr d (a + 1) 0 (d (b + 1) 0)) (b + 2)) ((wr d (a + 1) 0 (d (b + 1) 0)) (a + 2)) 0 0 8)) (b + 3)) ((wrf (wr d (a + 1) 0 (d (b + 1) 0)) (a + 2) (va_cpy ((wr d (a + 1) 0 (d (b + 1) 0)) (b + 2)) ((wr d (a + 1) 0 (d (b + 1) 0)) (a + 2)) 0 0 8)) (a + 3)) 0 0 8)) (a + 4) (va_cpy ((wrf (wrf (wr d (a + 1) 0 (d (b + 1) 0)) (a + 2) (va_cpy ((wr d (a + 1) 0 (d (b + 1) 0)) (b + 2)) ((wr d (a + 1) 0 (d (b + 1) 0)) (a + 2)) 0 0 8)) (a + 3) (va_cpy ((wrf (wr d (a + 1) 0 (d (b + 1) 0)) (a + 2) (va_cpy ((wr d (a + 1) 0 (d (b + 1) 0)) (b + 2)) ((wr d (a + 1) 0 (d (b + 1) 0)) (a + 2)) 0 0 8)) (b + 3)) ((wrf (wr d (a + 1) 0 (d (b + 1) 0)) (a + 2) (va_cpy ((wr d (a + 1) 0 (d (b + 1) 0)) (b + 2)) ((wr d (a + 1) 0 (d (b + 1) 0)) (a + 2)) 0 0 8)) (a + 3)) 0 0 8)) (b + 4)) ((wrf (wrf (wr d (a + 1) 0 (d (b + 1) 0)) (a + 2) (va_cpy ((wr d (a + 1) 0 (d (b + 1) 0)) (b + 2)) ((wr d (a + 1) 0 (d (b + 1) 0)) (a + 2)) 0 0 8)) (a + 3) (va_cpy ((wrf (wr d (a + 1) 0 (d (b + 1) 0)) (a + 2) (va_cpy ((wr d (a + 1) 0 (d (b + 1) 0)) (b + 2)) ((wr d (a + 1) 0 (d (b + 1) 0)) (a + 2)) 0 0 8)) (b + 3)) ((wrf (wr d (a + 1) 0 (d (b + 1) 0)) (a + 2) (va_cpy ((wr d (a + 1) 0 (d (b + 1) 0)) (b + 2)) ((wr d (a + 1) 0 (d (b + 1) 0)) (a + 2)) 0 0 8)) (a + 3)) 0 0 8)) (a + 4)) 0 0 8)) h
set_option maxHeartbeats 4000000 in
set_option maxRecDepth 100000 in
theorem m_B_copyFrom {w : wT} {l : Launch} {a : Nat} {b : Nat} {d : Dt} {dE : Dt} (hO : okW w) (ha : stB a) (hb : stB b) (h : f_B_copyFrom a b  d = some dE) : gM w l yX1_copyFrom cX1_copyFrom 2 (Option.none : Option Jvm.ClassFile.FieldType) 1 [.ref (w_r w (a + 14)), .ref (w_r w (b + 14))] d dE none := by
  refine gM_of (by decide) [(0, .ref (w_r w (a + 14))), (1, .ref (w_r w (b + 14)))] rfl rfl ?_ hO
  intro p e R s m args below meth c C hR hr hlk
  unfold f_B_copyFrom at h
  refine g_aload_n C dX1_copyFrom_0 0 rfl ?_
  refine g_aload_n C dX1_copyFrom_1 1 rfl ?_
  refine g_get C (.int (d (b + 14) 0)) (b + 14) (show isC (b + 14) 2 0 from hb 14 (by decide)) fk_B_27 rfl dX1_copyFrom_2 ?_
  refine g_put C (a + 14) (show isC (a + 14) 2 0 from ha 14 (by decide)) pk_B_27 rfl rfl dX1_copyFrom_5 ?_
  refine g_aload_n C dX1_copyFrom_8 0 rfl ?_
  refine g_aload_n C dX1_copyFrom_9 1 rfl ?_
  refine g_get C (.int ((wr d (a + 14) 0 (d (b + 14) 0)) (b + 14) 1)) (b + 14) (show isC (b + 14) 2 0 from hb 14 (by decide)) fk_B_31 rfl dX1_copyFrom_10 ?_
  refine g_put C (a + 14) (show isC (a + 14) 2 0 from ha 14 (by decide)) pk_B_31 rfl rfl dX1_copyFrom_13 ?_
  refine g_aload_n C dX1_copyFrom_16 1 rfl ?_
  refine g_get C (.ref (w_r w (b + 15))) (b + 14) (show isC (b + 14) 2 0 from hb 14 (by decide)) fk_B_9 rfl dX1_copyFrom_17 ?_
  refine g_iconst C dX1_copyFrom_20 (v := 0) rfl ?_
  refine g_aload_n C dX1_copyFrom_21 0 rfl ?_
  refine g_get C (.ref (w_r w (a + 15))) (a + 14) (show isC (a + 14) 2 0 from ha 14 (by decide)) fk_B_9 rfl dX1_copyFrom_22 ?_
  refine g_iconst C dX1_copyFrom_25 (v := 0) rfl ?_
  refine g_bipush C dX1_copyFrom_26 (v := 10) (by decide) ?_
  refine g_copy C (b + 15) (a + 15) (show isC (b + 15) 20 10 from hb 15 (by decide)) (show isC (a + 15) 20 10 from ha 15 (by decide)) 10 (by decide) (by decide) rfl rfl ac_B_34 ac_nat ac_sta ac_ini hR rfl dX1_copyFrom_28 ?_
  refine g_aload_n C dX1_copyFrom_31 1 rfl ?_
  refine g_get C (.ref (w_r w (b + 16))) (b + 14) (show isC (b + 14) 2 0 from hb 14 (by decide)) fk_B_15 rfl dX1_copyFrom_32 ?_
  refine g_iconst C dX1_copyFrom_35 (v := 0) rfl ?_
  refine g_aload_n C dX1_copyFrom_36 0 rfl ?_
  refine g_get C (.ref (w_r w (a + 16))) (a + 14) (show isC (a + 14) 2 0 from ha 14 (by decide)) fk_B_15 rfl dX1_copyFrom_37 ?_
  refine g_iconst C dX1_copyFrom_40 (v := 0) rfl ?_
  refine g_bipush C dX1_copyFrom_41 (v := 10) (by decide) ?_
  refine g_copy C (b + 16) (a + 16) (show isC (b + 16) 20 10 from hb 16 (by decide)) (show isC (a + 16) 20 10 from ha 16 (by decide)) 10 (by decide) (by decide) rfl rfl ac_B_34 ac_nat ac_sta ac_ini hR rfl dX1_copyFrom_43 ?_
  refine g_aload_n C dX1_copyFrom_46 1 rfl ?_
  refine g_get C (.ref (w_r w (b + 17))) (b + 14) (show isC (b + 14) 2 0 from hb 14 (by decide)) fk_B_18 rfl dX1_copyFrom_47 ?_
  refine g_iconst C dX1_copyFrom_50 (v := 0) rfl ?_
  refine g_aload_n C dX1_copyFrom_51 0 rfl ?_
  refine g_get C (.ref (w_r w (a + 17))) (a + 14) (show isC (a + 14) 2 0 from ha 14 (by decide)) fk_B_18 rfl dX1_copyFrom_52 ?_
  refine g_iconst C dX1_copyFrom_55 (v := 0) rfl ?_
  refine g_bipush C dX1_copyFrom_56 (v := 10) (by decide) ?_
  refine g_copy C (b + 17) (a + 17) (show isC (b + 17) 20 10 from hb 17 (by decide)) (show isC (a + 17) 20 10 from ha 17 (by decide)) 10 (by decide) (by decide) rfl rfl ac_B_34 ac_nat ac_sta ac_ini hR rfl dX1_copyFrom_58 ?_
  refine g_aload_n C dX1_copyFrom_61 1 rfl ?_
  refine g_get C (.ref (w_r w (b + 18))) (b + 14) (show isC (b + 14) 2 0 from hb 14 (by decide)) fk_B_21 rfl dX1_copyFrom_62 ?_
  refine g_iconst C dX1_copyFrom_65 (v := 0) rfl ?_
  refine g_aload_n C dX1_copyFrom_66 0 rfl ?_
  refine g_get C (.ref (w_r w (a + 18))) (a + 14) (show isC (a + 14) 2 0 from ha 14 (by decide)) fk_B_21 rfl dX1_copyFrom_67 ?_
  refine g_iconst C dX1_copyFrom_70 (v := 0) rfl ?_
  refine g_bipush C dX1_copyFrom_71 (v := 10) (by decide) ?_
  refine g_copy C (b + 18) (a + 18) (show isC (b + 18) 20 10 from hb 18 (by decide)) (show isC (a + 18) 20 10 from ha 18 (by decide)) 10 (by decide) (by decide) rfl rfl ac_B_34 ac_nat ac_sta ac_ini hR rfl dX1_copyFrom_73 ?_
  refine g_aload_n C dX1_copyFrom_76 1 rfl ?_
  refine g_get C (.ref (w_r w (b + 19))) (b + 14) (show isC (b + 14) 2 0 from hb 14 (by decide)) fk_B_24 rfl dX1_copyFrom_77 ?_
  refine g_iconst C dX1_copyFrom_80 (v := 0) rfl ?_
  refine g_aload_n C dX1_copyFrom_81 0 rfl ?_
  refine g_get C (.ref (w_r w (a + 19))) (a + 14) (show isC (a + 14) 2 0 from ha 14 (by decide)) fk_B_24 rfl dX1_copyFrom_82 ?_
  refine g_iconst C dX1_copyFrom_85 (v := 0) rfl ?_
  refine g_bipush C dX1_copyFrom_86 (v := 10) (by decide) ?_
  refine g_copy C (b + 19) (a + 19) (show isC (b + 19) 20 10 from hb 19 (by decide)) (show isC (a + 19) 20 10 from ha 19 (by decide)) 10 (by decide) (by decide) rfl rfl ac_B_34 ac_nat ac_sta ac_ini hR rfl dX1_copyFrom_88 ?_
  exact g_vret C hr hlk (Option.some.inj h) rfl dX1_copyFrom_91
set_option maxHeartbeats 4000000 in
set_option maxRecDepth 100000 in
theorem m_T_copyFrom {w : wT} {l : Launch} {a : Nat} {b : Nat} {d : Dt} {dE : Dt} (hO : okW w) (ha : stB a) (hb : stB b) (h : f_T_copyFrom a b  d = some dE) : gM w l yX9_copyFrom cX9_copyFrom 3 (Option.none : Option Jvm.ClassFile.FieldType) 1 [.ref (w_r w (a + 20)), .ref (w_r w (b + 20))] d dE none := by
  refine gM_of (by decide) [(0, .ref (w_r w (a + 20))), (1, .ref (w_r w (b + 20)))] rfl rfl ?_ hO
  intro p e R s m args below meth c C hR hr hlk
  have R40 : ∀ (x2 : Int32) (d : Dt), f_T_copyFrom_40 a b x2 d = some dE → gG w p l e R s m args below meth c 3 0 0 (gE w below args s dE none) d [(0, .ref (w_r w (a + 20))), (1, .ref (w_r w (b + 20))), (2, .int x2)] 40 [] := by
    intro x2 d  h
    refine iter_ind (G := fun s_ : (Int32 × Dt) => gG w p l e R s m args below meth c 3 0 0 (gE w below args s dE none) s_.2 [(0, .ref (w_r w (a + 20))), (1, .ref (w_r w (b + 20))), (2, .int s_.1)] 40 []) ?_ fu _ h
    clear h
    intro s_ y1 h hl1 hx1
    obtain ⟨x2, d⟩ := s_
    show gG w p l e R s m args below meth c 3 0 0 (gE w below args s dE none) d [(0, .ref (w_r w (a + 20))), (1, .ref (w_r w (b + 20))), (2, .int x2)] 40 []
    dsimp only at h
    unfold st_T_copyFrom_40 at h
    refine g_iload_n C dX9_copyFrom_40 2 rfl ?_
    refine g_bipush C dX9_copyFrom_41 (v := 12) (by decide) ?_
    refine g_icmp_ge C dX9_copyFrom_43 (tgt := 64) rfl (fun q => ?_) (fun q => ?_)
    · replace h := it_t q h
      replace h := ir_2 h hx1
      exact g_vret C hr hlk (Option.some.inj h) rfl dX9_copyFrom_64
    · replace h := it_f q h
      refine g_aload_n C dX9_copyFrom_46 0 rfl ?_
      refine g_get C (.ref (w_r w (a + 23))) (a + 20) (show isC (a + 20) 9 0 from ha 20 (by decide)) fk_T_18 rfl dX9_copyFrom_47 ?_
      refine g_iload_n C dX9_copyFrom_50 2 rfl ?_
      refine g_aload_n C dX9_copyFrom_51 1 rfl ?_
      refine g_get C (.ref (w_r w (b + 23))) (b + 20) (show isC (b + 20) 9 0 from hb 20 (by decide)) fk_T_18 rfl dX9_copyFrom_52 ?_
      refine g_iload_n C dX9_copyFrom_55 2 rfl ?_
      have hg1 := gd_1 h
      replace h := gd_2 h
      refine g_zald C (b + 23) (show isC (b + 23) 22 12 from hb 23 (by decide)) hg1 _ rfl dX9_copyFrom_56 ?_
      have hg2 := gd_1 h
      replace h := gd_2 h
      have hg3 := gd_1 h
      replace h := gd_2 h
      refine g_zast C (a + 23) (show isC (a + 23) 22 12 from ha 23 (by decide)) hg2 _ rfl (nar_v hg3) dX9_copyFrom_57 ?_
      refine g_iinc C (lv' := [(2, .int (x2 + 1)), (0, .ref (w_r w (a + 20))), (1, .ref (w_r w (b + 20)))]) (v := (x2 + 1)) dX9_copyFrom_58 2 rfl rfl (by decide) rfl ?_
      refine g_goto C dX9_copyFrom_61 (tgt := 40) rfl ?_
      refine g_sub [1, 2, 0] (lv' := [(0, .ref (w_r w (a + 20))), (1, .ref (w_r w (b + 20))), (2, .int (x2 + 1))]) rfl ?_
      exact hl1 ((x2 + 1), (wr d (a + 23) x2.toNatClampNeg (d (b + 23) x2.toNatClampNeg))) (Option.some.inj h).symm
  unfold f_T_copyFrom at h
  refine g_aload_n C dX9_copyFrom_0 0 rfl ?_
  refine g_aload_n C dX9_copyFrom_1 1 rfl ?_
  refine g_get C (.int (d (b + 20) 0)) (b + 20) (show isC (b + 20) 9 0 from hb 20 (by decide)) fk_T_22 rfl dX9_copyFrom_2 ?_
  refine g_put C (a + 20) (show isC (a + 20) 9 0 from ha 20 (by decide)) pk_T_22 rfl rfl dX9_copyFrom_5 ?_
  refine g_aload_n C dX9_copyFrom_8 1 rfl ?_
  refine g_get C (.ref (w_r w (b + 21))) (b + 20) (show isC (b + 20) 9 0 from hb 20 (by decide)) fk_T_9 rfl dX9_copyFrom_9 ?_
  refine g_iconst C dX9_copyFrom_12 (v := 0) rfl ?_
  refine g_aload_n C dX9_copyFrom_13 0 rfl ?_
  refine g_get C (.ref (w_r w (a + 21))) (a + 20) (show isC (a + 20) 9 0 from ha 20 (by decide)) fk_T_9 rfl dX9_copyFrom_14 ?_
  refine g_iconst C dX9_copyFrom_17 (v := 0) rfl ?_
  refine g_bipush C dX9_copyFrom_18 (v := 12) (by decide) ?_
  refine g_copy C (b + 21) (a + 21) (show isC (b + 21) 20 12 from hb 21 (by decide)) (show isC (a + 21) 20 12 from ha 21 (by decide)) 12 (by decide) (by decide) rfl rfl ac_T_26 ac_nat ac_sta ac_ini hR rfl dX9_copyFrom_20 ?_
  refine g_aload_n C dX9_copyFrom_23 1 rfl ?_
  refine g_get C (.ref (w_r w (b + 22))) (b + 20) (show isC (b + 20) 9 0 from hb 20 (by decide)) fk_T_15 rfl dX9_copyFrom_24 ?_
  refine g_iconst C dX9_copyFrom_27 (v := 0) rfl ?_
  refine g_aload_n C dX9_copyFrom_28 0 rfl ?_
  refine g_get C (.ref (w_r w (a + 22))) (a + 20) (show isC (a + 20) 9 0 from ha 20 (by decide)) fk_T_15 rfl dX9_copyFrom_29 ?_
  refine g_iconst C dX9_copyFrom_32 (v := 0) rfl ?_
  refine g_bipush C dX9_copyFrom_33 (v := 12) (by decide) ?_
  refine g_copy C (b + 22) (a + 22) (show isC (b + 22) 20 12 from hb 22 (by decide)) (show isC (a + 22) 20 12 from ha 22 (by decide)) 12 (by decide) (by decide) rfl rfl ac_T_26 ac_nat ac_sta ac_ini hR rfl dX9_copyFrom_35 ?_
  refine g_iconst C dX9_copyFrom_38 (v := 0) rfl ?_
  refine g_istore_n C (lv' := [(2, .int 0), (0, .ref (w_r w (a + 20))), (1, .ref (w_r w (b + 20)))]) dX9_copyFrom_39 (by decide) rfl ?_
  refine g_sub [1, 2, 0] (lv' := [(0, .ref (w_r w (a + 20))), (1, .ref (w_r w (b + 20))), (2, .int 0)]) rfl ?_
  exact R40 0 (wrf (wrf (wr d (a + 20) 0 (d (b + 20) 0)) (a + 21) (va_cpy ((wr d (a + 20) 0 (d (b + 20) 0)) (b + 21)) ((wr d (a + 20) 0 (d (b + 20) 0)) (a + 21)) 0 0 12)) (a + 22) (va_cpy ((wrf (wr d (a + 20) 0 (d (b + 20) 0)) (a + 21) (va_cpy ((wr d (a + 20) 0 (d (b + 20) 0)) (b + 21)) ((wr d (a + 20) 0 (d (b + 20) 0)) (a + 21)) 0 0 12)) (b + 22)) ((wrf (wr d (a + 20) 0 (d (b + 20) 0)) (a + 21) (va_cpy ((wr d (a + 20) 0 (d (b + 20) 0)) (b + 21)) ((wr d (a + 20) 0 (d (b + 20) 0)) (a + 21)) 0 0 12)) (a + 22)) 0 0 12)) h
set_option maxHeartbeats 4000000 in
set_option maxRecDepth 100000 in
theorem m_S_copyFrom {w : wT} {l : Launch} {a : Nat} {b : Nat} {d : Dt} {dE : Dt} (hO : okW w) (ha : stB a) (hb : stB b) (h : f_S_copyFrom a b  d = some dE) : gM w l yX8_copyFrom cX8_copyFrom 2 (Option.none : Option Jvm.ClassFile.FieldType) 2 [.ref (w_r w a), .ref (w_r w b)] d dE none := by
  refine gM_of (by decide) [(0, .ref (w_r w a)), (1, .ref (w_r w b))] rfl rfl ?_ hO
  intro p e R s m args below meth c C hR hr hlk
  unfold f_S_copyFrom at h
  refine g_aload_n C dX8_copyFrom_0 0 rfl ?_
  refine g_aload_n C dX8_copyFrom_1 1 rfl ?_
  refine g_get C (.int (d b 0)) b (show isC b 8 0 from hb 0 (by decide)) fk_S_36 rfl dX8_copyFrom_2 ?_
  refine g_put C a (show isC a 8 0 from ha 0 (by decide)) pk_S_36 rfl rfl dX8_copyFrom_5 ?_
  refine g_aload_n C dX8_copyFrom_8 0 rfl ?_
  refine g_get C (.ref (w_r w (a + 1))) a (show isC a 8 0 from ha 0 (by decide)) fk_S_12 rfl dX8_copyFrom_9 ?_
  refine g_aload_n C dX8_copyFrom_12 1 rfl ?_
  refine g_get C (.ref (w_r w (b + 1))) b (show isC b 8 0 from hb 0 (by decide)) fk_S_12 rfl dX8_copyFrom_13 ?_
  obtain ⟨d4, hc5, h⟩ := ob1_1 h
  refine g_callVv C (a + 1) (show isC (a + 1) 5 0 from ha 1 (by decide)) vk_S_40 hR rfl (m_L_copyFrom C.2.2.2.2.2.2.1 ha hb hc5) rfl rfl rfl dX8_copyFrom_16 rfl rfl ?_
  refine g_aload_n C dX8_copyFrom_19 0 rfl ?_
  refine g_get C (.ref (w_r w (a + 14))) a (show isC a 8 0 from ha 0 (by decide)) fk_S_21 rfl dX8_copyFrom_20 ?_
  refine g_aload_n C dX8_copyFrom_23 1 rfl ?_
  refine g_get C (.ref (w_r w (b + 14))) b (show isC b 8 0 from hb 0 (by decide)) fk_S_21 rfl dX8_copyFrom_24 ?_
  obtain ⟨d6, hc7, h⟩ := ob1_1 h
  refine g_callVv C (a + 14) (show isC (a + 14) 2 0 from ha 14 (by decide)) vk_S_44 hR rfl (m_B_copyFrom C.2.2.2.2.2.2.1 ha hb hc7) rfl rfl rfl dX8_copyFrom_27 rfl rfl ?_
  refine g_aload_n C dX8_copyFrom_30 0 rfl ?_
  refine g_get C (.ref (w_r w (a + 20))) a (show isC a 8 0 from ha 0 (by decide)) fk_S_28 rfl dX8_copyFrom_31 ?_
  refine g_aload_n C dX8_copyFrom_34 1 rfl ?_
  refine g_get C (.ref (w_r w (b + 20))) b (show isC b 8 0 from hb 0 (by decide)) fk_S_28 rfl dX8_copyFrom_35 ?_
  obtain ⟨d8, hc9, h⟩ := ob1_1 h
  refine g_callVv C (a + 20) (show isC (a + 20) 9 0 from ha 20 (by decide)) vk_S_47 hR rfl (m_T_copyFrom C.2.2.2.2.2.2.1 ha hb hc9) rfl rfl rfl dX8_copyFrom_38 rfl rfl ?_
  refine g_aload_n C dX8_copyFrom_41 0 rfl ?_
  refine g_aload_n C dX8_copyFrom_42 1 rfl ?_
  refine g_get C (.int (d8 b 4)) b (show isC b 8 0 from hb 0 (by decide)) fk_S_50 rfl dX8_copyFrom_43 ?_
  refine g_put C a (show isC a 8 0 from ha 0 (by decide)) pk_S_50 rfl rfl dX8_copyFrom_46 ?_
  refine g_aload_n C dX8_copyFrom_49 0 rfl ?_
  refine g_aload_n C dX8_copyFrom_50 1 rfl ?_
  refine g_get C (.int ((wr d8 a 4 (d8 b 4)) b 5)) b (show isC b 8 0 from hb 0 (by decide)) fk_S_53 rfl dX8_copyFrom_51 ?_
  refine g_put C a (show isC a 8 0 from ha 0 (by decide)) pk_S_53 rfl rfl dX8_copyFrom_54 ?_
  refine g_aload_n C dX8_copyFrom_57 1 rfl ?_
  refine g_get C (.ref (w_r w (b + 24))) b (show isC b 8 0 from hb 0 (by decide)) fk_S_32 rfl dX8_copyFrom_58 ?_
  refine g_iconst C dX8_copyFrom_61 (v := 0) rfl ?_
  refine g_aload_n C dX8_copyFrom_62 0 rfl ?_
  refine g_get C (.ref (w_r w (a + 24))) a (show isC a 8 0 from ha 0 (by decide)) fk_S_32 rfl dX8_copyFrom_63 ?_
  refine g_iconst C dX8_copyFrom_66 (v := 0) rfl ?_
  refine g_aload_n C dX8_copyFrom_67 0 rfl ?_
  refine g_get C (.ref (w_r w (a + 24))) a (show isC a 8 0 from ha 0 (by decide)) fk_S_32 rfl dX8_copyFrom_68 ?_
  refine g_alen C 4 (a + 24) (show isC (a + 24) 20 4 from ha 24 (by decide)) rfl 0 rfl (by decide) dX8_copyFrom_71 ?_
  refine g_copy C (b + 24) (a + 24) (show isC (b + 24) 20 4 from hb 24 (by decide)) (show isC (a + 24) 20 4 from ha 24 (by decide)) 4 (by decide) (by decide) rfl rfl ac_S_56 ac_nat ac_sta ac_ini hR rfl dX8_copyFrom_72 ?_
  refine g_aload_n C dX8_copyFrom_75 0 rfl ?_
  refine g_aload_n C dX8_copyFrom_76 1 rfl ?_
  refine g_get C (.int ((wrf (wr (wr d8 a 4 (d8 b 4)) a 5 ((wr d8 a 4 (d8 b 4)) b 5)) (a + 24) (va_cpy ((wr (wr d8 a 4 (d8 b 4)) a 5 ((wr d8 a 4 (d8 b 4)) b 5)) (b + 24)) ((wr (wr d8 a 4 (d8 b 4)) a 5 ((wr d8 a 4 (d8 b 4)) b 5)) (a + 24)) 0 0 4)) b 7)) b (show isC b 8 0 from hb 0 (by decide)) fk_S_62 rfl dX8_copyFrom_77 ?_
  refine g_put C a (show isC a 8 0 from ha 0 (by decide)) pk_S_62 rfl rfl dX8_copyFrom_80 ?_
  refine g_aload_n C dX8_copyFrom_83 0 rfl ?_
  refine g_aload_n C dX8_copyFrom_84 1 rfl ?_
  refine g_get C (.int ((wr (wrf (wr (wr d8 a 4 (d8 b 4)) a 5 ((wr d8 a 4 (d8 b 4)) b 5)) (a + 24) (va_cpy ((wr (wr d8 a 4 (d8 b 4)) a 5 ((wr d8 a 4 (d8 b 4)) b 5)) (b + 24)) ((wr (wr d8 a 4 (d8 b 4)) a 5 ((wr d8 a 4 (d8 b 4)) b 5)) (a + 24)) 0 0 4)) a 7 ((wrf (wr (wr d8 a 4 (d8 b 4)) a 5 ((wr d8 a 4 (d8 b 4)) b 5)) (a + 24) (va_cpy ((wr (wr d8 a 4 (d8 b 4)) a 5 ((wr d8 a 4 (d8 b 4)) b 5)) (b + 24)) ((wr (wr d8 a 4 (d8 b 4)) a 5 ((wr d8 a 4 (d8 b 4)) b 5)) (a + 24)) 0 0 4)) b 7)) b 8)) b (show isC b 8 0 from hb 0 (by decide)) fk_S_65 rfl dX8_copyFrom_85 ?_
  refine g_put C a (show isC a 8 0 from ha 0 (by decide)) pk_S_65 rfl rfl dX8_copyFrom_88 ?_
  exact g_vret C hr hlk (Option.some.inj h) rfl dX8_copyFrom_91
set_option maxHeartbeats 4000000 in
set_option maxRecDepth 100000 in
theorem m_C_remember {w : wT} {l : Launch} {d : Dt} {dE : Dt} (hO : okW w) (h : f_C_remember  d = some dE) : gM w l yX11_remember cX11_remember 2 (Option.none : Option Jvm.ClassFile.FieldType) 3 [.ref (w_r w 0), .ref (w_r w 2)] d dE none := by
  refine gM_of (by decide) [(0, .ref (w_r w 0)), (1, .ref (w_r w 2))] rfl rfl ?_ hO
  intro p e R s m args below meth c C hR hr hlk
  have R33 : ∀ (v1 : Int32) (d : Dt), f_C_remember_33  v1 d = some dE → gG w p l e R s m args below meth c 2 0 0 (gE w below args s dE none) d [(0, .ref (w_r w 0))] 33 [.int v1, .ref (w_r w 0)] := by
    intro  v1 d  h
    unfold f_C_remember_33 at h
    refine g_put C 0 q_0 pk_C_419 rfl rfl dX11_remember_33 ?_
    refine g_aload_n C dX11_remember_36 0 rfl ?_
    refine g_aload_n C dX11_remember_37 0 rfl ?_
    refine g_get C (.int ((wr d 0 9 v1) 0 10)) 0 q_0 fk_C_414 rfl dX11_remember_38 ?_
    refine g_iconst C dX11_remember_41 (v := 1) rfl ?_
    refine g_iadd C dX11_remember_42  ?_
    refine g_bipush C dX11_remember_43 (v := 8) (by decide) ?_
    refine g_mmin C mm_C_443 mm_sta_min mm_ini mm_cod_min hR rfl rfl dX11_remember_45 rfl rfl ?_
    refine g_put C 0 q_0 pk_C_414 rfl rfl dX11_remember_48 ?_
    exact g_vret C hr hlk (Option.some.inj h) rfl dX11_remember_51
  unfold f_C_remember at h
  refine g_aload_n C dX11_remember_0 0 rfl ?_
  refine g_get C (.ref (w_r w 1)) 0 q_0 fk_C_22 rfl dX11_remember_1 ?_
  refine g_aload_n C dX11_remember_4 0 rfl ?_
  refine g_get C (.int (d 0 9)) 0 q_0 fk_C_419 rfl dX11_remember_5 ?_
  have hg2 := gd_1 h
  replace h := gd_2 h
  refine g_aald3 C 1 q_1 hg2 dX11_remember_8 ?_
  refine g_aload_n C dX11_remember_9 1 rfl ?_
  obtain ⟨d3, hc4, h⟩ := ob1_1 h
  refine g_callVv C (77 + 25 * (d 0 9).toNatClampNeg) (show isC (77 + 25 * (d 0 9).toNatClampNeg) 8 0 from stB_h hg2 0 (by decide)) vk_C_377 hR rfl (m_S_copyFrom C.2.2.2.2.2.2.1 (stB_h hg2) stB_2 hc4) rfl rfl rfl dX11_remember_10 rfl rfl ?_
  refine g_aload_n C dX11_remember_13 0 rfl ?_
  refine g_aload_n C dX11_remember_14 0 rfl ?_
  refine g_get C (.int (d3 0 9)) 0 q_0 fk_C_419 rfl dX11_remember_15 ?_
  refine g_bipush C dX11_remember_18 (v := 7) (by decide) ?_
  refine g_icmp_ne C dX11_remember_20 (tgt := 27) rfl (fun q => ?_) (fun q => ?_)
  · replace h := it_f q h
    refine g_aload_n C dX11_remember_27 0 rfl ?_
    refine g_get C (.int (d3 0 9)) 0 q_0 fk_C_419 rfl dX11_remember_28 ?_
    refine g_iconst C dX11_remember_31 (v := 1) rfl ?_
    refine g_iadd C dX11_remember_32  ?_
    refine g_sub [0] (lv' := [(0, .ref (w_r w 0))]) rfl ?_
    exact R33 ((d3 0 9) + 1) d3 h
  · replace h := it_t q h
    refine g_iconst C dX11_remember_23 (v := 0) rfl ?_
    refine g_goto C dX11_remember_24 (tgt := 33) rfl ?_
    refine g_sub [0] (lv' := [(0, .ref (w_r w 0))]) rfl ?_
    exact R33 0 d3 h
set_option maxHeartbeats 4000000 in
set_option maxRecDepth 100000 in
theorem m_L_add {w : wT} {l : Launch} {d : Dt} {rE : Int32} {dE : Dt} (hO : okW w) (h : f_L_add  d = some (rE, dE)) : gM w l yX5_add cX5_add 1 (Option.some Jvm.ClassFile.FieldType.int) 0 [.ref (w_r w 3)] d dE (some (.int rE)) := by
  refine gM_of (by decide) [(0, .ref (w_r w 3))] rfl rfl ?_ hO
  intro p e R s m args below meth c C hR hr hlk
  unfold f_L_add at h
  refine g_aload_n C dX5_add_0 0 rfl ?_
  refine g_get C (.ref (w_r w 4)) 3 q_3 fk_L_9 rfl dX5_add_1 ?_
  refine g_aload_n C dX5_add_4 0 rfl ?_
  refine g_get C (.int (d 3 0)) 3 q_3 fk_L_26 rfl dX5_add_5 ?_
  refine g_bipush C dX5_add_8 (v := 9) (by decide) ?_
  have hg1 := gd_1 h
  replace h := gd_2 h
  refine g_iast C 4 q_4 hg1 _ rfl  dX5_add_10 ?_
  refine g_aload_n C dX5_add_11 0 rfl ?_
  refine g_get C (.ref (w_r w 5)) 3 q_3 fk_L_15 rfl dX5_add_12 ?_
  refine g_aload_n C dX5_add_15 0 rfl ?_
  refine g_get C (.int ((wr d 4 (d 3 0).toNatClampNeg 9) 3 0)) 3 q_3 fk_L_26 rfl dX5_add_16 ?_
  refine g_iconst C dX5_add_19 (v := 0) rfl ?_
  have hg2 := gd_1 h
  replace h := gd_2 h
  refine g_iast C 5 q_5 hg2 _ rfl  dX5_add_20 ?_
  refine g_aload_n C dX5_add_21 0 rfl ?_
  refine g_get C (.ref (w_r w 6)) 3 q_3 fk_L_18 rfl dX5_add_22 ?_
  refine g_aload_n C dX5_add_25 0 rfl ?_
  refine g_get C (.int ((wr (wr d 4 (d 3 0).toNatClampNeg 9) 5 ((wr d 4 (d 3 0).toNatClampNeg 9) 3 0).toNatClampNeg 0) 3 0)) 3 q_3 fk_L_26 rfl dX5_add_26 ?_
  refine g_iconst C dX5_add_29 (v := 0) rfl ?_
  have hg3 := gd_1 h
  replace h := gd_2 h
  refine g_iast C 6 q_6 hg3 _ rfl  dX5_add_30 ?_
  refine g_aload_n C dX5_add_31 0 rfl ?_
  refine g_dup C dX5_add_32 rfl ?_
  refine g_get C (.int ((wr (wr (wr d 4 (d 3 0).toNatClampNeg 9) 5 ((wr d 4 (d 3 0).toNatClampNeg 9) 3 0).toNatClampNeg 0) 6 ((wr (wr d 4 (d 3 0).toNatClampNeg 9) 5 ((wr d 4 (d 3 0).toNatClampNeg 9) 3 0).toNatClampNeg 0) 3 0).toNatClampNeg 0) 3 0)) 3 q_3 fk_L_26 rfl dX5_add_33 ?_
  refine g_iconst C dX5_add_36 (v := 1) rfl ?_
  refine g_iadd C dX5_add_37  ?_
  refine g_put C 3 q_3 pk_L_26 rfl rfl dX5_add_38 ?_
  refine g_aload_n C dX5_add_41 0 rfl ?_
  refine g_get C (.int ((wr (wr (wr (wr d 4 (d 3 0).toNatClampNeg 9) 5 ((wr d 4 (d 3 0).toNatClampNeg 9) 3 0).toNatClampNeg 0) 6 ((wr (wr d 4 (d 3 0).toNatClampNeg 9) 5 ((wr d 4 (d 3 0).toNatClampNeg 9) 3 0).toNatClampNeg 0) 3 0).toNatClampNeg 0) 3 0 (((wr (wr (wr d 4 (d 3 0).toNatClampNeg 9) 5 ((wr d 4 (d 3 0).toNatClampNeg 9) 3 0).toNatClampNeg 0) 6 ((wr (wr d 4 (d 3 0).toNatClampNeg 9) 5 ((wr d 4 (d 3 0).toNatClampNeg 9) 3 0).toNatClampNeg 0) 3 0).toNatClampNeg 0) 3 0) + 1)) 3 0)) 3 q_3 fk_L_26 rfl dX5_add_42 ?_
  refine g_iconst C dX5_add_45 (v := 1) rfl ?_
  refine g_isub C dX5_add_46  ?_
  exact g_iret C hr hlk rfl (congrArg Prod.snd (Option.some.inj h)) (congrArg (fun z => some (Value.int z.1)) (Option.some.inj h)) dX5_add_47
set_option maxHeartbeats 4000000 in
set_option maxRecDepth 100000 in
theorem m_C_addLantern {w : wT} {l : Launch} {d : Dt} {zE : ((Int32 × Dt) ⊕ (Nat × Dt))} (hO : okW w) (hl9 : l.stackTraces = false) (h : f_C_addLantern  d = some zE) : gMX w l yX11_addLantern cX11_addLantern 1 (Option.some Jvm.ClassFile.FieldType.int) 6 1 6 [.ref (w_r w 0)] d (oW zE) := by
  refine gMX_of (by decide) [(0, .ref (w_r w 0))] rfl rfl ?_ hO
  intro p e R s m args below meth c C hR hr hlk hx
  unfold f_C_addLantern at h
  refine g_aload_n C dX11_addLantern_0 0 rfl ?_
  refine g_get C (.ref (w_r w 2)) 0 q_0 fk_C_10 rfl dX11_addLantern_1 ?_
  refine g_get C (.ref (w_r w 3)) 2 q_2 fk_C_68 rfl dX11_addLantern_4 ?_
  obtain ⟨r5, hc6, h⟩ := ob1_1 h
  refine g_callVi C 3 q_3 vk_C_72 hR rfl (m_L_isFull C.2.2.2.2.2.2.1 hc6) rfl rfl rfl dX11_addLantern_7 rfl rfl ?_
  refine g_if_eq C dX11_addLantern_10 (tgt := 23) rfl (fun q => ?_) (fun q => ?_)
  · replace h := it_t q h
    refine g_aload_n C dX11_addLantern_23 0 rfl ?_
    refine g_aload_n C dX11_addLantern_24 0 rfl ?_
    refine g_get C (.ref (w_r w 2)) 0 q_0 fk_C_10 rfl dX11_addLantern_25 ?_
    obtain ⟨d7, hc8, h⟩ := ob1_1 h
    refine g_callVv C 0 q_0 vk_C_85 hR rfl (m_C_remember C.2.2.2.2.2.2.1 hc8) rfl rfl rfl dX11_addLantern_28 rfl rfl ?_
    refine g_aload_n C dX11_addLantern_31 0 rfl ?_
    refine g_get C (.ref (w_r w 2)) 0 q_0 fk_C_10 rfl dX11_addLantern_32 ?_
    refine g_get C (.ref (w_r w 3)) 2 q_2 fk_C_68 rfl dX11_addLantern_35 ?_
    obtain ⟨r9, d10, hc11, h⟩ := ob2_1 h
    refine g_callVi C 3 q_3 vk_C_89 hR rfl (m_L_add C.2.2.2.2.2.2.1 hc11) rfl rfl rfl dX11_addLantern_38 rfl rfl ?_
    exact g_iretX C hr hlk rfl rfl rfl (oW_i h) dX11_addLantern_41
  · replace h := it_f q h
    exact g_throwS C hl9 th_C_78_82 (i := 0) (by decide) (by decide +kernel) (by decide +kernel) hx hlk hR rfl dX11_addLantern_13 dX11_addLantern_16 dX11_addLantern_17 dX11_addLantern_19 dX11_addLantern_22 rfl rfl rfl rfl rfl (oW_t h)
set_option maxHeartbeats 4000000 in
set_option maxRecDepth 100000 in
theorem m_L_setAdmission {w : wT} {l : Launch} {x1 x2 : Int32} {d : Dt} {rE : Int32} {dE : Dt} (hO : okW w) (h : f_L_setAdmission x1 x2 d = some (rE, dE)) : gM w l yX5_setAdmission cX5_setAdmission 4 (Option.some Jvm.ClassFile.FieldType.int) 0 [.ref (w_r w 3), .int x1, .int x2] d dE (some (.int rE)) := by
  refine gM_of (by decide) [(0, .ref (w_r w 3)), (1, .int x1), (2, .int x2)] rfl rfl ?_ hO
  intro p e R s m args below meth c C hR hr hlk
  unfold f_L_setAdmission at h
  refine g_aload_n C dX5_setAdmission_0 0 rfl ?_
  refine g_get C (.ref (w_r w 5)) 3 q_3 fk_L_15 rfl dX5_setAdmission_1 ?_
  refine g_iload_n C dX5_setAdmission_4 1 rfl ?_
  have hg1 := gd_1 h
  replace h := gd_2 h
  refine g_iald C 5 q_5 hg1 _ rfl dX5_setAdmission_5 ?_
  refine g_istore_n C (lv' := [(3, .int (d 5 x1.toNatClampNeg)), (0, .ref (w_r w 3)), (1, .int x1), (2, .int x2)]) dX5_setAdmission_6 (by decide) rfl ?_
  refine g_aload_n C dX5_setAdmission_7 1 rfl ?_
  refine g_get C (.ref (w_r w 5)) 3 q_3 fk_L_15 rfl dX5_setAdmission_8 ?_
  refine g_iload_n C dX5_setAdmission_11 2 rfl ?_
  refine g_iload_n C dX5_setAdmission_12 3 rfl ?_
  have hg2 := gd_1 h
  replace h := gd_2 h
  refine g_iast C 5 q_5 hg2 _ rfl  dX5_setAdmission_13 ?_
  refine g_iload_n C dX5_setAdmission_14 0 rfl ?_
  exact g_iret C hr hlk rfl (congrArg Prod.snd (Option.some.inj h)) (congrArg (fun z => some (Value.int z.1)) (Option.some.inj h)) dX5_setAdmission_15
set_option maxHeartbeats 4000000 in
set_option maxRecDepth 100000 in
theorem m_L_has {w : wT} {l : Launch} {x1 : Int32} {d : Dt} {rE : Int32} (hO : okW w) (h : f_L_has x1 d = some rE) : gM w l yX5_has cX5_has 2 (Option.some Jvm.ClassFile.FieldType.boolean) 0 [.ref (w_r w 3), .int x1] d d (some (.int rE)) := by
  refine gM_of (by decide) [(0, .ref (w_r w 3)), (1, .int x1)] rfl rfl ?_ hO
  intro p e R s m args below meth c C hR hr hlk
  unfold f_L_has at h
  refine g_iload_n C dX5_has_0 1 rfl ?_
  refine g_if_lt C dX5_has_1 (tgt := 16) rfl (fun q => ?_) (fun q => ?_)
  · replace h := it_t q h
    refine g_iconst C dX5_has_16 (v := 0) rfl ?_
    exact g_iret C hr hlk rfl rfl (congrArg (fun z => some (Value.int z)) (Option.some.inj h)) dX5_has_17
  · replace h := it_f q h
    refine g_iload_n C dX5_has_4 1 rfl ?_
    refine g_aload_n C dX5_has_5 0 rfl ?_
    refine g_get C (.int (d 3 0)) 3 q_3 fk_L_26 rfl dX5_has_6 ?_
    refine g_icmp_ge C dX5_has_9 (tgt := 16) rfl (fun q => ?_) (fun q => ?_)
    · replace h := it_t q h
      refine g_iconst C dX5_has_16 (v := 0) rfl ?_
      exact g_iret C hr hlk rfl rfl (congrArg (fun z => some (Value.int z)) (Option.some.inj h)) dX5_has_17
    · replace h := it_f q h
      refine g_iconst C dX5_has_12 (v := 1) rfl ?_
      refine g_goto C dX5_has_13 (tgt := 17) rfl ?_
      exact g_iret C hr hlk rfl rfl (congrArg (fun z => some (Value.int z)) (Option.some.inj h)) dX5_has_17
set_option maxHeartbeats 4000000 in
set_option maxRecDepth 100000 in
theorem m_C_checkLantern {w : wT} {l : Launch} {x1 : Int32} {d : Dt} {zE : (Unit ⊕ Nat)} (hO : okW w) (hl9 : l.stackTraces = false) (h : f_C_checkLantern x1 d = some zE) : gMX w l yX11_checkLantern cX11_checkLantern 2 (Option.none : Option Jvm.ClassFile.FieldType) 6 1 6 [.ref (w_r w 0), .int x1] d (oU d zE) := by
  refine gMX_of (by decide) [(0, .ref (w_r w 0)), (1, .int x1)] rfl rfl ?_ hO
  intro p e R s m args below meth c C hR hr hlk hx
  unfold f_C_checkLantern at h
  refine g_aload_n C dX11_checkLantern_0 0 rfl ?_
  refine g_get C (.ref (w_r w 2)) 0 q_0 fk_C_10 rfl dX11_checkLantern_1 ?_
  refine g_get C (.ref (w_r w 3)) 2 q_2 fk_C_68 rfl dX11_checkLantern_4 ?_
  refine g_iload_n C dX11_checkLantern_7 1 rfl ?_
  obtain ⟨r2, hc3, h⟩ := ob1_1 h
  refine g_callVi C 3 q_3 vk_C_199 hR rfl (m_L_has C.2.2.2.2.2.2.1 hc3) rfl rfl rfl dX11_checkLantern_8 rfl rfl ?_
  refine g_if_ne C dX11_checkLantern_11 (tgt := 25) rfl (fun q => ?_) (fun q => ?_)
  · replace h := it_f q h
    exact g_vretX C hr hlk rfl rfl (oU_i h) dX11_checkLantern_25
  · replace h := it_t q h
    exact g_throwSW C hl9 th_C_405_409 (i := 1) (by decide) (by decide +kernel) (by decide +kernel) hx hlk hR rfl dX11_checkLantern_14 dX11_checkLantern_17 dX11_checkLantern_18 dX11_checkLantern_21 dX11_checkLantern_24 rfl rfl rfl rfl rfl (oU_t h)
set_option maxHeartbeats 4000000 in
set_option maxRecDepth 100000 in
theorem m_L_admits {w : wT} {l : Launch} {x1 x2 : Int32} {d : Dt} {rE : Int32} (hO : okW w) (h : f_L_admits x1 x2 d = some rE) : gM w l yX5_admits cX5_admits 3 (Option.some Jvm.ClassFile.FieldType.boolean) 0 [.ref (w_r w 3), .int x1, .int x2] d d (some (.int rE)) := by
  refine gM_of (by decide) [(0, .ref (w_r w 3)), (1, .int x1), (2, .int x2)] rfl rfl ?_ hO
  intro p e R s m args below meth c C hR hr hlk
  have R15 : ∀ (v0 : Int32) (v1 : Int32), f_L_admits_15  v0 v1 d = some rE → gG w p l e R s m args below meth c 3 0 0 (gE w below args s d (some (.int rE))) d [] 15 [.int v1, .int v0] := by
    intro  v0 v1   h
    unfold f_L_admits_15 at h
    refine g_icmp_ne C dX5_admits_15 (tgt := 22) rfl (fun q => ?_) (fun q => ?_)
    · replace h := it_f q h
      refine g_iconst C dX5_admits_22 (v := 0) rfl ?_
      exact g_iret C hr hlk rfl rfl (congrArg (fun z => some (Value.int z)) (Option.some.inj h)) dX5_admits_23
    · replace h := it_t q h
      refine g_iconst C dX5_admits_18 (v := 1) rfl ?_
      refine g_goto C dX5_admits_19 (tgt := 23) rfl ?_
      exact g_iret C hr hlk rfl rfl (congrArg (fun z => some (Value.int z)) (Option.some.inj h)) dX5_admits_23
  unfold f_L_admits at h
  refine g_aload_n C dX5_admits_0 0 rfl ?_
  refine g_get C (.ref (w_r w 5)) 3 q_3 fk_L_15 rfl dX5_admits_1 ?_
  refine g_iload_n C dX5_admits_4 1 rfl ?_
  have hg1 := gd_1 h
  replace h := gd_2 h
  refine g_iald C 5 q_5 hg1 _ rfl dX5_admits_5 ?_
  refine g_iload_n C dX5_admits_6 2 rfl ?_
  refine g_if_eq C dX5_admits_7 (tgt := 14) rfl (fun q => ?_) (fun q => ?_)
  · replace h := it_t q h
    refine g_iconst C dX5_admits_14 (v := 2) rfl ?_
    refine g_sub [] (lv' := []) rfl ?_
    exact R15 (d 5 x1.toNatClampNeg) 2 h
  · replace h := it_f q h
    refine g_iconst C dX5_admits_10 (v := 1) rfl ?_
    refine g_goto C dX5_admits_11 (tgt := 15) rfl ?_
    refine g_sub [] (lv' := []) rfl ?_
    exact R15 (d 5 x1.toNatClampNeg) 1 h
set_option maxHeartbeats 4000000 in
set_option maxRecDepth 100000 in
theorem m_C_admit {w : wT} {l : Launch} {x1 x2 : Int32} {d : Dt} {zE : ((Int32 × Dt) ⊕ (Nat × Dt))} (hO : okW w) (hl9 : l.stackTraces = false) (h : f_C_admit x1 x2 d = some zE) : gMX w l yX11_admit cX11_admit 3 (Option.some Jvm.ClassFile.FieldType.boolean) 7 2 12 [.ref (w_r w 0), .int x1, .int x2] d (oW zE) := by
  refine gMX_of (by decide) [(0, .ref (w_r w 0)), (1, .int x1), (2, .int x2)] rfl rfl ?_ hO
  intro p e R s m args below meth c C hR hr hlk hx
  have R55 : ∀ (v1 : Int32) (v2 : Int32) (d : Dt), f_C_admit_55  v1 v2 d = some zE → gG w p l e R s m args below meth c 3 1 6 (gEX w below args s 2 12 (oW zE)) d [] 55 [.int v2, .int v1, .ref (w_r w 3)] := by
    intro  v1 v2 d  h
    unfold f_C_admit_55 at h
    obtain ⟨r6, d7, hc8, h⟩ := ob2_1 h
    refine g_callVi C 3 q_3 vk_C_152 hR rfl (m_L_setAdmission C.2.2.2.2.2.2.1 hc8) rfl rfl rfl dX11_admit_55 rfl rfl ?_
    refine g_if_eq C dX11_admit_58 (tgt := 65) rfl (fun q => ?_) (fun q => ?_)
    · replace h := it_t q h
      refine g_iconst C dX11_admit_65 (v := 0) rfl ?_
      exact g_iretX C hr hlk rfl rfl rfl (oW_i h) dX11_admit_66
    · replace h := it_f q h
      refine g_iconst C dX11_admit_61 (v := 1) rfl ?_
      refine g_goto C dX11_admit_62 (tgt := 66) rfl ?_
      exact g_iretX C hr hlk rfl rfl rfl (oW_i h) dX11_admit_66
  unfold f_C_admit at h
  refine g_aload_n C dX11_admit_0 0 rfl ?_
  refine g_iload_n C dX11_admit_1 1 rfl ?_
  obtain ⟨z11, hc10, h⟩ := ocU_1 h
  refine g_callVU C 1 6 0 q_0 vk_C_93 hR rfl (m_C_checkLantern C.2.2.2.2.2.2.1 hl9 hc10) rfl rfl rfl dX11_admit_2 rfl rfl rfl rfl (fun e13 => ?_) (fun et8 e13 => ?_)
  · subst e13
    replace h := ocU_i h
    refine g_aload_n C dX11_admit_5 0 rfl ?_
    refine g_get C (.ref (w_r w 2)) 0 q_0 fk_C_10 rfl dX11_admit_6 ?_
    refine g_get C (.ref (w_r w 3)) 2 q_2 fk_C_68 rfl dX11_admit_9 ?_
    refine g_iload_n C dX11_admit_12 1 rfl ?_
    refine g_iload_n C dX11_admit_13 2 rfl ?_
    obtain ⟨r14, hc15, h⟩ := ob1_1 h
    refine g_callVi C 3 q_3 vk_C_146 hR rfl (m_L_admits C.2.2.2.2.2.2.1 hc15) rfl rfl rfl dX11_admit_14 rfl rfl ?_
    refine g_if_eq C dX11_admit_17 (tgt := 30) rfl (fun q => ?_) (fun q => ?_)
    · replace h := it_t q h
      refine g_aload_n C dX11_admit_30 0 rfl ?_
      refine g_aload_n C dX11_admit_31 0 rfl ?_
      refine g_get C (.ref (w_r w 2)) 0 q_0 fk_C_10 rfl dX11_admit_32 ?_
      obtain ⟨d16, hc17, h⟩ := ob1_1 h
      refine g_callVv C 0 q_0 vk_C_85 hR rfl (m_C_remember C.2.2.2.2.2.2.1 hc17) rfl rfl rfl dX11_admit_35 rfl rfl ?_
      refine g_aload_n C dX11_admit_38 0 rfl ?_
      refine g_get C (.ref (w_r w 2)) 0 q_0 fk_C_10 rfl dX11_admit_39 ?_
      refine g_get C (.ref (w_r w 3)) 2 q_2 fk_C_68 rfl dX11_admit_42 ?_
      refine g_iload_n C dX11_admit_45 1 rfl ?_
      refine g_iload_n C dX11_admit_46 2 rfl ?_
      refine g_if_eq C dX11_admit_47 (tgt := 54) rfl (fun q => ?_) (fun q => ?_)
      · replace h := it_t q h
        refine g_iconst C dX11_admit_54 (v := 2) rfl ?_
        refine g_sub [] (lv' := []) rfl ?_
        exact R55 x1 2 d16 h
      · replace h := it_f q h
        refine g_iconst C dX11_admit_50 (v := 1) rfl ?_
        refine g_goto C dX11_admit_51 (tgt := 55) rfl ?_
        refine g_sub [] (lv' := []) rfl ?_
        exact R55 x1 1 d16 h
    · replace h := it_f q h
      exact g_throwS C hl9 th_C_78_82 (i := 8) (by decide) (by decide +kernel) (by decide +kernel) hx hlk hR rfl dX11_admit_20 dX11_admit_23 dX11_admit_24 dX11_admit_26 dX11_admit_29 rfl rfl rfl rfl rfl (oW_t h)
  · subst e13
    replace h := ocU_t h
    exact g_prop C hx hlk rfl rfl (oW_t h)
set_option maxHeartbeats 4000000 in
set_option maxRecDepth 100000 in
theorem m_C_briefAt {w : wT} {l : Launch} {x1 : Int32} {d : Dt} {zE : (Int32 ⊕ Nat)} (hO : okW w) (hl9 : l.stackTraces = false) (h : f_C_briefAt x1 d = some zE) : gMX w l yX11_briefAt cX11_briefAt 2 (Option.some Jvm.ClassFile.FieldType.int) 6 1 6 [.ref (w_r w 0), .int x1] d (oR d zE) := by
  refine gMX_of (by decide) [(0, .ref (w_r w 0)), (1, .int x1)] rfl rfl ?_ hO
  intro p e R s m args below meth c C hR hr hlk hx
  have R18 : f_C_briefAt_18   d = some zE → gG w p l e R s m args below meth c 2 0 0 (gEX w below args s 1 6 (oR d zE)) d [] 18 [] := by
    intro     h
    unfold f_C_briefAt_18 at h
    exact g_throwSy C hl9 th_C_160_164 (i := 13) (by decide) (by decide +kernel) (by decide +kernel) hx hlk hR rfl dX11_briefAt_18 dX11_briefAt_21 dX11_briefAt_22 dX11_briefAt_24 dX11_briefAt_27 rfl rfl rfl rfl rfl (oR_t h)
  unfold f_C_briefAt at h
  refine g_iload_n C dX11_briefAt_0 1 rfl ?_
  refine g_if_lt C dX11_briefAt_1 (tgt := 18) rfl (fun q => ?_) (fun q => ?_)
  · replace h := it_t q h
    refine g_sub [] (lv' := []) rfl ?_
    exact R18  h
  · replace h := it_f q h
    refine g_iload_n C dX11_briefAt_4 1 rfl ?_
    refine g_aload_n C dX11_briefAt_5 0 rfl ?_
    refine g_get C (.ref (w_r w 2)) 0 q_0 fk_C_10 rfl dX11_briefAt_6 ?_
    refine g_get C (.ref (w_r w 16)) 2 q_2 fk_C_108 rfl dX11_briefAt_9 ?_
    refine g_get C (.int (d 16 0)) 16 q_16 fk_C_215 rfl dX11_briefAt_12 ?_
    refine g_icmp_lt C dX11_briefAt_15 (tgt := 28) rfl (fun q => ?_) (fun q => ?_)
    · replace h := it_t q h
      refine g_aload_n C dX11_briefAt_28 0 rfl ?_
      refine g_get C (.ref (w_r w 2)) 0 q_0 fk_C_10 rfl dX11_briefAt_29 ?_
      refine g_get C (.ref (w_r w 16)) 2 q_2 fk_C_108 rfl dX11_briefAt_32 ?_
      refine g_get C (.ref (w_r w 17)) 16 q_16 fk_C_218 rfl dX11_briefAt_35 ?_
      refine g_iload_n C dX11_briefAt_38 1 rfl ?_
      have hg1 := gd_1 h
      replace h := gd_2 h
      refine g_iald C 17 q_17 hg1 _ rfl dX11_briefAt_39 ?_
      exact g_iretX C hr hlk rfl rfl rfl (oR_i h) dX11_briefAt_40
    · replace h := it_f q h
      refine g_sub [] (lv' := []) rfl ?_
      exact R18  h
set_option maxHeartbeats 4000000 in
set_option maxRecDepth 100000 in
theorem m_C_briefCount {w : wT} {l : Launch} {d : Dt} {rE : Int32} (hO : okW w) (h : f_C_briefCount  d = some rE) : gM w l yX11_briefCount cX11_briefCount 1 (Option.some Jvm.ClassFile.FieldType.int) 0 [.ref (w_r w 0)] d d (some (.int rE)) := by
  refine gM_of (by decide) [(0, .ref (w_r w 0))] rfl rfl ?_ hO
  intro p e R s m args below meth c C hR hr hlk
  unfold f_C_briefCount at h
  refine g_aload_n C dX11_briefCount_0 0 rfl ?_
  refine g_get C (.ref (w_r w 2)) 0 q_0 fk_C_10 rfl dX11_briefCount_1 ?_
  refine g_get C (.ref (w_r w 16)) 2 q_2 fk_C_108 rfl dX11_briefCount_4 ?_
  refine g_get C (.int (d 16 0)) 16 q_16 fk_C_215 rfl dX11_briefCount_7 ?_
  exact g_iret C hr hlk rfl rfl (congrArg (fun z => some (Value.int z)) (Option.some.inj h)) dX11_briefCount_10
set_option maxHeartbeats 4000000 in
set_option maxRecDepth 100000 in
theorem m_C_brightness {w : wT} {l : Launch} {x1 : Int32} {d : Dt} {zE : (Int32 ⊕ Nat)} (hO : okW w) (hl9 : l.stackTraces = false) (h : f_C_brightness x1 d = some zE) : gMX w l yX11_brightness cX11_brightness 2 (Option.some Jvm.ClassFile.FieldType.int) 7 1 6 [.ref (w_r w 0), .int x1] d (oR d zE) := by
  refine gMX_of (by decide) [(0, .ref (w_r w 0)), (1, .int x1)] rfl rfl ?_ hO
  intro p e R s m args below meth c C hR hr hlk hx
  unfold f_C_brightness at h
  refine g_aload_n C dX11_brightness_0 0 rfl ?_
  refine g_iload_n C dX11_brightness_1 1 rfl ?_
  obtain ⟨z4, hc3, h⟩ := ocU_1 h
  refine g_callVU C 1 6 0 q_0 vk_C_93 hR rfl (m_C_checkLantern C.2.2.2.2.2.2.1 hl9 hc3) rfl rfl rfl dX11_brightness_2 rfl rfl rfl rfl (fun e6 => ?_) (fun et1 e6 => ?_)
  · subst e6
    replace h := ocU_i h
    refine g_aload_n C dX11_brightness_5 0 rfl ?_
    refine g_get C (.ref (w_r w 2)) 0 q_0 fk_C_10 rfl dX11_brightness_6 ?_
    refine g_get C (.ref (w_r w 3)) 2 q_2 fk_C_68 rfl dX11_brightness_9 ?_
    refine g_get C (.ref (w_r w 4)) 3 q_3 fk_C_186 rfl dX11_brightness_12 ?_
    refine g_iload_n C dX11_brightness_15 1 rfl ?_
    have hg7 := gd_1 h
    replace h := gd_2 h
    refine g_iald C 4 q_4 hg7 _ rfl dX11_brightness_16 ?_
    exact g_iretX C hr hlk rfl rfl rfl (oR_i h) dX11_brightness_17
  · subst e6
    replace h := ocU_t h
    exact g_prop C hx hlk rfl rfl (oR_t h)
set_option maxHeartbeats 4000000 in
set_option maxRecDepth 100000 in
theorem m_C_canPass {w : wT} {l : Launch} {x0 : Int32} {d : Dt} {rE : Int32} (hO : okW w) (h : f_C_canPass x0 d = some rE) : gM w l yX11_canPass cX11_canPass 1 (Option.some Jvm.ClassFile.FieldType.boolean) 0 [.int x0] d d (some (.int rE)) := by
  refine gM_of (by decide) [(0, .int x0)] rfl rfl ?_ hO
  intro p e R s m args below meth c C hR hr hlk
  unfold f_C_canPass at h
  refine g_iload_n C dX11_canPass_0 0 rfl ?_
  refine g_iconst C dX11_canPass_1 (v := 1) rfl ?_
  refine g_icmp_lt C dX11_canPass_2 (tgt := 15) rfl (fun q => ?_) (fun q => ?_)
  · replace h := it_t q h
    refine g_iconst C dX11_canPass_15 (v := 0) rfl ?_
    exact g_iret C hr hlk rfl rfl (congrArg (fun z => some (Value.int z)) (Option.some.inj h)) dX11_canPass_16
  · replace h := it_f q h
    refine g_iload_n C dX11_canPass_5 0 rfl ?_
    refine g_bipush C dX11_canPass_6 (v := 9) (by decide) ?_
    refine g_icmp_gt C dX11_canPass_8 (tgt := 15) rfl (fun q => ?_) (fun q => ?_)
    · replace h := it_t q h
      refine g_iconst C dX11_canPass_15 (v := 0) rfl ?_
      exact g_iret C hr hlk rfl rfl (congrArg (fun z => some (Value.int z)) (Option.some.inj h)) dX11_canPass_16
    · replace h := it_f q h
      refine g_iconst C dX11_canPass_11 (v := 1) rfl ?_
      refine g_goto C dX11_canPass_12 (tgt := 16) rfl ?_
      exact g_iret C hr hlk rfl rfl (congrArg (fun z => some (Value.int z)) (Option.some.inj h)) dX11_canPass_16
set_option maxHeartbeats 4000000 in
set_option maxRecDepth 100000 in
theorem m_I_isAtEnd {w : wT} {l : Launch} {d : Dt} {rE : Int32} (hO : okW w) (h : f_I_isAtEnd  d = some rE) : gM w l yX3_isAtEnd cX3_isAtEnd 1 (Option.some Jvm.ClassFile.FieldType.boolean) 0 [.ref (w_r w 287)] d d (some (.int rE)) := by
  refine gM_of (by decide) [(0, .ref (w_r w 287))] rfl rfl ?_ hO
  intro p e R s m args below meth c C hR hr hlk
  unfold f_I_isAtEnd at h
  refine g_aload_n C dX3_isAtEnd_0 0 rfl ?_
  refine g_get C (.int (d 287 2)) 287 q_287 fk_I_32 rfl dX3_isAtEnd_1 ?_
  refine g_aload_n C dX3_isAtEnd_4 0 rfl ?_
  refine g_get C (.int (d 287 1)) 287 q_287 fk_I_28 rfl dX3_isAtEnd_5 ?_
  refine g_icmp_ge C dX3_isAtEnd_8 (tgt := 25) rfl (fun q => ?_) (fun q => ?_)
  · replace h := it_t q h
    refine g_iconst C dX3_isAtEnd_25 (v := 1) rfl ?_
    refine g_goto C dX3_isAtEnd_26 (tgt := 30) rfl ?_
    exact g_iret C hr hlk rfl rfl (congrArg (fun z => some (Value.int z)) (Option.some.inj h)) dX3_isAtEnd_30
  · replace h := it_f q h
    refine g_aload_n C dX3_isAtEnd_11 0 rfl ?_
    refine g_get C (.ref (w_r w 288)) 287 q_287 fk_I_9 rfl dX3_isAtEnd_12 ?_
    refine g_aload_n C dX3_isAtEnd_15 0 rfl ?_
    refine g_get C (.int (d 287 2)) 287 q_287 fk_I_32 rfl dX3_isAtEnd_16 ?_
    have hg1 := gd_1 h
    replace h := gd_2 h
    refine g_cald C 288 q_288 hg1 _ rfl dX3_isAtEnd_19 ?_
    refine g_bipush C dX3_isAtEnd_20 (v := 59) (by decide) ?_
    refine g_icmp_ne C dX3_isAtEnd_22 (tgt := 29) rfl (fun q => ?_) (fun q => ?_)
    · replace h := it_f q h
      refine g_iconst C dX3_isAtEnd_29 (v := 0) rfl ?_
      exact g_iret C hr hlk rfl rfl (congrArg (fun z => some (Value.int z)) (Option.some.inj h)) dX3_isAtEnd_30
    · replace h := it_t q h
      refine g_iconst C dX3_isAtEnd_25 (v := 1) rfl ?_
      refine g_goto C dX3_isAtEnd_26 (tgt := 30) rfl ?_
      exact g_iret C hr hlk rfl rfl (congrArg (fun z => some (Value.int z)) (Option.some.inj h)) dX3_isAtEnd_30
set_option maxHeartbeats 4000000 in
set_option maxRecDepth 100000 in
theorem m_I_isDigit {w : wT} {l : Launch} {x0 : Int32} {d : Dt} {rE : Int32} (hO : okW w) (h : f_I_isDigit x0 d = some rE) : gM w l yX3_isDigit cX3_isDigit 1 (Option.some Jvm.ClassFile.FieldType.boolean) 0 [.int x0] d d (some (.int rE)) := by
  refine gM_of (by decide) [(0, .int x0)] rfl rfl ?_ hO
  intro p e R s m args below meth c C hR hr hlk
  unfold f_I_isDigit at h
  refine g_iload_n C dX3_isDigit_0 0 rfl ?_
  refine g_bipush C dX3_isDigit_1 (v := 48) (by decide) ?_
  refine g_icmp_lt C dX3_isDigit_3 (tgt := 16) rfl (fun q => ?_) (fun q => ?_)
  · replace h := it_t q h
    refine g_iconst C dX3_isDigit_16 (v := 0) rfl ?_
    exact g_iret C hr hlk rfl rfl (congrArg (fun z => some (Value.int z)) (Option.some.inj h)) dX3_isDigit_17
  · replace h := it_f q h
    refine g_iload_n C dX3_isDigit_6 0 rfl ?_
    refine g_bipush C dX3_isDigit_7 (v := 57) (by decide) ?_
    refine g_icmp_gt C dX3_isDigit_9 (tgt := 16) rfl (fun q => ?_) (fun q => ?_)
    · replace h := it_t q h
      refine g_iconst C dX3_isDigit_16 (v := 0) rfl ?_
      exact g_iret C hr hlk rfl rfl (congrArg (fun z => some (Value.int z)) (Option.some.inj h)) dX3_isDigit_17
    · replace h := it_f q h
      refine g_iconst C dX3_isDigit_12 (v := 1) rfl ?_
      refine g_goto C dX3_isDigit_13 (tgt := 17) rfl ?_
      exact g_iret C hr hlk rfl rfl (congrArg (fun z => some (Value.int z)) (Option.some.inj h)) dX3_isDigit_17
set_option maxHeartbeats 4000000 in
set_option maxRecDepth 100000 in
theorem m_I_readNumber {w : wT} {l : Launch} {x1 : Int32} {d : Dt} {rE : Int32} {dE : Dt} (hO : okW w) (h : f_I_readNumber x1 d = some (rE, dE)) : gM w l yX3_readNumber cX3_readNumber 4 (Option.some Jvm.ClassFile.FieldType.boolean) 1 [.ref (w_r w 287), .int x1] d dE (some (.int rE)) := by
  refine gM_of (by decide) [(0, .ref (w_r w 287)), (1, .int x1)] rfl rfl ?_ hO
  intro p e R s m args below meth c C hR hr hlk
  have R69 : ∀ (x2 : Int32) (x3 : Int32) (d : Dt), f_I_readNumber_69 x2 x3  d = some (rE, dE) → gG w p l e R s m args below meth c 4 0 0 (gE w below args s dE (some (.int rE))) d [(0, .ref (w_r w 287)), (2, .int x2), (3, .int x3)] 69 [] := by
    intro x2 x3  d  h
    unfold f_I_readNumber_69 at h
    refine g_iload_n C dX3_readNumber_69 2 rfl ?_
    refine g_if_eq C dX3_readNumber_70 (tgt := 85) rfl (fun q => ?_) (fun q => ?_)
    · replace h := it_t q h
      refine g_iconst C dX3_readNumber_85 (v := 0) rfl ?_
      exact g_iret C hr hlk rfl (congrArg Prod.snd (Option.some.inj h)) (congrArg (fun z => some (Value.int z.1)) (Option.some.inj h)) dX3_readNumber_86
    · replace h := it_f q h
      refine g_aload_n C dX3_readNumber_73 0 rfl ?_
      refine g_get C (.int (d 287 5)) 287 q_287 fk_I_48 rfl dX3_readNumber_74 ?_
      refine g_aload_n C dX3_readNumber_77 0 rfl ?_
      refine g_get C (.ref (w_r w 289)) 287 q_287 fk_I_24 rfl dX3_readNumber_78 ?_
      refine g_alen C 4 289 q_289 rfl 0 rfl (by decide) dX3_readNumber_81 ?_
      refine g_icmp_lt C dX3_readNumber_82 (tgt := 87) rfl (fun q => ?_) (fun q => ?_)
      · replace h := it_t q h
        refine g_aload_n C dX3_readNumber_87 0 rfl ?_
        refine g_get C (.ref (w_r w 289)) 287 q_287 fk_I_24 rfl dX3_readNumber_88 ?_
        refine g_aload_n C dX3_readNumber_91 0 rfl ?_
        refine g_get C (.int (d 287 5)) 287 q_287 fk_I_48 rfl dX3_readNumber_92 ?_
        refine g_iload_n C dX3_readNumber_95 1 rfl ?_
        have hg2 := gd_1 h
        replace h := gd_2 h
        refine g_iast C 289 q_289 hg2 _ rfl  dX3_readNumber_96 ?_
        refine g_aload_n C dX3_readNumber_97 0 rfl ?_
        refine g_dup C dX3_readNumber_98 rfl ?_
        refine g_get C (.int ((wr d 289 (d 287 5).toNatClampNeg x2) 287 5)) 287 q_287 fk_I_48 rfl dX3_readNumber_99 ?_
        refine g_iconst C dX3_readNumber_102 (v := 1) rfl ?_
        refine g_iadd C dX3_readNumber_103  ?_
        refine g_put C 287 q_287 pk_I_48 rfl rfl dX3_readNumber_104 ?_
        refine g_iconst C dX3_readNumber_107 (v := 1) rfl ?_
        exact g_iret C hr hlk rfl (congrArg Prod.snd (Option.some.inj h)) (congrArg (fun z => some (Value.int z.1)) (Option.some.inj h)) dX3_readNumber_108
      · replace h := it_f q h
        refine g_iconst C dX3_readNumber_85 (v := 0) rfl ?_
        exact g_iret C hr hlk rfl (congrArg Prod.snd (Option.some.inj h)) (congrArg (fun z => some (Value.int z.1)) (Option.some.inj h)) dX3_readNumber_86
  have R4 : ∀ (x1 : Int32) (x2 : Int32) (x3 : Int32) (d : Dt), f_I_readNumber_4 x1 x2 x3 d = some (rE, dE) → gG w p l e R s m args below meth c 4 0 0 (gE w below args s dE (some (.int rE))) d [(0, .ref (w_r w 287)), (1, .int x1), (2, .int x2), (3, .int x3)] 4 [] := by
    intro x1 x2 x3 d  h
    refine iter_ind (G := fun s_ : (Int32 × Int32 × Dt) => gG w p l e R s m args below meth c 4 0 0 (gE w below args s dE (some (.int rE))) s_.2.2 [(0, .ref (w_r w 287)), (1, .int x1), (2, .int s_.1), (3, .int s_.2.1)] 4 []) ?_ fu _ h
    clear h
    intro s_ y1 h hl1 hx1
    obtain ⟨x2, x3, d⟩ := s_
    show gG w p l e R s m args below meth c 4 0 0 (gE w below args s dE (some (.int rE))) d [(0, .ref (w_r w 287)), (1, .int x1), (2, .int x2), (3, .int x3)] 4 []
    dsimp only at h
    unfold st_I_readNumber_4 at h
    refine g_iload_n C dX3_readNumber_4 3 rfl ?_
    refine g_iload_n C dX3_readNumber_5 1 rfl ?_
    refine g_icmp_ge C dX3_readNumber_6 (tgt := 69) rfl (fun q => ?_) (fun q => ?_)
    · replace h := it_t q h
      replace h := ir_2 h hx1
      refine g_sub [0, 2, 3] (lv' := [(0, .ref (w_r w 287)), (2, .int x2), (3, .int x3)]) rfl ?_
      exact R69 x2 x3 d h
    · replace h := it_f q h
      refine g_aload_n C dX3_readNumber_9 0 rfl ?_
      refine g_get C (.int (d 287 2)) 287 q_287 fk_I_32 rfl dX3_readNumber_10 ?_
      refine g_aload_n C dX3_readNumber_13 0 rfl ?_
      refine g_get C (.int (d 287 1)) 287 q_287 fk_I_28 rfl dX3_readNumber_14 ?_
      refine g_icmp_ge C dX3_readNumber_17 (tgt := 69) rfl (fun q => ?_) (fun q => ?_)
      · replace h := it_t q h
        replace h := ir_2 h hx1
        refine g_sub [0, 2, 3] (lv' := [(0, .ref (w_r w 287)), (2, .int x2), (3, .int x3)]) rfl ?_
        exact R69 x2 x3 d h
      · replace h := it_f q h
        refine g_aload_n C dX3_readNumber_20 0 rfl ?_
        refine g_get C (.ref (w_r w 288)) 287 q_287 fk_I_9 rfl dX3_readNumber_21 ?_
        refine g_aload_n C dX3_readNumber_24 0 rfl ?_
        refine g_get C (.int (d 287 2)) 287 q_287 fk_I_32 rfl dX3_readNumber_25 ?_
        have hg3 := gd_1 h
        replace h := gd_2 h
        refine g_cald C 288 q_288 hg3 _ rfl dX3_readNumber_28 ?_
        obtain ⟨r4, hc5, h⟩ := ob1_1 h
        refine g_callSi C sk_I_99 hR rfl (m_I_isDigit C.2.2.2.2.2.2.1 hc5) rfl rfl rfl dX3_readNumber_29 rfl rfl ?_
        refine g_if_eq C dX3_readNumber_32 (tgt := 69) rfl (fun q => ?_) (fun q => ?_)
        · replace h := it_t q h
          replace h := ir_2 h hx1
          refine g_sub [0, 2, 3] (lv' := [(0, .ref (w_r w 287)), (2, .int x2), (3, .int x3)]) rfl ?_
          exact R69 x2 x3 d h
        · replace h := it_f q h
          refine g_iload_n C dX3_readNumber_35 2 rfl ?_
          refine g_bipush C dX3_readNumber_36 (v := 10) (by decide) ?_
          refine g_imul C dX3_readNumber_38  ?_
          refine g_aload_n C dX3_readNumber_39 0 rfl ?_
          refine g_get C (.ref (w_r w 288)) 287 q_287 fk_I_9 rfl dX3_readNumber_40 ?_
          refine g_aload_n C dX3_readNumber_43 0 rfl ?_
          refine g_get C (.int (d 287 2)) 287 q_287 fk_I_32 rfl dX3_readNumber_44 ?_
          have hg6 := gd_1 h
          replace h := gd_2 h
          refine g_cald C 288 q_288 hg6 _ rfl dX3_readNumber_47 ?_
          refine g_bipush C dX3_readNumber_48 (v := 48) (by decide) ?_
          refine g_isub C dX3_readNumber_50  ?_
          refine g_iadd C dX3_readNumber_51  ?_
          refine g_istore_n C (lv' := [(2, .int ((x2 * 10) + ((d 288 (d 287 2).toNatClampNeg) - 48))), (0, .ref (w_r w 287)), (1, .int x1), (3, .int x3)]) dX3_readNumber_52 (by decide) rfl ?_
          refine g_iinc C (lv' := [(3, .int (x3 + 1)), (2, .int ((x2 * 10) + ((d 288 (d 287 2).toNatClampNeg) - 48))), (0, .ref (w_r w 287)), (1, .int x1)]) (v := (x3 + 1)) dX3_readNumber_53 3 rfl rfl (by decide) rfl ?_
          refine g_aload_n C dX3_readNumber_56 2 rfl ?_
          refine g_dup C dX3_readNumber_57 rfl ?_
          refine g_get C (.int (d 287 2)) 287 q_287 fk_I_32 rfl dX3_readNumber_58 ?_
          refine g_iconst C dX3_readNumber_61 (v := 1) rfl ?_
          refine g_iadd C dX3_readNumber_62  ?_
          refine g_put C 287 q_287 pk_I_32 rfl rfl dX3_readNumber_63 ?_
          refine g_goto C dX3_readNumber_66 (tgt := 4) rfl ?_
          refine g_sub [2, 3, 1, 0] (lv' := [(0, .ref (w_r w 287)), (1, .int x1), (2, .int ((x2 * 10) + ((d 288 (d 287 2).toNatClampNeg) - 48))), (3, .int (x3 + 1))]) rfl ?_
          exact hl1 (((x2 * 10) + ((d 288 (d 287 2).toNatClampNeg) - 48)), (x3 + 1), (wr d 287 2 ((d 287 2) + 1))) (Option.some.inj h).symm
  unfold f_I_readNumber at h
  refine g_iconst C dX3_readNumber_0 (v := 0) rfl ?_
  refine g_istore_n C (lv' := [(2, .int 0), (0, .ref (w_r w 287)), (1, .int x1)]) dX3_readNumber_1 (by decide) rfl ?_
  refine g_iconst C dX3_readNumber_2 (v := 0) rfl ?_
  refine g_istore_n C (lv' := [(3, .int 0), (2, .int 0), (0, .ref (w_r w 287)), (1, .int x1)]) dX3_readNumber_3 (by decide) rfl ?_
  refine g_sub [2, 3, 1, 0] (lv' := [(0, .ref (w_r w 287)), (1, .int x1), (2, .int 0), (3, .int 0)]) rfl ?_
  exact R4 x1 0 0 d h
set_option maxHeartbeats 4000000 in
set_option maxRecDepth 100000 in
theorem m_I_readCharacter {w : wT} {l : Launch} {x1 : Int32} {d : Dt} {rE : Int32} {dE : Dt} (hO : okW w) (h : f_I_readCharacter x1 d = some (rE, dE)) : gM w l yX3_readCharacter cX3_readCharacter 2 (Option.some Jvm.ClassFile.FieldType.boolean) 0 [.ref (w_r w 287), .int x1] d dE (some (.int rE)) := by
  refine gM_of (by decide) [(0, .ref (w_r w 287)), (1, .int x1)] rfl rfl ?_ hO
  intro p e R s m args below meth c C hR hr hlk
  unfold f_I_readCharacter at h
  refine g_aload_n C dX3_readCharacter_0 0 rfl ?_
  refine g_get C (.int (d 287 2)) 287 q_287 fk_I_32 rfl dX3_readCharacter_1 ?_
  refine g_aload_n C dX3_readCharacter_4 0 rfl ?_
  refine g_get C (.int (d 287 1)) 287 q_287 fk_I_28 rfl dX3_readCharacter_5 ?_
  refine g_icmp_ge C dX3_readCharacter_8 (tgt := 24) rfl (fun q => ?_) (fun q => ?_)
  · replace h := it_t q h
    refine g_iconst C dX3_readCharacter_24 (v := 0) rfl ?_
    exact g_iret C hr hlk rfl (congrArg Prod.snd (Option.some.inj h)) (congrArg (fun z => some (Value.int z.1)) (Option.some.inj h)) dX3_readCharacter_25
  · replace h := it_f q h
    refine g_aload_n C dX3_readCharacter_11 0 rfl ?_
    refine g_get C (.ref (w_r w 288)) 287 q_287 fk_I_9 rfl dX3_readCharacter_12 ?_
    refine g_aload_n C dX3_readCharacter_15 0 rfl ?_
    refine g_get C (.int (d 287 2)) 287 q_287 fk_I_32 rfl dX3_readCharacter_16 ?_
    have hg1 := gd_1 h
    replace h := gd_2 h
    refine g_cald C 288 q_288 hg1 _ rfl dX3_readCharacter_19 ?_
    refine g_iload_n C dX3_readCharacter_20 1 rfl ?_
    refine g_icmp_eq C dX3_readCharacter_21 (tgt := 26) rfl (fun q => ?_) (fun q => ?_)
    · replace h := it_t q h
      refine g_aload_n C dX3_readCharacter_26 0 rfl ?_
      refine g_dup C dX3_readCharacter_27 rfl ?_
      refine g_get C (.int (d 287 2)) 287 q_287 fk_I_32 rfl dX3_readCharacter_28 ?_
      refine g_iconst C dX3_readCharacter_31 (v := 1) rfl ?_
      refine g_iadd C dX3_readCharacter_32  ?_
      refine g_put C 287 q_287 pk_I_32 rfl rfl dX3_readCharacter_33 ?_
      refine g_iconst C dX3_readCharacter_36 (v := 1) rfl ?_
      exact g_iret C hr hlk rfl (congrArg Prod.snd (Option.some.inj h)) (congrArg (fun z => some (Value.int z.1)) (Option.some.inj h)) dX3_readCharacter_37
    · replace h := it_f q h
      refine g_iconst C dX3_readCharacter_24 (v := 0) rfl ?_
      exact g_iret C hr hlk rfl (congrArg Prod.snd (Option.some.inj h)) (congrArg (fun z => some (Value.int z.1)) (Option.some.inj h)) dX3_readCharacter_25
