/-! 08: walks -/
set_option maxHeartbeats 4000000 in
set_option maxRecDepth 100000 in
theorem m_P_make {w : wT} {l : Launch} {x2 : Int32} {d : Dt} {dE : Dt} (hO : okW w) (h : f_P_make x2 d = some dE) : gM w l yX7_make cX7_make 5 (Option.none : Option Jvm.ClassFile.FieldType) 2 [.ref (w_r w 277), .ref (w_r w 16), .int x2] d dE none := by
  refine gM_of (by decide) [(0, .ref (w_r w 277)), (1, .ref (w_r w 16)), (2, .int x2)] rfl rfl ?_ hO
  intro p e R s m args below meth c C hR hr hlk
  have R23 : ∀ (x3 : Int32) (d : Dt), f_P_make_23 x3 d = some dE → gG w p l e R s m args below meth c 5 0 0 (gE w below args s dE none) d [(0, .ref (w_r w 277)), (1, .ref (w_r w 16)), (3, .int x3)] 23 [] := by
    intro x3 d  h
    refine iter_ind (G := fun s_ : (Int32 × Dt) => gG w p l e R s m args below meth c 5 0 0 (gE w below args s dE none) s_.2 [(0, .ref (w_r w 277)), (1, .ref (w_r w 16)), (3, .int s_.1)] 23 []) ?_ fu _ h
    clear h
    intro s_ y1 h hl1 hx1
    obtain ⟨x3, d⟩ := s_
    show gG w p l e R s m args below meth c 5 0 0 (gE w below args s dE none) d [(0, .ref (w_r w 277)), (1, .ref (w_r w 16)), (3, .int x3)] 23 []
    dsimp only at h
    unfold st_P_make_23 at h
    refine g_iload_n C dX7_make_23 2 rfl ?_
    refine g_aload_n C dX7_make_24 1 rfl ?_
    refine g_get C (.int (d 16 0)) 16 q_16 fk_P_36 rfl dX7_make_25 ?_
    refine g_icmp_ge C dX7_make_28 (tgt := 77) rfl (fun q => ?_) (fun q => ?_)
    · replace h := it_t q h
      replace h := ir_2 h hx1
      refine g_aload_n C dX7_make_77 0 rfl ?_
      refine g_aload_n C dX7_make_78 1 rfl ?_
      obtain ⟨d5, hc6, h⟩ := ob1_1 h
      refine g_callVv C 277 q_277 vk_P_43 hR rfl (m_P_orderHearings C.2.2.2.2.2.2.1 hc6) rfl rfl rfl dX7_make_79 rfl rfl ?_
      exact g_vret C hr hlk (Option.some.inj h) rfl dX7_make_82
    · replace h := it_f q h
      refine g_aload_n C dX7_make_31 0 rfl ?_
      refine g_get C (.int (d 277 1)) 277 q_277 fk_P_29 rfl dX7_make_32 ?_
      refine g_iconst C dX7_make_35 (v := 1) rfl ?_
      refine g_aload_n C dX7_make_36 0 rfl ?_
      refine g_get C (.ref (w_r w 279)) 277 q_277 fk_P_15 rfl dX7_make_37 ?_
      refine g_iload_n C dX7_make_40 2 rfl ?_
      have hg7 := gd_1 h
      replace h := gd_2 h
      refine g_iald C 279 q_279 hg7 _ rfl dX7_make_41 ?_
      refine g_ishl C dX7_make_42  ?_
      refine g_ior C dX7_make_43  ?_
      refine g_istore C (lv' := [(4, .int ((d 277 1) ||| (1 <<< ((d 279 x3.toNatClampNeg) &&& 31)))), (0, .ref (w_r w 277)), (1, .ref (w_r w 16)), (3, .int x3)]) dX7_make_44 (by decide) rfl ?_
      refine g_aload_n C dX7_make_46 1 rfl ?_
      refine g_iload C dX7_make_47 0 rfl ?_
      obtain ⟨r8, hc9, h⟩ := ob1_1 h
      refine g_callVi C 277 q_277 vk_P_39 hR rfl (m_P_isPossible C.2.2.2.2.2.2.1 hc9) rfl rfl rfl dX7_make_49 rfl rfl ?_
      refine g_if_eq C dX7_make_52 (tgt := 71) rfl (fun q => ?_) (fun q => ?_)
      · replace h := it_t q h
        refine g_iinc C (lv' := [(3, .int (x3 + 1)), (4, .int ((d 277 1) ||| (1 <<< ((d 279 x3.toNatClampNeg) &&& 31)))), (0, .ref (w_r w 277)), (1, .ref (w_r w 16))]) (v := (x3 + 1)) dX7_make_71 3 rfl rfl (by decide) rfl ?_
        refine g_goto C dX7_make_74 (tgt := 23) rfl ?_
        refine g_sub [2, 3, 0] (lv' := [(0, .ref (w_r w 277)), (1, .ref (w_r w 16)), (3, .int (x3 + 1))]) rfl ?_
        exact hl1 ((x3 + 1), d) (Option.some.inj h).symm
      · replace h := it_f q h
        refine g_aload_n C dX7_make_55 1 rfl ?_
        refine g_iload C dX7_make_56 0 rfl ?_
        refine g_put C 277 q_277 pk_P_29 rfl rfl dX7_make_58 ?_
        refine g_aload_n C dX7_make_61 1 rfl ?_
        refine g_dup C dX7_make_62 rfl ?_
        refine g_get C (.int ((wr d 277 1 ((d 277 1) ||| (1 <<< ((d 279 x3.toNatClampNeg) &&& 31)))) 277 0)) 277 q_277 fk_P_33 rfl dX7_make_63 ?_
        refine g_iconst C dX7_make_66 (v := 1) rfl ?_
        refine g_iadd C dX7_make_67  ?_
        refine g_put C 277 q_277 pk_P_33 rfl rfl dX7_make_68 ?_
        refine g_iinc C (lv' := [(3, .int (x3 + 1)), (4, .int ((d 277 1) ||| (1 <<< ((d 279 x3.toNatClampNeg) &&& 31)))), (0, .ref (w_r w 277)), (1, .ref (w_r w 16))]) (v := (x3 + 1)) dX7_make_71 3 rfl rfl (by decide) rfl ?_
        refine g_goto C dX7_make_74 (tgt := 23) rfl ?_
        refine g_sub [2, 3, 0] (lv' := [(0, .ref (w_r w 277)), (1, .ref (w_r w 16)), (3, .int (x3 + 1))]) rfl ?_
        exact hl1 ((x3 + 1), (wr (wr d 277 1 ((d 277 1) ||| (1 <<< ((d 279 x3.toNatClampNeg) &&& 31)))) 277 0 (((wr d 277 1 ((d 277 1) ||| (1 <<< ((d 279 x3.toNatClampNeg) &&& 31)))) 277 0) + 1))) (Option.some.inj h).symm
  unfold f_P_make at h
  refine g_aload_n C dX7_make_0 0 rfl ?_
  refine g_aload_n C dX7_make_1 1 rfl ?_
  refine g_iload_n C dX7_make_2 2 rfl ?_
  obtain ⟨d10, hc11, h⟩ := ob1_1 h
  refine g_callVv C 277 q_277 vk_P_21 hR rfl (m_P_findDueSets C.2.2.2.2.2.2.1 hc11) rfl rfl rfl dX7_make_3 rfl rfl ?_
  refine g_aload_n C dX7_make_6 0 rfl ?_
  refine g_aload_n C dX7_make_7 1 rfl ?_
  obtain ⟨d12, hc13, h⟩ := ob1_1 h
  refine g_callVv C 277 q_277 vk_P_25 hR rfl (m_P_orderVisits C.2.2.2.2.2.2.1 hc13) rfl rfl rfl dX7_make_8 rfl rfl ?_
  refine g_aload_n C dX7_make_11 0 rfl ?_
  refine g_iconst C dX7_make_12 (v := 0) rfl ?_
  refine g_put C 277 q_277 pk_P_29 rfl rfl dX7_make_13 ?_
  refine g_aload_n C dX7_make_16 0 rfl ?_
  refine g_iconst C dX7_make_17 (v := 0) rfl ?_
  refine g_put C 277 q_277 pk_P_33 rfl rfl dX7_make_18 ?_
  refine g_iconst C dX7_make_21 (v := 0) rfl ?_
  refine g_istore_n C (lv' := [(3, .int 0), (0, .ref (w_r w 277)), (1, .ref (w_r w 16)), (2, .int x2)]) dX7_make_22 (by decide) rfl ?_
  refine g_sub [1, 2, 0] (lv' := [(0, .ref (w_r w 277)), (1, .ref (w_r w 16)), (3, .int 0)]) rfl ?_
  exact R23 0 (wr (wr d12 277 1 0) 277 0 0) h
set_option maxHeartbeats 4000000 in
set_option maxRecDepth 100000 in
theorem m_G_join {w : wT} {l : Launch} {x1 x2 x3 : Int32} {d : Dt} {dE : Dt} (hO : okW w) (h : f_G_join x1 x2 x3 d = some dE) : gM w l yX2_join cX2_join 8 (Option.none : Option Jvm.ClassFile.FieldType) 0 [.ref (w_r w 281), .int x1, .int x2, .int x3] d dE none := by
  refine gM_of (by decide) [(0, .ref (w_r w 281)), (1, .int x1), (2, .int x2), (3, .int x3)] rfl rfl ?_ hO
  intro p e R s m args below meth c C hR hr hlk
  have R67 : ∀ (v1 : Int32) (v2 : Int32) (d : Dt), f_G_join_67  v1 v2 d = some dE → gG w p l e R s m args below meth c 8 0 0 (gE w below args s dE none) d [] 67 [.int v2, .int v1, .ref (w_r w 284)] := by
    intro  v1 v2 d  h
    unfold f_G_join_67 at h
    have hg2 := gd_1 h
    replace h := gd_2 h
    have hg3 := gd_1 h
    replace h := gd_2 h
    refine g_zast C 284 q_284 hg2 _ rfl (nar_v hg3) dX2_join_67 ?_
    exact g_vret C hr hlk (Option.some.inj h) rfl dX2_join_68
  have R62 : ∀ (v1 : Int32) (d : Dt), f_G_join_62  v1 d = some dE → gG w p l e R s m args below meth c 8 0 0 (gE w below args s dE none) d [] 62 [.int v1, .ref (w_r w 284)] := by
    intro  v1 d  h
    unfold f_G_join_62 at h
    refine g_iconst C dX2_join_62 (v := 1) rfl ?_
    refine g_goto C dX2_join_63 (tgt := 67) rfl ?_
    exact R67 v1 1 d h
  have R104 : ∀ (x4 : Int32) (x5 : Int32) (x6 : Int32) (x7 : Int32) (d : Dt), f_G_join_104 x4 x5 x6 x7 d = some dE → gG w p l e R s m args below meth c 8 0 0 (gE w below args s dE none) d [(0, .ref (w_r w 281)), (4, .int x4), (5, .int x5), (6, .int x6), (7, .int x7)] 104 [] := by
    intro x4 x5 x6 x7 d  h
    refine iter_ind (G := fun s_ : (Int32 × Dt) => gG w p l e R s m args below meth c 8 0 0 (gE w below args s dE none) s_.2 [(0, .ref (w_r w 281)), (4, .int x4), (5, .int x5), (6, .int x6), (7, .int s_.1)] 104 []) ?_ fu _ h
    clear h
    intro s_ y1 h hl1 hx1
    obtain ⟨x7, d⟩ := s_
    show gG w p l e R s m args below meth c 8 0 0 (gE w below args s dE none) d [(0, .ref (w_r w 281)), (4, .int x4), (5, .int x5), (6, .int x6), (7, .int x7)] 104 []
    dsimp only at h
    unfold st_G_join_104 at h
    refine g_iload C dX2_join_104 4 rfl ?_
    refine g_aload_n C dX2_join_106 0 rfl ?_
    refine g_get C (.int (d 281 0)) 281 q_281 fk_G_31 rfl dX2_join_107 ?_
    refine g_icmp_ge C dX2_join_110 (tgt := 152) rfl (fun q => ?_) (fun q => ?_)
    · replace h := it_t q h
      replace h := ir_2 h hx1
      exact g_vret C hr hlk (Option.some.inj h) rfl dX2_join_152
    · replace h := it_f q h
      refine g_aload_n C dX2_join_113 0 rfl ?_
      refine g_get C (.ref (w_r w 282)) 281 q_281 fk_G_9 rfl dX2_join_114 ?_
      refine g_iload C dX2_join_117 4 rfl ?_
      have hg4 := gd_1 h
      replace h := gd_2 h
      refine g_iald C 282 q_282 hg4 _ rfl dX2_join_119 ?_
      refine g_iload C dX2_join_120 2 rfl ?_
      refine g_icmp_ne C dX2_join_122 (tgt := 146) rfl (fun q => ?_) (fun q => ?_)
      · replace h := it_f q h
        refine g_iinc C (lv' := [(7, .int (x7 + 1)), (0, .ref (w_r w 281)), (4, .int x4), (5, .int x5), (6, .int x6)]) (v := (x7 + 1)) dX2_join_146 4 rfl rfl (by decide) rfl ?_
        refine g_goto C dX2_join_149 (tgt := 104) rfl ?_
        refine g_sub [1, 2, 3, 4, 0] (lv' := [(0, .ref (w_r w 281)), (4, .int x4), (5, .int x5), (6, .int x6), (7, .int (x7 + 1))]) rfl ?_
        exact hl1 ((x7 + 1), d) (Option.some.inj h).symm
      · replace h := it_t q h
        refine g_aload_n C dX2_join_125 0 rfl ?_
        refine g_get C (.ref (w_r w 282)) 281 q_281 fk_G_9 rfl dX2_join_126 ?_
        refine g_iload C dX2_join_129 4 rfl ?_
        refine g_iload C dX2_join_131 1 rfl ?_
        have hg5 := gd_1 h
        replace h := gd_2 h
        refine g_iast C 282 q_282 hg5 _ rfl  dX2_join_133 ?_
        refine g_aload_n C dX2_join_134 0 rfl ?_
        refine g_get C (.ref (w_r w 283)) 281 q_281 fk_G_15 rfl dX2_join_135 ?_
        refine g_iload C dX2_join_138 4 rfl ?_
        refine g_dup2 C dX2_join_140 rfl rfl ?_
        have hg6 := gd_1 h
        replace h := gd_2 h
        refine g_iald C 283 q_283 hg6 _ rfl dX2_join_141 ?_
        refine g_iload C dX2_join_142 3 rfl ?_
        refine g_ixor C dX2_join_144  ?_
        have hg7 := gd_1 h
        replace h := gd_2 h
        refine g_iast C 283 q_283 hg7 _ rfl  dX2_join_145 ?_
        refine g_iinc C (lv' := [(7, .int (x7 + 1)), (0, .ref (w_r w 281)), (4, .int x4), (5, .int x5), (6, .int x6)]) (v := (x7 + 1)) dX2_join_146 4 rfl rfl (by decide) rfl ?_
        refine g_goto C dX2_join_149 (tgt := 104) rfl ?_
        refine g_sub [1, 2, 3, 4, 0] (lv' := [(0, .ref (w_r w 281)), (4, .int x4), (5, .int x5), (6, .int x6), (7, .int (x7 + 1))]) rfl ?_
        exact hl1 ((x7 + 1), (wr (wr d 282 x7.toNatClampNeg x4) 283 x7.toNatClampNeg (((wr d 282 x7.toNatClampNeg x4) 283 x7.toNatClampNeg) ^^^ x6))) (Option.some.inj h).symm
  have R100 : ∀ (x4 : Int32) (x5 : Int32) (x6 : Int32) (v1 : Int32) (v2 : Int32) (d : Dt), f_G_join_100 x4 x5 x6 v1 v2 d = some dE → gG w p l e R s m args below meth c 8 0 0 (gE w below args s dE none) d [(0, .ref (w_r w 281)), (4, .int x4), (5, .int x5), (6, .int x6)] 100 [.int v2, .int v1, .ref (w_r w 284)] := by
    intro x4 x5 x6 v1 v2 d  h
    unfold f_G_join_100 at h
    have hg8 := gd_1 h
    replace h := gd_2 h
    have hg9 := gd_1 h
    replace h := gd_2 h
    refine g_zast C 284 q_284 hg8 _ rfl (nar_v hg9) dX2_join_100 ?_
    refine g_iconst C dX2_join_101 (v := 0) rfl ?_
    refine g_istore C (lv' := [(7, .int 0), (0, .ref (w_r w 281)), (4, .int x4), (5, .int x5), (6, .int x6)]) dX2_join_102 (by decide) rfl ?_
    refine g_sub [1, 2, 3, 4, 0] (lv' := [(0, .ref (w_r w 281)), (4, .int x4), (5, .int x5), (6, .int x6), (7, .int 0)]) rfl ?_
    exact R104 x4 x5 x6 0 (wr d 284 v1.toNatClampNeg v2) h
  have R95 : ∀ (x4 : Int32) (x5 : Int32) (x6 : Int32) (v1 : Int32) (d : Dt), f_G_join_95 x4 x5 x6 v1 d = some dE → gG w p l e R s m args below meth c 8 0 0 (gE w below args s dE none) d [(0, .ref (w_r w 281)), (4, .int x4), (5, .int x5), (6, .int x6)] 95 [.int v1, .ref (w_r w 284)] := by
    intro x4 x5 x6 v1 d  h
    unfold f_G_join_95 at h
    refine g_iconst C dX2_join_95 (v := 1) rfl ?_
    refine g_goto C dX2_join_96 (tgt := 100) rfl ?_
    exact R100 x4 x5 x6 v1 1 d h
  unfold f_G_join at h
  refine g_aload_n C dX2_join_0 0 rfl ?_
  refine g_get C (.ref (w_r w 282)) 281 q_281 fk_G_9 rfl dX2_join_1 ?_
  refine g_iload_n C dX2_join_4 1 rfl ?_
  have hg10 := gd_1 h
  replace h := gd_2 h
  refine g_iald C 282 q_282 hg10 _ rfl dX2_join_5 ?_
  refine g_istore C (lv' := [(4, .int (d 282 x1.toNatClampNeg)), (0, .ref (w_r w 281)), (1, .int x1), (2, .int x2), (3, .int x3)]) dX2_join_6 (by decide) rfl ?_
  refine g_aload_n C dX2_join_8 1 rfl ?_
  refine g_get C (.ref (w_r w 282)) 281 q_281 fk_G_9 rfl dX2_join_9 ?_
  refine g_iload_n C dX2_join_12 3 rfl ?_
  have hg11 := gd_1 h
  replace h := gd_2 h
  refine g_iald C 282 q_282 hg11 _ rfl dX2_join_13 ?_
  refine g_istore C (lv' := [(5, .int (d 282 x2.toNatClampNeg)), (4, .int (d 282 x1.toNatClampNeg)), (0, .ref (w_r w 281)), (1, .int x1), (2, .int x2), (3, .int x3)]) dX2_join_14 (by decide) rfl ?_
  refine g_aload_n C dX2_join_16 2 rfl ?_
  refine g_get C (.ref (w_r w 283)) 281 q_281 fk_G_15 rfl dX2_join_17 ?_
  refine g_iload_n C dX2_join_20 3 rfl ?_
  have hg12 := gd_1 h
  replace h := gd_2 h
  refine g_iald C 283 q_283 hg12 _ rfl dX2_join_21 ?_
  refine g_aload_n C dX2_join_22 2 rfl ?_
  refine g_get C (.ref (w_r w 283)) 281 q_281 fk_G_15 rfl dX2_join_23 ?_
  refine g_iload_n C dX2_join_26 4 rfl ?_
  have hg13 := gd_1 h
  replace h := gd_2 h
  refine g_iald C 283 q_283 hg13 _ rfl dX2_join_27 ?_
  refine g_ixor C dX2_join_28  ?_
  refine g_iload_n C dX2_join_29 5 rfl ?_
  refine g_ixor C dX2_join_30  ?_
  obtain ⟨t14, ht14, h⟩ := bnd_1 h
  refine g_nm ht14 ?_
  refine g_istore C (lv' := [(6, .int t14), (5, .int (d 282 x2.toNatClampNeg)), (4, .int (d 282 x1.toNatClampNeg)), (0, .ref (w_r w 281)), (1, .int x1), (2, .int x2), (3, .int x3)]) dX2_join_31 (by decide) rfl ?_
  refine g_iload C dX2_join_33 2 rfl ?_
  refine g_iload C dX2_join_35 1 rfl ?_
  refine g_icmp_ne C dX2_join_37 (tgt := 69) rfl (fun q => ?_) (fun q => ?_)
  · replace h := it_f q h
    refine g_aload_n C dX2_join_69 3 rfl ?_
    refine g_get C (.ref (w_r w 284)) 281 q_281 fk_G_18 rfl dX2_join_70 ?_
    refine g_iload C dX2_join_73 2 rfl ?_
    refine g_aload_n C dX2_join_75 3 rfl ?_
    refine g_get C (.ref (w_r w 284)) 281 q_281 fk_G_18 rfl dX2_join_76 ?_
    refine g_iload C dX2_join_79 2 rfl ?_
    have hg15 := gd_1 h
    replace h := gd_2 h
    refine g_zald C 284 q_284 hg15 _ rfl dX2_join_81 ?_
    refine g_if_ne C dX2_join_82 (tgt := 95) rfl (fun q => ?_) (fun q => ?_)
    · replace h := it_f q h
      refine g_sub [3, 2, 1, 0] (lv' := [(0, .ref (w_r w 281)), (4, .int (d 282 x1.toNatClampNeg)), (5, .int (d 282 x2.toNatClampNeg)), (6, .int t14)]) rfl ?_
      exact R95 (d 282 x1.toNatClampNeg) (d 282 x2.toNatClampNeg) t14 (d 282 x1.toNatClampNeg) d h
    · replace h := it_t q h
      refine g_aload_n C dX2_join_85 3 rfl ?_
      refine g_get C (.ref (w_r w 284)) 281 q_281 fk_G_18 rfl dX2_join_86 ?_
      refine g_iload C dX2_join_89 1 rfl ?_
      have hg16 := gd_1 h
      replace h := gd_2 h
      refine g_zald C 284 q_284 hg16 _ rfl dX2_join_91 ?_
      refine g_if_eq C dX2_join_92 (tgt := 99) rfl (fun q => ?_) (fun q => ?_)
      · replace h := it_t q h
        refine g_iconst C dX2_join_99 (v := 0) rfl ?_
        refine g_sub [3, 2, 1, 0] (lv' := [(0, .ref (w_r w 281)), (4, .int (d 282 x1.toNatClampNeg)), (5, .int (d 282 x2.toNatClampNeg)), (6, .int t14)]) rfl ?_
        exact R100 (d 282 x1.toNatClampNeg) (d 282 x2.toNatClampNeg) t14 (d 282 x1.toNatClampNeg) 0 d h
      · replace h := it_f q h
        refine g_sub [3, 2, 1, 0] (lv' := [(0, .ref (w_r w 281)), (4, .int (d 282 x1.toNatClampNeg)), (5, .int (d 282 x2.toNatClampNeg)), (6, .int t14)]) rfl ?_
        exact R95 (d 282 x1.toNatClampNeg) (d 282 x2.toNatClampNeg) t14 (d 282 x1.toNatClampNeg) d h
  · replace h := it_t q h
    refine g_aload_n C dX2_join_40 3 rfl ?_
    refine g_get C (.ref (w_r w 284)) 281 q_281 fk_G_18 rfl dX2_join_41 ?_
    refine g_iload C dX2_join_44 2 rfl ?_
    refine g_aload_n C dX2_join_46 3 rfl ?_
    refine g_get C (.ref (w_r w 284)) 281 q_281 fk_G_18 rfl dX2_join_47 ?_
    refine g_iload C dX2_join_50 2 rfl ?_
    have hg17 := gd_1 h
    replace h := gd_2 h
    refine g_zald C 284 q_284 hg17 _ rfl dX2_join_52 ?_
    refine g_if_ne C dX2_join_53 (tgt := 62) rfl (fun q => ?_) (fun q => ?_)
    · replace h := it_f q h
      refine g_sub [] (lv' := []) rfl ?_
      exact R62 (d 282 x1.toNatClampNeg) d h
    · replace h := it_t q h
      refine g_iload C dX2_join_56 0 rfl ?_
      refine g_iconst C dX2_join_58 (v := 1) rfl ?_
      refine g_icmp_ne C dX2_join_59 (tgt := 66) rfl (fun q => ?_) (fun q => ?_)
      · replace h := it_f q h
        refine g_iconst C dX2_join_66 (v := 0) rfl ?_
        refine g_sub [] (lv' := []) rfl ?_
        exact R67 (d 282 x1.toNatClampNeg) 0 d h
      · replace h := it_t q h
        refine g_sub [] (lv' := []) rfl ?_
        exact R62 (d 282 x1.toNatClampNeg) d h
set_option maxHeartbeats 4000000 in
set_option maxRecDepth 100000 in
theorem m_G_seenByLeader {w : wT} {l : Launch} {x1 x2 : Int32} {d : Dt} {rE : Int32} (hO : okW w) (h : f_G_seenByLeader x1 x2 d = some rE) : gM w l yX2_seenByLeader cX2_seenByLeader 3 (Option.some Jvm.ClassFile.FieldType.int) 0 [.ref (w_r w 281), .int x1, .int x2] d d (some (.int rE)) := by
  refine gM_of (by decide) [(0, .ref (w_r w 281)), (1, .int x1), (2, .int x2)] rfl rfl ?_ hO
  intro p e R s m args below meth c C hR hr hlk
  unfold f_G_seenByLeader at h
  refine g_aload_n C dX2_seenByLeader_0 0 rfl ?_
  refine g_get C (.ref (w_r w 283)) 281 q_281 fk_G_15 rfl dX2_seenByLeader_1 ?_
  refine g_iload_n C dX2_seenByLeader_4 1 rfl ?_
  have hg1 := gd_1 h
  replace h := gd_2 h
  refine g_iald C 283 q_283 hg1 _ rfl dX2_seenByLeader_5 ?_
  refine g_iconst C dX2_seenByLeader_6 (v := 1) rfl ?_
  refine g_icmp_ne C dX2_seenByLeader_7 (tgt := 16) rfl (fun q => ?_) (fun q => ?_)
  · replace h := it_f q h
    refine g_iload_n C dX2_seenByLeader_16 2 rfl ?_
    exact g_iret C hr hlk rfl rfl (congrArg (fun z => some (Value.int z)) (Option.some.inj h)) dX2_seenByLeader_17
  · replace h := it_t q h
    refine g_iconst C dX2_seenByLeader_10 (v := 3) rfl ?_
    refine g_iload_n C dX2_seenByLeader_11 2 rfl ?_
    refine g_isub C dX2_seenByLeader_12  ?_
    refine g_goto C dX2_seenByLeader_13 (tgt := 17) rfl ?_
    exact g_iret C hr hlk rfl rfl (congrArg (fun z => some (Value.int z)) (Option.some.inj h)) dX2_seenByLeader_17
set_option maxHeartbeats 4000000 in
set_option maxRecDepth 100000 in
theorem m_G_find {w : wT} {l : Launch} {x3 : Int32} {d : Dt} {dE : Dt} (hO : okW w) (h : f_G_find x3 d = some dE) : gM w l yX2_find cX2_find 5 (Option.none : Option Jvm.ClassFile.FieldType) 1 [.ref (w_r w 281), .ref (w_r w 3), .ref (w_r w 22), .int x3] d dE none := by
  refine gM_of (by decide) [(0, .ref (w_r w 281)), (1, .ref (w_r w 3)), (2, .ref (w_r w 22)), (3, .int x3)] rfl rfl ?_ hO
  intro p e R s m args below meth c C hR hr hlk
  have R123 : ∀ (x4 : Int32) (d : Dt), f_G_find_123 x4 d = some dE → gG w p l e R s m args below meth c 5 0 0 (gE w below args s dE none) d [(0, .ref (w_r w 281)), (1, .ref (w_r w 3)), (4, .int x4)] 123 [] := by
    intro x4 d  h
    refine iter_ind (G := fun s_ : (Int32 × Dt) => gG w p l e R s m args below meth c 5 0 0 (gE w below args s dE none) s_.2 [(0, .ref (w_r w 281)), (1, .ref (w_r w 3)), (4, .int s_.1)] 123 []) ?_ fu _ h
    clear h
    intro s_ y1 h hl1 hx1
    obtain ⟨x4, d⟩ := s_
    show gG w p l e R s m args below meth c 5 0 0 (gE w below args s dE none) d [(0, .ref (w_r w 281)), (1, .ref (w_r w 3)), (4, .int x4)] 123 []
    dsimp only at h
    unfold st_G_find_123 at h
    refine g_iload C dX2_find_123 2 rfl ?_
    refine g_aload_n C dX2_find_125 0 rfl ?_
    refine g_get C (.int (d 281 0)) 281 q_281 fk_G_31 rfl dX2_find_126 ?_
    refine g_icmp_ge C dX2_find_129 (tgt := 176) rfl (fun q => ?_) (fun q => ?_)
    · replace h := it_t q h
      replace h := ir_2 h hx1
      exact g_vret C hr hlk (Option.some.inj h) rfl dX2_find_176
    · replace h := it_f q h
      refine g_aload_n C dX2_find_132 1 rfl ?_
      refine g_get C (.ref (w_r w 5)) 3 q_3 fk_G_48 rfl dX2_find_133 ?_
      refine g_iload C dX2_find_136 2 rfl ?_
      have hg3 := gd_1 h
      replace h := gd_2 h
      refine g_iald C 5 q_5 hg3 _ rfl dX2_find_138 ?_
      refine g_if_eq C dX2_find_139 (tgt := 170) rfl (fun q => ?_) (fun q => ?_)
      · replace h := it_t q h
        refine g_iinc C (lv' := [(4, .int (x4 + 1)), (0, .ref (w_r w 281)), (1, .ref (w_r w 3))]) (v := (x4 + 1)) dX2_find_170 2 rfl rfl (by decide) rfl ?_
        refine g_goto C dX2_find_173 (tgt := 123) rfl ?_
        refine g_sub [1, 2, 0] (lv' := [(0, .ref (w_r w 281)), (1, .ref (w_r w 3)), (4, .int (x4 + 1))]) rfl ?_
        exact hl1 ((x4 + 1), d) (Option.some.inj h).symm
      · replace h := it_f q h
        refine g_aload_n C dX2_find_142 0 rfl ?_
        refine g_get C (.ref (w_r w 285)) 281 q_281 fk_G_22 rfl dX2_find_143 ?_
        refine g_aload_n C dX2_find_146 0 rfl ?_
        refine g_get C (.ref (w_r w 282)) 281 q_281 fk_G_9 rfl dX2_find_147 ?_
        refine g_iload C dX2_find_150 2 rfl ?_
        have hg4 := gd_1 h
        replace h := gd_2 h
        refine g_iald C 282 q_282 hg4 _ rfl dX2_find_152 ?_
        refine g_dup2 C dX2_find_153 rfl rfl ?_
        have hg5 := gd_1 h
        replace h := gd_2 h
        refine g_iald C 285 q_285 hg5 _ rfl dX2_find_154 ?_
        refine g_aload_n C dX2_find_155 0 rfl ?_
        refine g_iload C dX2_find_156 2 rfl ?_
        refine g_aload_n C dX2_find_158 1 rfl ?_
        refine g_get C (.ref (w_r w 5)) 3 q_3 fk_G_48 rfl dX2_find_159 ?_
        refine g_iload C dX2_find_162 2 rfl ?_
        have hg6 := gd_1 h
        replace h := gd_2 h
        refine g_iald C 5 q_5 hg6 _ rfl dX2_find_164 ?_
        obtain ⟨r7, hc8, h⟩ := ob1_1 h
        refine g_callVi C 281 q_281 vk_G_51 hR rfl (m_G_seenByLeader C.2.2.2.2.2.2.1 hc8) rfl rfl rfl dX2_find_165 rfl rfl ?_
        refine g_ior C dX2_find_168  ?_
        have hg9 := gd_1 h
        replace h := gd_2 h
        refine g_iast C 285 q_285 hg9 _ rfl  dX2_find_169 ?_
        refine g_iinc C (lv' := [(4, .int (x4 + 1)), (0, .ref (w_r w 281)), (1, .ref (w_r w 3))]) (v := (x4 + 1)) dX2_find_170 2 rfl rfl (by decide) rfl ?_
        refine g_goto C dX2_find_173 (tgt := 123) rfl ?_
        refine g_sub [1, 2, 0] (lv' := [(0, .ref (w_r w 281)), (1, .ref (w_r w 3)), (4, .int (x4 + 1))]) rfl ?_
        exact hl1 ((x4 + 1), (wr d 285 (d 282 x4.toNatClampNeg).toNatClampNeg ((d 285 (d 282 x4.toNatClampNeg).toNatClampNeg) ||| r7))) (Option.some.inj h).symm
  have R62 : ∀ (x3 : Int32) (x4 : Int32) (d : Dt), f_G_find_62 x3 x4 d = some dE → gG w p l e R s m args below meth c 5 0 0 (gE w below args s dE none) d [(0, .ref (w_r w 281)), (1, .ref (w_r w 3)), (2, .ref (w_r w 22)), (3, .int x3), (4, .int x4)] 62 [] := by
    intro x3 x4 d  h
    refine iter_ind (G := fun s_ : (Int32 × Dt) => gG w p l e R s m args below meth c 5 0 0 (gE w below args s dE none) s_.2 [(0, .ref (w_r w 281)), (1, .ref (w_r w 3)), (2, .ref (w_r w 22)), (3, .int x3), (4, .int s_.1)] 62 []) ?_ fu _ h
    clear h
    intro s_ y1 h hl1 hx1
    obtain ⟨x4, d⟩ := s_
    show gG w p l e R s m args below meth c 5 0 0 (gE w below args s dE none) d [(0, .ref (w_r w 281)), (1, .ref (w_r w 3)), (2, .ref (w_r w 22)), (3, .int x3), (4, .int x4)] 62 []
    dsimp only at h
    unfold st_G_find_62 at h
    have R111 : ∀ (x4 : Int32) (v1 : Int32) (v2 : Int32) (v3 : Int32) (d : Dt), f_G_find_111 x3 x4 v1 v2 v3 d = some y1 → gG w p l e R s m args below meth c 5 0 0 (gE w below args s dE none) d [(0, .ref (w_r w 281)), (1, .ref (w_r w 3)), (2, .ref (w_r w 22)), (3, .int x3), (4, .int x4)] 111 [.int v3, .int v2, .int v1, .ref (w_r w 281)] := by
      intro x4 v1 v2 v3 d  h
      unfold f_G_find_111 at h
      obtain ⟨d10, hc11, h⟩ := ob1_1 h
      refine g_callVv C 281 q_281 vk_G_44 hR rfl (m_G_join C.2.2.2.2.2.2.1 hc11) rfl rfl rfl dX2_find_111 rfl rfl ?_
      refine g_iinc C (lv' := [(4, .int (x4 + 1)), (0, .ref (w_r w 281)), (1, .ref (w_r w 3)), (2, .ref (w_r w 22)), (3, .int x3)]) (v := (x4 + 1)) dX2_find_114 4 rfl rfl (by decide) rfl ?_
      refine g_goto C dX2_find_117 (tgt := 62) rfl ?_
      refine g_sub [1, 2, 3, 4, 0] (lv' := [(0, .ref (w_r w 281)), (1, .ref (w_r w 3)), (2, .ref (w_r w 22)), (3, .int x3), (4, .int (x4 + 1))]) rfl ?_
      exact hl1 ((x4 + 1), d10) (Option.some.inj h).symm
    refine g_iload C dX2_find_62 4 rfl ?_
    refine g_aload_n C dX2_find_64 2 rfl ?_
    refine g_get C (.int (d 22 0)) 22 q_22 fk_G_32 rfl dX2_find_65 ?_
    refine g_icmp_ge C dX2_find_68 (tgt := 120) rfl (fun q => ?_) (fun q => ?_)
    · replace h := it_t q h
      replace h := ir_2 h hx1
      refine g_iconst C dX2_find_120 (v := 0) rfl ?_
      refine g_istore C (lv' := [(4, .int 0), (0, .ref (w_r w 281)), (1, .ref (w_r w 3)), (2, .ref (w_r w 22)), (3, .int x3)]) dX2_find_121 (by decide) rfl ?_
      refine g_sub [1, 2, 0] (lv' := [(0, .ref (w_r w 281)), (1, .ref (w_r w 3)), (4, .int 0)]) rfl ?_
      exact R123 0 d h
    · replace h := it_f q h
      refine g_iload_n C dX2_find_71 3 rfl ?_
      refine g_iload C dX2_find_72 4 rfl ?_
      refine g_ishr C dX2_find_74  ?_
      refine g_iconst C dX2_find_75 (v := 1) rfl ?_
      refine g_iand C dX2_find_76  ?_
      refine g_iconst C dX2_find_77 (v := 1) rfl ?_
      refine g_icmp_ne C dX2_find_78 (tgt := 114) rfl (fun q => ?_) (fun q => ?_)
      · replace h := it_f q h
        refine g_iinc C (lv' := [(4, .int (x4 + 1)), (0, .ref (w_r w 281)), (1, .ref (w_r w 3)), (2, .ref (w_r w 22)), (3, .int x3)]) (v := (x4 + 1)) dX2_find_114 4 rfl rfl (by decide) rfl ?_
        refine g_goto C dX2_find_117 (tgt := 62) rfl ?_
        refine g_sub [1, 2, 3, 4, 0] (lv' := [(0, .ref (w_r w 281)), (1, .ref (w_r w 3)), (2, .ref (w_r w 22)), (3, .int x3), (4, .int (x4 + 1))]) rfl ?_
        exact hl1 ((x4 + 1), d) (Option.some.inj h).symm
      · replace h := it_t q h
        refine g_aload_n C dX2_find_81 0 rfl ?_
        refine g_aload_n C dX2_find_82 2 rfl ?_
        refine g_get C (.ref (w_r w 23)) 22 q_22 fk_G_35 rfl dX2_find_83 ?_
        refine g_iload C dX2_find_86 4 rfl ?_
        have hg12 := gd_1 h
        replace h := gd_2 h
        refine g_iald C 23 q_23 hg12 _ rfl dX2_find_88 ?_
        refine g_aload_n C dX2_find_89 2 rfl ?_
        refine g_get C (.ref (w_r w 24)) 22 q_22 fk_G_38 rfl dX2_find_90 ?_
        refine g_iload C dX2_find_93 4 rfl ?_
        have hg13 := gd_1 h
        replace h := gd_2 h
        refine g_iald C 24 q_24 hg13 _ rfl dX2_find_95 ?_
        refine g_aload_n C dX2_find_96 2 rfl ?_
        refine g_get C (.ref (w_r w 25)) 22 q_22 fk_G_41 rfl dX2_find_97 ?_
        refine g_iload C dX2_find_100 4 rfl ?_
        have hg14 := gd_1 h
        replace h := gd_2 h
        refine g_zald C 25 q_25 hg14 _ rfl dX2_find_102 ?_
        refine g_if_eq C dX2_find_103 (tgt := 110) rfl (fun q => ?_) (fun q => ?_)
        · replace h := it_t q h
          refine g_iconst C dX2_find_110 (v := 1) rfl ?_
          exact R111 x4 (d 23 x4.toNatClampNeg) (d 24 x4.toNatClampNeg) 1 d h
        · replace h := it_f q h
          refine g_iconst C dX2_find_106 (v := 0) rfl ?_
          refine g_goto C dX2_find_107 (tgt := 111) rfl ?_
          exact R111 x4 (d 23 x4.toNatClampNeg) (d 24 x4.toNatClampNeg) 0 d h
  have R11 : ∀ (x3 : Int32) (x4 : Int32) (d : Dt), f_G_find_11 x3 x4 d = some dE → gG w p l e R s m args below meth c 5 0 0 (gE w below args s dE none) d [(0, .ref (w_r w 281)), (1, .ref (w_r w 3)), (2, .ref (w_r w 22)), (3, .int x3), (4, .int x4)] 11 [] := by
    intro x3 x4 d  h
    refine iter_ind (G := fun s_ : (Int32 × Dt) => gG w p l e R s m args below meth c 5 0 0 (gE w below args s dE none) s_.2 [(0, .ref (w_r w 281)), (1, .ref (w_r w 3)), (2, .ref (w_r w 22)), (3, .int x3), (4, .int s_.1)] 11 []) ?_ fu _ h
    clear h
    intro s_ y1 h hl1 hx1
    obtain ⟨x4, d⟩ := s_
    show gG w p l e R s m args below meth c 5 0 0 (gE w below args s dE none) d [(0, .ref (w_r w 281)), (1, .ref (w_r w 3)), (2, .ref (w_r w 22)), (3, .int x3), (4, .int x4)] 11 []
    dsimp only at h
    unfold st_G_find_11 at h
    refine g_iload C dX2_find_11 4 rfl ?_
    refine g_aload_n C dX2_find_13 0 rfl ?_
    refine g_get C (.int (d 281 0)) 281 q_281 fk_G_31 rfl dX2_find_14 ?_
    refine g_icmp_ge C dX2_find_17 (tgt := 59) rfl (fun q => ?_) (fun q => ?_)
    · replace h := it_t q h
      replace h := ir_2 h hx1
      refine g_iconst C dX2_find_59 (v := 0) rfl ?_
      refine g_istore C (lv' := [(4, .int 0), (0, .ref (w_r w 281)), (1, .ref (w_r w 3)), (2, .ref (w_r w 22)), (3, .int x3)]) dX2_find_60 (by decide) rfl ?_
      refine g_sub [1, 2, 3, 4, 0] (lv' := [(0, .ref (w_r w 281)), (1, .ref (w_r w 3)), (2, .ref (w_r w 22)), (3, .int x3), (4, .int 0)]) rfl ?_
      exact R62 x3 0 d h
    · replace h := it_f q h
      refine g_aload_n C dX2_find_20 0 rfl ?_
      refine g_get C (.ref (w_r w 282)) 281 q_281 fk_G_9 rfl dX2_find_21 ?_
      refine g_iload C dX2_find_24 4 rfl ?_
      refine g_iload C dX2_find_26 4 rfl ?_
      have hg15 := gd_1 h
      replace h := gd_2 h
      refine g_iast C 282 q_282 hg15 _ rfl  dX2_find_28 ?_
      refine g_aload_n C dX2_find_29 0 rfl ?_
      refine g_get C (.ref (w_r w 283)) 281 q_281 fk_G_15 rfl dX2_find_30 ?_
      refine g_iload C dX2_find_33 4 rfl ?_
      refine g_iconst C dX2_find_35 (v := 0) rfl ?_
      have hg16 := gd_1 h
      replace h := gd_2 h
      refine g_iast C 283 q_283 hg16 _ rfl  dX2_find_36 ?_
      refine g_aload_n C dX2_find_37 0 rfl ?_
      refine g_get C (.ref (w_r w 284)) 281 q_281 fk_G_18 rfl dX2_find_38 ?_
      refine g_iload C dX2_find_41 4 rfl ?_
      refine g_iconst C dX2_find_43 (v := 0) rfl ?_
      have hg17 := gd_1 h
      replace h := gd_2 h
      refine g_zast C 284 q_284 hg17 _ rfl (nar_v (by decide)) dX2_find_44 ?_
      refine g_aload_n C dX2_find_45 0 rfl ?_
      refine g_get C (.ref (w_r w 285)) 281 q_281 fk_G_22 rfl dX2_find_46 ?_
      refine g_iload C dX2_find_49 4 rfl ?_
      refine g_iconst C dX2_find_51 (v := 0) rfl ?_
      have hg18 := gd_1 h
      replace h := gd_2 h
      refine g_iast C 285 q_285 hg18 _ rfl  dX2_find_52 ?_
      refine g_iinc C (lv' := [(4, .int (x4 + 1)), (0, .ref (w_r w 281)), (1, .ref (w_r w 3)), (2, .ref (w_r w 22)), (3, .int x3)]) (v := (x4 + 1)) dX2_find_53 4 rfl rfl (by decide) rfl ?_
      refine g_goto C dX2_find_56 (tgt := 11) rfl ?_
      refine g_sub [1, 2, 3, 4, 0] (lv' := [(0, .ref (w_r w 281)), (1, .ref (w_r w 3)), (2, .ref (w_r w 22)), (3, .int x3), (4, .int (x4 + 1))]) rfl ?_
      exact hl1 ((x4 + 1), (wr (wr (wr (wr d 282 x4.toNatClampNeg x4) 283 x4.toNatClampNeg 0) 284 x4.toNatClampNeg 0) 285 x4.toNatClampNeg 0)) (Option.some.inj h).symm
  unfold f_G_find at h
  refine g_aload_n C dX2_find_0 0 rfl ?_
  refine g_aload_n C dX2_find_1 1 rfl ?_
  refine g_get C (.int (d 3 0)) 3 q_3 fk_G_25 rfl dX2_find_2 ?_
  refine g_put C 281 q_281 pk_G_31 rfl rfl dX2_find_5 ?_
  refine g_iconst C dX2_find_8 (v := 0) rfl ?_
  refine g_istore C (lv' := [(4, .int 0), (0, .ref (w_r w 281)), (1, .ref (w_r w 3)), (2, .ref (w_r w 22)), (3, .int x3)]) dX2_find_9 (by decide) rfl ?_
  refine g_sub [1, 2, 3, 4, 0] (lv' := [(0, .ref (w_r w 281)), (1, .ref (w_r w 3)), (2, .ref (w_r w 22)), (3, .int x3), (4, .int 0)]) rfl ?_
  exact R11 x3 0 (wr d 281 0 (d 3 0)) h
set_option maxHeartbeats 4000000 in
set_option maxRecDepth 100000 in
theorem m_G_isBroken {w : wT} {l : Launch} {x1 : Int32} {d : Dt} {rE : Int32} (hO : okW w) (h : f_G_isBroken x1 d = some rE) : gM w l yX2_isBroken cX2_isBroken 2 (Option.some Jvm.ClassFile.FieldType.boolean) 0 [.ref (w_r w 281), .int x1] d d (some (.int rE)) := by
  refine gM_of (by decide) [(0, .ref (w_r w 281)), (1, .int x1)] rfl rfl ?_ hO
  intro p e R s m args below meth c C hR hr hlk
  unfold f_G_isBroken at h
  refine g_aload_n C dX2_isBroken_0 0 rfl ?_
  refine g_get C (.ref (w_r w 284)) 281 q_281 fk_G_18 rfl dX2_isBroken_1 ?_
  refine g_aload_n C dX2_isBroken_4 0 rfl ?_
  refine g_get C (.ref (w_r w 282)) 281 q_281 fk_G_9 rfl dX2_isBroken_5 ?_
  refine g_iload_n C dX2_isBroken_8 1 rfl ?_
  have hg1 := gd_1 h
  replace h := gd_2 h
  refine g_iald C 282 q_282 hg1 _ rfl dX2_isBroken_9 ?_
  have hg2 := gd_1 h
  replace h := gd_2 h
  refine g_zald C 284 q_284 hg2 _ rfl dX2_isBroken_10 ?_
  refine g_if_ne C dX2_isBroken_11 (tgt := 29) rfl (fun q => ?_) (fun q => ?_)
  · replace h := it_f q h
    refine g_iconst C dX2_isBroken_29 (v := 1) rfl ?_
    refine g_goto C dX2_isBroken_30 (tgt := 34) rfl ?_
    exact g_iret C hr hlk rfl rfl (congrArg (fun z => some (Value.int z)) (Option.some.inj h)) dX2_isBroken_34
  · replace h := it_t q h
    refine g_aload_n C dX2_isBroken_14 0 rfl ?_
    refine g_get C (.ref (w_r w 285)) 281 q_281 fk_G_22 rfl dX2_isBroken_15 ?_
    refine g_aload_n C dX2_isBroken_18 0 rfl ?_
    refine g_get C (.ref (w_r w 282)) 281 q_281 fk_G_9 rfl dX2_isBroken_19 ?_
    refine g_iload_n C dX2_isBroken_22 1 rfl ?_
    have hg3 := gd_1 h
    replace h := gd_2 h
    refine g_iald C 282 q_282 hg3 _ rfl dX2_isBroken_23 ?_
    have hg4 := gd_1 h
    replace h := gd_2 h
    refine g_iald C 285 q_285 hg4 _ rfl dX2_isBroken_24 ?_
    refine g_iconst C dX2_isBroken_25 (v := 3) rfl ?_
    refine g_icmp_ne C dX2_isBroken_26 (tgt := 33) rfl (fun q => ?_) (fun q => ?_)
    · replace h := it_f q h
      refine g_iconst C dX2_isBroken_33 (v := 0) rfl ?_
      exact g_iret C hr hlk rfl rfl (congrArg (fun z => some (Value.int z)) (Option.some.inj h)) dX2_isBroken_34
    · replace h := it_t q h
      refine g_iconst C dX2_isBroken_29 (v := 1) rfl ?_
      refine g_goto C dX2_isBroken_30 (tgt := 34) rfl ?_
      exact g_iret C hr hlk rfl rfl (congrArg (fun z => some (Value.int z)) (Option.some.inj h)) dX2_isBroken_34
set_option maxHeartbeats 4000000 in
set_option maxRecDepth 100000 in
theorem m_G_verdictOn {w : wT} {l : Launch} {x1 : Int32} {d : Dt} {rE : Int32} (hO : okW w) (h : f_G_verdictOn x1 d = some rE) : gM w l yX2_verdictOn cX2_verdictOn 3 (Option.some Jvm.ClassFile.FieldType.char) 1 [.ref (w_r w 281), .int x1] d d (some (.int rE)) := by
  refine gM_of (by decide) [(0, .ref (w_r w 281)), (1, .int x1)] rfl rfl ?_ hO
  intro p e R s m args below meth c C hR hr hlk
  unfold f_G_verdictOn at h
  refine g_aload_n C dX2_verdictOn_0 0 rfl ?_
  refine g_iload_n C dX2_verdictOn_1 1 rfl ?_
  obtain ⟨r3, hc4, h⟩ := ob1_1 h
  refine g_callVi C 281 q_281 vk_G_55 hR rfl (m_G_isBroken C.2.2.2.2.2.2.1 hc4) rfl rfl rfl dX2_verdictOn_2 rfl rfl ?_
  refine g_if_eq C dX2_verdictOn_5 (tgt := 11) rfl (fun q => ?_) (fun q => ?_)
  · replace h := it_t q h
    refine g_aload_n C dX2_verdictOn_11 0 rfl ?_
    refine g_get C (.ref (w_r w 285)) 281 q_281 fk_G_22 rfl dX2_verdictOn_12 ?_
    refine g_aload_n C dX2_verdictOn_15 0 rfl ?_
    refine g_get C (.ref (w_r w 282)) 281 q_281 fk_G_9 rfl dX2_verdictOn_16 ?_
    refine g_iload_n C dX2_verdictOn_19 1 rfl ?_
    have hg5 := gd_1 h
    replace h := gd_2 h
    refine g_iald C 282 q_282 hg5 _ rfl dX2_verdictOn_20 ?_
    have hg6 := gd_1 h
    replace h := gd_2 h
    refine g_iald C 285 q_285 hg6 _ rfl dX2_verdictOn_21 ?_
    refine g_istore_n C (lv' := [(2, .int (d 285 (d 282 x1.toNatClampNeg).toNatClampNeg)), (0, .ref (w_r w 281)), (1, .int x1)]) dX2_verdictOn_22 (by decide) rfl ?_
    refine g_iload_n C dX2_verdictOn_23 0 rfl ?_
    refine g_if_ne C dX2_verdictOn_24 (tgt := 30) rfl (fun q => ?_) (fun q => ?_)
    · replace h := it_f q h
      refine g_aload_n C dX2_verdictOn_30 1 rfl ?_
      refine g_iload_n C dX2_verdictOn_31 2 rfl ?_
      refine g_iload_n C dX2_verdictOn_32 0 rfl ?_
      obtain ⟨r7, hc8, h⟩ := ob1_1 h
      refine g_callVi C 281 q_281 vk_G_51 hR rfl (m_G_seenByLeader C.2.2.2.2.2.2.1 hc8) rfl rfl rfl dX2_verdictOn_33 rfl rfl ?_
      refine g_iconst C dX2_verdictOn_36 (v := 1) rfl ?_
      refine g_icmp_ne C dX2_verdictOn_37 (tgt := 45) rfl (fun q => ?_) (fun q => ?_)
      · replace h := it_f q h
        refine g_bipush C dX2_verdictOn_45 (v := 105) (by decide) ?_
        exact g_iret C hr hlk rfl rfl (congrArg (fun z => some (Value.int z)) (Option.some.inj h)) dX2_verdictOn_47
      · replace h := it_t q h
        refine g_bipush C dX2_verdictOn_40 (v := 103) (by decide) ?_
        refine g_goto C dX2_verdictOn_42 (tgt := 47) rfl ?_
        exact g_iret C hr hlk rfl rfl (congrArg (fun z => some (Value.int z)) (Option.some.inj h)) dX2_verdictOn_47
    · replace h := it_t q h
      refine g_bipush C dX2_verdictOn_27 (v := 117) (by decide) ?_
      exact g_iret C hr hlk rfl rfl (congrArg (fun z => some (Value.int z)) (Option.some.inj h)) dX2_verdictOn_29
  · replace h := it_f q h
    refine g_bipush C dX2_verdictOn_8 (v := 109) (by decide) ?_
    exact g_iret C hr hlk rfl rfl (congrArg (fun z => some (Value.int z)) (Option.some.inj h)) dX2_verdictOn_10
set_option maxHeartbeats 4000000 in
set_option maxRecDepth 100000 in
theorem m_L_addSentence {w : wT} {l : Launch} {x1 x2 : Int32} {d : Dt} {dE : Dt} (hO : okW w) (h : f_L_addSentence x1 x2 d = some dE) : gM w l yX5_addSentence cX5_addSentence 3 (Option.none : Option Jvm.ClassFile.FieldType) 0 [.ref (w_r w 3), .int x1, .int x2] d dE none := by
  refine gM_of (by decide) [(0, .ref (w_r w 3)), (1, .int x1), (2, .int x2)] rfl rfl ?_ hO
  intro p e R s m args below meth c C hR hr hlk
  unfold f_L_addSentence at h
  refine g_aload_n C dX5_addSentence_0 0 rfl ?_
  refine g_get C (.ref (w_r w 6)) 3 q_3 fk_L_18 rfl dX5_addSentence_1 ?_
  refine g_iload_n C dX5_addSentence_4 1 rfl ?_
  have hg1 := gd_1 h
  replace h := gd_2 h
  refine g_iald C 6 q_6 hg1 _ rfl dX5_addSentence_5 ?_
  refine g_bipush C dX5_addSentence_6 (v := 8) (by decide) ?_
  refine g_icmp_ge C dX5_addSentence_8 (tgt := 35) rfl (fun q => ?_) (fun q => ?_)
  · replace h := it_t q h
    exact g_vret C hr hlk (Option.some.inj h) rfl dX5_addSentence_35
  · replace h := it_f q h
    refine g_aload_n C dX5_addSentence_11 0 rfl ?_
    refine g_get C (.ref (w_r w 7)) 3 q_3 fk_L_23 rfl dX5_addSentence_12 ?_
    refine g_iload_n C dX5_addSentence_15 1 rfl ?_
    have hg2 := gd_1 h
    replace h := gd_2 h
    refine g_aald C 7 q_7 hg2 dX5_addSentence_16 ?_
    refine g_aload_n C dX5_addSentence_17 0 rfl ?_
    refine g_get C (.ref (w_r w 6)) 3 q_3 fk_L_18 rfl dX5_addSentence_18 ?_
    refine g_iload_n C dX5_addSentence_21 1 rfl ?_
    have hg3 := gd_1 h
    replace h := gd_2 h
    refine g_iald C 6 q_6 hg3 _ rfl dX5_addSentence_22 ?_
    refine g_iload_n C dX5_addSentence_23 2 rfl ?_
    have hg4 := gd_1 h
    replace h := gd_2 h
    refine g_iast C (8 + x1.toNatClampNeg) (isC_row8 hg2) hg4 _ rfl  dX5_addSentence_24 ?_
    refine g_aload_n C dX5_addSentence_25 0 rfl ?_
    refine g_get C (.ref (w_r w 6)) 3 q_3 fk_L_18 rfl dX5_addSentence_26 ?_
    refine g_iload_n C dX5_addSentence_29 1 rfl ?_
    refine g_dup2 C dX5_addSentence_30 rfl rfl ?_
    have hg5 := gd_1 h
    replace h := gd_2 h
    refine g_iald C 6 q_6 hg5 _ rfl dX5_addSentence_31 ?_
    refine g_iconst C dX5_addSentence_32 (v := 1) rfl ?_
    refine g_iadd C dX5_addSentence_33  ?_
    have hg6 := gd_1 h
    replace h := gd_2 h
    refine g_iast C 6 q_6 hg6 _ rfl  dX5_addSentence_34 ?_
    exact g_vret C hr hlk (Option.some.inj h) rfl dX5_addSentence_35
set_option maxHeartbeats 4000000 in
set_option maxRecDepth 100000 in
theorem m_S_closeHearing {w : wT} {l : Launch} {x1 x2 : Int32} {d : Dt} {dE : Dt} (hO : okW w) (h : f_S_closeHearing x1 x2 d = some dE) : gM w l yX8_closeHearing cX8_closeHearing 4 (Option.none : Option Jvm.ClassFile.FieldType) 4 [.ref (w_r w 2), .int x1, .int x2] d dE none := by
  refine gM_of (by decide) [(0, .ref (w_r w 2)), (1, .int x1), (2, .int x2)] rfl rfl ?_ hO
  intro p e R s m args below meth c C hR hr hlk
  have R87 : ∀ (x1 : Int32) (d : Dt), f_S_closeHearing_87 x1  d = some dE → gG w p l e R s m args below meth c 4 0 0 (gE w below args s dE none) d [(0, .ref (w_r w 2)), (1, .int x1)] 87 [] := by
    intro x1  d  h
    unfold f_S_closeHearing_87 at h
    refine g_aload_n C dX8_closeHearing_87 0 rfl ?_
    refine g_get C (.ref (w_r w 16)) 2 q_2 fk_S_21 rfl dX8_closeHearing_88 ?_
    refine g_iload_n C dX8_closeHearing_91 1 rfl ?_
    obtain ⟨d4, hc5, h⟩ := ob1_1 h
    refine g_callVv C 16 q_16 vk_S_75 hR rfl (m_B_remove C.2.2.2.2.2.2.1 hc5) rfl rfl rfl dX8_closeHearing_92 rfl rfl ?_
    exact g_vret C hr hlk (Option.some.inj h) rfl dX8_closeHearing_95
  have R61 : ∀ (x1 : Int32) (x2 : Int32) (d : Dt), f_S_closeHearing_61 x1 x2  d = some dE → gG w p l e R s m args below meth c 4 0 0 (gE w below args s dE none) d [(0, .ref (w_r w 2)), (1, .int x1), (2, .int x2)] 61 [] := by
    intro x1 x2  d  h
    unfold f_S_closeHearing_61 at h
    refine g_iload_n C dX8_closeHearing_61 2 rfl ?_
    refine g_bipush C dX8_closeHearing_62 (v := 109) (by decide) ?_
    refine g_icmp_ne C dX8_closeHearing_64 (tgt := 87) rfl (fun q => ?_) (fun q => ?_)
    · replace h := it_f q h
      refine g_sub [0, 1] (lv' := [(0, .ref (w_r w 2)), (1, .int x1)]) rfl ?_
      exact R87 x1 d h
    · replace h := it_t q h
      refine g_aload_n C dX8_closeHearing_67 0 rfl ?_
      refine g_dup C dX8_closeHearing_68 rfl ?_
      refine g_get C (.int (d 2 5)) 2 q_2 fk_S_53 rfl dX8_closeHearing_69 ?_
      refine g_aload_n C dX8_closeHearing_72 0 rfl ?_
      refine g_get C (.ref (w_r w 16)) 2 q_2 fk_S_21 rfl dX8_closeHearing_73 ?_
      refine g_get C (.ref (w_r w 20)) 16 q_16 fk_S_72 rfl dX8_closeHearing_76 ?_
      refine g_iload_n C dX8_closeHearing_79 1 rfl ?_
      have hg6 := gd_1 h
      replace h := gd_2 h
      refine g_iald C 20 q_20 hg6 _ rfl dX8_closeHearing_80 ?_
      refine g_iconst C dX8_closeHearing_81 (v := 2) rfl ?_
      refine g_idiv C dX8_closeHearing_82 (by decide) ?_
      refine g_iadd C dX8_closeHearing_83  ?_
      refine g_put C 2 q_2 pk_S_53 rfl rfl dX8_closeHearing_84 ?_
      refine g_sub [0, 1] (lv' := [(0, .ref (w_r w 2)), (1, .int x1)]) rfl ?_
      exact R87 x1 (wr d 2 5 ((d 2 5) + ((d 20 x1.toNatClampNeg) / 2))) h
  have R30 : ∀ (x1 : Int32) (x2 : Int32) (d : Dt), f_S_closeHearing_30 x1 x2  d = some dE → gG w p l e R s m args below meth c 4 0 0 (gE w below args s dE none) d [(0, .ref (w_r w 2)), (1, .int x1), (2, .int x2)] 30 [] := by
    intro x1 x2  d  h
    unfold f_S_closeHearing_30 at h
    refine g_iload_n C dX8_closeHearing_30 2 rfl ?_
    refine g_bipush C dX8_closeHearing_31 (v := 103) (by decide) ?_
    refine g_icmp_ne C dX8_closeHearing_33 (tgt := 61) rfl (fun q => ?_) (fun q => ?_)
    · replace h := it_f q h
      exact R61 x1 x2 d h
    · replace h := it_t q h
      refine g_aload_n C dX8_closeHearing_36 0 rfl ?_
      refine g_get C (.ref (w_r w 3)) 2 q_2 fk_S_12 rfl dX8_closeHearing_37 ?_
      refine g_aload_n C dX8_closeHearing_40 0 rfl ?_
      refine g_get C (.ref (w_r w 16)) 2 q_2 fk_S_21 rfl dX8_closeHearing_41 ?_
      refine g_get C (.ref (w_r w 18)) 16 q_16 fk_S_87 rfl dX8_closeHearing_44 ?_
      refine g_iload_n C dX8_closeHearing_47 1 rfl ?_
      have hg7 := gd_1 h
      replace h := gd_2 h
      refine g_iald C 18 q_18 hg7 _ rfl dX8_closeHearing_48 ?_
      refine g_aload_n C dX8_closeHearing_49 0 rfl ?_
      refine g_get C (.ref (w_r w 16)) 2 q_2 fk_S_21 rfl dX8_closeHearing_50 ?_
      refine g_get C (.ref (w_r w 21)) 16 q_16 fk_S_89 rfl dX8_closeHearing_53 ?_
      refine g_iload_n C dX8_closeHearing_56 1 rfl ?_
      have hg8 := gd_1 h
      replace h := gd_2 h
      refine g_iald C 21 q_21 hg8 _ rfl dX8_closeHearing_57 ?_
      obtain ⟨d9, hc10, h⟩ := ob1_1 h
      refine g_callVv C 3 q_3 vk_S_92 hR rfl (m_L_addSentence C.2.2.2.2.2.2.1 hc10) rfl rfl rfl dX8_closeHearing_58 rfl rfl ?_
      exact R61 x1 x2 d9 h
  unfold f_S_closeHearing at h
  refine g_ldcS C 11 (by decide) (by decide +kernel) (by decide +kernel) dX8_closeHearing_0 ?_
  refine g_iload_n C dX8_closeHearing_2 2 rfl ?_
  obtain ⟨r11, hc12, h⟩ := ob1_1 h
  refine g_callO C _ (ks_obj C (by decide)) yk_J0_indexOf_0f7a4 rfl (wA 944 (by decide +kernel) (by decide +kernel)) (wA 945 (by decide +kernel) (by decide +kernel)) (wA 946 (by decide +kernel) (by decide +kernel)) hR rfl (m_JS_indexOf1 C.2.2.2.2.2.2.1 (by decide) hc12) rfl rfl rfl dX8_closeHearing_3 rfl rfl ?_
  refine g_istore_n C (lv' := [(3, .int r11), (0, .ref (w_r w 2)), (1, .int x1), (2, .int x2)]) dX8_closeHearing_6 (by decide) rfl ?_
  refine g_iload_n C dX8_closeHearing_7 0 rfl ?_
  refine g_if_lt C dX8_closeHearing_8 (tgt := 30) rfl (fun q => ?_) (fun q => ?_)
  · replace h := it_t q h
    refine g_sub [1, 2, 3] (lv' := [(0, .ref (w_r w 2)), (1, .int x1), (2, .int x2)]) rfl ?_
    exact R30 x1 x2 d h
  · replace h := it_f q h
    refine g_iload_n C dX8_closeHearing_11 0 rfl ?_
    refine g_aload_n C dX8_closeHearing_12 1 rfl ?_
    refine g_get C (.ref (w_r w 26)) 2 q_2 fk_S_32 rfl dX8_closeHearing_13 ?_
    refine g_alen C 4 26 q_26 rfl 0 rfl (by decide) dX8_closeHearing_16 ?_
    refine g_icmp_ge C dX8_closeHearing_17 (tgt := 30) rfl (fun q => ?_) (fun q => ?_)
    · replace h := it_t q h
      refine g_sub [1, 2, 3] (lv' := [(0, .ref (w_r w 2)), (1, .int x1), (2, .int x2)]) rfl ?_
      exact R30 x1 x2 d h
    · replace h := it_f q h
      refine g_aload_n C dX8_closeHearing_20 1 rfl ?_
      refine g_get C (.ref (w_r w 26)) 2 q_2 fk_S_32 rfl dX8_closeHearing_21 ?_
      refine g_iload_n C dX8_closeHearing_24 0 rfl ?_
      refine g_dup2 C dX8_closeHearing_25 rfl rfl ?_
      have hg13 := gd_1 h
      replace h := gd_2 h
      refine g_iald C 26 q_26 hg13 _ rfl dX8_closeHearing_26 ?_
      refine g_iconst C dX8_closeHearing_27 (v := 1) rfl ?_
      refine g_iadd C dX8_closeHearing_28  ?_
      have hg14 := gd_1 h
      replace h := gd_2 h
      refine g_iast C 26 q_26 hg14 _ rfl  dX8_closeHearing_29 ?_
      refine g_sub [1, 2, 3] (lv' := [(0, .ref (w_r w 2)), (1, .int x1), (2, .int x2)]) rfl ?_
      exact R30 x1 x2 (wr d 26 r11.toNatClampNeg ((d 26 r11.toNatClampNeg) + 1)) h
set_option maxHeartbeats 4000000 in
set_option maxRecDepth 100000 in
theorem m_C_hear {w : wT} {l : Launch} {x1 : Int32} {d : Dt} {dE : Dt} (hO : okW w) (h : f_C_hear x1 d = some dE) : gM w l yX11_hear cX11_hear 2 (Option.none : Option Jvm.ClassFile.FieldType) 5 [.ref (w_r w 0), .int x1] d dE none := by
  refine gM_of (by decide) [(0, .ref (w_r w 0)), (1, .int x1)] rfl rfl ?_ hO
  intro p e R s m args below meth c C hR hr hlk
  unfold f_C_hear at h
  refine g_aload_n C dX11_hear_0 0 rfl ?_
  refine g_get C (.ref (w_r w 281)) 0 q_0 fk_C_36 rfl dX11_hear_1 ?_
  refine g_aload_n C dX11_hear_4 0 rfl ?_
  refine g_get C (.ref (w_r w 2)) 0 q_0 fk_C_10 rfl dX11_hear_5 ?_
  refine g_get C (.ref (w_r w 3)) 2 q_2 fk_C_68 rfl dX11_hear_8 ?_
  refine g_aload_n C dX11_hear_11 0 rfl ?_
  refine g_get C (.ref (w_r w 2)) 0 q_0 fk_C_10 rfl dX11_hear_12 ?_
  refine g_get C (.ref (w_r w 22)) 2 q_2 fk_C_128 rfl dX11_hear_15 ?_
  refine g_iconst C dX11_hear_18 (v := (-1)) (by decide) ?_
  obtain ⟨d4, hc5, h⟩ := ob1_1 h
  refine g_callVv C 281 q_281 vk_C_262 hR rfl (m_G_find C.2.2.2.2.2.2.1 hc5) rfl rfl rfl dX11_hear_19 rfl rfl ?_
  refine g_aload_n C dX11_hear_22 0 rfl ?_
  refine g_get C (.ref (w_r w 2)) 0 q_0 fk_C_10 rfl dX11_hear_23 ?_
  refine g_iload_n C dX11_hear_26 1 rfl ?_
  refine g_aload_n C dX11_hear_27 0 rfl ?_
  refine g_get C (.ref (w_r w 281)) 0 q_0 fk_C_36 rfl dX11_hear_28 ?_
  refine g_aload_n C dX11_hear_31 0 rfl ?_
  refine g_get C (.ref (w_r w 2)) 0 q_0 fk_C_10 rfl dX11_hear_32 ?_
  refine g_get C (.ref (w_r w 16)) 2 q_2 fk_C_108 rfl dX11_hear_35 ?_
  refine g_get C (.ref (w_r w 18)) 16 q_16 fk_C_221 rfl dX11_hear_38 ?_
  refine g_iload_n C dX11_hear_41 1 rfl ?_
  have hg6 := gd_1 h
  replace h := gd_2 h
  refine g_iald C 18 q_18 hg6 _ rfl dX11_hear_42 ?_
  obtain ⟨r7, hc8, h⟩ := ob1_1 h
  refine g_callVi C 281 q_281 vk_C_284 hR rfl (m_G_verdictOn C.2.2.2.2.2.2.1 hc8) rfl rfl rfl dX11_hear_43 rfl rfl ?_
  obtain ⟨d9, hc10, h⟩ := ob1_1 h
  refine g_callVv C 2 q_2 vk_C_457 hR rfl (m_S_closeHearing C.2.2.2.2.2.2.1 hc10) rfl rfl rfl dX11_hear_46 rfl rfl ?_
  exact g_vret C hr hlk (Option.some.inj h) rfl dX11_hear_49
set_option maxHeartbeats 4000000 in
set_option maxRecDepth 100000 in
theorem m_C_letPass {w : wT} {l : Launch} {x1 : Int32} {d : Dt} {rE : Int32} {dE : Dt} (hO : okW w) (h : f_C_letPass x1 d = some (rE, dE)) : gM w l yX11_letPass cX11_letPass 4 (Option.some Jvm.ClassFile.FieldType.int) 6 [.ref (w_r w 0), .int x1] d dE (some (.int rE)) := by
  refine gM_of (by decide) [(0, .ref (w_r w 0)), (1, .int x1)] rfl rfl ?_ hO
  intro p e R s m args below meth c C hR hr hlk
  have R4 : ∀ (x1 : Int32) (x2 : Int32) (x3 : Int32) (d : Dt), f_C_letPass_4 x1 x2 x3 d = some (rE, dE) → gG w p l e R s m args below meth c 4 0 0 (gE w below args s dE (some (.int rE))) d [(0, .ref (w_r w 0)), (1, .int x1), (2, .int x2), (3, .int x3)] 4 [] := by
    intro x1 x2 x3 d  h
    refine iter_ind (G := fun s_ : (Int32 × Int32 × Dt) => gG w p l e R s m args below meth c 4 0 0 (gE w below args s dE (some (.int rE))) s_.2.2 [(0, .ref (w_r w 0)), (1, .int x1), (2, .int s_.1), (3, .int s_.2.1)] 4 []) ?_ fu _ h
    clear h
    intro s_ y1 h hl1 hx1
    obtain ⟨x2, x3, d⟩ := s_
    show gG w p l e R s m args below meth c 4 0 0 (gE w below args s dE (some (.int rE))) d [(0, .ref (w_r w 0)), (1, .int x1), (2, .int x2), (3, .int x3)] 4 []
    dsimp only at h
    unfold st_C_letPass_4 at h
    have R69 : ∀ (x2 : Int32) (x3 : Int32) (d : Dt), f_C_letPass_69 x1 x2 x3  d = some y1 → gG w p l e R s m args below meth c 4 0 0 (gE w below args s dE (some (.int rE))) d [(0, .ref (w_r w 0)), (1, .int x1), (2, .int x2), (3, .int x3)] 69 [] := by
      intro x2 x3  d  h
      unfold f_C_letPass_69 at h
      refine g_aload_n C dX11_letPass_69 0 rfl ?_
      refine g_get C (.ref (w_r w 2)) 0 q_0 fk_C_10 rfl dX11_letPass_70 ?_
      obtain ⟨d6, hc7, h⟩ := ob1_1 h
      refine g_callVv C 2 q_2 vk_C_451 hR rfl (m_S_letLapse C.2.2.2.2.2.2.1 hc7) rfl rfl rfl dX11_letPass_73 rfl rfl ?_
      refine g_aload_n C dX11_letPass_76 0 rfl ?_
      refine g_get C (.ref (w_r w 2)) 0 q_0 fk_C_10 rfl dX11_letPass_77 ?_
      refine g_dup C dX11_letPass_80 rfl ?_
      refine g_get C (.int (d6 2 8)) 2 q_2 fk_C_327 rfl dX11_letPass_81 ?_
      refine g_aload_n C dX11_letPass_84 0 rfl ?_
      refine g_get C (.ref (w_r w 2)) 0 q_0 fk_C_10 rfl dX11_letPass_85 ?_
      refine g_get C (.ref (w_r w 3)) 2 q_2 fk_C_68 rfl dX11_letPass_88 ?_
      obtain ⟨r8, d9, hc10, h⟩ := ob2_1 h
      refine g_callVi C 3 q_3 vk_C_454 hR rfl (m_L_liveOneDay C.2.2.2.2.2.2.1 hc10) rfl rfl rfl dX11_letPass_91 rfl rfl ?_
      refine g_iadd C dX11_letPass_94  ?_
      refine g_put C 2 q_2 pk_C_327 rfl rfl dX11_letPass_95 ?_
      refine g_iinc C (lv' := [(3, .int (x3 + 1)), (0, .ref (w_r w 0)), (1, .int x1), (2, .int x2)]) (v := (x3 + 1)) dX11_letPass_98 3 rfl rfl (by decide) rfl ?_
      refine g_goto C dX11_letPass_101 (tgt := 4) rfl ?_
      refine g_sub [1, 2, 3, 0] (lv' := [(0, .ref (w_r w 0)), (1, .int x1), (2, .int x2), (3, .int (x3 + 1))]) rfl ?_
      exact hl1 (x2, (x3 + 1), (wr d9 2 8 ((d6 2 8) + r8))) (Option.some.inj h).symm
    refine g_iload_n C dX11_letPass_4 3 rfl ?_
    refine g_iload_n C dX11_letPass_5 1 rfl ?_
    refine g_icmp_ge C dX11_letPass_6 (tgt := 104) rfl (fun q => ?_) (fun q => ?_)
    · replace h := it_t q h
      replace h := ir_2 h hx1
      refine g_iload_n C dX11_letPass_104 2 rfl ?_
      exact g_iret C hr hlk rfl (congrArg Prod.snd (Option.some.inj h)) (congrArg (fun z => some (Value.int z.1)) (Option.some.inj h)) dX11_letPass_105
    · replace h := it_f q h
      refine g_aload_n C dX11_letPass_9 0 rfl ?_
      refine g_get C (.ref (w_r w 277)) 0 q_0 fk_C_29 rfl dX11_letPass_10 ?_
      refine g_aload_n C dX11_letPass_13 0 rfl ?_
      refine g_get C (.ref (w_r w 2)) 0 q_0 fk_C_10 rfl dX11_letPass_14 ?_
      refine g_get C (.ref (w_r w 16)) 2 q_2 fk_C_108 rfl dX11_letPass_17 ?_
      refine g_aload_n C dX11_letPass_20 0 rfl ?_
      refine g_get C (.ref (w_r w 2)) 0 q_0 fk_C_10 rfl dX11_letPass_21 ?_
      refine g_get C (.int (d 2 0)) 2 q_2 fk_C_180 rfl dX11_letPass_24 ?_
      obtain ⟨d11, hc12, h⟩ := ob1_1 h
      refine g_callVv C 277 q_277 vk_C_232 hR rfl (m_P_make C.2.2.2.2.2.2.1 hc12) rfl rfl rfl dX11_letPass_27 rfl rfl ?_
      refine g_aload_n C dX11_letPass_30 0 rfl ?_
      refine g_get C (.ref (w_r w 2)) 0 q_0 fk_C_10 rfl dX11_letPass_31 ?_
      refine g_dup C dX11_letPass_34 rfl ?_
      refine g_get C (.int (d11 2 0)) 2 q_2 fk_C_180 rfl dX11_letPass_35 ?_
      refine g_iconst C dX11_letPass_38 (v := 1) rfl ?_
      refine g_iadd C dX11_letPass_39  ?_
      refine g_put C 2 q_2 pk_C_180 rfl rfl dX11_letPass_40 ?_
      refine g_aload_n C dX11_letPass_43 0 rfl ?_
      refine g_get C (.ref (w_r w 277)) 0 q_0 fk_C_29 rfl dX11_letPass_44 ?_
      refine g_get C (.int ((wr d11 2 0 ((d11 2 0) + 1)) 277 0)) 277 q_277 fk_C_403 rfl dX11_letPass_47 ?_
      refine g_if_le C dX11_letPass_50 (tgt := 69) rfl (fun q => ?_) (fun q => ?_)
      · replace h := it_t q h
        exact R69 x2 x3 (wr d11 2 0 ((d11 2 0) + 1)) h
      · replace h := it_f q h
        refine g_aload_n C dX11_letPass_53 0 rfl ?_
        refine g_aload_n C dX11_letPass_54 0 rfl ?_
        refine g_get C (.ref (w_r w 277)) 0 q_0 fk_C_29 rfl dX11_letPass_55 ?_
        refine g_get C (.ref (w_r w 278)) 277 q_277 fk_C_404 rfl dX11_letPass_58 ?_
        refine g_iconst C dX11_letPass_61 (v := 0) rfl ?_
        refine g_iald C 278 q_278 (by decide) 0 (by decide) dX11_letPass_62 ?_
        obtain ⟨d13, hc14, h⟩ := ob1_1 h
        refine g_callVv C 0 q_0 vk_C_448 hR rfl (m_C_hear C.2.2.2.2.2.2.1 hc14) rfl rfl rfl dX11_letPass_63 rfl rfl ?_
        refine g_iinc C (lv' := [(2, .int (x2 + 1)), (0, .ref (w_r w 0)), (1, .int x1), (3, .int x3)]) (v := (x2 + 1)) dX11_letPass_66 2 rfl rfl (by decide) rfl ?_
        refine g_sub [1, 2, 0, 3] (lv' := [(0, .ref (w_r w 0)), (1, .int x1), (2, .int (x2 + 1)), (3, .int x3)]) rfl ?_
        exact R69 (x2 + 1) x3 d13 h
  unfold f_C_letPass at h
  refine g_iconst C dX11_letPass_0 (v := 0) rfl ?_
  refine g_istore_n C (lv' := [(2, .int 0), (0, .ref (w_r w 0)), (1, .int x1)]) dX11_letPass_1 (by decide) rfl ?_
  refine g_iconst C dX11_letPass_2 (v := 0) rfl ?_
  refine g_istore_n C (lv' := [(3, .int 0), (2, .int 0), (0, .ref (w_r w 0)), (1, .int x1)]) dX11_letPass_3 (by decide) rfl ?_
  refine g_sub [2, 3, 1, 0] (lv' := [(0, .ref (w_r w 0)), (1, .int x1), (2, .int 0), (3, .int 0)]) rfl ?_
  exact R4 x1 0 0 d h
set_option maxHeartbeats 4000000 in
set_option maxRecDepth 100000 in
theorem m_C_carryOut {w : wT} {l : Launch} {x1 : Int32} {x3 : Int32} {d : Dt} {rE : Int32} {dE : Dt} (hO : okW w) (hx1 : inb x1 8 = true) (h : f_C_carryOut x1 x3 d = some (rE, dE)) : gM w l yX11_carryOut cX11_carryOut 4 (Option.some Jvm.ClassFile.FieldType.boolean) 7 [.ref (w_r w 0), .ref (w_k w (200 + x1.toNatClampNeg)), .ref (w_r w 289), .int x3] d dE (some (.int rE)) := by
  refine gM_of (by decide) [(0, .ref (w_r w 0)), (1, .ref (w_k w (200 + x1.toNatClampNeg))), (2, .ref (w_r w 289)), (3, .int x3)] rfl rfl ?_ hO
  intro p e R s m args below meth c C hR hr hlk
  have R182 : ∀ (v1 : Int32) (v2 : Int32) (d : Dt), f_C_carryOut_182 x1  v1 v2 d = some (rE, dE) → gG w p l e R s m args below meth c 4 0 0 (gE w below args s dE (some (.int rE))) d [] 182 [.int v2, .int v1, .ref (w_r w 3)] := by
    intro  v1 v2 d  h
    unfold f_C_carryOut_182 at h
    obtain ⟨r19, d20, hc21, h⟩ := ob2_1 h
    refine g_callVi C 3 q_3 vk_C_152 hR rfl (m_L_setAdmission C.2.2.2.2.2.2.1 hc21) rfl rfl rfl dX11_carryOut_182 rfl rfl ?_
    refine g_pop C dX11_carryOut_185 rfl ?_
    refine g_goto C dX11_carryOut_186 (tgt := 214) rfl ?_
    refine g_iconst C dX11_carryOut_214 (v := 1) rfl ?_
    exact g_iret C hr hlk rfl (congrArg Prod.snd (Option.some.inj h)) (congrArg (fun z => some (Value.int z.1)) (Option.some.inj h)) dX11_carryOut_215
  unfold f_C_carryOut at h
  refine g_aload_n C dX11_carryOut_0 0 rfl ?_
  refine g_aload_n C dX11_carryOut_1 1 rfl ?_
  refine g_aload_n C dX11_carryOut_2 2 rfl ?_
  refine g_iload_n C dX11_carryOut_3 3 rfl ?_
  obtain ⟨r22, hc23, h⟩ := ob1_1 h
  refine g_callVi C 0 q_0 vk_C_484 hR rfl (m_C_isPossible C.2.2.2.2.2.2.1 hx1 hc23) rfl rfl rfl dX11_carryOut_4 rfl rfl ?_
  refine g_if_ne C dX11_carryOut_7 (tgt := 12) rfl (fun q => ?_) (fun q => ?_)
  · replace h := it_f q h
    refine g_gets C (kM_Z C) (wA 1397 (by decide +kernel) (by decide +kernel)) dX11_carryOut_12 ?_
    refine g_aload_n C dX11_carryOut_15 1 rfl ?_
    refine g_ord C hx1 hR rfl rfl dX11_carryOut_16 rfl rfl ?_
    have hg24 := gd_1 h
    replace h := gd_2 h
    refine g_ialdK C (kM_T C) hg24 rfl dX11_carryOut_19 ?_
    by_cases q0 : (smS x1.toNatClampNeg) = 1
    · replace h := it_t q0 h
      refine g_tabIn C dX11_carryOut_20 (v := 1) q0 (by decide) (by decide) (off := 44) (by rfl) (tgt := 64) rfl ?_
      refine g_aload_n C dX11_carryOut_64 0 rfl ?_
      refine g_get C (.ref (w_r w 2)) 0 q_0 fk_C_10 rfl dX11_carryOut_65 ?_
      refine g_get C (.ref (w_r w 3)) 2 q_2 fk_C_68 rfl dX11_carryOut_68 ?_
      obtain ⟨r25, d26, hc27, h⟩ := ob2_1 h
      refine g_callVi C 3 q_3 vk_C_89 hR rfl (m_L_add C.2.2.2.2.2.2.1 hc27) rfl rfl rfl dX11_carryOut_71 rfl rfl ?_
      refine g_pop C dX11_carryOut_74 rfl ?_
      refine g_goto C dX11_carryOut_75 (tgt := 214) rfl ?_
      refine g_iconst C dX11_carryOut_214 (v := 1) rfl ?_
      exact g_iret C hr hlk rfl (congrArg Prod.snd (Option.some.inj h)) (congrArg (fun z => some (Value.int z.1)) (Option.some.inj h)) dX11_carryOut_215
    replace h := it_f q0 h
    by_cases q1 : (smS x1.toNatClampNeg) = 2
    · replace h := it_t q1 h
      refine g_tabIn C dX11_carryOut_20 (v := 2) q1 (by decide) (by decide) (off := 58) (by rfl) (tgt := 78) rfl ?_
      refine g_aload_n C dX11_carryOut_78 0 rfl ?_
      refine g_get C (.ref (w_r w 2)) 0 q_0 fk_C_10 rfl dX11_carryOut_79 ?_
      refine g_aload_n C dX11_carryOut_82 2 rfl ?_
      refine g_iconst C dX11_carryOut_83 (v := 0) rfl ?_
      refine g_iald C 289 q_289 (by decide) 0 (by decide) dX11_carryOut_84 ?_
      refine g_aload_n C dX11_carryOut_85 2 rfl ?_
      refine g_iconst C dX11_carryOut_86 (v := 1) rfl ?_
      refine g_iald C 289 q_289 (by decide) 1 (by decide) dX11_carryOut_87 ?_
      refine g_aload_n C dX11_carryOut_88 2 rfl ?_
      refine g_iconst C dX11_carryOut_89 (v := 2) rfl ?_
      refine g_iald C 289 q_289 (by decide) 2 (by decide) dX11_carryOut_90 ?_
      refine g_aload_n C dX11_carryOut_91 2 rfl ?_
      refine g_iconst C dX11_carryOut_92 (v := 3) rfl ?_
      refine g_iald C 289 q_289 (by decide) 3 (by decide) dX11_carryOut_93 ?_
      obtain ⟨r28, d29, hc30, h⟩ := ob2_1 h
      refine g_callVi C 2 q_2 vk_C_115 hR rfl (m_S_takeBrief C.2.2.2.2.2.2.1 hc30) rfl rfl rfl dX11_carryOut_94 rfl rfl ?_
      refine g_pop C dX11_carryOut_97 rfl ?_
      refine g_goto C dX11_carryOut_98 (tgt := 214) rfl ?_
      refine g_iconst C dX11_carryOut_214 (v := 1) rfl ?_
      exact g_iret C hr hlk rfl (congrArg Prod.snd (Option.some.inj h)) (congrArg (fun z => some (Value.int z.1)) (Option.some.inj h)) dX11_carryOut_215
    replace h := it_f q1 h
    by_cases q2 : (smS x1.toNatClampNeg) = 3
    · replace h := it_t q2 h
      refine g_tabIn C dX11_carryOut_20 (v := 3) q2 (by decide) (by decide) (off := 81) (by rfl) (tgt := 101) rfl ?_
      refine g_aload_n C dX11_carryOut_101 0 rfl ?_
      refine g_get C (.ref (w_r w 2)) 0 q_0 fk_C_10 rfl dX11_carryOut_102 ?_
      refine g_aload_n C dX11_carryOut_105 0 rfl ?_
      refine g_get C (.ref (w_r w 2)) 0 q_0 fk_C_10 rfl dX11_carryOut_106 ?_
      refine g_get C (.ref (w_r w 16)) 2 q_2 fk_C_108 rfl dX11_carryOut_109 ?_
      refine g_aload_n C dX11_carryOut_112 2 rfl ?_
      refine g_iconst C dX11_carryOut_113 (v := 0) rfl ?_
      refine g_iald C 289 q_289 (by decide) 0 (by decide) dX11_carryOut_114 ?_
      obtain ⟨r31, hc32, h⟩ := ob1_1 h
      refine g_callVi C 16 q_16 vk_C_438 hR rfl (m_B_positionOf C.2.2.2.2.2.2.1 hc32) rfl rfl rfl dX11_carryOut_115 rfl rfl ?_
      obtain ⟨r33, d34, hc35, h⟩ := ob2_1 h
      refine g_callVi C 2 q_2 vk_C_123 hR rfl (m_S_giveBack C.2.2.2.2.2.2.1 hc35) rfl rfl rfl dX11_carryOut_118 rfl rfl ?_
      refine g_pop C dX11_carryOut_121 rfl ?_
      refine g_goto C dX11_carryOut_122 (tgt := 214) rfl ?_
      refine g_iconst C dX11_carryOut_214 (v := 1) rfl ?_
      exact g_iret C hr hlk rfl (congrArg Prod.snd (Option.some.inj h)) (congrArg (fun z => some (Value.int z.1)) (Option.some.inj h)) dX11_carryOut_215
    replace h := it_f q2 h
    by_cases q3 : (smS x1.toNatClampNeg) = 4
    · replace h := it_t q3 h
      refine g_tabIn C dX11_carryOut_20 (v := 4) q3 (by decide) (by decide) (off := 105) (by rfl) (tgt := 125) rfl ?_
      refine g_aload_n C dX11_carryOut_125 0 rfl ?_
      refine g_get C (.ref (w_r w 2)) 0 q_0 fk_C_10 rfl dX11_carryOut_126 ?_
      refine g_get C (.ref (w_r w 22)) 2 q_2 fk_C_128 rfl dX11_carryOut_129 ?_
      refine g_aload_n C dX11_carryOut_132 2 rfl ?_
      refine g_iconst C dX11_carryOut_133 (v := 0) rfl ?_
      refine g_iald C 289 q_289 (by decide) 0 (by decide) dX11_carryOut_134 ?_
      refine g_aload_n C dX11_carryOut_135 2 rfl ?_
      refine g_iconst C dX11_carryOut_136 (v := 1) rfl ?_
      refine g_iald C 289 q_289 (by decide) 1 (by decide) dX11_carryOut_137 ?_
      refine g_iload_n C dX11_carryOut_138 3 rfl ?_
      obtain ⟨r36, d37, hc38, h⟩ := ob2_1 h
      refine g_callVi C 22 q_22 vk_C_137 hR rfl (m_T_add C.2.2.2.2.2.2.1 hc38) rfl rfl rfl dX11_carryOut_139 rfl rfl ?_
      refine g_pop C dX11_carryOut_142 rfl ?_
      refine g_goto C dX11_carryOut_143 (tgt := 214) rfl ?_
      refine g_iconst C dX11_carryOut_214 (v := 1) rfl ?_
      exact g_iret C hr hlk rfl (congrArg Prod.snd (Option.some.inj h)) (congrArg (fun z => some (Value.int z.1)) (Option.some.inj h)) dX11_carryOut_215
    replace h := it_f q3 h
    by_cases q4 : (smS x1.toNatClampNeg) = 5
    · replace h := it_t q4 h
      refine g_tabIn C dX11_carryOut_20 (v := 5) q4 (by decide) (by decide) (off := 126) (by rfl) (tgt := 146) rfl ?_
      refine g_aload_n C dX11_carryOut_146 0 rfl ?_
      refine g_get C (.ref (w_r w 2)) 0 q_0 fk_C_10 rfl dX11_carryOut_147 ?_
      refine g_get C (.ref (w_r w 22)) 2 q_2 fk_C_128 rfl dX11_carryOut_150 ?_
      refine g_aload_n C dX11_carryOut_153 2 rfl ?_
      refine g_iconst C dX11_carryOut_154 (v := 0) rfl ?_
      refine g_iald C 289 q_289 (by decide) 0 (by decide) dX11_carryOut_155 ?_
      obtain ⟨r39, d40, hc41, h⟩ := ob2_1 h
      refine g_callVi C 22 q_22 vk_C_143 hR rfl (m_T_remove C.2.2.2.2.2.2.1 hc41) rfl rfl rfl dX11_carryOut_156 rfl rfl ?_
      refine g_pop C dX11_carryOut_159 rfl ?_
      refine g_goto C dX11_carryOut_160 (tgt := 214) rfl ?_
      refine g_iconst C dX11_carryOut_214 (v := 1) rfl ?_
      exact g_iret C hr hlk rfl (congrArg Prod.snd (Option.some.inj h)) (congrArg (fun z => some (Value.int z.1)) (Option.some.inj h)) dX11_carryOut_215
    replace h := it_f q4 h
    by_cases q5 : (smS x1.toNatClampNeg) = 6
    · replace h := it_t q5 h
      refine g_tabIn C dX11_carryOut_20 (v := 6) q5 (by decide) (by decide) (off := 143) (by rfl) (tgt := 163) rfl ?_
      refine g_aload_n C dX11_carryOut_163 0 rfl ?_
      refine g_get C (.ref (w_r w 2)) 0 q_0 fk_C_10 rfl dX11_carryOut_164 ?_
      refine g_get C (.ref (w_r w 3)) 2 q_2 fk_C_68 rfl dX11_carryOut_167 ?_
      refine g_aload_n C dX11_carryOut_170 2 rfl ?_
      refine g_iconst C dX11_carryOut_171 (v := 0) rfl ?_
      refine g_iald C 289 q_289 (by decide) 0 (by decide) dX11_carryOut_172 ?_
      refine g_iload_n C dX11_carryOut_173 3 rfl ?_
      refine g_if_eq C dX11_carryOut_174 (tgt := 181) rfl (fun q => ?_) (fun q => ?_)
      · replace h := it_t q h
        refine g_iconst C dX11_carryOut_181 (v := 2) rfl ?_
        refine g_sub [] (lv' := []) rfl ?_
        exact R182 (d 289 0) 2 d h
      · replace h := it_f q h
        refine g_iconst C dX11_carryOut_177 (v := 1) rfl ?_
        refine g_goto C dX11_carryOut_178 (tgt := 182) rfl ?_
        refine g_sub [] (lv' := []) rfl ?_
        exact R182 (d 289 0) 1 d h
    replace h := it_f q5 h
    by_cases q6 : (smS x1.toNatClampNeg) = 7
    · replace h := it_t q6 h
      refine g_tabIn C dX11_carryOut_20 (v := 7) q6 (by decide) (by decide) (off := 169) (by rfl) (tgt := 189) rfl ?_
      refine g_aload_n C dX11_carryOut_189 0 rfl ?_
      refine g_get C (.ref (w_r w 2)) 0 q_0 fk_C_10 rfl dX11_carryOut_190 ?_
      refine g_get C (.ref (w_r w 3)) 2 q_2 fk_C_68 rfl dX11_carryOut_193 ?_
      refine g_aload_n C dX11_carryOut_196 2 rfl ?_
      refine g_iconst C dX11_carryOut_197 (v := 0) rfl ?_
      refine g_iald C 289 q_289 (by decide) 0 (by decide) dX11_carryOut_198 ?_
      obtain ⟨r42, d43, hc44, h⟩ := ob2_1 h
      refine g_callVi C 3 q_3 vk_C_177 hR rfl (m_L_endSentence C.2.2.2.2.2.2.1 hc44) rfl rfl rfl dX11_carryOut_199 rfl rfl ?_
      refine g_pop C dX11_carryOut_202 rfl ?_
      refine g_goto C dX11_carryOut_203 (tgt := 214) rfl ?_
      refine g_iconst C dX11_carryOut_214 (v := 1) rfl ?_
      exact g_iret C hr hlk rfl (congrArg Prod.snd (Option.some.inj h)) (congrArg (fun z => some (Value.int z.1)) (Option.some.inj h)) dX11_carryOut_215
    replace h := it_f q6 h
    have a0 : (smS x1.toNatClampNeg).toInt ≠ 1 := fun e => q0 (Int32.toInt_inj.mp (e.trans (by decide)))
    have a1 : (smS x1.toNatClampNeg).toInt ≠ 2 := fun e => q1 (Int32.toInt_inj.mp (e.trans (by decide)))
    have a2 : (smS x1.toNatClampNeg).toInt ≠ 3 := fun e => q2 (Int32.toInt_inj.mp (e.trans (by decide)))
    have a3 : (smS x1.toNatClampNeg).toInt ≠ 4 := fun e => q3 (Int32.toInt_inj.mp (e.trans (by decide)))
    have a4 : (smS x1.toNatClampNeg).toInt ≠ 5 := fun e => q4 (Int32.toInt_inj.mp (e.trans (by decide)))
    have a5 : (smS x1.toNatClampNeg).toInt ≠ 6 := fun e => q5 (Int32.toInt_inj.mp (e.trans (by decide)))
    have a6 : (smS x1.toNatClampNeg).toInt ≠ 7 := fun e => q6 (Int32.toInt_inj.mp (e.trans (by decide)))
    refine g_tabOut C dX11_carryOut_20 (by omega : (smS x1.toNatClampNeg).toInt < 1 ∨ 7 < (smS x1.toNatClampNeg).toInt) (tgt := 206) rfl ?_
    refine g_aload_n C dX11_carryOut_206 0 rfl ?_
    refine g_aload_n C dX11_carryOut_207 2 rfl ?_
    refine g_iconst C dX11_carryOut_208 (v := 0) rfl ?_
    refine g_iald C 289 q_289 (by decide) 0 (by decide) dX11_carryOut_209 ?_
    obtain ⟨r45, d46, hc47, h⟩ := ob2_1 h
    refine g_callVi C 0 q_0 vk_C_171 hR rfl (m_C_letPass C.2.2.2.2.2.2.1 hc47) rfl rfl rfl dX11_carryOut_210 rfl rfl ?_
    refine g_pop C dX11_carryOut_213 rfl ?_
    refine g_iconst C dX11_carryOut_214 (v := 1) rfl ?_
    exact g_iret C hr hlk rfl (congrArg Prod.snd (Option.some.inj h)) (congrArg (fun z => some (Value.int z.1)) (Option.some.inj h)) dX11_carryOut_215
  · replace h := it_t q h
    refine g_iconst C dX11_carryOut_10 (v := 0) rfl ?_
    exact g_iret C hr hlk rfl (congrArg Prod.snd (Option.some.inj h)) (congrArg (fun z => some (Value.int z.1)) (Option.some.inj h)) dX11_carryOut_11
set_option maxHeartbeats 4000000 in
set_option maxRecDepth 100000 in
theorem m_I_skipSemicolon {w : wT} {l : Launch} {d : Dt} {dE : Dt} (hO : okW w) (h : f_I_skipSemicolon  d = some dE) : gM w l yX3_skipSemicolon cX3_skipSemicolon 1 (Option.none : Option Jvm.ClassFile.FieldType) 0 [.ref (w_r w 287)] d dE none := by
  refine gM_of (by decide) [(0, .ref (w_r w 287))] rfl rfl ?_ hO
  intro p e R s m args below meth c C hR hr hlk
  unfold f_I_skipSemicolon at h
  refine g_aload_n C dX3_skipSemicolon_0 0 rfl ?_
  refine g_dup C dX3_skipSemicolon_1 rfl ?_
  refine g_get C (.int (d 287 2)) 287 q_287 fk_I_32 rfl dX3_skipSemicolon_2 ?_
  refine g_iconst C dX3_skipSemicolon_5 (v := 1) rfl ?_
  refine g_iadd C dX3_skipSemicolon_6  ?_
  refine g_put C 287 q_287 pk_I_32 rfl rfl dX3_skipSemicolon_7 ?_
  exact g_vret C hr hlk (Option.some.inj h) rfl dX3_skipSemicolon_10
set_option maxHeartbeats 4000000 in
set_option maxRecDepth 100000 in
theorem m_I_rewind {w : wT} {l : Launch} {d : Dt} {dE : Dt} (hO : okW w) (h : f_I_rewind  d = some dE) : gM w l yX3_rewind cX3_rewind 1 (Option.none : Option Jvm.ClassFile.FieldType) 0 [.ref (w_r w 287)] d dE none := by
  refine gM_of (by decide) [(0, .ref (w_r w 287))] rfl rfl ?_ hO
  intro p e R s m args below meth c C hR hr hlk
  unfold f_I_rewind at h
  refine g_aload_n C dX3_rewind_0 0 rfl ?_
  refine g_iconst C dX3_rewind_1 (v := 0) rfl ?_
  refine g_put C 287 q_287 pk_I_32 rfl rfl dX3_rewind_2 ?_
  exact g_vret C hr hlk (Option.some.inj h) rfl dX3_rewind_5
set_option maxHeartbeats 4000000 in
set_option maxRecDepth 100000 in
theorem m_C_carryOutAll {w : wT} {l : Launch} {x1 : Int32} {d : Dt} {rE : Int32} {dE : Dt} (hO : okW w) (h : f_C_carryOutAll x1 d = some (rE, dE)) : gM w l yX11_carryOutAll cX11_carryOutAll 3 (Option.some Jvm.ClassFile.FieldType.int) 8 [.ref (w_r w 0), .int x1] d dE (some (.int rE)) := by
  refine gM_of (by decide) [(0, .ref (w_r w 0)), (1, .int x1)] rfl rfl ?_ hO
  intro p e R s m args below meth c C hR hr hlk
  have R9 : ∀ (x1 : Int32) (x2 : Int32) (d : Dt), f_C_carryOutAll_9 x1 x2 d = some (rE, dE) → gG w p l e R s m args below meth c 3 0 0 (gE w below args s dE (some (.int rE))) d [(0, .ref (w_r w 0)), (1, .int x1), (2, .int x2)] 9 [] := by
    intro x1 x2 d  h
    refine iter_ind (G := fun s_ : (Int32 × Dt) => gG w p l e R s m args below meth c 3 0 0 (gE w below args s dE (some (.int rE))) s_.2 [(0, .ref (w_r w 0)), (1, .int x1), (2, .int s_.1)] 9 []) ?_ fu _ h
    clear h
    intro s_ y1 h hl1 hx1
    obtain ⟨x2, d⟩ := s_
    show gG w p l e R s m args below meth c 3 0 0 (gE w below args s dE (some (.int rE))) d [(0, .ref (w_r w 0)), (1, .int x1), (2, .int x2)] 9 []
    dsimp only at h
    unfold st_C_carryOutAll_9 at h
    refine g_iload_n C dX11_carryOutAll_9 2 rfl ?_
    refine g_iload_n C dX11_carryOutAll_10 1 rfl ?_
    refine g_icmp_ge C dX11_carryOutAll_11 (tgt := 67) rfl (fun q => ?_) (fun q => ?_)
    · replace h := it_t q h
      replace h := ir_2 h hx1
      refine g_iconst C dX11_carryOutAll_67 (v := (-1)) (by decide) ?_
      exact g_iret C hr hlk rfl (congrArg Prod.snd (Option.some.inj h)) (congrArg (fun z => some (Value.int z.1)) (Option.some.inj h)) dX11_carryOutAll_68
    · replace h := it_f q h
      refine g_aload_n C dX11_carryOutAll_14 0 rfl ?_
      refine g_get C (.ref (w_r w 287)) 0 q_0 fk_C_50 rfl dX11_carryOutAll_15 ?_
      obtain ⟨r7, d8, hc9, h⟩ := ob2_1 h
      refine g_callVi C 287 q_287 vk_C_464 hR rfl (m_I_readCommand C.2.2.2.2.2.2.1 hc9) rfl rfl rfl dX11_carryOutAll_18 rfl rfl ?_
      refine g_if_eq C dX11_carryOutAll_21 (tgt := 52) rfl (fun q => ?_) (fun q => ?_)
      · replace h := it_t q h
        replace h := ir_2 h hx1
        refine g_iload_n C dX11_carryOutAll_52 2 rfl ?_
        exact g_iret C hr hlk rfl (congrArg Prod.snd (Option.some.inj h)) (congrArg (fun z => some (Value.int z.1)) (Option.some.inj h)) dX11_carryOutAll_53
      · replace h := it_f q h
        refine g_aload_n C dX11_carryOutAll_24 0 rfl ?_
        refine g_aload_n C dX11_carryOutAll_25 0 rfl ?_
        refine g_get C (.ref (w_r w 287)) 0 q_0 fk_C_50 rfl dX11_carryOutAll_26 ?_
        have hg10 := gd_1 h
        replace h := gd_2 h
        refine g_get C (.ref (w_k w (200 + (d8 287 3).toNatClampNeg))) 287 q_287 fk_C_467 rfl dX11_carryOutAll_29 ?_
        refine g_aload_n C dX11_carryOutAll_32 0 rfl ?_
        refine g_get C (.ref (w_r w 287)) 0 q_0 fk_C_50 rfl dX11_carryOutAll_33 ?_
        refine g_get C (.ref (w_r w 289)) 287 q_287 fk_C_471 rfl dX11_carryOutAll_36 ?_
        refine g_aload_n C dX11_carryOutAll_39 0 rfl ?_
        refine g_get C (.ref (w_r w 287)) 0 q_0 fk_C_50 rfl dX11_carryOutAll_40 ?_
        refine g_get C (.int (d8 287 6)) 287 q_287 fk_C_474 rfl dX11_carryOutAll_43 ?_
        obtain ⟨r11, d12, hc13, h⟩ := ob2_1 h
        refine g_callVi C 0 q_0 vk_C_477 hR rfl (m_C_carryOut C.2.2.2.2.2.2.1 hg10 hc13) rfl rfl rfl dX11_carryOutAll_46 rfl rfl ?_
        refine g_if_ne C dX11_carryOutAll_49 (tgt := 54) rfl (fun q => ?_) (fun q => ?_)
        · replace h := it_f q h
          refine g_aload_n C dX11_carryOutAll_54 0 rfl ?_
          refine g_get C (.ref (w_r w 287)) 0 q_0 fk_C_50 rfl dX11_carryOutAll_55 ?_
          obtain ⟨d14, hc15, h⟩ := ob1_1 h
          refine g_callVv C 287 q_287 vk_C_481 hR rfl (m_I_skipSemicolon C.2.2.2.2.2.2.1 hc15) rfl rfl rfl dX11_carryOutAll_58 rfl rfl ?_
          refine g_iinc C (lv' := [(2, .int (x2 + 1)), (0, .ref (w_r w 0)), (1, .int x1)]) (v := (x2 + 1)) dX11_carryOutAll_61 2 rfl rfl (by decide) rfl ?_
          refine g_goto C dX11_carryOutAll_64 (tgt := 9) rfl ?_
          refine g_sub [1, 2, 0] (lv' := [(0, .ref (w_r w 0)), (1, .int x1), (2, .int (x2 + 1))]) rfl ?_
          exact hl1 ((x2 + 1), d14) (Option.some.inj h).symm
        · replace h := it_t q h
          replace h := ir_2 h hx1
          refine g_iload_n C dX11_carryOutAll_52 2 rfl ?_
          exact g_iret C hr hlk rfl (congrArg Prod.snd (Option.some.inj h)) (congrArg (fun z => some (Value.int z.1)) (Option.some.inj h)) dX11_carryOutAll_53
  unfold f_C_carryOutAll at h
  refine g_aload_n C dX11_carryOutAll_0 0 rfl ?_
  refine g_get C (.ref (w_r w 287)) 0 q_0 fk_C_50 rfl dX11_carryOutAll_1 ?_
  obtain ⟨d16, hc17, h⟩ := ob1_1 h
  refine g_callVv C 287 q_287 vk_C_461 hR rfl (m_I_rewind C.2.2.2.2.2.2.1 hc17) rfl rfl rfl dX11_carryOutAll_4 rfl rfl ?_
  refine g_iconst C dX11_carryOutAll_7 (v := 0) rfl ?_
  refine g_istore_n C (lv' := [(2, .int 0), (0, .ref (w_r w 0)), (1, .int x1)]) dX11_carryOutAll_8 (by decide) rfl ?_
  refine g_sub [1, 2, 0] (lv' := [(0, .ref (w_r w 0)), (1, .int x1), (2, .int 0)]) rfl ?_
  exact R9 x1 0 d16 h
set_option maxHeartbeats 4000000 in
set_option maxRecDepth 100000 in
theorem m_C_checkServing {w : wT} {l : Launch} {x1 : Int32} {d : Dt} {zE : (Unit ⊕ Nat)} (hO : okW w) (hl9 : l.stackTraces = false) (h : f_C_checkServing x1 d = some zE) : gMX w l yX11_checkServing cX11_checkServing 2 (Option.none : Option Jvm.ClassFile.FieldType) 7 2 12 [.ref (w_r w 0), .int x1] d (oU d zE) := by
  refine gMX_of (by decide) [(0, .ref (w_r w 0)), (1, .int x1)] rfl rfl ?_ hO
  intro p e R s m args below meth c C hR hr hlk hx
  unfold f_C_checkServing at h
  refine g_aload_n C dX11_checkServing_0 0 rfl ?_
  refine g_iload_n C dX11_checkServing_1 1 rfl ?_
  obtain ⟨z5, hc4, h⟩ := ocU_1 h
  refine g_callVU C 1 6 0 q_0 vk_C_93 hR rfl (m_C_checkLantern C.2.2.2.2.2.2.1 hl9 hc4) rfl rfl rfl dX11_checkServing_2 rfl rfl rfl rfl (fun e7 => ?_) (fun et2 e7 => ?_)
  · subst e7
    replace h := ocU_i h
    refine g_aload_n C dX11_checkServing_5 0 rfl ?_
    refine g_get C (.ref (w_r w 2)) 0 q_0 fk_C_10 rfl dX11_checkServing_6 ?_
    refine g_get C (.ref (w_r w 3)) 2 q_2 fk_C_68 rfl dX11_checkServing_9 ?_
    refine g_iload_n C dX11_checkServing_12 1 rfl ?_
    obtain ⟨r8, hc9, h⟩ := ob1_1 h
    refine g_callVi C 3 q_3 vk_C_430 hR rfl (m_L_serves C.2.2.2.2.2.2.1 hc9) rfl rfl rfl dX11_checkServing_13 rfl rfl ?_
    refine g_if_ne C dX11_checkServing_16 (tgt := 30) rfl (fun q => ?_) (fun q => ?_)
    · replace h := it_f q h
      exact g_vretX C hr hlk rfl rfl (oU_i h) dX11_checkServing_30
    · replace h := it_t q h
      exact g_throwSWy C hl9 th_C_160_164 (i := 12) (by decide) (by decide +kernel) (by decide +kernel) hx hlk hR rfl dX11_checkServing_19 dX11_checkServing_22 dX11_checkServing_23 dX11_checkServing_26 dX11_checkServing_29 rfl rfl rfl rfl rfl (oU_t h)
  · subst e7
    replace h := ocU_t h
    exact g_prop C hx hlk rfl rfl (oU_t h)
set_option maxHeartbeats 4000000 in
set_option maxRecDepth 100000 in
theorem m_C_checkStatement {w : wT} {l : Launch} {x1 : Int32} {d : Dt} {zE : (Unit ⊕ Nat)} (hO : okW w) (hl9 : l.stackTraces = false) (h : f_C_checkStatement x1 d = some zE) : gMX w l yX11_checkStatement cX11_checkStatement 2 (Option.none : Option Jvm.ClassFile.FieldType) 6 1 6 [.ref (w_r w 0), .int x1] d (oU d zE) := by
  refine gMX_of (by decide) [(0, .ref (w_r w 0)), (1, .int x1)] rfl rfl ?_ hO
  intro p e R s m args below meth c C hR hr hlk hx
  unfold f_C_checkStatement at h
  refine g_aload_n C dX11_checkStatement_0 0 rfl ?_
  refine g_get C (.ref (w_r w 2)) 0 q_0 fk_C_10 rfl dX11_checkStatement_1 ?_
  refine g_get C (.ref (w_r w 22)) 2 q_2 fk_C_128 rfl dX11_checkStatement_4 ?_
  refine g_iload_n C dX11_checkStatement_7 1 rfl ?_
  obtain ⟨r2, hc3, h⟩ := ob1_1 h
  refine g_callVi C 22 q_22 vk_C_435 hR rfl (m_T_has C.2.2.2.2.2.2.1 hc3) rfl rfl rfl dX11_checkStatement_8 rfl rfl ?_
  refine g_if_ne C dX11_checkStatement_11 (tgt := 25) rfl (fun q => ?_) (fun q => ?_)
  · replace h := it_f q h
    exact g_vretX C hr hlk rfl rfl (oU_i h) dX11_checkStatement_25
  · replace h := it_t q h
    exact g_throwSW C hl9 th_C_405_409 (i := 7) (by decide) (by decide +kernel) (by decide +kernel) hx hlk hR rfl dX11_checkStatement_14 dX11_checkStatement_17 dX11_checkStatement_18 dX11_checkStatement_21 dX11_checkStatement_24 rfl rfl rfl rfl rfl (oU_t h)
set_option maxHeartbeats 4000000 in
set_option maxRecDepth 100000 in
theorem m_C_checkedBrief {w : wT} {l : Launch} {x1 : Int32} {d : Dt} {zE : (Int32 ⊕ Nat)} (hO : okW w) (hl9 : l.stackTraces = false) (h : f_C_checkedBrief x1 d = some zE) : gMX w l yX11_checkedBrief cX11_checkedBrief 3 (Option.some Jvm.ClassFile.FieldType.int) 6 1 6 [.ref (w_r w 0), .int x1] d (oR d zE) := by
  refine gMX_of (by decide) [(0, .ref (w_r w 0)), (1, .int x1)] rfl rfl ?_ hO
  intro p e R s m args below meth c C hR hr hlk hx
  unfold f_C_checkedBrief at h
  refine g_aload_n C dX11_checkedBrief_0 0 rfl ?_
  refine g_get C (.ref (w_r w 2)) 0 q_0 fk_C_10 rfl dX11_checkedBrief_1 ?_
  refine g_get C (.ref (w_r w 16)) 2 q_2 fk_C_108 rfl dX11_checkedBrief_4 ?_
  refine g_iload_n C dX11_checkedBrief_7 1 rfl ?_
  obtain ⟨r2, hc3, h⟩ := ob1_1 h
  refine g_callVi C 16 q_16 vk_C_438 hR rfl (m_B_positionOf C.2.2.2.2.2.2.1 hc3) rfl rfl rfl dX11_checkedBrief_8 rfl rfl ?_
  refine g_istore_n C (lv' := [(2, .int r2), (0, .ref (w_r w 0)), (1, .int x1)]) dX11_checkedBrief_11 (by decide) rfl ?_
  refine g_iload_n C dX11_checkedBrief_12 0 rfl ?_
  refine g_iconst C dX11_checkedBrief_13 (v := (-1)) (by decide) ?_
  refine g_icmp_ne C dX11_checkedBrief_14 (tgt := 28) rfl (fun q => ?_) (fun q => ?_)
  · replace h := it_f q h
    refine g_iload_n C dX11_checkedBrief_28 0 rfl ?_
    exact g_iretX C hr hlk rfl rfl rfl (oR_i h) dX11_checkedBrief_29
  · replace h := it_t q h
    exact g_throwSWy C hl9 th_C_160_164 (i := 4) (by decide) (by decide +kernel) (by decide +kernel) hx hlk hR rfl dX11_checkedBrief_17 dX11_checkedBrief_20 dX11_checkedBrief_21 dX11_checkedBrief_24 dX11_checkedBrief_27 rfl rfl rfl rfl rfl (oR_t h)
set_option maxHeartbeats 4000000 in
set_option maxRecDepth 100000 in
theorem m_C_courtCoins {w : wT} {l : Launch} {d : Dt} {rE : Int32} (hO : okW w) (h : f_C_courtCoins  d = some rE) : gM w l yX11_courtCoins cX11_courtCoins 1 (Option.some Jvm.ClassFile.FieldType.int) 0 [.ref (w_r w 0)] d d (some (.int rE)) := by
  refine gM_of (by decide) [(0, .ref (w_r w 0))] rfl rfl ?_ hO
  intro p e R s m args below meth c C hR hr hlk
  unfold f_C_courtCoins at h
  refine g_aload_n C dX11_courtCoins_0 0 rfl ?_
  refine g_get C (.ref (w_r w 2)) 0 q_0 fk_C_10 rfl dX11_courtCoins_1 ?_
  refine g_get C (.int (d 2 4)) 2 q_2 fk_C_306 rfl dX11_courtCoins_4 ?_
  refine g_aload_n C dX11_courtCoins_7 0 rfl ?_
  refine g_get C (.ref (w_r w 2)) 0 q_0 fk_C_10 rfl dX11_courtCoins_8 ?_
  refine g_get C (.int (d 2 5)) 2 q_2 fk_C_309 rfl dX11_courtCoins_11 ?_
  refine g_isub C dX11_courtCoins_14  ?_
  exact g_iret C hr hlk rfl rfl (congrArg (fun z => some (Value.int z)) (Option.some.inj h)) dX11_courtCoins_15
set_option maxHeartbeats 4000000 in
set_option maxRecDepth 100000 in
theorem m_C_day {w : wT} {l : Launch} {d : Dt} {rE : Int32} (hO : okW w) (h : f_C_day  d = some rE) : gM w l yX11_day cX11_day 1 (Option.some Jvm.ClassFile.FieldType.int) 0 [.ref (w_r w 0)] d d (some (.int rE)) := by
  refine gM_of (by decide) [(0, .ref (w_r w 0))] rfl rfl ?_ hO
  intro p e R s m args below meth c C hR hr hlk
  unfold f_C_day at h
  refine g_aload_n C dX11_day_0 0 rfl ?_
  refine g_get C (.ref (w_r w 2)) 0 q_0 fk_C_10 rfl dX11_day_1 ?_
  refine g_get C (.int (d 2 0)) 2 q_2 fk_C_180 rfl dX11_day_4 ?_
  exact g_iret C hr hlk rfl rfl (congrArg (fun z => some (Value.int z)) (Option.some.inj h)) dX11_day_7
set_option maxHeartbeats 4000000 in
set_option maxRecDepth 100000 in
theorem m_C_daysLeft {w : wT} {l : Launch} {x1 : Int32} {d : Dt} {zE : (Int32 ⊕ Nat)} (hO : okW w) (hl9 : l.stackTraces = false) (h : f_C_daysLeft x1 d = some zE) : gMX w l yX11_daysLeft cX11_daysLeft 2 (Option.some Jvm.ClassFile.FieldType.int) 8 2 12 [.ref (w_r w 0), .int x1] d (oR d zE) := by
  refine gMX_of (by decide) [(0, .ref (w_r w 0)), (1, .int x1)] rfl rfl ?_ hO
  intro p e R s m args below meth c C hR hr hlk hx
  unfold f_C_daysLeft at h
  refine g_aload_n C dX11_daysLeft_0 0 rfl ?_
  refine g_iload_n C dX11_daysLeft_1 1 rfl ?_
  obtain ⟨z4, hc3, h⟩ := ocU_1 h
  refine g_callVU C 2 12 0 q_0 vk_C_174 hR rfl (m_C_checkServing C.2.2.2.2.2.2.1 hl9 hc3) rfl rfl rfl dX11_daysLeft_2 rfl rfl rfl rfl (fun e6 => ?_) (fun et1 e6 => ?_)
  · subst e6
    replace h := ocU_i h
    refine g_aload_n C dX11_daysLeft_5 0 rfl ?_
    refine g_get C (.ref (w_r w 2)) 0 q_0 fk_C_10 rfl dX11_daysLeft_6 ?_
    refine g_get C (.ref (w_r w 3)) 2 q_2 fk_C_68 rfl dX11_daysLeft_9 ?_
    refine g_get C (.ref (w_r w 7)) 3 q_3 fk_C_192 rfl dX11_daysLeft_12 ?_
    refine g_iload_n C dX11_daysLeft_15 1 rfl ?_
    have hg7 := gd_1 h
    replace h := gd_2 h
    refine g_aald C 7 q_7 hg7 dX11_daysLeft_16 ?_
    refine g_iconst C dX11_daysLeft_17 (v := 0) rfl ?_
    refine g_iald C (8 + x1.toNatClampNeg) (isC_row8 hg7) (by decide) 0 (by decide) dX11_daysLeft_18 ?_
    exact g_iretX C hr hlk rfl rfl rfl (oR_i h) dX11_daysLeft_19
  · subst e6
    replace h := ocU_t h
    exact g_prop C hx hlk rfl rfl (oR_t h)
set_option maxHeartbeats 4000000 in
set_option maxRecDepth 100000 in
theorem m_L_daysToServe {w : wT} {l : Launch} {x1 : Int32} {d : Dt} {rE : Int32} (hO : okW w) (h : f_L_daysToServe x1 d = some rE) : gM w l yX5_daysToServe cX5_daysToServe 4 (Option.some Jvm.ClassFile.FieldType.int) 0 [.ref (w_r w 3), .int x1] d d (some (.int rE)) := by
  refine gM_of (by decide) [(0, .ref (w_r w 3)), (1, .int x1)] rfl rfl ?_ hO
  intro p e R s m args below meth c C hR hr hlk
  have R4 : ∀ (x1 : Int32) (x2 : Int32) (x3 : Int32), f_L_daysToServe_4 x1 x2 x3 d = some rE → gG w p l e R s m args below meth c 4 0 0 (gE w below args s d (some (.int rE))) d [(0, .ref (w_r w 3)), (1, .int x1), (2, .int x2), (3, .int x3)] 4 [] := by
    intro x1 x2 x3   h
    refine iter_ind (G := fun s_ : (Int32 × Int32) => gG w p l e R s m args below meth c 4 0 0 (gE w below args s d (some (.int rE))) d [(0, .ref (w_r w 3)), (1, .int x1), (2, .int s_.1), (3, .int s_.2)] 4 []) ?_ fu _ h
    clear h
    intro s_ y1 h hl1 hx1
    obtain ⟨x2, x3⟩ := s_
    show gG w p l e R s m args below meth c 4 0 0 (gE w below args s d (some (.int rE))) d [(0, .ref (w_r w 3)), (1, .int x1), (2, .int x2), (3, .int x3)] 4 []
    dsimp only at h
    unfold st_L_daysToServe_4 at h
    refine g_iload_n C dX5_daysToServe_4 3 rfl ?_
    refine g_aload_n C dX5_daysToServe_5 0 rfl ?_
    refine g_get C (.ref (w_r w 6)) 3 q_3 fk_L_18 rfl dX5_daysToServe_6 ?_
    refine g_iload_n C dX5_daysToServe_9 1 rfl ?_
    have hg1 := gd_1 h
    replace h := gd_2 h
    refine g_iald C 6 q_6 hg1 _ rfl dX5_daysToServe_10 ?_
    refine g_icmp_ge C dX5_daysToServe_11 (tgt := 31) rfl (fun q => ?_) (fun q => ?_)
    · replace h := it_t q h
      replace h := ir_2 h hx1
      refine g_iload_n C dX5_daysToServe_31 2 rfl ?_
      exact g_iret C hr hlk rfl rfl (congrArg (fun z => some (Value.int z)) (Option.some.inj h)) dX5_daysToServe_32
    · replace h := it_f q h
      refine g_iload_n C dX5_daysToServe_14 2 rfl ?_
      refine g_aload_n C dX5_daysToServe_15 0 rfl ?_
      refine g_get C (.ref (w_r w 7)) 3 q_3 fk_L_23 rfl dX5_daysToServe_16 ?_
      refine g_iload_n C dX5_daysToServe_19 1 rfl ?_
      have hg2 := gd_1 h
      replace h := gd_2 h
      refine g_aald C 7 q_7 hg2 dX5_daysToServe_20 ?_
      refine g_iload_n C dX5_daysToServe_21 3 rfl ?_
      have hg3 := gd_1 h
      replace h := gd_2 h
      refine g_iald C (8 + x1.toNatClampNeg) (isC_row8 hg2) hg3 _ rfl dX5_daysToServe_22 ?_
      refine g_iadd C dX5_daysToServe_23  ?_
      refine g_istore_n C (lv' := [(2, .int (x2 + (d (8 + x1.toNatClampNeg) x3.toNatClampNeg))), (0, .ref (w_r w 3)), (1, .int x1), (3, .int x3)]) dX5_daysToServe_24 (by decide) rfl ?_
      refine g_iinc C (lv' := [(3, .int (x3 + 1)), (2, .int (x2 + (d (8 + x1.toNatClampNeg) x3.toNatClampNeg))), (0, .ref (w_r w 3)), (1, .int x1)]) (v := (x3 + 1)) dX5_daysToServe_25 3 rfl rfl (by decide) rfl ?_
      refine g_goto C dX5_daysToServe_28 (tgt := 4) rfl ?_
      refine g_sub [2, 3, 1, 0] (lv' := [(0, .ref (w_r w 3)), (1, .int x1), (2, .int (x2 + (d (8 + x1.toNatClampNeg) x3.toNatClampNeg))), (3, .int (x3 + 1))]) rfl ?_
      exact hl1 ((x2 + (d (8 + x1.toNatClampNeg) x3.toNatClampNeg)), (x3 + 1)) (Option.some.inj h).symm
  unfold f_L_daysToServe at h
  refine g_iconst C dX5_daysToServe_0 (v := 0) rfl ?_
  refine g_istore_n C (lv' := [(2, .int 0), (0, .ref (w_r w 3)), (1, .int x1)]) dX5_daysToServe_1 (by decide) rfl ?_
  refine g_iconst C dX5_daysToServe_2 (v := 0) rfl ?_
  refine g_istore_n C (lv' := [(3, .int 0), (2, .int 0), (0, .ref (w_r w 3)), (1, .int x1)]) dX5_daysToServe_3 (by decide) rfl ?_
  refine g_sub [2, 3, 1, 0] (lv' := [(0, .ref (w_r w 3)), (1, .int x1), (2, .int 0), (3, .int 0)]) rfl ?_
  exact R4 x1 0 0 h
set_option maxHeartbeats 4000000 in
set_option maxRecDepth 100000 in
theorem m_C_daysUntilFree {w : wT} {l : Launch} {x1 : Int32} {d : Dt} {zE : (Int32 ⊕ Nat)} (hO : okW w) (hl9 : l.stackTraces = false) (h : f_C_daysUntilFree x1 d = some zE) : gMX w l yX11_daysUntilFree cX11_daysUntilFree 2 (Option.some Jvm.ClassFile.FieldType.int) 7 1 6 [.ref (w_r w 0), .int x1] d (oR d zE) := by
  refine gMX_of (by decide) [(0, .ref (w_r w 0)), (1, .int x1)] rfl rfl ?_ hO
  intro p e R s m args below meth c C hR hr hlk hx
  unfold f_C_daysUntilFree at h
  refine g_aload_n C dX11_daysUntilFree_0 0 rfl ?_
  refine g_iload_n C dX11_daysUntilFree_1 1 rfl ?_
  obtain ⟨z5, hc4, h⟩ := ocU_1 h
  refine g_callVU C 1 6 0 q_0 vk_C_93 hR rfl (m_C_checkLantern C.2.2.2.2.2.2.1 hl9 hc4) rfl rfl rfl dX11_daysUntilFree_2 rfl rfl rfl rfl (fun e7 => ?_) (fun et2 e7 => ?_)
  · subst e7
    replace h := ocU_i h
    refine g_aload_n C dX11_daysUntilFree_5 0 rfl ?_
    refine g_get C (.ref (w_r w 2)) 0 q_0 fk_C_10 rfl dX11_daysUntilFree_6 ?_
    refine g_get C (.ref (w_r w 3)) 2 q_2 fk_C_68 rfl dX11_daysUntilFree_9 ?_
    refine g_iload_n C dX11_daysUntilFree_12 1 rfl ?_
    obtain ⟨r8, hc9, h⟩ := ob1_1 h
    refine g_callVi C 3 q_3 vk_C_196 hR rfl (m_L_daysToServe C.2.2.2.2.2.2.1 hc9) rfl rfl rfl dX11_daysUntilFree_13 rfl rfl ?_
    exact g_iretX C hr hlk rfl rfl rfl (oR_i h) dX11_daysUntilFree_16
  · subst e7
    replace h := ocU_t h
    exact g_prop C hx hlk rfl rfl (oR_t h)
set_option maxHeartbeats 4000000 in
set_option maxRecDepth 100000 in
theorem m_R_keepsAdmissions {w : wT} {l : Launch} {x1 x2 : Int32} {d : Dt} {rE : Int32} (hO : okW w) (h : f_R_keepsAdmissions x1 x2 d = some rE) : gM w l yX10_keepsAdmissions cX10_keepsAdmissions 3 (Option.some Jvm.ClassFile.FieldType.boolean) 0 [.ref (w_r w 286), .int x1, .int x2] d d (some (.int rE)) := by
  refine gM_of (by decide) [(0, .ref (w_r w 286)), (1, .int x1), (2, .int x2)] rfl rfl ?_ hO
  intro p e R s m args below meth c C hR hr hlk
  unfold f_R_keepsAdmissions at h
  refine g_aload_n C dX10_keepsAdmissions_0 0 rfl ?_
  refine g_get C (.int (d 286 0)) 286 q_286 fk_R_15 rfl dX10_keepsAdmissions_1 ?_
  refine g_iload_n C dX10_keepsAdmissions_4 1 rfl ?_
  refine g_iand C dX10_keepsAdmissions_5  ?_
  refine g_iload_n C dX10_keepsAdmissions_6 2 rfl ?_
  refine g_iconst C dX10_keepsAdmissions_7 (v := (-1)) (by decide) ?_
  refine g_ixor C dX10_keepsAdmissions_8  ?_
  refine g_iand C dX10_keepsAdmissions_9  ?_
  refine g_if_ne C dX10_keepsAdmissions_10 (tgt := 28) rfl (fun q => ?_) (fun q => ?_)
  · replace h := it_f q h
    refine g_iconst C dX10_keepsAdmissions_28 (v := 0) rfl ?_
    exact g_iret C hr hlk rfl rfl (congrArg (fun z => some (Value.int z)) (Option.some.inj h)) dX10_keepsAdmissions_29
  · replace h := it_t q h
    refine g_aload_n C dX10_keepsAdmissions_13 0 rfl ?_
    refine g_get C (.int (d 286 1)) 286 q_286 fk_R_21 rfl dX10_keepsAdmissions_14 ?_
    refine g_iload_n C dX10_keepsAdmissions_17 1 rfl ?_
    refine g_iand C dX10_keepsAdmissions_18  ?_
    refine g_iload_n C dX10_keepsAdmissions_19 2 rfl ?_
    refine g_iand C dX10_keepsAdmissions_20  ?_
    refine g_if_ne C dX10_keepsAdmissions_21 (tgt := 28) rfl (fun q => ?_) (fun q => ?_)
    · replace h := it_f q h
      refine g_iconst C dX10_keepsAdmissions_28 (v := 0) rfl ?_
      exact g_iret C hr hlk rfl rfl (congrArg (fun z => some (Value.int z)) (Option.some.inj h)) dX10_keepsAdmissions_29
    · replace h := it_t q h
      refine g_iconst C dX10_keepsAdmissions_24 (v := 1) rfl ?_
      refine g_goto C dX10_keepsAdmissions_25 (tgt := 29) rfl ?_
      exact g_iret C hr hlk rfl rfl (congrArg (fun z => some (Value.int z)) (Option.some.inj h)) dX10_keepsAdmissions_29
set_option maxHeartbeats 4000000 in
set_option maxRecDepth 100000 in
theorem m_T_isTrue {w : wT} {l : Launch} {x1 x2 : Int32} {d : Dt} {rE : Int32} (hO : okW w) (h : f_T_isTrue x1 x2 d = some rE) : gM w l yX9_isTrue cX9_isTrue 4 (Option.some Jvm.ClassFile.FieldType.boolean) 0 [.ref (w_r w 22), .int x1, .int x2] d d (some (.int rE)) := by
  refine gM_of (by decide) [(0, .ref (w_r w 22)), (1, .int x1), (2, .int x2)] rfl rfl ?_ hO
  intro p e R s m args below meth c C hR hr hlk
  have R29 : ∀ (x1 : Int32) (v0 : Int32), f_T_isTrue_29 x1 v0 d = some rE → gG w p l e R s m args below meth c 4 0 0 (gE w below args s d (some (.int rE))) d [(0, .ref (w_r w 22)), (1, .int x1)] 29 [.int v0] := by
    intro x1 v0   h
    unfold f_T_isTrue_29 at h
    refine g_aload_n C dX9_isTrue_29 0 rfl ?_
    refine g_get C (.ref (w_r w 25)) 22 q_22 fk_T_18 rfl dX9_isTrue_30 ?_
    refine g_iload_n C dX9_isTrue_33 1 rfl ?_
    have hg2 := gd_1 h
    replace h := gd_2 h
    refine g_zald C 25 q_25 hg2 _ rfl dX9_isTrue_34 ?_
    refine g_icmp_ne C dX9_isTrue_35 (tgt := 42) rfl (fun q => ?_) (fun q => ?_)
    · replace h := it_f q h
      refine g_iconst C dX9_isTrue_42 (v := 0) rfl ?_
      exact g_iret C hr hlk rfl rfl (congrArg (fun z => some (Value.int z)) (Option.some.inj h)) dX9_isTrue_43
    · replace h := it_t q h
      refine g_iconst C dX9_isTrue_38 (v := 1) rfl ?_
      refine g_goto C dX9_isTrue_39 (tgt := 43) rfl ?_
      exact g_iret C hr hlk rfl rfl (congrArg (fun z => some (Value.int z)) (Option.some.inj h)) dX9_isTrue_43
  unfold f_T_isTrue at h
  refine g_iload_n C dX9_isTrue_0 2 rfl ?_
  refine g_aload_n C dX9_isTrue_1 0 rfl ?_
  refine g_get C (.ref (w_r w 23)) 22 q_22 fk_T_9 rfl dX9_isTrue_2 ?_
  refine g_iload_n C dX9_isTrue_5 1 rfl ?_
  have hg3 := gd_1 h
  replace h := gd_2 h
  refine g_iald C 23 q_23 hg3 _ rfl dX9_isTrue_6 ?_
  refine g_ishr C dX9_isTrue_7  ?_
  refine g_iload_n C dX9_isTrue_8 2 rfl ?_
  refine g_aload_n C dX9_isTrue_9 0 rfl ?_
  refine g_get C (.ref (w_r w 24)) 22 q_22 fk_T_15 rfl dX9_isTrue_10 ?_
  refine g_iload_n C dX9_isTrue_13 1 rfl ?_
  have hg4 := gd_1 h
  replace h := gd_2 h
  refine g_iald C 24 q_24 hg4 _ rfl dX9_isTrue_14 ?_
  refine g_ishr C dX9_isTrue_15  ?_
  refine g_ixor C dX9_isTrue_16  ?_
  refine g_iconst C dX9_isTrue_17 (v := 1) rfl ?_
  refine g_iand C dX9_isTrue_18  ?_
  obtain ⟨t5, ht5, h⟩ := bnd_1 h
  refine g_nm ht5 ?_
  refine g_istore_n C (lv' := [(3, .int t5), (0, .ref (w_r w 22)), (1, .int x1), (2, .int x2)]) dX9_isTrue_19 (by decide) rfl ?_
  refine g_iload_n C dX9_isTrue_20 0 rfl ?_
  refine g_if_ne C dX9_isTrue_21 (tgt := 28) rfl (fun q => ?_) (fun q => ?_)
  · replace h := it_f q h
    refine g_iconst C dX9_isTrue_28 (v := 0) rfl ?_
    refine g_sub [1, 2] (lv' := [(0, .ref (w_r w 22)), (1, .int x1)]) rfl ?_
    exact R29 x1 0 h
  · replace h := it_t q h
    refine g_iconst C dX9_isTrue_24 (v := 1) rfl ?_
    refine g_goto C dX9_isTrue_25 (tgt := 29) rfl ?_
    refine g_sub [1, 2] (lv' := [(0, .ref (w_r w 22)), (1, .int x1)]) rfl ?_
    exact R29 x1 1 h
set_option maxHeartbeats 4000000 in
set_option maxRecDepth 100000 in
theorem m_T_countFalse {w : wT} {l : Launch} {x1 x2 : Int32} {d : Dt} {rE : Int32} (hO : okW w) (h : f_T_countFalse x1 x2 d = some rE) : gM w l yX9_countFalse cX9_countFalse 5 (Option.some Jvm.ClassFile.FieldType.int) 1 [.ref (w_r w 22), .int x1, .int x2] d d (some (.int rE)) := by
  refine gM_of (by decide) [(0, .ref (w_r w 22)), (1, .int x1), (2, .int x2)] rfl rfl ?_ hO
  intro p e R s m args below meth c C hR hr hlk
  have R5 : ∀ (x1 : Int32) (x2 : Int32) (x3 : Int32) (x4 : Int32), f_T_countFalse_5 x1 x2 x3 x4 d = some rE → gG w p l e R s m args below meth c 5 0 0 (gE w below args s d (some (.int rE))) d [(0, .ref (w_r w 22)), (1, .int x1), (2, .int x2), (3, .int x3), (4, .int x4)] 5 [] := by
    intro x1 x2 x3 x4   h
    refine iter_ind (G := fun s_ : (Int32 × Int32) => gG w p l e R s m args below meth c 5 0 0 (gE w below args s d (some (.int rE))) d [(0, .ref (w_r w 22)), (1, .int x1), (2, .int x2), (3, .int s_.1), (4, .int s_.2)] 5 []) ?_ fu _ h
    clear h
    intro s_ y1 h hl1 hx1
    obtain ⟨x3, x4⟩ := s_
    show gG w p l e R s m args below meth c 5 0 0 (gE w below args s d (some (.int rE))) d [(0, .ref (w_r w 22)), (1, .int x1), (2, .int x2), (3, .int x3), (4, .int x4)] 5 []
    dsimp only at h
    unfold st_T_countFalse_5 at h
    refine g_iload C dX9_countFalse_5 4 rfl ?_
    refine g_aload_n C dX9_countFalse_7 0 rfl ?_
    refine g_get C (.int (d 22 0)) 22 q_22 fk_T_22 rfl dX9_countFalse_8 ?_
    refine g_icmp_ge C dX9_countFalse_11 (tgt := 48) rfl (fun q => ?_) (fun q => ?_)
    · replace h := it_t q h
      replace h := ir_2 h hx1
      refine g_iload_n C dX9_countFalse_48 3 rfl ?_
      exact g_iret C hr hlk rfl rfl (congrArg (fun z => some (Value.int z)) (Option.some.inj h)) dX9_countFalse_49
    · replace h := it_f q h
      refine g_iload_n C dX9_countFalse_14 1 rfl ?_
      refine g_aload_n C dX9_countFalse_15 0 rfl ?_
      refine g_get C (.ref (w_r w 23)) 22 q_22 fk_T_9 rfl dX9_countFalse_16 ?_
      refine g_iload C dX9_countFalse_19 4 rfl ?_
      have hg2 := gd_1 h
      replace h := gd_2 h
      refine g_iald C 23 q_23 hg2 _ rfl dX9_countFalse_21 ?_
      refine g_ishr C dX9_countFalse_22  ?_
      refine g_iconst C dX9_countFalse_23 (v := 1) rfl ?_
      refine g_iand C dX9_countFalse_24  ?_
      refine g_iconst C dX9_countFalse_25 (v := 1) rfl ?_
      refine g_icmp_ne C dX9_countFalse_26 (tgt := 42) rfl (fun q => ?_) (fun q => ?_)
      · replace h := it_f q h
        refine g_iinc C (lv' := [(4, .int (x4 + 1)), (0, .ref (w_r w 22)), (1, .int x1), (2, .int x2), (3, .int x3)]) (v := (x4 + 1)) dX9_countFalse_42 4 rfl rfl (by decide) rfl ?_
        refine g_goto C dX9_countFalse_45 (tgt := 5) rfl ?_
        refine g_sub [1, 2, 3, 4, 0] (lv' := [(0, .ref (w_r w 22)), (1, .int x1), (2, .int x2), (3, .int x3), (4, .int (x4 + 1))]) rfl ?_
        exact hl1 (x3, (x4 + 1)) (Option.some.inj h).symm
      · replace h := it_t q h
        refine g_aload_n C dX9_countFalse_29 0 rfl ?_
        refine g_iload C dX9_countFalse_30 4 rfl ?_
        refine g_iload_n C dX9_countFalse_32 2 rfl ?_
        obtain ⟨r3, hc4, h⟩ := ob1_1 h
        refine g_callVi C 22 q_22 vk_T_32 hR rfl (m_T_isTrue C.2.2.2.2.2.2.1 hc4) rfl rfl rfl dX9_countFalse_33 rfl rfl ?_
        refine g_if_ne C dX9_countFalse_36 (tgt := 42) rfl (fun q => ?_) (fun q => ?_)
        · replace h := it_f q h
          refine g_iinc C (lv' := [(4, .int (x4 + 1)), (0, .ref (w_r w 22)), (1, .int x1), (2, .int x2), (3, .int x3)]) (v := (x4 + 1)) dX9_countFalse_42 4 rfl rfl (by decide) rfl ?_
          refine g_goto C dX9_countFalse_45 (tgt := 5) rfl ?_
          refine g_sub [1, 2, 3, 4, 0] (lv' := [(0, .ref (w_r w 22)), (1, .int x1), (2, .int x2), (3, .int x3), (4, .int (x4 + 1))]) rfl ?_
          exact hl1 (x3, (x4 + 1)) (Option.some.inj h).symm
        · replace h := it_t q h
          refine g_iinc C (lv' := [(3, .int (x3 + 1)), (0, .ref (w_r w 22)), (1, .int x1), (2, .int x2), (4, .int x4)]) (v := (x3 + 1)) dX9_countFalse_39 3 rfl rfl (by decide) rfl ?_
          refine g_iinc C (lv' := [(4, .int (x4 + 1)), (3, .int (x3 + 1)), (0, .ref (w_r w 22)), (1, .int x1), (2, .int x2)]) (v := (x4 + 1)) dX9_countFalse_42 4 rfl rfl (by decide) rfl ?_
          refine g_goto C dX9_countFalse_45 (tgt := 5) rfl ?_
          refine g_sub [2, 3, 4, 1, 0] (lv' := [(0, .ref (w_r w 22)), (1, .int x1), (2, .int x2), (3, .int (x3 + 1)), (4, .int (x4 + 1))]) rfl ?_
          exact hl1 ((x3 + 1), (x4 + 1)) (Option.some.inj h).symm
  unfold f_T_countFalse at h
  refine g_iconst C dX9_countFalse_0 (v := 0) rfl ?_
  refine g_istore_n C (lv' := [(3, .int 0), (0, .ref (w_r w 22)), (1, .int x1), (2, .int x2)]) dX9_countFalse_1 (by decide) rfl ?_
  refine g_iconst C dX9_countFalse_2 (v := 0) rfl ?_
  refine g_istore C (lv' := [(4, .int 0), (3, .int 0), (0, .ref (w_r w 22)), (1, .int x1), (2, .int x2)]) dX9_countFalse_3 (by decide) rfl ?_
  refine g_sub [2, 3, 4, 1, 0] (lv' := [(0, .ref (w_r w 22)), (1, .int x1), (2, .int x2), (3, .int 0), (4, .int 0)]) rfl ?_
  exact R5 x1 x2 0 0 h
set_option maxHeartbeats 4000000 in
set_option maxRecDepth 100000 in
theorem m_L_admitting {w : wT} {l : Launch} {x1 : Int32} {d : Dt} {rE : Int32} (hO : okW w) (h : f_L_admitting x1 d = some rE) : gM w l yX5_admitting cX5_admitting 4 (Option.some Jvm.ClassFile.FieldType.int) 0 [.ref (w_r w 3), .int x1] d d (some (.int rE)) := by
  refine gM_of (by decide) [(0, .ref (w_r w 3)), (1, .int x1)] rfl rfl ?_ hO
  intro p e R s m args below meth c C hR hr hlk
  have R4 : ∀ (x1 : Int32) (x2 : Int32) (x3 : Int32), f_L_admitting_4 x1 x2 x3 d = some rE → gG w p l e R s m args below meth c 4 0 0 (gE w below args s d (some (.int rE))) d [(0, .ref (w_r w 3)), (1, .int x1), (2, .int x2), (3, .int x3)] 4 [] := by
    intro x1 x2 x3   h
    refine iter_ind (G := fun s_ : (Int32 × Int32) => gG w p l e R s m args below meth c 4 0 0 (gE w below args s d (some (.int rE))) d [(0, .ref (w_r w 3)), (1, .int x1), (2, .int s_.1), (3, .int s_.2)] 4 []) ?_ fu _ h
    clear h
    intro s_ y1 h hl1 hx1
    obtain ⟨x2, x3⟩ := s_
    show gG w p l e R s m args below meth c 4 0 0 (gE w below args s d (some (.int rE))) d [(0, .ref (w_r w 3)), (1, .int x1), (2, .int x2), (3, .int x3)] 4 []
    dsimp only at h
    unfold st_L_admitting_4 at h
    refine g_iload_n C dX5_admitting_4 3 rfl ?_
    refine g_aload_n C dX5_admitting_5 0 rfl ?_
    refine g_get C (.int (d 3 0)) 3 q_3 fk_L_26 rfl dX5_admitting_6 ?_
    refine g_icmp_ge C dX5_admitting_9 (tgt := 34) rfl (fun q => ?_) (fun q => ?_)
    · replace h := it_t q h
      replace h := ir_2 h hx1
      refine g_iload_n C dX5_admitting_34 2 rfl ?_
      exact g_iret C hr hlk rfl rfl (congrArg (fun z => some (Value.int z)) (Option.some.inj h)) dX5_admitting_35
    · replace h := it_f q h
      refine g_aload_n C dX5_admitting_12 0 rfl ?_
      refine g_get C (.ref (w_r w 5)) 3 q_3 fk_L_15 rfl dX5_admitting_13 ?_
      refine g_iload_n C dX5_admitting_16 3 rfl ?_
      have hg1 := gd_1 h
      replace h := gd_2 h
      refine g_iald C 5 q_5 hg1 _ rfl dX5_admitting_17 ?_
      refine g_iload_n C dX5_admitting_18 1 rfl ?_
      refine g_icmp_ne C dX5_admitting_19 (tgt := 28) rfl (fun q => ?_) (fun q => ?_)
      · replace h := it_f q h
        refine g_iinc C (lv' := [(3, .int (x3 + 1)), (0, .ref (w_r w 3)), (1, .int x1), (2, .int x2)]) (v := (x3 + 1)) dX5_admitting_28 3 rfl rfl (by decide) rfl ?_
        refine g_goto C dX5_admitting_31 (tgt := 4) rfl ?_
        refine g_sub [1, 2, 3, 0] (lv' := [(0, .ref (w_r w 3)), (1, .int x1), (2, .int x2), (3, .int (x3 + 1))]) rfl ?_
        exact hl1 (x2, (x3 + 1)) (Option.some.inj h).symm
      · replace h := it_t q h
        refine g_iload_n C dX5_admitting_22 2 rfl ?_
        refine g_iconst C dX5_admitting_23 (v := 1) rfl ?_
        refine g_iload_n C dX5_admitting_24 3 rfl ?_
        refine g_ishl C dX5_admitting_25  ?_
        refine g_ior C dX5_admitting_26  ?_
        refine g_istore_n C (lv' := [(2, .int (x2 ||| (1 <<< (x3 &&& 31)))), (0, .ref (w_r w 3)), (1, .int x1), (3, .int x3)]) dX5_admitting_27 (by decide) rfl ?_
        refine g_iinc C (lv' := [(3, .int (x3 + 1)), (2, .int (x2 ||| (1 <<< (x3 &&& 31)))), (0, .ref (w_r w 3)), (1, .int x1)]) (v := (x3 + 1)) dX5_admitting_28 3 rfl rfl (by decide) rfl ?_
        refine g_goto C dX5_admitting_31 (tgt := 4) rfl ?_
        refine g_sub [2, 3, 1, 0] (lv' := [(0, .ref (w_r w 3)), (1, .int x1), (2, .int (x2 ||| (1 <<< (x3 &&& 31)))), (3, .int (x3 + 1))]) rfl ?_
        exact hl1 ((x2 ||| (1 <<< (x3 &&& 31))), (x3 + 1)) (Option.some.inj h).symm
  unfold f_L_admitting at h
  refine g_iconst C dX5_admitting_0 (v := 0) rfl ?_
  refine g_istore_n C (lv' := [(2, .int 0), (0, .ref (w_r w 3)), (1, .int x1)]) dX5_admitting_1 (by decide) rfl ?_
  refine g_iconst C dX5_admitting_2 (v := 0) rfl ?_
  refine g_istore_n C (lv' := [(3, .int 0), (2, .int 0), (0, .ref (w_r w 3)), (1, .int x1)]) dX5_admitting_3 (by decide) rfl ?_
  refine g_sub [2, 3, 1, 0] (lv' := [(0, .ref (w_r w 3)), (1, .int x1), (2, .int 0), (3, .int 0)]) rfl ?_
  exact R4 x1 0 0 h
set_option maxHeartbeats 4000000 in
set_option maxRecDepth 100000 in
theorem m_R_readAdmissions {w : wT} {l : Launch} {d : Dt} {dE : Dt} (hO : okW w) (h : f_R_readAdmissions  d = some dE) : gM w l yX10_readAdmissions cX10_readAdmissions 2 (Option.none : Option Jvm.ClassFile.FieldType) 1 [.ref (w_r w 286), .ref (w_r w 3)] d dE none := by
  refine gM_of (by decide) [(0, .ref (w_r w 286)), (1, .ref (w_r w 3))] rfl rfl ?_ hO
  intro p e R s m args below meth c C hR hr hlk
  unfold f_R_readAdmissions at h
  refine g_aload_n C dX10_readAdmissions_0 0 rfl ?_
  refine g_aload_n C dX10_readAdmissions_1 1 rfl ?_
  refine g_iconst C dX10_readAdmissions_2 (v := 1) rfl ?_
  obtain ⟨r3, hc4, h⟩ := ob1_1 h
  refine g_callVi C 3 q_3 vk_R_9 hR rfl (m_L_admitting C.2.2.2.2.2.2.1 hc4) rfl rfl rfl dX10_readAdmissions_3 rfl rfl ?_
  refine g_put C 286 q_286 pk_R_15 rfl rfl dX10_readAdmissions_6 ?_
  refine g_aload_n C dX10_readAdmissions_9 0 rfl ?_
  refine g_aload_n C dX10_readAdmissions_10 1 rfl ?_
  refine g_iconst C dX10_readAdmissions_11 (v := 2) rfl ?_
  obtain ⟨r5, hc6, h⟩ := ob1_1 h
  refine g_callVi C 3 q_3 vk_R_9 hR rfl (m_L_admitting C.2.2.2.2.2.2.1 hc6) rfl rfl rfl dX10_readAdmissions_12 rfl rfl ?_
  refine g_put C 286 q_286 pk_R_21 rfl rfl dX10_readAdmissions_15 ?_
  exact g_vret C hr hlk (Option.some.inj h) rfl dX10_readAdmissions_18
set_option maxHeartbeats 4000000 in
set_option maxRecDepth 100000 in
theorem m_T_connectedWith {w : wT} {l : Launch} {x1 : Int32} {d : Dt} {rE : Int32} (hO : okW w) (h : f_T_connectedWith x1 d = some rE) : gM w l yX9_connectedWith cX9_connectedWith 6 (Option.some Jvm.ClassFile.FieldType.int) 0 [.ref (w_r w 22), .int x1] d d (some (.int rE)) := by
  refine gM_of (by decide) [(0, .ref (w_r w 22)), (1, .int x1)] rfl rfl ?_ hO
  intro p e R s m args below meth c C hR hr hlk
  have R6 : ∀ (x2 : Int32) (x3 : Int32), f_T_connectedWith_6 x2 x3 d = some rE → gG w p l e R s m args below meth c 6 0 0 (gE w below args s d (some (.int rE))) d [(0, .ref (w_r w 22)), (2, .int x2), (3, .int x3)] 6 [] := by
    intro x2 x3   h
    refine iter_ind (G := fun s_ : (Int32 × Int32) => gG w p l e R s m args below meth c 6 0 0 (gE w below args s d (some (.int rE))) d [(0, .ref (w_r w 22)), (2, .int s_.1), (3, .int s_.2)] 6 []) ?_ fu _ h
    clear h
    intro s_ y1 h hl1 hx1
    obtain ⟨x2, x3⟩ := s_
    show gG w p l e R s m args below meth c 6 0 0 (gE w below args s d (some (.int rE))) d [(0, .ref (w_r w 22)), (2, .int x2), (3, .int x3)] 6 []
    dsimp only at h
    unfold st_T_connectedWith_6 at h
    have R15 : ∀ (x3 : Int32) (x2 : Int32) (x4 : Int32), f_T_connectedWith_15 x3 x2 x4 d = some y1 → gG w p l e R s m args below meth c 6 0 0 (gE w below args s d (some (.int rE))) d [(0, .ref (w_r w 22)), (2, .int x2), (3, .int x3), (4, .int x4)] 15 [] := by
      intro x3 x2 x4   h
      refine iter_ind (G := fun s_ : (Int32 × Int32) => gG w p l e R s m args below meth c 6 0 0 (gE w below args s d (some (.int rE))) d [(0, .ref (w_r w 22)), (2, .int s_.1), (3, .int x3), (4, .int s_.2)] 15 []) ?_ fu _ h
      clear h
      intro s_ y2 h hl2 hx2
      obtain ⟨x2, x4⟩ := s_
      show gG w p l e R s m args below meth c 6 0 0 (gE w below args s d (some (.int rE))) d [(0, .ref (w_r w 22)), (2, .int x2), (3, .int x3), (4, .int x4)] 15 []
      dsimp only at h
      unfold st_T_connectedWith_15 at h
      refine g_iload C dX9_connectedWith_15 3 rfl ?_
      refine g_aload_n C dX9_connectedWith_17 0 rfl ?_
      refine g_get C (.int (d 22 0)) 22 q_22 fk_T_22 rfl dX9_connectedWith_18 ?_
      refine g_icmp_ge C dX9_connectedWith_21 (tgt := 63) rfl (fun q => ?_) (fun q => ?_)
      · replace h := it_t q h
        replace h := ir_2 h hx2
        refine g_iinc C (lv' := [(3, .int (x3 + 1)), (0, .ref (w_r w 22)), (2, .int x2), (4, .int x4)]) (v := (x3 + 1)) dX9_connectedWith_63 2 rfl rfl (by decide) rfl ?_
        refine g_goto C dX9_connectedWith_66 (tgt := 6) rfl ?_
        refine g_sub [1, 2, 0] (lv' := [(0, .ref (w_r w 22)), (2, .int x2), (3, .int (x3 + 1))]) rfl ?_
        exact hl1 (x2, (x3 + 1)) (Option.some.inj h).symm
      · replace h := it_f q h
        refine g_iconst C dX9_connectedWith_24 (v := 1) rfl ?_
        refine g_aload_n C dX9_connectedWith_25 0 rfl ?_
        refine g_get C (.ref (w_r w 23)) 22 q_22 fk_T_9 rfl dX9_connectedWith_26 ?_
        refine g_iload C dX9_connectedWith_29 3 rfl ?_
        have hg2 := gd_1 h
        replace h := gd_2 h
        refine g_iald C 23 q_23 hg2 _ rfl dX9_connectedWith_31 ?_
        refine g_ishl C dX9_connectedWith_32  ?_
        refine g_iconst C dX9_connectedWith_33 (v := 1) rfl ?_
        refine g_aload_n C dX9_connectedWith_34 0 rfl ?_
        refine g_get C (.ref (w_r w 24)) 22 q_22 fk_T_15 rfl dX9_connectedWith_35 ?_
        refine g_iload C dX9_connectedWith_38 3 rfl ?_
        have hg3 := gd_1 h
        replace h := gd_2 h
        refine g_iald C 24 q_24 hg3 _ rfl dX9_connectedWith_40 ?_
        refine g_ishl C dX9_connectedWith_41  ?_
        refine g_ior C dX9_connectedWith_42  ?_
        obtain ⟨t4, ht4, h⟩ := bnd_1 h
        refine g_nm ht4 ?_
        refine g_istore C (lv' := [(5, .int t4), (0, .ref (w_r w 22)), (2, .int x2), (3, .int x3), (4, .int x4)]) dX9_connectedWith_43 (by decide) rfl ?_
        refine g_iload_n C dX9_connectedWith_45 2 rfl ?_
        refine g_iload C dX9_connectedWith_46 0 rfl ?_
        refine g_iand C dX9_connectedWith_48  ?_
        refine g_if_eq C dX9_connectedWith_49 (tgt := 57) rfl (fun q => ?_) (fun q => ?_)
        · replace h := it_t q h
          refine g_iinc C (lv' := [(4, .int (x4 + 1)), (5, .int t4), (0, .ref (w_r w 22)), (2, .int x2), (3, .int x3)]) (v := (x4 + 1)) dX9_connectedWith_57 4 rfl rfl (by decide) rfl ?_
          refine g_goto C dX9_connectedWith_60 (tgt := 15) rfl ?_
          refine g_sub [2, 3, 4, 0] (lv' := [(0, .ref (w_r w 22)), (2, .int x2), (3, .int x3), (4, .int (x4 + 1))]) rfl ?_
          exact hl2 (x2, (x4 + 1)) (Option.some.inj h).symm
        · replace h := it_f q h
          refine g_iload_n C dX9_connectedWith_52 2 rfl ?_
          refine g_iload C dX9_connectedWith_53 0 rfl ?_
          refine g_ior C dX9_connectedWith_55  ?_
          refine g_istore_n C (lv' := [(2, .int (x2 ||| t4)), (5, .int t4), (0, .ref (w_r w 22)), (3, .int x3), (4, .int x4)]) dX9_connectedWith_56 (by decide) rfl ?_
          refine g_iinc C (lv' := [(4, .int (x4 + 1)), (2, .int (x2 ||| t4)), (5, .int t4), (0, .ref (w_r w 22)), (3, .int x3)]) (v := (x4 + 1)) dX9_connectedWith_57 4 rfl rfl (by decide) rfl ?_
          refine g_goto C dX9_connectedWith_60 (tgt := 15) rfl ?_
          refine g_sub [3, 1, 4, 0] (lv' := [(0, .ref (w_r w 22)), (2, .int (x2 ||| t4)), (3, .int x3), (4, .int (x4 + 1))]) rfl ?_
          exact hl2 ((x2 ||| t4), (x4 + 1)) (Option.some.inj h).symm
    refine g_iload_n C dX9_connectedWith_6 2 rfl ?_
    refine g_bipush C dX9_connectedWith_7 (v := 8) (by decide) ?_
    refine g_icmp_ge C dX9_connectedWith_9 (tgt := 69) rfl (fun q => ?_) (fun q => ?_)
    · replace h := it_t q h
      replace h := ir_2 h hx1
      refine g_iload_n C dX9_connectedWith_69 1 rfl ?_
      exact g_iret C hr hlk rfl rfl (congrArg (fun z => some (Value.int z)) (Option.some.inj h)) dX9_connectedWith_70
    · replace h := it_f q h
      refine g_iconst C dX9_connectedWith_12 (v := 0) rfl ?_
      refine g_istore C (lv' := [(4, .int 0), (0, .ref (w_r w 22)), (2, .int x2), (3, .int x3)]) dX9_connectedWith_13 (by decide) rfl ?_
      refine g_sub [1, 2, 3, 0] (lv' := [(0, .ref (w_r w 22)), (2, .int x2), (3, .int x3), (4, .int 0)]) rfl ?_
      exact R15 x3 x2 0 h
  unfold f_T_connectedWith at h
  refine g_iconst C dX9_connectedWith_0 (v := 1) rfl ?_
  refine g_iload_n C dX9_connectedWith_1 1 rfl ?_
  refine g_ishl C dX9_connectedWith_2  ?_
  refine g_istore_n C (lv' := [(2, .int (1 <<< (x1 &&& 31))), (0, .ref (w_r w 22)), (1, .int x1)]) dX9_connectedWith_3 (by decide) rfl ?_
  refine g_iconst C dX9_connectedWith_4 (v := 0) rfl ?_
  refine g_istore_n C (lv' := [(3, .int 0), (2, .int (1 <<< (x1 &&& 31))), (0, .ref (w_r w 22)), (1, .int x1)]) dX9_connectedWith_5 (by decide) rfl ?_
  refine g_sub [2, 1, 0] (lv' := [(0, .ref (w_r w 22)), (2, .int (1 <<< (x1 &&& 31))), (3, .int 0)]) rfl ?_
  exact R6 (1 <<< (x1 &&& 31)) 0 h
set_option maxHeartbeats 4000000 in
set_option maxRecDepth 100000 in
theorem m_R_verdictOn {w : wT} {l : Launch} {x1 : Int32} {d : Dt} {rE : Int32} {dE : Dt} (hO : okW w) (h : f_R_verdictOn x1 d = some (rE, dE)) : gM w l yX10_verdictOn cX10_verdictOn 8 (Option.some Jvm.ClassFile.FieldType.char) 2 [.ref (w_r w 286), .int x1, .ref (w_r w 3), .ref (w_r w 22)] d dE (some (.int rE)) := by
  refine gM_of (by decide) [(0, .ref (w_r w 286)), (1, .int x1), (2, .ref (w_r w 3)), (3, .ref (w_r w 22))] rfl rfl ?_ hO
  intro p e R s m args below meth c C hR hr hlk
  have R21 : ∀ (x1 : Int32) (x4 : Int32) (x5 : Int32) (x6 : Int32) (x7 : Int32) (d : Dt), f_R_verdictOn_21 x1 x4 x5 x6 x7 d = some (rE, dE) → gG w p l e R s m args below meth c 8 0 0 (gE w below args s dE (some (.int rE))) d [(0, .ref (w_r w 286)), (1, .int x1), (2, .ref (w_r w 3)), (3, .ref (w_r w 22)), (4, .int x4), (5, .int x5), (6, .int x6), (7, .int x7)] 21 [] := by
    intro x1 x4 x5 x6 x7 d  h
    refine iter_ind (G := fun s_ : (Int32 × Int32 × Int32) => gG w p l e R s m args below meth c 8 0 0 (gE w below args s dE (some (.int rE))) d [(0, .ref (w_r w 286)), (1, .int x1), (2, .ref (w_r w 3)), (3, .ref (w_r w 22)), (4, .int x4), (5, .int s_.1), (6, .int s_.2.1), (7, .int s_.2.2)] 21 []) ?_ fu _ h
    clear h
    intro s_ y1 h hl1 hx1
    obtain ⟨x5, x6, x7⟩ := s_
    show gG w p l e R s m args below meth c 8 0 0 (gE w below args s dE (some (.int rE))) d [(0, .ref (w_r w 286)), (1, .int x1), (2, .ref (w_r w 3)), (3, .ref (w_r w 22)), (4, .int x4), (5, .int x5), (6, .int x6), (7, .int x7)] 21 []
    dsimp only at h
    unfold st_R_verdictOn_21 at h
    refine g_iload C dX10_verdictOn_21 7 rfl ?_
    refine g_iconst C dX10_verdictOn_23 (v := 1) rfl ?_
    refine g_aload_n C dX10_verdictOn_24 2 rfl ?_
    refine g_get C (.int (d 3 0)) 3 q_3 fk_R_33 rfl dX10_verdictOn_25 ?_
    refine g_ishl C dX10_verdictOn_28  ?_
    refine g_icmp_ge C dX10_verdictOn_29 (tgt := 79) rfl (fun q => ?_) (fun q => ?_)
    · replace h := it_t q h
      replace h := ir_2 h hx1
      refine g_iload C dX10_verdictOn_79 5 rfl ?_
      refine g_if_eq C dX10_verdictOn_81 (tgt := 97) rfl (fun q => ?_) (fun q => ?_)
      · replace h := it_t q h
        refine g_iload C dX10_verdictOn_97 6 rfl ?_
        refine g_if_eq C dX10_verdictOn_99 (tgt := 107) rfl (fun q => ?_) (fun q => ?_)
        · replace h := it_t q h
          refine g_bipush C dX10_verdictOn_107 (v := 109) (by decide) ?_
          exact g_iret C hr hlk rfl (congrArg Prod.snd (Option.some.inj h)) (congrArg (fun z => some (Value.int z.1)) (Option.some.inj h)) dX10_verdictOn_109
        · replace h := it_f q h
          refine g_bipush C dX10_verdictOn_102 (v := 105) (by decide) ?_
          refine g_goto C dX10_verdictOn_104 (tgt := 109) rfl ?_
          exact g_iret C hr hlk rfl (congrArg Prod.snd (Option.some.inj h)) (congrArg (fun z => some (Value.int z.1)) (Option.some.inj h)) dX10_verdictOn_109
      · replace h := it_f q h
        refine g_iload C dX10_verdictOn_84 6 rfl ?_
        refine g_if_eq C dX10_verdictOn_86 (tgt := 94) rfl (fun q => ?_) (fun q => ?_)
        · replace h := it_t q h
          refine g_bipush C dX10_verdictOn_94 (v := 103) (by decide) ?_
          exact g_iret C hr hlk rfl (congrArg Prod.snd (Option.some.inj h)) (congrArg (fun z => some (Value.int z.1)) (Option.some.inj h)) dX10_verdictOn_96
        · replace h := it_f q h
          refine g_bipush C dX10_verdictOn_89 (v := 117) (by decide) ?_
          refine g_goto C dX10_verdictOn_91 (tgt := 96) rfl ?_
          exact g_iret C hr hlk rfl (congrArg Prod.snd (Option.some.inj h)) (congrArg (fun z => some (Value.int z.1)) (Option.some.inj h)) dX10_verdictOn_96
    · replace h := it_f q h
      refine g_aload_n C dX10_verdictOn_32 0 rfl ?_
      refine g_iload C dX10_verdictOn_33 4 rfl ?_
      refine g_iload C dX10_verdictOn_35 7 rfl ?_
      obtain ⟨r5, hc6, h⟩ := ob1_1 h
      refine g_callVi C 286 q_286 vk_R_36 hR rfl (m_R_keepsAdmissions C.2.2.2.2.2.2.1 hc6) rfl rfl rfl dX10_verdictOn_37 rfl rfl ?_
      refine g_if_eq C dX10_verdictOn_40 (tgt := 73) rfl (fun q => ?_) (fun q => ?_)
      · replace h := it_t q h
        refine g_iinc C (lv' := [(7, .int (x7 + 1)), (0, .ref (w_r w 286)), (1, .int x1), (2, .ref (w_r w 3)), (3, .ref (w_r w 22)), (4, .int x4), (5, .int x5), (6, .int x6)]) (v := (x7 + 1)) dX10_verdictOn_73 7 rfl rfl (by decide) rfl ?_
        refine g_goto C dX10_verdictOn_76 (tgt := 21) rfl ?_
        refine g_sub [1, 2, 3, 4, 5, 6, 7, 0] (lv' := [(0, .ref (w_r w 286)), (1, .int x1), (2, .ref (w_r w 3)), (3, .ref (w_r w 22)), (4, .int x4), (5, .int x5), (6, .int x6), (7, .int (x7 + 1))]) rfl ?_
        exact hl1 (x5, x6, (x7 + 1)) (Option.some.inj h).symm
      · replace h := it_f q h
        refine g_aload_n C dX10_verdictOn_43 3 rfl ?_
        refine g_iload C dX10_verdictOn_44 4 rfl ?_
        refine g_iload C dX10_verdictOn_46 7 rfl ?_
        obtain ⟨r7, hc8, h⟩ := ob1_1 h
        refine g_callVi C 22 q_22 vk_R_40 hR rfl (m_T_countFalse C.2.2.2.2.2.2.1 hc8) rfl rfl rfl dX10_verdictOn_48 rfl rfl ?_
        refine g_if_ne C dX10_verdictOn_51 (tgt := 73) rfl (fun q => ?_) (fun q => ?_)
        · replace h := it_f q h
          refine g_iinc C (lv' := [(7, .int (x7 + 1)), (0, .ref (w_r w 286)), (1, .int x1), (2, .ref (w_r w 3)), (3, .ref (w_r w 22)), (4, .int x4), (5, .int x5), (6, .int x6)]) (v := (x7 + 1)) dX10_verdictOn_73 7 rfl rfl (by decide) rfl ?_
          refine g_goto C dX10_verdictOn_76 (tgt := 21) rfl ?_
          refine g_sub [1, 2, 3, 4, 5, 6, 7, 0] (lv' := [(0, .ref (w_r w 286)), (1, .int x1), (2, .ref (w_r w 3)), (3, .ref (w_r w 22)), (4, .int x4), (5, .int x5), (6, .int x6), (7, .int (x7 + 1))]) rfl ?_
          exact hl1 (x5, x6, (x7 + 1)) (Option.some.inj h).symm
        · replace h := it_t q h
          refine g_iload C dX10_verdictOn_54 7 rfl ?_
          refine g_iload_n C dX10_verdictOn_56 1 rfl ?_
          refine g_ishr C dX10_verdictOn_57  ?_
          refine g_iconst C dX10_verdictOn_58 (v := 1) rfl ?_
          refine g_iand C dX10_verdictOn_59  ?_
          refine g_iconst C dX10_verdictOn_60 (v := 1) rfl ?_
          refine g_icmp_ne C dX10_verdictOn_61 (tgt := 70) rfl (fun q => ?_) (fun q => ?_)
          · replace h := it_f q h
            refine g_iconst C dX10_verdictOn_70 (v := 1) rfl ?_
            refine g_istore C (lv' := [(6, .int 1), (0, .ref (w_r w 286)), (1, .int x1), (2, .ref (w_r w 3)), (3, .ref (w_r w 22)), (4, .int x4), (5, .int x5), (7, .int x7)]) dX10_verdictOn_71 (by decide) rfl ?_
            refine g_iinc C (lv' := [(7, .int (x7 + 1)), (6, .int 1), (0, .ref (w_r w 286)), (1, .int x1), (2, .ref (w_r w 3)), (3, .ref (w_r w 22)), (4, .int x4), (5, .int x5)]) (v := (x7 + 1)) dX10_verdictOn_73 7 rfl rfl (by decide) rfl ?_
            refine g_goto C dX10_verdictOn_76 (tgt := 21) rfl ?_
            refine g_sub [2, 3, 4, 5, 6, 7, 1, 0] (lv' := [(0, .ref (w_r w 286)), (1, .int x1), (2, .ref (w_r w 3)), (3, .ref (w_r w 22)), (4, .int x4), (5, .int x5), (6, .int 1), (7, .int (x7 + 1))]) rfl ?_
            exact hl1 (x5, 1, (x7 + 1)) (Option.some.inj h).symm
          · replace h := it_t q h
            refine g_iconst C dX10_verdictOn_64 (v := 1) rfl ?_
            refine g_istore C (lv' := [(5, .int 1), (0, .ref (w_r w 286)), (1, .int x1), (2, .ref (w_r w 3)), (3, .ref (w_r w 22)), (4, .int x4), (6, .int x6), (7, .int x7)]) dX10_verdictOn_65 (by decide) rfl ?_
            refine g_goto C dX10_verdictOn_67 (tgt := 73) rfl ?_
            refine g_iinc C (lv' := [(7, .int (x7 + 1)), (5, .int 1), (0, .ref (w_r w 286)), (1, .int x1), (2, .ref (w_r w 3)), (3, .ref (w_r w 22)), (4, .int x4), (6, .int x6)]) (v := (x7 + 1)) dX10_verdictOn_73 7 rfl rfl (by decide) rfl ?_
            refine g_goto C dX10_verdictOn_76 (tgt := 21) rfl ?_
            refine g_sub [2, 3, 4, 5, 6, 1, 7, 0] (lv' := [(0, .ref (w_r w 286)), (1, .int x1), (2, .ref (w_r w 3)), (3, .ref (w_r w 22)), (4, .int x4), (5, .int 1), (6, .int x6), (7, .int (x7 + 1))]) rfl ?_
            exact hl1 (1, x6, (x7 + 1)) (Option.some.inj h).symm
  unfold f_R_verdictOn at h
  refine g_aload_n C dX10_verdictOn_0 0 rfl ?_
  refine g_aload_n C dX10_verdictOn_1 2 rfl ?_
  obtain ⟨d9, hc10, h⟩ := ob1_1 h
  refine g_callVv C 286 q_286 vk_R_24 hR rfl (m_R_readAdmissions C.2.2.2.2.2.2.1 hc10) rfl rfl rfl dX10_verdictOn_2 rfl rfl ?_
  refine g_aload_n C dX10_verdictOn_5 3 rfl ?_
  refine g_iload_n C dX10_verdictOn_6 1 rfl ?_
  obtain ⟨r11, hc12, h⟩ := ob1_1 h
  refine g_callVi C 22 q_22 vk_R_28 hR rfl (m_T_connectedWith C.2.2.2.2.2.2.1 hc12) rfl rfl rfl dX10_verdictOn_7 rfl rfl ?_
  refine g_istore C (lv' := [(4, .int r11), (0, .ref (w_r w 286)), (1, .int x1), (2, .ref (w_r w 3)), (3, .ref (w_r w 22))]) dX10_verdictOn_10 (by decide) rfl ?_
  refine g_iconst C dX10_verdictOn_12 (v := 0) rfl ?_
  refine g_istore C (lv' := [(5, .int 0), (4, .int r11), (0, .ref (w_r w 286)), (1, .int x1), (2, .ref (w_r w 3)), (3, .ref (w_r w 22))]) dX10_verdictOn_13 (by decide) rfl ?_
  refine g_iconst C dX10_verdictOn_15 (v := 0) rfl ?_
  refine g_istore C (lv' := [(6, .int 0), (5, .int 0), (4, .int r11), (0, .ref (w_r w 286)), (1, .int x1), (2, .ref (w_r w 3)), (3, .ref (w_r w 22))]) dX10_verdictOn_16 (by decide) rfl ?_
  refine g_iconst C dX10_verdictOn_18 (v := 0) rfl ?_
  refine g_istore C (lv' := [(7, .int 0), (6, .int 0), (5, .int 0), (4, .int r11), (0, .ref (w_r w 286)), (1, .int x1), (2, .ref (w_r w 3)), (3, .ref (w_r w 22))]) dX10_verdictOn_19 (by decide) rfl ?_
  refine g_sub [4, 5, 6, 7, 3, 2, 1, 0] (lv' := [(0, .ref (w_r w 286)), (1, .int x1), (2, .ref (w_r w 3)), (3, .ref (w_r w 22)), (4, .int r11), (5, .int 0), (6, .int 0), (7, .int 0)]) rfl ?_
  exact R21 x1 r11 0 0 0 d9 h
set_option maxHeartbeats 4000000 in
set_option maxRecDepth 100000 in
theorem m_C_doVerdictsAgree {w : wT} {l : Launch} {d : Dt} {rE : Int32} {dE : Dt} (hO : okW w) (h : f_C_doVerdictsAgree  d = some (rE, dE)) : gM w l yX11_doVerdictsAgree cX11_doVerdictsAgree 2 (Option.some Jvm.ClassFile.FieldType.boolean) 3 [.ref (w_r w 0)] d dE (some (.int rE)) := by
  refine gM_of (by decide) [(0, .ref (w_r w 0))] rfl rfl ?_ hO
  intro p e R s m args below meth c C hR hr hlk
  have R24 : ∀ (x1 : Int32) (d : Dt), f_C_doVerdictsAgree_24 x1 d = some (rE, dE) → gG w p l e R s m args below meth c 2 0 0 (gE w below args s dE (some (.int rE))) d [(0, .ref (w_r w 0)), (1, .int x1)] 24 [] := by
    intro x1 d  h
    refine iter_ind (G := fun s_ : (Int32 × Dt) => gG w p l e R s m args below meth c 2 0 0 (gE w below args s dE (some (.int rE))) s_.2 [(0, .ref (w_r w 0)), (1, .int s_.1)] 24 []) ?_ fu _ h
    clear h
    intro s_ y1 h hl1 hx1
    obtain ⟨x1, d⟩ := s_
    show gG w p l e R s m args below meth c 2 0 0 (gE w below args s dE (some (.int rE))) d [(0, .ref (w_r w 0)), (1, .int x1)] 24 []
    dsimp only at h
    unfold st_C_doVerdictsAgree_24 at h
    refine g_iload_n C dX11_doVerdictsAgree_24 1 rfl ?_
    refine g_aload_n C dX11_doVerdictsAgree_25 0 rfl ?_
    refine g_get C (.ref (w_r w 2)) 0 q_0 fk_C_10 rfl dX11_doVerdictsAgree_26 ?_
    refine g_get C (.ref (w_r w 3)) 2 q_2 fk_C_68 rfl dX11_doVerdictsAgree_29 ?_
    refine g_get C (.int (d 3 0)) 3 q_3 fk_C_183 rfl dX11_doVerdictsAgree_32 ?_
    refine g_icmp_ge C dX11_doVerdictsAgree_35 (tgt := 79) rfl (fun q => ?_) (fun q => ?_)
    · replace h := it_t q h
      replace h := ir_2 h hx1
      refine g_iconst C dX11_doVerdictsAgree_79 (v := 1) rfl ?_
      exact g_iret C hr hlk rfl (congrArg Prod.snd (Option.some.inj h)) (congrArg (fun z => some (Value.int z.1)) (Option.some.inj h)) dX11_doVerdictsAgree_80
    · replace h := it_f q h
      refine g_aload_n C dX11_doVerdictsAgree_38 0 rfl ?_
      refine g_get C (.ref (w_r w 281)) 0 q_0 fk_C_36 rfl dX11_doVerdictsAgree_39 ?_
      refine g_iload_n C dX11_doVerdictsAgree_42 1 rfl ?_
      obtain ⟨r5, hc6, h⟩ := ob1_1 h
      refine g_callVi C 281 q_281 vk_C_284 hR rfl (m_G_verdictOn C.2.2.2.2.2.2.1 hc6) rfl rfl rfl dX11_doVerdictsAgree_43 rfl rfl ?_
      refine g_aload_n C dX11_doVerdictsAgree_46 0 rfl ?_
      refine g_get C (.ref (w_r w 286)) 0 q_0 fk_C_43 rfl dX11_doVerdictsAgree_47 ?_
      refine g_iload_n C dX11_doVerdictsAgree_50 1 rfl ?_
      refine g_aload_n C dX11_doVerdictsAgree_51 0 rfl ?_
      refine g_get C (.ref (w_r w 2)) 0 q_0 fk_C_10 rfl dX11_doVerdictsAgree_52 ?_
      refine g_get C (.ref (w_r w 3)) 2 q_2 fk_C_68 rfl dX11_doVerdictsAgree_55 ?_
      refine g_aload_n C dX11_doVerdictsAgree_58 0 rfl ?_
      refine g_get C (.ref (w_r w 2)) 0 q_0 fk_C_10 rfl dX11_doVerdictsAgree_59 ?_
      refine g_get C (.ref (w_r w 22)) 2 q_2 fk_C_128 rfl dX11_doVerdictsAgree_62 ?_
      obtain ⟨r7, d8, hc9, h⟩ := ob2_1 h
      refine g_callVi C 286 q_286 vk_C_288 hR rfl (m_R_verdictOn C.2.2.2.2.2.2.1 hc9) rfl rfl rfl dX11_doVerdictsAgree_65 rfl rfl ?_
      refine g_icmp_eq C dX11_doVerdictsAgree_68 (tgt := 73) rfl (fun q => ?_) (fun q => ?_)
      · replace h := it_t q h
        refine g_iinc C (lv' := [(1, .int (x1 + 1)), (0, .ref (w_r w 0))]) (v := (x1 + 1)) dX11_doVerdictsAgree_73 1 rfl rfl (by decide) rfl ?_
        refine g_goto C dX11_doVerdictsAgree_76 (tgt := 24) rfl ?_
        refine g_sub [1, 0] (lv' := [(0, .ref (w_r w 0)), (1, .int (x1 + 1))]) rfl ?_
        exact hl1 ((x1 + 1), d8) (Option.some.inj h).symm
      · replace h := it_f q h
        replace h := ir_2 h hx1
        refine g_iconst C dX11_doVerdictsAgree_71 (v := 0) rfl ?_
        exact g_iret C hr hlk rfl (congrArg Prod.snd (Option.some.inj h)) (congrArg (fun z => some (Value.int z.1)) (Option.some.inj h)) dX11_doVerdictsAgree_72
  unfold f_C_doVerdictsAgree at h
  refine g_aload_n C dX11_doVerdictsAgree_0 0 rfl ?_
  refine g_get C (.ref (w_r w 281)) 0 q_0 fk_C_36 rfl dX11_doVerdictsAgree_1 ?_
  refine g_aload_n C dX11_doVerdictsAgree_4 0 rfl ?_
  refine g_get C (.ref (w_r w 2)) 0 q_0 fk_C_10 rfl dX11_doVerdictsAgree_5 ?_
  refine g_get C (.ref (w_r w 3)) 2 q_2 fk_C_68 rfl dX11_doVerdictsAgree_8 ?_
  refine g_aload_n C dX11_doVerdictsAgree_11 0 rfl ?_
  refine g_get C (.ref (w_r w 2)) 0 q_0 fk_C_10 rfl dX11_doVerdictsAgree_12 ?_
  refine g_get C (.ref (w_r w 22)) 2 q_2 fk_C_128 rfl dX11_doVerdictsAgree_15 ?_
  refine g_iconst C dX11_doVerdictsAgree_18 (v := (-1)) (by decide) ?_
  obtain ⟨d10, hc11, h⟩ := ob1_1 h
  refine g_callVv C 281 q_281 vk_C_262 hR rfl (m_G_find C.2.2.2.2.2.2.1 hc11) rfl rfl rfl dX11_doVerdictsAgree_19 rfl rfl ?_
  refine g_iconst C dX11_doVerdictsAgree_22 (v := 0) rfl ?_
  refine g_istore_n C (lv' := [(1, .int 0), (0, .ref (w_r w 0))]) dX11_doVerdictsAgree_23 (by decide) rfl ?_
  refine g_sub [1, 0] (lv' := [(0, .ref (w_r w 0)), (1, .int 0)]) rfl ?_
  exact R24 0 d10 h
set_option maxHeartbeats 4000000 in
set_option maxRecDepth 100000 in
theorem m_C_dropStatement {w : wT} {l : Launch} {x1 : Int32} {d : Dt} {zE : ((Int32 × Dt) ⊕ (Nat × Dt))} (hO : okW w) (hl9 : l.stackTraces = false) (h : f_C_dropStatement x1 d = some zE) : gMX w l yX11_dropStatement cX11_dropStatement 2 (Option.some Jvm.ClassFile.FieldType.int) 7 1 6 [.ref (w_r w 0), .int x1] d (oW zE) := by
  refine gMX_of (by decide) [(0, .ref (w_r w 0)), (1, .int x1)] rfl rfl ?_ hO
  intro p e R s m args below meth c C hR hr hlk hx
  unfold f_C_dropStatement at h
  refine g_aload_n C dX11_dropStatement_0 0 rfl ?_
  refine g_iload_n C dX11_dropStatement_1 1 rfl ?_
  obtain ⟨z7, hc6, h⟩ := ocU_1 h
  refine g_callVU C 1 6 0 q_0 vk_C_140 hR rfl (m_C_checkStatement C.2.2.2.2.2.2.1 hl9 hc6) rfl rfl rfl dX11_dropStatement_2 rfl rfl rfl rfl (fun e9 => ?_) (fun et4 e9 => ?_)
  · subst e9
    replace h := ocU_i h
    refine g_aload_n C dX11_dropStatement_5 0 rfl ?_
    refine g_aload_n C dX11_dropStatement_6 0 rfl ?_
    refine g_get C (.ref (w_r w 2)) 0 q_0 fk_C_10 rfl dX11_dropStatement_7 ?_
    obtain ⟨d10, hc11, h⟩ := ob1_1 h
    refine g_callVv C 0 q_0 vk_C_85 hR rfl (m_C_remember C.2.2.2.2.2.2.1 hc11) rfl rfl rfl dX11_dropStatement_10 rfl rfl ?_
    refine g_aload_n C dX11_dropStatement_13 0 rfl ?_
    refine g_get C (.ref (w_r w 2)) 0 q_0 fk_C_10 rfl dX11_dropStatement_14 ?_
    refine g_get C (.ref (w_r w 22)) 2 q_2 fk_C_128 rfl dX11_dropStatement_17 ?_
    refine g_iload_n C dX11_dropStatement_20 1 rfl ?_
    obtain ⟨r12, d13, hc14, h⟩ := ob2_1 h
    refine g_callVi C 22 q_22 vk_C_143 hR rfl (m_T_remove C.2.2.2.2.2.2.1 hc14) rfl rfl rfl dX11_dropStatement_21 rfl rfl ?_
    exact g_iretX C hr hlk rfl rfl rfl (oW_i h) dX11_dropStatement_24
  · subst e9
    replace h := ocU_t h
    exact g_prop C hx hlk rfl rfl (oW_t h)
