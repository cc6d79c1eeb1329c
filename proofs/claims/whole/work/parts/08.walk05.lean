/-! 08: walks -/
set_option maxHeartbeats 4000000 in
set_option maxRecDepth 100000 in
theorem m_I_readPart {w : wT} {l : Launch} {x1 : Int32} {d : Dt} {rE : Int32} {dE : Dt} (hO : okW w) (h : f_I_readPart x1 d = some (rE, dE)) : gM w l yX3_readPart cX3_readPart 2 (Option.some Jvm.ClassFile.FieldType.boolean) 2 [.ref (w_r w 287), .int x1] d dE (some (.int rE)) := by
  refine gM_of (by decide) [(0, .ref (w_r w 287)), (1, .int x1)] rfl rfl ?_ hO
  intro p e R s m args below meth c C hR hr hlk
  unfold f_I_readPart at h
  refine g_iload_n C dX3_readPart_0 1 rfl ?_
  refine g_bipush C dX3_readPart_1 (v := 32) (by decide) ?_
  refine g_icmp_ne C dX3_readPart_3 (tgt := 13) rfl (fun q => ?_) (fun q => ?_)
  · replace h := it_f q h
    refine g_iload_n C dX3_readPart_13 1 rfl ?_
    refine g_bipush C dX3_readPart_14 (v := 43) (by decide) ?_
    refine g_icmp_ne C dX3_readPart_16 (tgt := 51) rfl (fun q => ?_) (fun q => ?_)
    · replace h := it_f q h
      refine g_iload_n C dX3_readPart_51 1 rfl ?_
      refine g_bipush C dX3_readPart_52 (v := 103) (by decide) ?_
      refine g_icmp_ne C dX3_readPart_54 (tgt := 89) rfl (fun q => ?_) (fun q => ?_)
      · replace h := it_f q h
        refine g_aload_n C dX3_readPart_89 0 rfl ?_
        refine g_iload_n C dX3_readPart_90 1 rfl ?_
        refine g_bipush C dX3_readPart_91 (v := 48) (by decide) ?_
        refine g_isub C dX3_readPart_93  ?_
        obtain ⟨r13, d14, hc15, h⟩ := ob2_1 h
        refine g_callVi C 287 q_287 vk_I_95 hR rfl (m_I_readNumber C.2.2.2.2.2.2.1 hc15) rfl rfl rfl dX3_readPart_94 rfl rfl ?_
        have hg16 := gd_1 h
        replace h := gd_2 h
        exact g_iret C hr hlk (nar_n hg16) (congrArg Prod.snd (Option.some.inj h)) (congrArg (fun z => some (Value.int z.1)) (Option.some.inj h)) dX3_readPart_97
      · replace h := it_t q h
        refine g_aload_n C dX3_readPart_57 0 rfl ?_
        refine g_aload_n C dX3_readPart_58 0 rfl ?_
        refine g_bipush C dX3_readPart_59 (v := 103) (by decide) ?_
        obtain ⟨r17, d18, hc19, h⟩ := ob2_1 h
        refine g_callVi C 287 q_287 vk_I_88 hR rfl (m_I_readCharacter C.2.2.2.2.2.2.1 hc19) rfl rfl rfl dX3_readPart_61 rfl rfl ?_
        have hg20 := gd_1 h
        replace h := gd_2 h
        refine g_put C 287 q_287 pk_I_91 (nar_n hg20) (nar_f hg20) dX3_readPart_64 ?_
        refine g_aload_n C dX3_readPart_67 0 rfl ?_
        refine g_get C (.int ((wr d18 287 6 r17) 287 6)) 287 q_287 fk_I_91 rfl dX3_readPart_68 ?_
        refine g_if_ne C dX3_readPart_71 (tgt := 83) rfl (fun q => ?_) (fun q => ?_)
        · replace h := it_f q h
          refine g_iconst C dX3_readPart_83 (v := 1) rfl ?_
          refine g_goto C dX3_readPart_84 (tgt := 88) rfl ?_
          exact g_iret C hr hlk rfl (congrArg Prod.snd (Option.some.inj h)) (congrArg (fun z => some (Value.int z.1)) (Option.some.inj h)) dX3_readPart_88
        · replace h := it_t q h
          refine g_aload_n C dX3_readPart_74 0 rfl ?_
          refine g_bipush C dX3_readPart_75 (v := 105) (by decide) ?_
          obtain ⟨r21, d22, hc23, h⟩ := ob2_1 h
          refine g_callVi C 287 q_287 vk_I_88 hR rfl (m_I_readCharacter C.2.2.2.2.2.2.1 hc23) rfl rfl rfl dX3_readPart_77 rfl rfl ?_
          refine g_if_eq C dX3_readPart_80 (tgt := 87) rfl (fun q => ?_) (fun q => ?_)
          · replace h := it_t q h
            refine g_iconst C dX3_readPart_87 (v := 0) rfl ?_
            exact g_iret C hr hlk rfl (congrArg Prod.snd (Option.some.inj h)) (congrArg (fun z => some (Value.int z.1)) (Option.some.inj h)) dX3_readPart_88
          · replace h := it_f q h
            refine g_iconst C dX3_readPart_83 (v := 1) rfl ?_
            refine g_goto C dX3_readPart_84 (tgt := 88) rfl ?_
            exact g_iret C hr hlk rfl (congrArg Prod.snd (Option.some.inj h)) (congrArg (fun z => some (Value.int z.1)) (Option.some.inj h)) dX3_readPart_88
    · replace h := it_t q h
      refine g_aload_n C dX3_readPart_19 0 rfl ?_
      refine g_aload_n C dX3_readPart_20 0 rfl ?_
      refine g_bipush C dX3_readPart_21 (v := 43) (by decide) ?_
      obtain ⟨r24, d25, hc26, h⟩ := ob2_1 h
      refine g_callVi C 287 q_287 vk_I_88 hR rfl (m_I_readCharacter C.2.2.2.2.2.2.1 hc26) rfl rfl rfl dX3_readPart_23 rfl rfl ?_
      have hg27 := gd_1 h
      replace h := gd_2 h
      refine g_put C 287 q_287 pk_I_91 (nar_n hg27) (nar_f hg27) dX3_readPart_26 ?_
      refine g_aload_n C dX3_readPart_29 0 rfl ?_
      refine g_get C (.int ((wr d25 287 6 r24) 287 6)) 287 q_287 fk_I_91 rfl dX3_readPart_30 ?_
      refine g_if_ne C dX3_readPart_33 (tgt := 45) rfl (fun q => ?_) (fun q => ?_)
      · replace h := it_f q h
        refine g_iconst C dX3_readPart_45 (v := 1) rfl ?_
        refine g_goto C dX3_readPart_46 (tgt := 50) rfl ?_
        exact g_iret C hr hlk rfl (congrArg Prod.snd (Option.some.inj h)) (congrArg (fun z => some (Value.int z.1)) (Option.some.inj h)) dX3_readPart_50
      · replace h := it_t q h
        refine g_aload_n C dX3_readPart_36 0 rfl ?_
        refine g_bipush C dX3_readPart_37 (v := 45) (by decide) ?_
        obtain ⟨r28, d29, hc30, h⟩ := ob2_1 h
        refine g_callVi C 287 q_287 vk_I_88 hR rfl (m_I_readCharacter C.2.2.2.2.2.2.1 hc30) rfl rfl rfl dX3_readPart_39 rfl rfl ?_
        refine g_if_eq C dX3_readPart_42 (tgt := 49) rfl (fun q => ?_) (fun q => ?_)
        · replace h := it_t q h
          refine g_iconst C dX3_readPart_49 (v := 0) rfl ?_
          exact g_iret C hr hlk rfl (congrArg Prod.snd (Option.some.inj h)) (congrArg (fun z => some (Value.int z.1)) (Option.some.inj h)) dX3_readPart_50
        · replace h := it_f q h
          refine g_iconst C dX3_readPart_45 (v := 1) rfl ?_
          refine g_goto C dX3_readPart_46 (tgt := 50) rfl ?_
          exact g_iret C hr hlk rfl (congrArg Prod.snd (Option.some.inj h)) (congrArg (fun z => some (Value.int z.1)) (Option.some.inj h)) dX3_readPart_50
  · replace h := it_t q h
    refine g_aload_n C dX3_readPart_6 0 rfl ?_
    refine g_bipush C dX3_readPart_7 (v := 32) (by decide) ?_
    obtain ⟨r31, d32, hc33, h⟩ := ob2_1 h
    refine g_callVi C 287 q_287 vk_I_88 hR rfl (m_I_readCharacter C.2.2.2.2.2.2.1 hc33) rfl rfl rfl dX3_readPart_9 rfl rfl ?_
    have hg34 := gd_1 h
    replace h := gd_2 h
    exact g_iret C hr hlk (nar_n hg34) (congrArg Prod.snd (Option.some.inj h)) (congrArg (fun z => some (Value.int z.1)) (Option.some.inj h)) dX3_readPart_12
set_option maxHeartbeats 4000000 in
set_option maxRecDepth 100000 in
theorem m_I_lettersInCommon {w : wT} {l : Launch} {k1 : Nat} {d : Dt} {rE : Int32} (hO : okW w) (hk1 : k1 < 54) (h : f_I_lettersInCommon k1  d = some rE) : gM w l yX3_lettersInCommon cX3_lettersInCommon 3 (Option.some Jvm.ClassFile.FieldType.int) 4 [.ref (w_r w 287), .ref (w_k w k1)] d d (some (.int rE)) := by
  refine gM_of (by decide) [(0, .ref (w_r w 287)), (1, .ref (w_k w k1))] rfl rfl ?_ hO
  intro p e R s m args below meth c C hR hr hlk
  have R2 : ∀ (x2 : Int32), f_I_lettersInCommon_2 k1 x2 d = some rE → gG w p l e R s m args below meth c 3 0 0 (gE w below args s d (some (.int rE))) d [(0, .ref (w_r w 287)), (1, .ref (w_k w k1)), (2, .int x2)] 2 [] := by
    intro x2   h
    refine iter_ind (G := fun s_ : (Int32) => gG w p l e R s m args below meth c 3 0 0 (gE w below args s d (some (.int rE))) d [(0, .ref (w_r w 287)), (1, .ref (w_k w k1)), (2, .int s_)] 2 []) ?_ fu _ h
    clear h
    intro x2 y1 h hl1 hx1
    show gG w p l e R s m args below meth c 3 0 0 (gE w below args s d (some (.int rE))) d [(0, .ref (w_r w 287)), (1, .ref (w_k w k1)), (2, .int x2)] 2 []
    unfold st_I_lettersInCommon_2 at h
    refine g_iload_n C dX3_lettersInCommon_2 2 rfl ?_
    refine g_aload_n C dX3_lettersInCommon_3 1 rfl ?_
    obtain ⟨r3, hc4, h⟩ := ob1_1 h
    refine g_callO C _ (ks_obj C hk1) yk_J0_length_8abf5 rfl (wA 1333 (by decide +kernel) (by decide +kernel)) (wA 959 (by decide +kernel) (by decide +kernel)) (wA 960 (by decide +kernel) (by decide +kernel)) hR rfl (m_JS_length C.2.2.2.2.2.2.1 hk1 hc4) rfl rfl rfl dX3_lettersInCommon_4 rfl rfl ?_
    refine g_icmp_ge C dX3_lettersInCommon_7 (tgt := 48) rfl (fun q => ?_) (fun q => ?_)
    · replace h := it_t q h
      replace h := ir_2 h hx1
      refine g_iload_n C dX3_lettersInCommon_48 2 rfl ?_
      exact g_iret C hr hlk rfl rfl (congrArg (fun z => some (Value.int z)) (Option.some.inj h)) dX3_lettersInCommon_49
    · replace h := it_f q h
      refine g_aload_n C dX3_lettersInCommon_10 0 rfl ?_
      refine g_get C (.int (d 287 2)) 287 q_287 fk_I_32 rfl dX3_lettersInCommon_11 ?_
      refine g_iload_n C dX3_lettersInCommon_14 2 rfl ?_
      refine g_iadd C dX3_lettersInCommon_15  ?_
      refine g_aload_n C dX3_lettersInCommon_16 0 rfl ?_
      refine g_get C (.int (d 287 1)) 287 q_287 fk_I_28 rfl dX3_lettersInCommon_17 ?_
      refine g_icmp_ge C dX3_lettersInCommon_20 (tgt := 48) rfl (fun q => ?_) (fun q => ?_)
      · replace h := it_t q h
        replace h := ir_2 h hx1
        refine g_iload_n C dX3_lettersInCommon_48 2 rfl ?_
        exact g_iret C hr hlk rfl rfl (congrArg (fun z => some (Value.int z)) (Option.some.inj h)) dX3_lettersInCommon_49
      · replace h := it_f q h
        refine g_aload_n C dX3_lettersInCommon_23 0 rfl ?_
        refine g_get C (.ref (w_r w 288)) 287 q_287 fk_I_9 rfl dX3_lettersInCommon_24 ?_
        refine g_aload_n C dX3_lettersInCommon_27 0 rfl ?_
        refine g_get C (.int (d 287 2)) 287 q_287 fk_I_32 rfl dX3_lettersInCommon_28 ?_
        refine g_iload_n C dX3_lettersInCommon_31 2 rfl ?_
        refine g_iadd C dX3_lettersInCommon_32  ?_
        have hg5 := gd_1 h
        replace h := gd_2 h
        refine g_cald C 288 q_288 hg5 _ rfl dX3_lettersInCommon_33 ?_
        refine g_aload_n C dX3_lettersInCommon_34 1 rfl ?_
        refine g_iload_n C dX3_lettersInCommon_35 2 rfl ?_
        obtain ⟨r6, hc7, h⟩ := ob1_1 h
        refine g_callO C _ (ks_obj C hk1) yk_J0_charAt_5068e rfl (wA 1334 (by decide +kernel) (by decide +kernel)) (wA 1335 (by decide +kernel) (by decide +kernel)) (wA 1336 (by decide +kernel) (by decide +kernel)) hR rfl (m_JS_charAt C.2.2.2.2.2.2.1 hk1 hc7) rfl rfl rfl dX3_lettersInCommon_36 rfl rfl ?_
        refine g_icmp_ne C dX3_lettersInCommon_39 (tgt := 48) rfl (fun q => ?_) (fun q => ?_)
        · replace h := it_f q h
          replace h := ir_2 h hx1
          refine g_iload_n C dX3_lettersInCommon_48 2 rfl ?_
          exact g_iret C hr hlk rfl rfl (congrArg (fun z => some (Value.int z)) (Option.some.inj h)) dX3_lettersInCommon_49
        · replace h := it_t q h
          refine g_iinc C (lv' := [(2, .int (x2 + 1)), (0, .ref (w_r w 287)), (1, .ref (w_k w k1))]) (v := (x2 + 1)) dX3_lettersInCommon_42 2 rfl rfl (by decide) rfl ?_
          refine g_goto C dX3_lettersInCommon_45 (tgt := 2) rfl ?_
          refine g_sub [1, 2, 0] (lv' := [(0, .ref (w_r w 287)), (1, .ref (w_k w k1)), (2, .int (x2 + 1))]) rfl ?_
          exact hl1 (x2 + 1) (Option.some.inj h).symm
  unfold f_I_lettersInCommon at h
  refine g_iconst C dX3_lettersInCommon_0 (v := 0) rfl ?_
  refine g_istore_n C (lv' := [(2, .int 0), (0, .ref (w_r w 287)), (1, .ref (w_k w k1))]) dX3_lettersInCommon_1 (by decide) rfl ?_
  refine g_sub [1, 2, 0] (lv' := [(0, .ref (w_r w 287)), (1, .ref (w_k w k1)), (2, .int 0)]) rfl ?_
  exact R2 0 h
set_option maxHeartbeats 4000000 in
set_option maxRecDepth 100000 in
theorem m_I_readKeyword {w : wT} {l : Launch} {d : Dt} {rE : Int32} {dE : Dt} (hO : okW w) (h : f_I_readKeyword  d = some (rE, dE)) : gM w l yX3_readKeyword cX3_readKeyword 5 (Option.some Jvm.ClassFile.FieldType.boolean) 5 [.ref (w_r w 287)] d dE (some (.int rE)) := by
  refine gM_of (by decide) [(0, .ref (w_r w 287))] rfl rfl ?_ hO
  intro p e R s m args below meth c C hR hr hlk
  have R4 : ∀ (x1 : Int32) (x2 : Int32) (d : Dt), f_I_readKeyword_4 x1 x2 d = some (rE, dE) → gG w p l e R s m args below meth c 5 0 0 (gE w below args s dE (some (.int rE))) d [(0, .ref (w_r w 287)), (1, .int x1), (2, .int x2)] 4 [] := by
    intro x1 x2 d  h
    refine iter_ind (G := fun s_ : (Int32 × Int32) => gG w p l e R s m args below meth c 5 0 0 (gE w below args s dE (some (.int rE))) d [(0, .ref (w_r w 287)), (1, .int s_.1), (2, .int s_.2)] 4 []) ?_ fu _ h
    clear h
    intro s_ y1 h hl1 hx1
    obtain ⟨x1, x2⟩ := s_
    show gG w p l e R s m args below meth c 5 0 0 (gE w below args s dE (some (.int rE))) d [(0, .ref (w_r w 287)), (1, .int x1), (2, .int x2)] 4 []
    dsimp only at h
    unfold st_I_readKeyword_4 at h
    refine g_iload_n C dX3_readKeyword_4 2 rfl ?_
    refine g_getsN (host := "LanternCourt") C (kK_Z C) (wO 1327 (by decide +kernel) (by decide +kernel)) dX3_readKeyword_5 ?_
    refine g_lenK C (kK_T C) (v := 8) rfl dX3_readKeyword_8 ?_
    refine g_icmp_ge C dX3_readKeyword_9 (tgt := 72) rfl (fun q => ?_) (fun q => ?_)
    · replace h := it_t q h
      replace h := ir_2 h hx1
      refine g_aload_n C dX3_readKeyword_72 0 rfl ?_
      refine g_dup C dX3_readKeyword_73 rfl ?_
      refine g_get C (.int (d 287 2)) 287 q_287 fk_I_32 rfl dX3_readKeyword_74 ?_
      refine g_iload_n C dX3_readKeyword_77 1 rfl ?_
      refine g_iadd C dX3_readKeyword_78  ?_
      refine g_put C 287 q_287 pk_I_32 rfl rfl dX3_readKeyword_79 ?_
      refine g_iconst C dX3_readKeyword_82 (v := 0) rfl ?_
      exact g_iret C hr hlk rfl (congrArg Prod.snd (Option.some.inj h)) (congrArg (fun z => some (Value.int z.1)) (Option.some.inj h)) dX3_readKeyword_83
    · replace h := it_f q h
      refine g_getsN (host := "LanternCourt") C (kK_Z C) (wO 1327 (by decide +kernel) (by decide +kernel)) dX3_readKeyword_12 ?_
      refine g_iload_n C dX3_readKeyword_15 2 rfl ?_
      have hg3 := gd_1 h
      replace h := gd_2 h
      refine g_aaldK C (kK_T C) hg3 rfl dX3_readKeyword_16 ?_
      refine g_getO C (kk_kw C hg3) (wA 1991 (by decide +kernel) (by decide +kernel)) dX3_readKeyword_17 ?_
      refine g_astore_n C (lv' := [(3, .ref (w_k w (kwS x2.toNatClampNeg))), (0, .ref (w_r w 287)), (1, .int x1), (2, .int x2)]) dX3_readKeyword_20 (by decide) rfl ?_
      refine g_aload_n C dX3_readKeyword_21 1 rfl ?_
      refine g_aload_n C dX3_readKeyword_22 0 rfl ?_
      obtain ⟨r4, hc5, h⟩ := ob1_1 h
      refine g_callVi C 287 q_287 vk_I_78 hR rfl (m_I_lettersInCommon C.2.2.2.2.2.2.1 (kwS_lt _) hc5) rfl rfl rfl dX3_readKeyword_23 rfl rfl ?_
      refine g_istore C (lv' := [(4, .int r4), (3, .ref (w_k w (kwS x2.toNatClampNeg))), (0, .ref (w_r w 287)), (1, .int x1), (2, .int x2)]) dX3_readKeyword_26 (by decide) rfl ?_
      refine g_iload_n C dX3_readKeyword_28 3 rfl ?_
      refine g_iload C dX3_readKeyword_29 0 rfl ?_
      refine g_mmax C mm_I_82 mm_sta_max mm_ini mm_cod_max hR rfl rfl dX3_readKeyword_31 rfl rfl ?_
      refine g_istore_n C (lv' := [(1, .int (mxI x1 r4)), (4, .int r4), (3, .ref (w_k w (kwS x2.toNatClampNeg))), (0, .ref (w_r w 287)), (2, .int x2)]) dX3_readKeyword_34 (by decide) rfl ?_
      refine g_iload C dX3_readKeyword_35 1 rfl ?_
      refine g_aload_n C dX3_readKeyword_37 2 rfl ?_
      obtain ⟨r6, hc7, h⟩ := ob1_1 h
      refine g_callO C _ (ks_obj C (kwS_lt _)) yk_J0_length_8abf5 rfl (wA 1333 (by decide +kernel) (by decide +kernel)) (wA 959 (by decide +kernel) (by decide +kernel)) (wA 960 (by decide +kernel) (by decide +kernel)) hR rfl (m_JS_length C.2.2.2.2.2.2.1 (kwS_lt _) hc7) rfl rfl rfl dX3_readKeyword_38 rfl rfl ?_
      refine g_icmp_ne C dX3_readKeyword_41 (tgt := 66) rfl (fun q => ?_) (fun q => ?_)
      · replace h := it_f q h
        refine g_iinc C (lv' := [(2, .int (x2 + 1)), (1, .int (mxI x1 r4)), (4, .int r4), (3, .ref (w_k w (kwS x2.toNatClampNeg))), (0, .ref (w_r w 287))]) (v := (x2 + 1)) dX3_readKeyword_66 4 rfl rfl (by decide) rfl ?_
        refine g_goto C dX3_readKeyword_69 (tgt := 4) rfl ?_
        refine g_sub [4, 1, 0] (lv' := [(0, .ref (w_r w 287)), (1, .int (mxI x1 r4)), (2, .int (x2 + 1))]) rfl ?_
        exact hl1 ((mxI x1 r4), (x2 + 1)) (Option.some.inj h).symm
      · replace h := it_t q h
        replace h := ir_2 h hx1
        refine g_aload_n C dX3_readKeyword_44 3 rfl ?_
        refine g_getsN (host := "LanternCourt") C (kK_Z C) (wO 1327 (by decide +kernel) (by decide +kernel)) dX3_readKeyword_45 ?_
        refine g_iload_n C dX3_readKeyword_48 4 rfl ?_
        have hg8 := gd_1 h
        replace h := gd_2 h
        refine g_aaldK C (kK_T C) hg8 rfl dX3_readKeyword_49 ?_
        refine g_putk C 287 q_287 pk_I_21 rfl rfl dX3_readKeyword_50 ?_
        refine g_aload_n C dX3_readKeyword_53 3 rfl ?_
        refine g_dup C dX3_readKeyword_54 rfl ?_
        refine g_get C (.int ((wr d 287 3 x2) 287 2)) 287 q_287 fk_I_32 rfl dX3_readKeyword_55 ?_
        refine g_iload C dX3_readKeyword_58 1 rfl ?_
        refine g_iadd C dX3_readKeyword_60  ?_
        refine g_put C 287 q_287 pk_I_32 rfl rfl dX3_readKeyword_61 ?_
        refine g_iconst C dX3_readKeyword_64 (v := 1) rfl ?_
        exact g_iret C hr hlk rfl (congrArg Prod.snd (Option.some.inj h)) (congrArg (fun z => some (Value.int z.1)) (Option.some.inj h)) dX3_readKeyword_65
  unfold f_I_readKeyword at h
  refine g_iconst C dX3_readKeyword_0 (v := 0) rfl ?_
  refine g_istore_n C (lv' := [(1, .int 0), (0, .ref (w_r w 287))]) dX3_readKeyword_1 (by decide) rfl ?_
  refine g_iconst C dX3_readKeyword_2 (v := 0) rfl ?_
  refine g_istore_n C (lv' := [(2, .int 0), (1, .int 0), (0, .ref (w_r w 287))]) dX3_readKeyword_3 (by decide) rfl ?_
  refine g_sub [2, 1, 0] (lv' := [(0, .ref (w_r w 287)), (1, .int 0), (2, .int 0)]) rfl ?_
  exact R4 0 0 d h
set_option maxHeartbeats 4000000 in
set_option maxRecDepth 100000 in
theorem m_I_readCommand {w : wT} {l : Launch} {d : Dt} {rE : Int32} {dE : Dt} (hO : okW w) (h : f_I_readCommand  d = some (rE, dE)) : gM w l yX3_readCommand cX3_readCommand 3 (Option.some Jvm.ClassFile.FieldType.boolean) 6 [.ref (w_r w 287)] d dE (some (.int rE)) := by
  refine gM_of (by decide) [(0, .ref (w_r w 287))] rfl rfl ?_ hO
  intro p e R s m args below meth c C hR hr hlk
  have R23 : ∀ (x1 : Int32) (d : Dt), f_I_readCommand_23 x1 d = some (rE, dE) → gG w p l e R s m args below meth c 3 0 0 (gE w below args s dE (some (.int rE))) d [(0, .ref (w_r w 287)), (1, .int x1)] 23 [] := by
    intro x1 d  h
    refine iter_ind (G := fun s_ : (Int32 × Dt) => gG w p l e R s m args below meth c 3 0 0 (gE w below args s dE (some (.int rE))) s_.2 [(0, .ref (w_r w 287)), (1, .int s_.1)] 23 []) ?_ fu _ h
    clear h
    intro s_ y1 h hl1 hx1
    obtain ⟨x1, d⟩ := s_
    show gG w p l e R s m args below meth c 3 0 0 (gE w below args s dE (some (.int rE))) d [(0, .ref (w_r w 287)), (1, .int x1)] 23 []
    dsimp only at h
    unfold st_I_readCommand_23 at h
    refine g_iload_n C dX3_readCommand_23 1 rfl ?_
    refine g_aload_n C dX3_readCommand_24 0 rfl ?_
    have hg9 := gd_1 h
    replace h := gd_2 h
    refine g_get C (.ref (w_k w (200 + (d 287 3).toNatClampNeg))) 287 q_287 fk_I_21 rfl dX3_readCommand_25 ?_
    refine g_getO C (kk_fm C hg9) (wA 1992 (by decide +kernel) (by decide +kernel)) dX3_readCommand_28 ?_
    obtain ⟨r10, hc11, h⟩ := ob1_1 h
    refine g_callO C _ (ks_obj C (fmS_lt _)) yk_J0_length_8abf5 rfl (wA 1333 (by decide +kernel) (by decide +kernel)) (wA 959 (by decide +kernel) (by decide +kernel)) (wA 960 (by decide +kernel) (by decide +kernel)) hR rfl (m_JS_length C.2.2.2.2.2.2.1 (fmS_lt _) hc11) rfl rfl rfl dX3_readCommand_31 rfl rfl ?_
    refine g_icmp_ge C dX3_readCommand_34 (tgt := 80) rfl (fun q => ?_) (fun q => ?_)
    · replace h := it_t q h
      replace h := ir_2 h hx1
      refine g_aload_n C dX3_readCommand_80 0 rfl ?_
      obtain ⟨r12, hc13, h⟩ := ob1_1 h
      refine g_callVi C 287 q_287 vk_I_64 hR rfl (m_I_isAtEnd C.2.2.2.2.2.2.1 hc13) rfl rfl rfl dX3_readCommand_81 rfl rfl ?_
      have hg14 := gd_1 h
      replace h := gd_2 h
      exact g_iret C hr hlk (nar_n hg14) (congrArg Prod.snd (Option.some.inj h)) (congrArg (fun z => some (Value.int z.1)) (Option.some.inj h)) dX3_readCommand_84
    · replace h := it_f q h
      refine g_aload_n C dX3_readCommand_37 0 rfl ?_
      have hg15 := gd_1 h
      replace h := gd_2 h
      refine g_get C (.ref (w_k w (200 + (d 287 3).toNatClampNeg))) 287 q_287 fk_I_21 rfl dX3_readCommand_38 ?_
      refine g_getO C (kk_fm C hg15) (wA 1992 (by decide +kernel) (by decide +kernel)) dX3_readCommand_41 ?_
      refine g_iload_n C dX3_readCommand_44 1 rfl ?_
      obtain ⟨r16, hc17, h⟩ := ob1_1 h
      refine g_callO C _ (ks_obj C (fmS_lt _)) yk_J0_charAt_5068e rfl (wA 1334 (by decide +kernel) (by decide +kernel)) (wA 1335 (by decide +kernel) (by decide +kernel)) (wA 1336 (by decide +kernel) (by decide +kernel)) hR rfl (m_JS_charAt C.2.2.2.2.2.2.1 (fmS_lt _) hc17) rfl rfl rfl dX3_readCommand_45 rfl rfl ?_
      refine g_istore_n C (lv' := [(2, .int r16), (0, .ref (w_r w 287)), (1, .int x1)]) dX3_readCommand_48 (by decide) rfl ?_
      refine g_iload_n C dX3_readCommand_49 0 rfl ?_
      refine g_bipush C dX3_readCommand_50 (v := 63) (by decide) ?_
      refine g_icmp_ne C dX3_readCommand_52 (tgt := 64) rfl (fun q => ?_) (fun q => ?_)
      · replace h := it_f q h
        refine g_aload_n C dX3_readCommand_64 1 rfl ?_
        refine g_iload_n C dX3_readCommand_65 0 rfl ?_
        obtain ⟨r18, d19, hc20, h⟩ := ob2_1 h
        refine g_callVi C 287 q_287 vk_I_67 hR rfl (m_I_readPart C.2.2.2.2.2.2.1 hc20) rfl rfl rfl dX3_readCommand_66 rfl rfl ?_
        refine g_if_ne C dX3_readCommand_69 (tgt := 74) rfl (fun q => ?_) (fun q => ?_)
        · replace h := it_f q h
          refine g_iinc C (lv' := [(1, .int (x1 + 1)), (2, .int r16), (0, .ref (w_r w 287))]) (v := (x1 + 1)) dX3_readCommand_74 2 rfl rfl (by decide) rfl ?_
          refine g_goto C dX3_readCommand_77 (tgt := 23) rfl ?_
          refine g_sub [2, 0] (lv' := [(0, .ref (w_r w 287)), (1, .int (x1 + 1))]) rfl ?_
          exact hl1 ((x1 + 1), d19) (Option.some.inj h).symm
        · replace h := it_t q h
          replace h := ir_2 h hx1
          refine g_iconst C dX3_readCommand_72 (v := 0) rfl ?_
          exact g_iret C hr hlk rfl (congrArg Prod.snd (Option.some.inj h)) (congrArg (fun z => some (Value.int z.1)) (Option.some.inj h)) dX3_readCommand_73
      · replace h := it_t q h
        refine g_aload_n C dX3_readCommand_55 1 rfl ?_
        obtain ⟨r21, hc22, h⟩ := ob1_1 h
        refine g_callVi C 287 q_287 vk_I_64 hR rfl (m_I_isAtEnd C.2.2.2.2.2.2.1 hc22) rfl rfl rfl dX3_readCommand_56 rfl rfl ?_
        refine g_if_eq C dX3_readCommand_59 (tgt := 74) rfl (fun q => ?_) (fun q => ?_)
        · replace h := it_t q h
          refine g_iinc C (lv' := [(1, .int (x1 + 1)), (2, .int r16), (0, .ref (w_r w 287))]) (v := (x1 + 1)) dX3_readCommand_74 2 rfl rfl (by decide) rfl ?_
          refine g_goto C dX3_readCommand_77 (tgt := 23) rfl ?_
          refine g_sub [2, 0] (lv' := [(0, .ref (w_r w 287)), (1, .int (x1 + 1))]) rfl ?_
          exact hl1 ((x1 + 1), d) (Option.some.inj h).symm
        · replace h := it_f q h
          replace h := ir_2 h hx1
          refine g_iconst C dX3_readCommand_62 (v := 1) rfl ?_
          exact g_iret C hr hlk rfl (congrArg Prod.snd (Option.some.inj h)) (congrArg (fun z => some (Value.int z.1)) (Option.some.inj h)) dX3_readCommand_63
  unfold f_I_readCommand at h
  refine g_aload_n C dX3_readCommand_0 0 rfl ?_
  obtain ⟨r23, d24, hc25, h⟩ := ob2_1 h
  refine g_callVi C 287 q_287 vk_I_45 hR rfl (m_I_readKeyword C.2.2.2.2.2.2.1 hc25) rfl rfl rfl dX3_readCommand_1 rfl rfl ?_
  refine g_if_ne C dX3_readCommand_4 (tgt := 9) rfl (fun q => ?_) (fun q => ?_)
  · replace h := it_f q h
    refine g_aload_n C dX3_readCommand_9 0 rfl ?_
    refine g_get C (.ref (w_r w 289)) 287 q_287 fk_I_24 rfl dX3_readCommand_10 ?_
    refine g_iconst C dX3_readCommand_13 (v := 0) rfl ?_
    refine g_iconst C dX3_readCommand_14 (v := 1) rfl ?_
    refine g_iast C 289 q_289 (by decide) 0 (by decide)  dX3_readCommand_15 ?_
    refine g_aload_n C dX3_readCommand_16 0 rfl ?_
    refine g_iconst C dX3_readCommand_17 (v := 0) rfl ?_
    refine g_put C 287 q_287 pk_I_48 rfl rfl dX3_readCommand_18 ?_
    refine g_iconst C dX3_readCommand_21 (v := 0) rfl ?_
    refine g_istore_n C (lv' := [(1, .int 0), (0, .ref (w_r w 287))]) dX3_readCommand_22 (by decide) rfl ?_
    refine g_sub [1, 0] (lv' := [(0, .ref (w_r w 287)), (1, .int 0)]) rfl ?_
    exact R23 0 (wr (wr d24 289 0 1) 287 5 0) h
  · replace h := it_t q h
    refine g_iconst C dX3_readCommand_7 (v := 0) rfl ?_
    exact g_iret C hr hlk rfl (congrArg Prod.snd (Option.some.inj h)) (congrArg (fun z => some (Value.int z.1)) (Option.some.inj h)) dX3_readCommand_8
set_option maxHeartbeats 4000000 in
set_option maxRecDepth 100000 in
theorem m_B_isInRange {w : wT} {l : Launch} {x0 x1 x2 : Int32} {d : Dt} {rE : Int32} (hO : okW w) (h : f_B_isInRange x0 x1 x2 d = some rE) : gM w l yX1_isInRange cX1_isInRange 3 (Option.some Jvm.ClassFile.FieldType.boolean) 0 [.int x0, .int x1, .int x2] d d (some (.int rE)) := by
  refine gM_of (by decide) [(0, .int x0), (1, .int x1), (2, .int x2)] rfl rfl ?_ hO
  intro p e R s m args below meth c C hR hr hlk
  unfold f_B_isInRange at h
  refine g_iload_n C dX1_isInRange_0 0 rfl ?_
  refine g_iconst C dX1_isInRange_1 (v := 1) rfl ?_
  refine g_icmp_lt C dX1_isInRange_2 (tgt := 37) rfl (fun q => ?_) (fun q => ?_)
  · replace h := it_t q h
    refine g_iconst C dX1_isInRange_37 (v := 0) rfl ?_
    exact g_iret C hr hlk rfl rfl (congrArg (fun z => some (Value.int z)) (Option.some.inj h)) dX1_isInRange_38
  · replace h := it_f q h
    refine g_iload_n C dX1_isInRange_5 0 rfl ?_
    refine g_bipush C dX1_isInRange_6 (v := 12) (by decide) ?_
    refine g_icmp_gt C dX1_isInRange_8 (tgt := 37) rfl (fun q => ?_) (fun q => ?_)
    · replace h := it_t q h
      refine g_iconst C dX1_isInRange_37 (v := 0) rfl ?_
      exact g_iret C hr hlk rfl rfl (congrArg (fun z => some (Value.int z)) (Option.some.inj h)) dX1_isInRange_38
    · replace h := it_f q h
      refine g_iload_n C dX1_isInRange_11 1 rfl ?_
      refine g_iconst C dX1_isInRange_12 (v := 1) rfl ?_
      refine g_icmp_lt C dX1_isInRange_13 (tgt := 37) rfl (fun q => ?_) (fun q => ?_)
      · replace h := it_t q h
        refine g_iconst C dX1_isInRange_37 (v := 0) rfl ?_
        exact g_iret C hr hlk rfl rfl (congrArg (fun z => some (Value.int z)) (Option.some.inj h)) dX1_isInRange_38
      · replace h := it_f q h
        refine g_iload_n C dX1_isInRange_16 1 rfl ?_
        refine g_bipush C dX1_isInRange_17 (v := 50) (by decide) ?_
        refine g_icmp_gt C dX1_isInRange_19 (tgt := 37) rfl (fun q => ?_) (fun q => ?_)
        · replace h := it_t q h
          refine g_iconst C dX1_isInRange_37 (v := 0) rfl ?_
          exact g_iret C hr hlk rfl rfl (congrArg (fun z => some (Value.int z)) (Option.some.inj h)) dX1_isInRange_38
        · replace h := it_f q h
          refine g_iload_n C dX1_isInRange_22 2 rfl ?_
          refine g_iconst C dX1_isInRange_23 (v := 1) rfl ?_
          refine g_icmp_lt C dX1_isInRange_24 (tgt := 37) rfl (fun q => ?_) (fun q => ?_)
          · replace h := it_t q h
            refine g_iconst C dX1_isInRange_37 (v := 0) rfl ?_
            exact g_iret C hr hlk rfl rfl (congrArg (fun z => some (Value.int z)) (Option.some.inj h)) dX1_isInRange_38
          · replace h := it_f q h
            refine g_iload_n C dX1_isInRange_27 2 rfl ?_
            refine g_bipush C dX1_isInRange_28 (v := 9) (by decide) ?_
            refine g_icmp_gt C dX1_isInRange_30 (tgt := 37) rfl (fun q => ?_) (fun q => ?_)
            · replace h := it_t q h
              refine g_iconst C dX1_isInRange_37 (v := 0) rfl ?_
              exact g_iret C hr hlk rfl rfl (congrArg (fun z => some (Value.int z)) (Option.some.inj h)) dX1_isInRange_38
            · replace h := it_f q h
              refine g_iconst C dX1_isInRange_33 (v := 1) rfl ?_
              refine g_goto C dX1_isInRange_34 (tgt := 38) rfl ?_
              exact g_iret C hr hlk rfl rfl (congrArg (fun z => some (Value.int z)) (Option.some.inj h)) dX1_isInRange_38
set_option maxHeartbeats 4000000 in
set_option maxRecDepth 100000 in
theorem m_B_isFull {w : wT} {l : Launch} {d : Dt} {rE : Int32} (hO : okW w) (h : f_B_isFull  d = some rE) : gM w l yX1_isFull cX1_isFull 1 (Option.some Jvm.ClassFile.FieldType.boolean) 0 [.ref (w_r w 16)] d d (some (.int rE)) := by
  refine gM_of (by decide) [(0, .ref (w_r w 16))] rfl rfl ?_ hO
  intro p e R s m args below meth c C hR hr hlk
  unfold f_B_isFull at h
  refine g_aload_n C dX1_isFull_0 0 rfl ?_
  refine g_get C (.int (d 16 0)) 16 q_16 fk_B_27 rfl dX1_isFull_1 ?_
  refine g_bipush C dX1_isFull_4 (v := 10) (by decide) ?_
  refine g_icmp_lt C dX1_isFull_6 (tgt := 13) rfl (fun q => ?_) (fun q => ?_)
  · replace h := it_t q h
    refine g_iconst C dX1_isFull_13 (v := 0) rfl ?_
    exact g_iret C hr hlk rfl rfl (congrArg (fun z => some (Value.int z)) (Option.some.inj h)) dX1_isFull_14
  · replace h := it_f q h
    refine g_iconst C dX1_isFull_9 (v := 1) rfl ?_
    refine g_goto C dX1_isFull_10 (tgt := 14) rfl ?_
    exact g_iret C hr hlk rfl rfl (congrArg (fun z => some (Value.int z)) (Option.some.inj h)) dX1_isFull_14
set_option maxHeartbeats 4000000 in
set_option maxRecDepth 100000 in
theorem m_B_positionOf {w : wT} {l : Launch} {x1 : Int32} {d : Dt} {rE : Int32} (hO : okW w) (h : f_B_positionOf x1 d = some rE) : gM w l yX1_positionOf cX1_positionOf 3 (Option.some Jvm.ClassFile.FieldType.int) 0 [.ref (w_r w 16), .int x1] d d (some (.int rE)) := by
  refine gM_of (by decide) [(0, .ref (w_r w 16)), (1, .int x1)] rfl rfl ?_ hO
  intro p e R s m args below meth c C hR hr hlk
  have R2 : ∀ (x1 : Int32) (x2 : Int32), f_B_positionOf_2 x1 x2 d = some rE → gG w p l e R s m args below meth c 3 0 0 (gE w below args s d (some (.int rE))) d [(0, .ref (w_r w 16)), (1, .int x1), (2, .int x2)] 2 [] := by
    intro x1 x2   h
    refine iter_ind (G := fun s_ : (Int32) => gG w p l e R s m args below meth c 3 0 0 (gE w below args s d (some (.int rE))) d [(0, .ref (w_r w 16)), (1, .int x1), (2, .int s_)] 2 []) ?_ fu _ h
    clear h
    intro x2 y1 h hl1 hx1
    show gG w p l e R s m args below meth c 3 0 0 (gE w below args s d (some (.int rE))) d [(0, .ref (w_r w 16)), (1, .int x1), (2, .int x2)] 2 []
    unfold st_B_positionOf_2 at h
    refine g_iload_n C dX1_positionOf_2 2 rfl ?_
    refine g_aload_n C dX1_positionOf_3 0 rfl ?_
    refine g_get C (.int (d 16 0)) 16 q_16 fk_B_27 rfl dX1_positionOf_4 ?_
    refine g_icmp_ge C dX1_positionOf_7 (tgt := 28) rfl (fun q => ?_) (fun q => ?_)
    · replace h := it_t q h
      replace h := ir_2 h hx1
      refine g_iconst C dX1_positionOf_28 (v := (-1)) (by decide) ?_
      exact g_iret C hr hlk rfl rfl (congrArg (fun z => some (Value.int z)) (Option.some.inj h)) dX1_positionOf_29
    · replace h := it_f q h
      refine g_aload_n C dX1_positionOf_10 0 rfl ?_
      refine g_get C (.ref (w_r w 17)) 16 q_16 fk_B_9 rfl dX1_positionOf_11 ?_
      refine g_iload_n C dX1_positionOf_14 2 rfl ?_
      have hg1 := gd_1 h
      replace h := gd_2 h
      refine g_iald C 17 q_17 hg1 _ rfl dX1_positionOf_15 ?_
      refine g_iload_n C dX1_positionOf_16 1 rfl ?_
      refine g_icmp_ne C dX1_positionOf_17 (tgt := 22) rfl (fun q => ?_) (fun q => ?_)
      · replace h := it_f q h
        refine g_iinc C (lv' := [(2, .int (x2 + 1)), (0, .ref (w_r w 16)), (1, .int x1)]) (v := (x2 + 1)) dX1_positionOf_22 2 rfl rfl (by decide) rfl ?_
        refine g_goto C dX1_positionOf_25 (tgt := 2) rfl ?_
        refine g_sub [1, 2, 0] (lv' := [(0, .ref (w_r w 16)), (1, .int x1), (2, .int (x2 + 1))]) rfl ?_
        exact hl1 (x2 + 1) (Option.some.inj h).symm
      · replace h := it_t q h
        replace h := ir_2 h hx1
        refine g_iload_n C dX1_positionOf_20 2 rfl ?_
        exact g_iret C hr hlk rfl rfl (congrArg (fun z => some (Value.int z)) (Option.some.inj h)) dX1_positionOf_21
  unfold f_B_positionOf at h
  refine g_iconst C dX1_positionOf_0 (v := 0) rfl ?_
  refine g_istore_n C (lv' := [(2, .int 0), (0, .ref (w_r w 16)), (1, .int x1)]) dX1_positionOf_1 (by decide) rfl ?_
  refine g_sub [1, 2, 0] (lv' := [(0, .ref (w_r w 16)), (1, .int x1), (2, .int 0)]) rfl ?_
  exact R2 x1 0 h
set_option maxHeartbeats 4000000 in
set_option maxRecDepth 100000 in
theorem m_T_isFull {w : wT} {l : Launch} {d : Dt} {rE : Int32} (hO : okW w) (h : f_T_isFull  d = some rE) : gM w l yX9_isFull cX9_isFull 1 (Option.some Jvm.ClassFile.FieldType.boolean) 0 [.ref (w_r w 22)] d d (some (.int rE)) := by
  refine gM_of (by decide) [(0, .ref (w_r w 22))] rfl rfl ?_ hO
  intro p e R s m args below meth c C hR hr hlk
  unfold f_T_isFull at h
  refine g_aload_n C dX9_isFull_0 0 rfl ?_
  refine g_get C (.int (d 22 0)) 22 q_22 fk_T_22 rfl dX9_isFull_1 ?_
  refine g_bipush C dX9_isFull_4 (v := 12) (by decide) ?_
  refine g_icmp_lt C dX9_isFull_6 (tgt := 13) rfl (fun q => ?_) (fun q => ?_)
  · replace h := it_t q h
    refine g_iconst C dX9_isFull_13 (v := 0) rfl ?_
    exact g_iret C hr hlk rfl rfl (congrArg (fun z => some (Value.int z)) (Option.some.inj h)) dX9_isFull_14
  · replace h := it_f q h
    refine g_iconst C dX9_isFull_9 (v := 1) rfl ?_
    refine g_goto C dX9_isFull_10 (tgt := 14) rfl ?_
    exact g_iret C hr hlk rfl rfl (congrArg (fun z => some (Value.int z)) (Option.some.inj h)) dX9_isFull_14
set_option maxHeartbeats 4000000 in
set_option maxRecDepth 100000 in
theorem m_T_has {w : wT} {l : Launch} {x1 : Int32} {d : Dt} {rE : Int32} (hO : okW w) (h : f_T_has x1 d = some rE) : gM w l yX9_has cX9_has 2 (Option.some Jvm.ClassFile.FieldType.boolean) 0 [.ref (w_r w 22), .int x1] d d (some (.int rE)) := by
  refine gM_of (by decide) [(0, .ref (w_r w 22)), (1, .int x1)] rfl rfl ?_ hO
  intro p e R s m args below meth c C hR hr hlk
  unfold f_T_has at h
  refine g_iload_n C dX9_has_0 1 rfl ?_
  refine g_if_lt C dX9_has_1 (tgt := 16) rfl (fun q => ?_) (fun q => ?_)
  · replace h := it_t q h
    refine g_iconst C dX9_has_16 (v := 0) rfl ?_
    exact g_iret C hr hlk rfl rfl (congrArg (fun z => some (Value.int z)) (Option.some.inj h)) dX9_has_17
  · replace h := it_f q h
    refine g_iload_n C dX9_has_4 1 rfl ?_
    refine g_aload_n C dX9_has_5 0 rfl ?_
    refine g_get C (.int (d 22 0)) 22 q_22 fk_T_22 rfl dX9_has_6 ?_
    refine g_icmp_ge C dX9_has_9 (tgt := 16) rfl (fun q => ?_) (fun q => ?_)
    · replace h := it_t q h
      refine g_iconst C dX9_has_16 (v := 0) rfl ?_
      exact g_iret C hr hlk rfl rfl (congrArg (fun z => some (Value.int z)) (Option.some.inj h)) dX9_has_17
    · replace h := it_f q h
      refine g_iconst C dX9_has_12 (v := 1) rfl ?_
      refine g_goto C dX9_has_13 (tgt := 17) rfl ?_
      exact g_iret C hr hlk rfl rfl (congrArg (fun z => some (Value.int z)) (Option.some.inj h)) dX9_has_17
set_option maxHeartbeats 4000000 in
set_option maxRecDepth 100000 in
theorem m_L_serves {w : wT} {l : Launch} {x1 : Int32} {d : Dt} {rE : Int32} (hO : okW w) (h : f_L_serves x1 d = some rE) : gM w l yX5_serves cX5_serves 2 (Option.some Jvm.ClassFile.FieldType.boolean) 0 [.ref (w_r w 3), .int x1] d d (some (.int rE)) := by
  refine gM_of (by decide) [(0, .ref (w_r w 3)), (1, .int x1)] rfl rfl ?_ hO
  intro p e R s m args below meth c C hR hr hlk
  unfold f_L_serves at h
  refine g_aload_n C dX5_serves_0 0 rfl ?_
  refine g_get C (.ref (w_r w 6)) 3 q_3 fk_L_18 rfl dX5_serves_1 ?_
  refine g_iload_n C dX5_serves_4 1 rfl ?_
  have hg1 := gd_1 h
  replace h := gd_2 h
  refine g_iald C 6 q_6 hg1 _ rfl dX5_serves_5 ?_
  refine g_if_le C dX5_serves_6 (tgt := 13) rfl (fun q => ?_) (fun q => ?_)
  · replace h := it_t q h
    refine g_iconst C dX5_serves_13 (v := 0) rfl ?_
    exact g_iret C hr hlk rfl rfl (congrArg (fun z => some (Value.int z)) (Option.some.inj h)) dX5_serves_14
  · replace h := it_f q h
    refine g_iconst C dX5_serves_9 (v := 1) rfl ?_
    refine g_goto C dX5_serves_10 (tgt := 14) rfl ?_
    exact g_iret C hr hlk rfl rfl (congrArg (fun z => some (Value.int z)) (Option.some.inj h)) dX5_serves_14
set_option maxHeartbeats 4000000 in
set_option maxRecDepth 100000 in
theorem m_C_isPossible {w : wT} {l : Launch} {x1 : Int32} {x3 : Int32} {d : Dt} {rE : Int32} (hO : okW w) (hx1 : inb x1 8 = true) (h : f_C_isPossible x1 x3 d = some rE) : gM w l yX11_isPossible cX11_isPossible 5 (Option.some Jvm.ClassFile.FieldType.boolean) 1 [.ref (w_r w 0), .ref (w_k w (200 + x1.toNatClampNeg)), .ref (w_r w 289), .int x3] d d (some (.int rE)) := by
  refine gM_of (by decide) [(0, .ref (w_r w 0)), (1, .ref (w_k w (200 + x1.toNatClampNeg))), (2, .ref (w_r w 289)), (3, .int x3)] rfl rfl ?_ hO
  intro p e R s m args below meth c C hR hr hlk
  unfold f_C_isPossible at h
  refine g_aload_n C dX11_isPossible_0 2 rfl ?_
  refine g_iconst C dX11_isPossible_1 (v := 0) rfl ?_
  refine g_iald C 289 q_289 (by decide) 0 (by decide) dX11_isPossible_2 ?_
  refine g_istore C (lv' := [(4, .int (d 289 0)), (0, .ref (w_r w 0)), (1, .ref (w_k w (200 + x1.toNatClampNeg))), (2, .ref (w_r w 289)), (3, .int x3)]) dX11_isPossible_3 (by decide) rfl ?_
  refine g_gets C (kM_Z C) (wA 1397 (by decide +kernel) (by decide +kernel)) dX11_isPossible_5 ?_
  refine g_aload_n C dX11_isPossible_8 2 rfl ?_
  refine g_ord C hx1 hR rfl rfl dX11_isPossible_9 rfl rfl ?_
  have hg15 := gd_1 h
  replace h := gd_2 h
  refine g_ialdK C (kM_T C) hg15 rfl dX11_isPossible_12 ?_
  by_cases q0 : (smS x1.toNatClampNeg) = 1
  · replace h := it_t q0 h
    refine g_tabIn C dX11_isPossible_13 (v := 1) q0 (by decide) (by decide) (off := 43) (by rfl) (tgt := 56) rfl ?_
    refine g_aload_n C dX11_isPossible_56 1 rfl ?_
    refine g_get C (.ref (w_r w 2)) 0 q_0 fk_C_10 rfl dX11_isPossible_57 ?_
    refine g_get C (.ref (w_r w 3)) 2 q_2 fk_C_68 rfl dX11_isPossible_60 ?_
    obtain ⟨r16, hc17, h⟩ := ob1_1 h
    refine g_callVi C 3 q_3 vk_C_72 hR rfl (m_L_isFull C.2.2.2.2.2.2.1 hc17) rfl rfl rfl dX11_isPossible_63 rfl rfl ?_
    refine g_if_ne C dX11_isPossible_66 (tgt := 73) rfl (fun q => ?_) (fun q => ?_)
    · replace h := it_f q h
      refine g_iconst C dX11_isPossible_73 (v := 0) rfl ?_
      exact g_iret C hr hlk rfl rfl (congrArg (fun z => some (Value.int z)) (Option.some.inj h)) dX11_isPossible_74
    · replace h := it_t q h
      refine g_iconst C dX11_isPossible_69 (v := 1) rfl ?_
      refine g_goto C dX11_isPossible_70 (tgt := 74) rfl ?_
      exact g_iret C hr hlk rfl rfl (congrArg (fun z => some (Value.int z)) (Option.some.inj h)) dX11_isPossible_74
  replace h := it_f q0 h
  by_cases q1 : (smS x1.toNatClampNeg) = 2
  · replace h := it_t q1 h
    refine g_tabIn C dX11_isPossible_13 (v := 2) q1 (by decide) (by decide) (off := 62) (by rfl) (tgt := 75) rfl ?_
    refine g_aload_n C dX11_isPossible_75 1 rfl ?_
    refine g_get C (.ref (w_r w 2)) 0 q_0 fk_C_10 rfl dX11_isPossible_76 ?_
    refine g_get C (.ref (w_r w 3)) 2 q_2 fk_C_68 rfl dX11_isPossible_79 ?_
    refine g_iload C dX11_isPossible_82 0 rfl ?_
    obtain ⟨r18, hc19, h⟩ := ob1_1 h
    refine g_callVi C 3 q_3 vk_C_199 hR rfl (m_L_has C.2.2.2.2.2.2.1 hc19) rfl rfl rfl dX11_isPossible_84 rfl rfl ?_
    refine g_if_eq C dX11_isPossible_87 (tgt := 122) rfl (fun q => ?_) (fun q => ?_)
    · replace h := it_t q h
      refine g_iconst C dX11_isPossible_122 (v := 0) rfl ?_
      exact g_iret C hr hlk rfl rfl (congrArg (fun z => some (Value.int z)) (Option.some.inj h)) dX11_isPossible_123
    · replace h := it_f q h
      refine g_aload_n C dX11_isPossible_90 3 rfl ?_
      refine g_iconst C dX11_isPossible_91 (v := 1) rfl ?_
      refine g_iald C 289 q_289 (by decide) 1 (by decide) dX11_isPossible_92 ?_
      refine g_aload_n C dX11_isPossible_93 3 rfl ?_
      refine g_iconst C dX11_isPossible_94 (v := 2) rfl ?_
      refine g_iald C 289 q_289 (by decide) 2 (by decide) dX11_isPossible_95 ?_
      refine g_aload_n C dX11_isPossible_96 3 rfl ?_
      refine g_iconst C dX11_isPossible_97 (v := 3) rfl ?_
      refine g_iald C 289 q_289 (by decide) 3 (by decide) dX11_isPossible_98 ?_
      obtain ⟨r20, hc21, h⟩ := ob1_1 h
      refine g_callSi C sk_C_97 hR rfl (m_B_isInRange C.2.2.2.2.2.2.1 hc21) rfl rfl rfl dX11_isPossible_99 rfl rfl ?_
      refine g_if_eq C dX11_isPossible_102 (tgt := 122) rfl (fun q => ?_) (fun q => ?_)
      · replace h := it_t q h
        refine g_iconst C dX11_isPossible_122 (v := 0) rfl ?_
        exact g_iret C hr hlk rfl rfl (congrArg (fun z => some (Value.int z)) (Option.some.inj h)) dX11_isPossible_123
      · replace h := it_f q h
        refine g_aload_n C dX11_isPossible_105 1 rfl ?_
        refine g_get C (.ref (w_r w 2)) 0 q_0 fk_C_10 rfl dX11_isPossible_106 ?_
        refine g_get C (.ref (w_r w 16)) 2 q_2 fk_C_108 rfl dX11_isPossible_109 ?_
        obtain ⟨r22, hc23, h⟩ := ob1_1 h
        refine g_callVi C 16 q_16 vk_C_112 hR rfl (m_B_isFull C.2.2.2.2.2.2.1 hc23) rfl rfl rfl dX11_isPossible_112 rfl rfl ?_
        refine g_if_ne C dX11_isPossible_115 (tgt := 122) rfl (fun q => ?_) (fun q => ?_)
        · replace h := it_f q h
          refine g_iconst C dX11_isPossible_122 (v := 0) rfl ?_
          exact g_iret C hr hlk rfl rfl (congrArg (fun z => some (Value.int z)) (Option.some.inj h)) dX11_isPossible_123
        · replace h := it_t q h
          refine g_iconst C dX11_isPossible_118 (v := 1) rfl ?_
          refine g_goto C dX11_isPossible_119 (tgt := 123) rfl ?_
          exact g_iret C hr hlk rfl rfl (congrArg (fun z => some (Value.int z)) (Option.some.inj h)) dX11_isPossible_123
  replace h := it_f q1 h
  by_cases q2 : (smS x1.toNatClampNeg) = 3
  · replace h := it_t q2 h
    refine g_tabIn C dX11_isPossible_13 (v := 3) q2 (by decide) (by decide) (off := 111) (by rfl) (tgt := 124) rfl ?_
    refine g_aload_n C dX11_isPossible_124 1 rfl ?_
    refine g_get C (.ref (w_r w 2)) 0 q_0 fk_C_10 rfl dX11_isPossible_125 ?_
    refine g_get C (.ref (w_r w 16)) 2 q_2 fk_C_108 rfl dX11_isPossible_128 ?_
    refine g_iload C dX11_isPossible_131 0 rfl ?_
    obtain ⟨r24, hc25, h⟩ := ob1_1 h
    refine g_callVi C 16 q_16 vk_C_438 hR rfl (m_B_positionOf C.2.2.2.2.2.2.1 hc25) rfl rfl rfl dX11_isPossible_133 rfl rfl ?_
    refine g_iconst C dX11_isPossible_136 (v := (-1)) (by decide) ?_
    refine g_icmp_eq C dX11_isPossible_137 (tgt := 144) rfl (fun q => ?_) (fun q => ?_)
    · replace h := it_t q h
      refine g_iconst C dX11_isPossible_144 (v := 0) rfl ?_
      exact g_iret C hr hlk rfl rfl (congrArg (fun z => some (Value.int z)) (Option.some.inj h)) dX11_isPossible_145
    · replace h := it_f q h
      refine g_iconst C dX11_isPossible_140 (v := 1) rfl ?_
      refine g_goto C dX11_isPossible_141 (tgt := 145) rfl ?_
      exact g_iret C hr hlk rfl rfl (congrArg (fun z => some (Value.int z)) (Option.some.inj h)) dX11_isPossible_145
  replace h := it_f q2 h
  by_cases q3 : (smS x1.toNatClampNeg) = 4
  · replace h := it_t q3 h
    refine g_tabIn C dX11_isPossible_13 (v := 4) q3 (by decide) (by decide) (off := 133) (by rfl) (tgt := 146) rfl ?_
    refine g_aload_n C dX11_isPossible_146 1 rfl ?_
    refine g_get C (.ref (w_r w 2)) 0 q_0 fk_C_10 rfl dX11_isPossible_147 ?_
    refine g_get C (.ref (w_r w 3)) 2 q_2 fk_C_68 rfl dX11_isPossible_150 ?_
    refine g_iload C dX11_isPossible_153 0 rfl ?_
    obtain ⟨r26, hc27, h⟩ := ob1_1 h
    refine g_callVi C 3 q_3 vk_C_199 hR rfl (m_L_has C.2.2.2.2.2.2.1 hc27) rfl rfl rfl dX11_isPossible_155 rfl rfl ?_
    refine g_if_eq C dX11_isPossible_158 (tgt := 202) rfl (fun q => ?_) (fun q => ?_)
    · replace h := it_t q h
      refine g_iconst C dX11_isPossible_202 (v := 0) rfl ?_
      exact g_iret C hr hlk rfl rfl (congrArg (fun z => some (Value.int z)) (Option.some.inj h)) dX11_isPossible_203
    · replace h := it_f q h
      refine g_aload_n C dX11_isPossible_161 1 rfl ?_
      refine g_get C (.ref (w_r w 2)) 0 q_0 fk_C_10 rfl dX11_isPossible_162 ?_
      refine g_get C (.ref (w_r w 3)) 2 q_2 fk_C_68 rfl dX11_isPossible_165 ?_
      refine g_aload_n C dX11_isPossible_168 3 rfl ?_
      refine g_iconst C dX11_isPossible_169 (v := 1) rfl ?_
      refine g_iald C 289 q_289 (by decide) 1 (by decide) dX11_isPossible_170 ?_
      obtain ⟨r28, hc29, h⟩ := ob1_1 h
      refine g_callVi C 3 q_3 vk_C_199 hR rfl (m_L_has C.2.2.2.2.2.2.1 hc29) rfl rfl rfl dX11_isPossible_171 rfl rfl ?_
      refine g_if_eq C dX11_isPossible_174 (tgt := 202) rfl (fun q => ?_) (fun q => ?_)
      · replace h := it_t q h
        refine g_iconst C dX11_isPossible_202 (v := 0) rfl ?_
        exact g_iret C hr hlk rfl rfl (congrArg (fun z => some (Value.int z)) (Option.some.inj h)) dX11_isPossible_203
      · replace h := it_f q h
        refine g_iload C dX11_isPossible_177 0 rfl ?_
        refine g_aload_n C dX11_isPossible_179 3 rfl ?_
        refine g_iconst C dX11_isPossible_180 (v := 1) rfl ?_
        refine g_iald C 289 q_289 (by decide) 1 (by decide) dX11_isPossible_181 ?_
        refine g_icmp_eq C dX11_isPossible_182 (tgt := 202) rfl (fun q => ?_) (fun q => ?_)
        · replace h := it_t q h
          refine g_iconst C dX11_isPossible_202 (v := 0) rfl ?_
          exact g_iret C hr hlk rfl rfl (congrArg (fun z => some (Value.int z)) (Option.some.inj h)) dX11_isPossible_203
        · replace h := it_f q h
          refine g_aload_n C dX11_isPossible_185 1 rfl ?_
          refine g_get C (.ref (w_r w 2)) 0 q_0 fk_C_10 rfl dX11_isPossible_186 ?_
          refine g_get C (.ref (w_r w 22)) 2 q_2 fk_C_128 rfl dX11_isPossible_189 ?_
          obtain ⟨r30, hc31, h⟩ := ob1_1 h
          refine g_callVi C 22 q_22 vk_C_132 hR rfl (m_T_isFull C.2.2.2.2.2.2.1 hc31) rfl rfl rfl dX11_isPossible_192 rfl rfl ?_
          refine g_if_ne C dX11_isPossible_195 (tgt := 202) rfl (fun q => ?_) (fun q => ?_)
          · replace h := it_f q h
            refine g_iconst C dX11_isPossible_202 (v := 0) rfl ?_
            exact g_iret C hr hlk rfl rfl (congrArg (fun z => some (Value.int z)) (Option.some.inj h)) dX11_isPossible_203
          · replace h := it_t q h
            refine g_iconst C dX11_isPossible_198 (v := 1) rfl ?_
            refine g_goto C dX11_isPossible_199 (tgt := 203) rfl ?_
            exact g_iret C hr hlk rfl rfl (congrArg (fun z => some (Value.int z)) (Option.some.inj h)) dX11_isPossible_203
  replace h := it_f q3 h
  by_cases q4 : (smS x1.toNatClampNeg) = 5
  · replace h := it_t q4 h
    refine g_tabIn C dX11_isPossible_13 (v := 5) q4 (by decide) (by decide) (off := 191) (by rfl) (tgt := 204) rfl ?_
    refine g_aload_n C dX11_isPossible_204 1 rfl ?_
    refine g_get C (.ref (w_r w 2)) 0 q_0 fk_C_10 rfl dX11_isPossible_205 ?_
    refine g_get C (.ref (w_r w 22)) 2 q_2 fk_C_128 rfl dX11_isPossible_208 ?_
    refine g_iload C dX11_isPossible_211 0 rfl ?_
    obtain ⟨r32, hc33, h⟩ := ob1_1 h
    refine g_callVi C 22 q_22 vk_C_435 hR rfl (m_T_has C.2.2.2.2.2.2.1 hc33) rfl rfl rfl dX11_isPossible_213 rfl rfl ?_
    have hg34 := gd_1 h
    replace h := gd_2 h
    exact g_iret C hr hlk (nar_n hg34) rfl (congrArg (fun z => some (Value.int z)) (Option.some.inj h)) dX11_isPossible_216
  replace h := it_f q4 h
  by_cases q5 : (smS x1.toNatClampNeg) = 6
  · replace h := it_t q5 h
    refine g_tabIn C dX11_isPossible_13 (v := 6) q5 (by decide) (by decide) (off := 204) (by rfl) (tgt := 217) rfl ?_
    refine g_aload_n C dX11_isPossible_217 1 rfl ?_
    refine g_get C (.ref (w_r w 2)) 0 q_0 fk_C_10 rfl dX11_isPossible_218 ?_
    refine g_get C (.ref (w_r w 3)) 2 q_2 fk_C_68 rfl dX11_isPossible_221 ?_
    refine g_iload C dX11_isPossible_224 0 rfl ?_
    obtain ⟨r35, hc36, h⟩ := ob1_1 h
    refine g_callVi C 3 q_3 vk_C_199 hR rfl (m_L_has C.2.2.2.2.2.2.1 hc36) rfl rfl rfl dX11_isPossible_226 rfl rfl ?_
    refine g_if_eq C dX11_isPossible_229 (tgt := 252) rfl (fun q => ?_) (fun q => ?_)
    · replace h := it_t q h
      refine g_iconst C dX11_isPossible_252 (v := 0) rfl ?_
      exact g_iret C hr hlk rfl rfl (congrArg (fun z => some (Value.int z)) (Option.some.inj h)) dX11_isPossible_253
    · replace h := it_f q h
      refine g_aload_n C dX11_isPossible_232 1 rfl ?_
      refine g_get C (.ref (w_r w 2)) 0 q_0 fk_C_10 rfl dX11_isPossible_233 ?_
      refine g_get C (.ref (w_r w 3)) 2 q_2 fk_C_68 rfl dX11_isPossible_236 ?_
      refine g_iload C dX11_isPossible_239 0 rfl ?_
      refine g_iload_n C dX11_isPossible_241 4 rfl ?_
      obtain ⟨r37, hc38, h⟩ := ob1_1 h
      refine g_callVi C 3 q_3 vk_C_146 hR rfl (m_L_admits C.2.2.2.2.2.2.1 hc38) rfl rfl rfl dX11_isPossible_242 rfl rfl ?_
      refine g_if_ne C dX11_isPossible_245 (tgt := 252) rfl (fun q => ?_) (fun q => ?_)
      · replace h := it_f q h
        refine g_iconst C dX11_isPossible_252 (v := 0) rfl ?_
        exact g_iret C hr hlk rfl rfl (congrArg (fun z => some (Value.int z)) (Option.some.inj h)) dX11_isPossible_253
      · replace h := it_t q h
        refine g_iconst C dX11_isPossible_248 (v := 1) rfl ?_
        refine g_goto C dX11_isPossible_249 (tgt := 253) rfl ?_
        exact g_iret C hr hlk rfl rfl (congrArg (fun z => some (Value.int z)) (Option.some.inj h)) dX11_isPossible_253
  replace h := it_f q5 h
  by_cases q6 : (smS x1.toNatClampNeg) = 7
  · replace h := it_t q6 h
    refine g_tabIn C dX11_isPossible_13 (v := 7) q6 (by decide) (by decide) (off := 241) (by rfl) (tgt := 254) rfl ?_
    refine g_aload_n C dX11_isPossible_254 1 rfl ?_
    refine g_get C (.ref (w_r w 2)) 0 q_0 fk_C_10 rfl dX11_isPossible_255 ?_
    refine g_get C (.ref (w_r w 3)) 2 q_2 fk_C_68 rfl dX11_isPossible_258 ?_
    refine g_iload C dX11_isPossible_261 0 rfl ?_
    obtain ⟨r39, hc40, h⟩ := ob1_1 h
    refine g_callVi C 3 q_3 vk_C_199 hR rfl (m_L_has C.2.2.2.2.2.2.1 hc40) rfl rfl rfl dX11_isPossible_263 rfl rfl ?_
    refine g_if_eq C dX11_isPossible_266 (tgt := 288) rfl (fun q => ?_) (fun q => ?_)
    · replace h := it_t q h
      refine g_iconst C dX11_isPossible_288 (v := 0) rfl ?_
      exact g_iret C hr hlk rfl rfl (congrArg (fun z => some (Value.int z)) (Option.some.inj h)) dX11_isPossible_289
    · replace h := it_f q h
      refine g_aload_n C dX11_isPossible_269 1 rfl ?_
      refine g_get C (.ref (w_r w 2)) 0 q_0 fk_C_10 rfl dX11_isPossible_270 ?_
      refine g_get C (.ref (w_r w 3)) 2 q_2 fk_C_68 rfl dX11_isPossible_273 ?_
      refine g_iload C dX11_isPossible_276 0 rfl ?_
      obtain ⟨r41, hc42, h⟩ := ob1_1 h
      refine g_callVi C 3 q_3 vk_C_430 hR rfl (m_L_serves C.2.2.2.2.2.2.1 hc42) rfl rfl rfl dX11_isPossible_278 rfl rfl ?_
      refine g_if_eq C dX11_isPossible_281 (tgt := 288) rfl (fun q => ?_) (fun q => ?_)
      · replace h := it_t q h
        refine g_iconst C dX11_isPossible_288 (v := 0) rfl ?_
        exact g_iret C hr hlk rfl rfl (congrArg (fun z => some (Value.int z)) (Option.some.inj h)) dX11_isPossible_289
      · replace h := it_f q h
        refine g_iconst C dX11_isPossible_284 (v := 1) rfl ?_
        refine g_goto C dX11_isPossible_285 (tgt := 289) rfl ?_
        exact g_iret C hr hlk rfl rfl (congrArg (fun z => some (Value.int z)) (Option.some.inj h)) dX11_isPossible_289
  replace h := it_f q6 h
  have a0 : (smS x1.toNatClampNeg).toInt ≠ 1 := fun e => q0 (Int32.toInt_inj.mp (e.trans (by decide)))
  have a1 : (smS x1.toNatClampNeg).toInt ≠ 2 := fun e => q1 (Int32.toInt_inj.mp (e.trans (by decide)))
  have a2 : (smS x1.toNatClampNeg).toInt ≠ 3 := fun e => q2 (Int32.toInt_inj.mp (e.trans (by decide)))
  have a3 : (smS x1.toNatClampNeg).toInt ≠ 4 := fun e => q3 (Int32.toInt_inj.mp (e.trans (by decide)))
  have a4 : (smS x1.toNatClampNeg).toInt ≠ 5 := fun e => q4 (Int32.toInt_inj.mp (e.trans (by decide)))
  have a5 : (smS x1.toNatClampNeg).toInt ≠ 6 := fun e => q5 (Int32.toInt_inj.mp (e.trans (by decide)))
  have a6 : (smS x1.toNatClampNeg).toInt ≠ 7 := fun e => q6 (Int32.toInt_inj.mp (e.trans (by decide)))
  refine g_tabOut C dX11_isPossible_13 (by omega : (smS x1.toNatClampNeg).toInt < 1 ∨ 7 < (smS x1.toNatClampNeg).toInt) (tgt := 290) rfl ?_
  refine g_iload C dX11_isPossible_290 0 rfl ?_
  obtain ⟨r43, hc44, h⟩ := ob1_1 h
  refine g_callSi C sk_C_165 hR rfl (m_C_canPass C.2.2.2.2.2.2.1 hc44) rfl rfl rfl dX11_isPossible_292 rfl rfl ?_
  have hg45 := gd_1 h
  replace h := gd_2 h
  exact g_iret C hr hlk (nar_n hg45) rfl (congrArg (fun z => some (Value.int z)) (Option.some.inj h)) dX11_isPossible_295
set_option maxHeartbeats 4000000 in
set_option maxRecDepth 100000 in
theorem m_B_add {w : wT} {l : Launch} {x1 x2 x3 x4 : Int32} {d : Dt} {rE : Int32} {dE : Dt} (hO : okW w) (h : f_B_add x1 x2 x3 x4 d = some (rE, dE)) : gM w l yX1_add cX1_add 5 (Option.some Jvm.ClassFile.FieldType.int) 0 [.ref (w_r w 16), .int x1, .int x2, .int x3, .int x4] d dE (some (.int rE)) := by
  refine gM_of (by decide) [(0, .ref (w_r w 16)), (1, .int x1), (2, .int x2), (3, .int x3), (4, .int x4)] rfl rfl ?_ hO
  intro p e R s m args below meth c C hR hr hlk
  unfold f_B_add at h
  refine g_aload_n C dX1_add_0 0 rfl ?_
  refine g_get C (.ref (w_r w 17)) 16 q_16 fk_B_9 rfl dX1_add_1 ?_
  refine g_aload_n C dX1_add_4 0 rfl ?_
  refine g_get C (.int (d 16 0)) 16 q_16 fk_B_27 rfl dX1_add_5 ?_
  refine g_aload_n C dX1_add_8 0 rfl ?_
  refine g_get C (.int (d 16 1)) 16 q_16 fk_B_31 rfl dX1_add_9 ?_
  have hg1 := gd_1 h
  replace h := gd_2 h
  refine g_iast C 17 q_17 hg1 _ rfl  dX1_add_12 ?_
  refine g_aload_n C dX1_add_13 0 rfl ?_
  refine g_get C (.ref (w_r w 18)) 16 q_16 fk_B_15 rfl dX1_add_14 ?_
  refine g_aload_n C dX1_add_17 0 rfl ?_
  refine g_get C (.int ((wr d 17 (d 16 0).toNatClampNeg (d 16 1)) 16 0)) 16 q_16 fk_B_27 rfl dX1_add_18 ?_
  refine g_iload_n C dX1_add_21 1 rfl ?_
  have hg2 := gd_1 h
  replace h := gd_2 h
  refine g_iast C 18 q_18 hg2 _ rfl  dX1_add_22 ?_
  refine g_aload_n C dX1_add_23 0 rfl ?_
  refine g_get C (.ref (w_r w 19)) 16 q_16 fk_B_18 rfl dX1_add_24 ?_
  refine g_aload_n C dX1_add_27 0 rfl ?_
  refine g_get C (.int ((wr (wr d 17 (d 16 0).toNatClampNeg (d 16 1)) 18 ((wr d 17 (d 16 0).toNatClampNeg (d 16 1)) 16 0).toNatClampNeg x1) 16 0)) 16 q_16 fk_B_27 rfl dX1_add_28 ?_
  refine g_iload_n C dX1_add_31 2 rfl ?_
  have hg3 := gd_1 h
  replace h := gd_2 h
  refine g_iast C 19 q_19 hg3 _ rfl  dX1_add_32 ?_
  refine g_aload_n C dX1_add_33 0 rfl ?_
  refine g_get C (.ref (w_r w 20)) 16 q_16 fk_B_21 rfl dX1_add_34 ?_
  refine g_aload_n C dX1_add_37 0 rfl ?_
  refine g_get C (.int ((wr (wr (wr d 17 (d 16 0).toNatClampNeg (d 16 1)) 18 ((wr d 17 (d 16 0).toNatClampNeg (d 16 1)) 16 0).toNatClampNeg x1) 19 ((wr (wr d 17 (d 16 0).toNatClampNeg (d 16 1)) 18 ((wr d 17 (d 16 0).toNatClampNeg (d 16 1)) 16 0).toNatClampNeg x1) 16 0).toNatClampNeg x2) 16 0)) 16 q_16 fk_B_27 rfl dX1_add_38 ?_
  refine g_iload_n C dX1_add_41 3 rfl ?_
  have hg4 := gd_1 h
  replace h := gd_2 h
  refine g_iast C 20 q_20 hg4 _ rfl  dX1_add_42 ?_
  refine g_aload_n C dX1_add_43 0 rfl ?_
  refine g_get C (.ref (w_r w 21)) 16 q_16 fk_B_24 rfl dX1_add_44 ?_
  refine g_aload_n C dX1_add_47 0 rfl ?_
  refine g_get C (.int ((wr (wr (wr (wr d 17 (d 16 0).toNatClampNeg (d 16 1)) 18 ((wr d 17 (d 16 0).toNatClampNeg (d 16 1)) 16 0).toNatClampNeg x1) 19 ((wr (wr d 17 (d 16 0).toNatClampNeg (d 16 1)) 18 ((wr d 17 (d 16 0).toNatClampNeg (d 16 1)) 16 0).toNatClampNeg x1) 16 0).toNatClampNeg x2) 20 ((wr (wr (wr d 17 (d 16 0).toNatClampNeg (d 16 1)) 18 ((wr d 17 (d 16 0).toNatClampNeg (d 16 1)) 16 0).toNatClampNeg x1) 19 ((wr (wr d 17 (d 16 0).toNatClampNeg (d 16 1)) 18 ((wr d 17 (d 16 0).toNatClampNeg (d 16 1)) 16 0).toNatClampNeg x1) 16 0).toNatClampNeg x2) 16 0).toNatClampNeg x3) 16 0)) 16 q_16 fk_B_27 rfl dX1_add_48 ?_
  refine g_iload C dX1_add_51 4 rfl ?_
  have hg5 := gd_1 h
  replace h := gd_2 h
  refine g_iast C 21 q_21 hg5 _ rfl  dX1_add_53 ?_
  refine g_aload_n C dX1_add_54 0 rfl ?_
  refine g_dup C dX1_add_55 rfl ?_
  refine g_get C (.int ((wr (wr (wr (wr (wr d 17 (d 16 0).toNatClampNeg (d 16 1)) 18 ((wr d 17 (d 16 0).toNatClampNeg (d 16 1)) 16 0).toNatClampNeg x1) 19 ((wr (wr d 17 (d 16 0).toNatClampNeg (d 16 1)) 18 ((wr d 17 (d 16 0).toNatClampNeg (d 16 1)) 16 0).toNatClampNeg x1) 16 0).toNatClampNeg x2) 20 ((wr (wr (wr d 17 (d 16 0).toNatClampNeg (d 16 1)) 18 ((wr d 17 (d 16 0).toNatClampNeg (d 16 1)) 16 0).toNatClampNeg x1) 19 ((wr (wr d 17 (d 16 0).toNatClampNeg (d 16 1)) 18 ((wr d 17 (d 16 0).toNatClampNeg (d 16 1)) 16 0).toNatClampNeg x1) 16 0).toNatClampNeg x2) 16 0).toNatClampNeg x3) 21 ((wr (wr (wr (wr d 17 (d 16 0).toNatClampNeg (d 16 1)) 18 ((wr d 17 (d 16 0).toNatClampNeg (d 16 1)) 16 0).toNatClampNeg x1) 19 ((wr (wr d 17 (d 16 0).toNatClampNeg (d 16 1)) 18 ((wr d 17 (d 16 0).toNatClampNeg (d 16 1)) 16 0).toNatClampNeg x1) 16 0).toNatClampNeg x2) 20 ((wr (wr (wr d 17 (d 16 0).toNatClampNeg (d 16 1)) 18 ((wr d 17 (d 16 0).toNatClampNeg (d 16 1)) 16 0).toNatClampNeg x1) 19 ((wr (wr d 17 (d 16 0).toNatClampNeg (d 16 1)) 18 ((wr d 17 (d 16 0).toNatClampNeg (d 16 1)) 16 0).toNatClampNeg x1) 16 0).toNatClampNeg x2) 16 0).toNatClampNeg x3) 16 0).toNatClampNeg x4) 16 0)) 16 q_16 fk_B_27 rfl dX1_add_56 ?_
  refine g_iconst C dX1_add_59 (v := 1) rfl ?_
  refine g_iadd C dX1_add_60  ?_
  refine g_put C 16 q_16 pk_B_27 rfl rfl dX1_add_61 ?_
  refine g_aload_n C dX1_add_64 0 rfl ?_
  refine g_dup C dX1_add_65 rfl ?_
  refine g_get C (.int ((wr (wr (wr (wr (wr (wr d 17 (d 16 0).toNatClampNeg (d 16 1)) 18 ((wr d 17 (d 16 0).toNatClampNeg (d 16 1)) 16 0).toNatClampNeg x1) 19 ((wr (wr d 17 (d 16 0).toNatClampNeg (d 16 1)) 18 ((wr d 17 (d 16 0).toNatClampNeg (d 16 1)) 16 0).toNatClampNeg x1) 16 0).toNatClampNeg x2) 20 ((wr (wr (wr d 17 (d 16 0).toNatClampNeg (d 16 1)) 18 ((wr d 17 (d 16 0).toNatClampNeg (d 16 1)) 16 0).toNatClampNeg x1) 19 ((wr (wr d 17 (d 16 0).toNatClampNeg (d 16 1)) 18 ((wr d 17 (d 16 0).toNatClampNeg (d 16 1)) 16 0).toNatClampNeg x1) 16 0).toNatClampNeg x2) 16 0).toNatClampNeg x3) 21 ((wr (wr (wr (wr d 17 (d 16 0).toNatClampNeg (d 16 1)) 18 ((wr d 17 (d 16 0).toNatClampNeg (d 16 1)) 16 0).toNatClampNeg x1) 19 ((wr (wr d 17 (d 16 0).toNatClampNeg (d 16 1)) 18 ((wr d 17 (d 16 0).toNatClampNeg (d 16 1)) 16 0).toNatClampNeg x1) 16 0).toNatClampNeg x2) 20 ((wr (wr (wr d 17 (d 16 0).toNatClampNeg (d 16 1)) 18 ((wr d 17 (d 16 0).toNatClampNeg (d 16 1)) 16 0).toNatClampNeg x1) 19 ((wr (wr d 17 (d 16 0).toNatClampNeg (d 16 1)) 18 ((wr d 17 (d 16 0).toNatClampNeg (d 16 1)) 16 0).toNatClampNeg x1) 16 0).toNatClampNeg x2) 16 0).toNatClampNeg x3) 16 0).toNatClampNeg x4) 16 0 (((wr (wr (wr (wr (wr d 17 (d 16 0).toNatClampNeg (d 16 1)) 18 ((wr d 17 (d 16 0).toNatClampNeg (d 16 1)) 16 0).toNatClampNeg x1) 19 ((wr (wr d 17 (d 16 0).toNatClampNeg (d 16 1)) 18 ((wr d 17 (d 16 0).toNatClampNeg (d 16 1)) 16 0).toNatClampNeg x1) 16 0).toNatClampNeg x2) 20 ((wr (wr (wr d 17 (d 16 0).toNatClampNeg (d 16 1)) 18 ((wr d 17 (d 16 0).toNatClampNeg (d 16 1)) 16 0).toNatClampNeg x1) 19 ((wr (wr d 17 (d 16 0).toNatClampNeg (d 16 1)) 18 ((wr d 17 (d 16 0).toNatClampNeg (d 16 1)) 16 0).toNatClampNeg x1) 16 0).toNatClampNeg x2) 16 0).toNatClampNeg x3) 21 ((wr (wr (wr (wr d 17 (d 16 0).toNatClampNeg (d 16 1)) 18 ((wr d 17 (d 16 0).toNatClampNeg (d 16 1)) 16 0).toNatClampNeg x1) 19 ((wr (wr d 17 (d 16 0).toNatClampNeg (d 16 1)) 18 ((wr d 17 (d 16 0).toNatClampNeg (d 16 1)) 16 0).toNatClampNeg x1) 16 0).toNatClampNeg x2) 20 ((wr (wr (wr d 17 (d 16 0).toNatClampNeg (d 16 1)) 18 ((wr d 17 (d 16 0).toNatClampNeg (d 16 1)) 16 0).toNatClampNeg x1) 19 ((wr (wr d 17 (d 16 0).toNatClampNeg (d 16 1)) 18 ((wr d 17 (d 16 0).toNatClampNeg (d 16 1)) 16 0).toNatClampNeg x1) 16 0).toNatClampNeg x2) 16 0).toNatClampNeg x3) 16 0).toNatClampNeg x4) 16 0) + 1)) 16 1)) 16 q_16 fk_B_31 rfl dX1_add_66 ?_
  refine g_iconst C dX1_add_69 (v := 1) rfl ?_
  refine g_iadd C dX1_add_70  ?_
  refine g_put C 16 q_16 pk_B_31 rfl rfl dX1_add_71 ?_
  refine g_aload_n C dX1_add_74 0 rfl ?_
  refine g_get C (.int ((wr (wr (wr (wr (wr (wr (wr d 17 (d 16 0).toNatClampNeg (d 16 1)) 18 ((wr d 17 (d 16 0).toNatClampNeg (d 16 1)) 16 0).toNatClampNeg x1) 19 ((wr (wr d 17 (d 16 0).toNatClampNeg (d 16 1)) 18 ((wr d 17 (d 16 0).toNatClampNeg (d 16 1)) 16 0).toNatClampNeg x1) 16 0).toNatClampNeg x2) 20 ((wr (wr (wr d 17 (d 16 0).toNatClampNeg (d 16 1)) 18 ((wr d 17 (d 16 0).toNatClampNeg (d 16 1)) 16 0).toNatClampNeg x1) 19 ((wr (wr d 17 (d 16 0).toNatClampNeg (d 16 1)) 18 ((wr d 17 (d 16 0).toNatClampNeg (d 16 1)) 16 0).toNatClampNeg x1) 16 0).toNatClampNeg x2) 16 0).toNatClampNeg x3) 21 ((wr (wr (wr (wr d 17 (d 16 0).toNatClampNeg (d 16 1)) 18 ((wr d 17 (d 16 0).toNatClampNeg (d 16 1)) 16 0).toNatClampNeg x1) 19 ((wr (wr d 17 (d 16 0).toNatClampNeg (d 16 1)) 18 ((wr d 17 (d 16 0).toNatClampNeg (d 16 1)) 16 0).toNatClampNeg x1) 16 0).toNatClampNeg x2) 20 ((wr (wr (wr d 17 (d 16 0).toNatClampNeg (d 16 1)) 18 ((wr d 17 (d 16 0).toNatClampNeg (d 16 1)) 16 0).toNatClampNeg x1) 19 ((wr (wr d 17 (d 16 0).toNatClampNeg (d 16 1)) 18 ((wr d 17 (d 16 0).toNatClampNeg (d 16 1)) 16 0).toNatClampNeg x1) 16 0).toNatClampNeg x2) 16 0).toNatClampNeg x3) 16 0).toNatClampNeg x4) 16 0 (((wr (wr (wr (wr (wr d 17 (d 16 0).toNatClampNeg (d 16 1)) 18 ((wr d 17 (d 16 0).toNatClampNeg (d 16 1)) 16 0).toNatClampNeg x1) 19 ((wr (wr d 17 (d 16 0).toNatClampNeg (d 16 1)) 18 ((wr d 17 (d 16 0).toNatClampNeg (d 16 1)) 16 0).toNatClampNeg x1) 16 0).toNatClampNeg x2) 20 ((wr (wr (wr d 17 (d 16 0).toNatClampNeg (d 16 1)) 18 ((wr d 17 (d 16 0).toNatClampNeg (d 16 1)) 16 0).toNatClampNeg x1) 19 ((wr (wr d 17 (d 16 0).toNatClampNeg (d 16 1)) 18 ((wr d 17 (d 16 0).toNatClampNeg (d 16 1)) 16 0).toNatClampNeg x1) 16 0).toNatClampNeg x2) 16 0).toNatClampNeg x3) 21 ((wr (wr (wr (wr d 17 (d 16 0).toNatClampNeg (d 16 1)) 18 ((wr d 17 (d 16 0).toNatClampNeg (d 16 1)) 16 0).toNatClampNeg x1) 19 ((wr (wr d 17 (d 16 0).toNatClampNeg (d 16 1)) 18 ((wr d 17 (d 16 0).toNatClampNeg (d 16 1)) 16 0).toNatClampNeg x1) 16 0).toNatClampNeg x2) 20 ((wr (wr (wr d 17 (d 16 0).toNatClampNeg (d 16 1)) 18 ((wr d 17 (d 16 0).toNatClampNeg (d 16 1)) 16 0).toNatClampNeg x1) 19 ((wr (wr d 17 (d 16 0).toNatClampNeg (d 16 1)) 18 ((wr d 17 (d 16 0).toNatClampNeg (d 16 1)) 16 0).toNatClampNeg x1) 16 0).toNatClampNeg x2) 16 0).toNatClampNeg x3) 16 0).toNatClampNeg x4) 16 0) + 1)) 16 1 (((wr (wr (wr (wr (wr (wr d 17 (d 16 0).toNatClampNeg (d 16 1)) 18 ((wr d 17 (d 16 0).toNatClampNeg (d 16 1)) 16 0).toNatClampNeg x1) 19 ((wr (wr d 17 (d 16 0).toNatClampNeg (d 16 1)) 18 ((wr d 17 (d 16 0).toNatClampNeg (d 16 1)) 16 0).toNatClampNeg x1) 16 0).toNatClampNeg x2) 20 ((wr (wr (wr d 17 (d 16 0).toNatClampNeg (d 16 1)) 18 ((wr d 17 (d 16 0).toNatClampNeg (d 16 1)) 16 0).toNatClampNeg x1) 19 ((wr (wr d 17 (d 16 0).toNatClampNeg (d 16 1)) 18 ((wr d 17 (d 16 0).toNatClampNeg (d 16 1)) 16 0).toNatClampNeg x1) 16 0).toNatClampNeg x2) 16 0).toNatClampNeg x3) 21 ((wr (wr (wr (wr d 17 (d 16 0).toNatClampNeg (d 16 1)) 18 ((wr d 17 (d 16 0).toNatClampNeg (d 16 1)) 16 0).toNatClampNeg x1) 19 ((wr (wr d 17 (d 16 0).toNatClampNeg (d 16 1)) 18 ((wr d 17 (d 16 0).toNatClampNeg (d 16 1)) 16 0).toNatClampNeg x1) 16 0).toNatClampNeg x2) 20 ((wr (wr (wr d 17 (d 16 0).toNatClampNeg (d 16 1)) 18 ((wr d 17 (d 16 0).toNatClampNeg (d 16 1)) 16 0).toNatClampNeg x1) 19 ((wr (wr d 17 (d 16 0).toNatClampNeg (d 16 1)) 18 ((wr d 17 (d 16 0).toNatClampNeg (d 16 1)) 16 0).toNatClampNeg x1) 16 0).toNatClampNeg x2) 16 0).toNatClampNeg x3) 16 0).toNatClampNeg x4) 16 0 (((wr (wr (wr (wr (wr d 17 (d 16 0).toNatClampNeg (d 16 1)) 18 ((wr d 17 (d 16 0).toNatClampNeg (d 16 1)) 16 0).toNatClampNeg x1) 19 ((wr (wr d 17 (d 16 0).toNatClampNeg (d 16 1)) 18 ((wr d 17 (d 16 0).toNatClampNeg (d 16 1)) 16 0).toNatClampNeg x1) 16 0).toNatClampNeg x2) 20 ((wr (wr (wr d 17 (d 16 0).toNatClampNeg (d 16 1)) 18 ((wr d 17 (d 16 0).toNatClampNeg (d 16 1)) 16 0).toNatClampNeg x1) 19 ((wr (wr d 17 (d 16 0).toNatClampNeg (d 16 1)) 18 ((wr d 17 (d 16 0).toNatClampNeg (d 16 1)) 16 0).toNatClampNeg x1) 16 0).toNatClampNeg x2) 16 0).toNatClampNeg x3) 21 ((wr (wr (wr (wr d 17 (d 16 0).toNatClampNeg (d 16 1)) 18 ((wr d 17 (d 16 0).toNatClampNeg (d 16 1)) 16 0).toNatClampNeg x1) 19 ((wr (wr d 17 (d 16 0).toNatClampNeg (d 16 1)) 18 ((wr d 17 (d 16 0).toNatClampNeg (d 16 1)) 16 0).toNatClampNeg x1) 16 0).toNatClampNeg x2) 20 ((wr (wr (wr d 17 (d 16 0).toNatClampNeg (d 16 1)) 18 ((wr d 17 (d 16 0).toNatClampNeg (d 16 1)) 16 0).toNatClampNeg x1) 19 ((wr (wr d 17 (d 16 0).toNatClampNeg (d 16 1)) 18 ((wr d 17 (d 16 0).toNatClampNeg (d 16 1)) 16 0).toNatClampNeg x1) 16 0).toNatClampNeg x2) 16 0).toNatClampNeg x3) 16 0).toNatClampNeg x4) 16 0) + 1)) 16 1) + 1)) 16 1)) 16 q_16 fk_B_31 rfl dX1_add_75 ?_
  refine g_iconst C dX1_add_78 (v := 1) rfl ?_
  refine g_isub C dX1_add_79  ?_
  exact g_iret C hr hlk rfl (congrArg Prod.snd (Option.some.inj h)) (congrArg (fun z => some (Value.int z.1)) (Option.some.inj h)) dX1_add_80
set_option maxHeartbeats 4000000 in
set_option maxRecDepth 100000 in
theorem m_S_takeBrief {w : wT} {l : Launch} {x1 x2 x3 x4 : Int32} {d : Dt} {rE : Int32} {dE : Dt} (hO : okW w) (h : f_S_takeBrief x1 x2 x3 x4 d = some (rE, dE)) : gM w l yX8_takeBrief cX8_takeBrief 5 (Option.some Jvm.ClassFile.FieldType.int) 1 [.ref (w_r w 2), .int x1, .int x2, .int x3, .int x4] d dE (some (.int rE)) := by
  refine gM_of (by decide) [(0, .ref (w_r w 2)), (1, .int x1), (2, .int x2), (3, .int x3), (4, .int x4)] rfl rfl ?_ hO
  intro p e R s m args below meth c C hR hr hlk
  unfold f_S_takeBrief at h
  refine g_aload_n C dX8_takeBrief_0 0 rfl ?_
  refine g_dup C dX8_takeBrief_1 rfl ?_
  refine g_get C (.int (d 2 4)) 2 q_2 fk_S_50 rfl dX8_takeBrief_2 ?_
  refine g_iload_n C dX8_takeBrief_5 3 rfl ?_
  refine g_iadd C dX8_takeBrief_6  ?_
  refine g_put C 2 q_2 pk_S_50 rfl rfl dX8_takeBrief_7 ?_
  refine g_aload_n C dX8_takeBrief_10 0 rfl ?_
  refine g_get C (.ref (w_r w 16)) 2 q_2 fk_S_21 rfl dX8_takeBrief_11 ?_
  refine g_iload_n C dX8_takeBrief_14 1 rfl ?_
  refine g_aload_n C dX8_takeBrief_15 0 rfl ?_
  refine g_get C (.int ((wr d 2 4 ((d 2 4) + x3)) 2 0)) 2 q_2 fk_S_36 rfl dX8_takeBrief_16 ?_
  refine g_iload_n C dX8_takeBrief_19 2 rfl ?_
  refine g_iadd C dX8_takeBrief_20  ?_
  refine g_iload_n C dX8_takeBrief_21 3 rfl ?_
  refine g_iload C dX8_takeBrief_22 4 rfl ?_
  obtain ⟨r3, d4, hc5, h⟩ := ob2_1 h
  refine g_callVi C 16 q_16 vk_S_68 hR rfl (m_B_add C.2.2.2.2.2.2.1 hc5) rfl rfl rfl dX8_takeBrief_24 rfl rfl ?_
  exact g_iret C hr hlk rfl (congrArg Prod.snd (Option.some.inj h)) (congrArg (fun z => some (Value.int z.1)) (Option.some.inj h)) dX8_takeBrief_27
set_option maxHeartbeats 4000000 in
set_option maxRecDepth 100000 in
theorem m_B_remove {w : wT} {l : Launch} {x1 : Int32} {d : Dt} {dE : Dt} (hO : okW w) (h : f_B_remove x1 d = some dE) : gM w l yX1_remove cX1_remove 3 (Option.none : Option Jvm.ClassFile.FieldType) 0 [.ref (w_r w 16), .int x1] d dE none := by
  refine gM_of (by decide) [(0, .ref (w_r w 16)), (1, .int x1)] rfl rfl ?_ hO
  intro p e R s m args below meth c C hR hr hlk
  have R12 : ∀ (x2 : Int32) (d : Dt), f_B_remove_12 x2 d = some dE → gG w p l e R s m args below meth c 3 0 0 (gE w below args s dE none) d [(0, .ref (w_r w 16)), (2, .int x2)] 12 [] := by
    intro x2 d  h
    refine iter_ind (G := fun s_ : (Int32 × Dt) => gG w p l e R s m args below meth c 3 0 0 (gE w below args s dE none) s_.2 [(0, .ref (w_r w 16)), (2, .int s_.1)] 12 []) ?_ fu _ h
    clear h
    intro s_ y1 h hl1 hx1
    obtain ⟨x2, d⟩ := s_
    show gG w p l e R s m args below meth c 3 0 0 (gE w below args s dE none) d [(0, .ref (w_r w 16)), (2, .int x2)] 12 []
    dsimp only at h
    unfold st_B_remove_12 at h
    refine g_iload_n C dX1_remove_12 1 rfl ?_
    refine g_aload_n C dX1_remove_13 0 rfl ?_
    refine g_get C (.int (d 16 0)) 16 q_16 fk_B_27 rfl dX1_remove_14 ?_
    refine g_icmp_ge C dX1_remove_17 (tgt := 96) rfl (fun q => ?_) (fun q => ?_)
    · replace h := it_t q h
      replace h := ir_2 h hx1
      exact g_vret C hr hlk (Option.some.inj h) rfl dX1_remove_96
    · replace h := it_f q h
      refine g_aload_n C dX1_remove_20 0 rfl ?_
      refine g_get C (.ref (w_r w 17)) 16 q_16 fk_B_9 rfl dX1_remove_21 ?_
      refine g_iload_n C dX1_remove_24 1 rfl ?_
      refine g_aload_n C dX1_remove_25 0 rfl ?_
      refine g_get C (.ref (w_r w 17)) 16 q_16 fk_B_9 rfl dX1_remove_26 ?_
      refine g_iload_n C dX1_remove_29 1 rfl ?_
      refine g_iconst C dX1_remove_30 (v := 1) rfl ?_
      refine g_iadd C dX1_remove_31  ?_
      have hg1 := gd_1 h
      replace h := gd_2 h
      refine g_iald C 17 q_17 hg1 _ rfl dX1_remove_32 ?_
      have hg2 := gd_1 h
      replace h := gd_2 h
      refine g_iast C 17 q_17 hg2 _ rfl  dX1_remove_33 ?_
      refine g_aload_n C dX1_remove_34 0 rfl ?_
      refine g_get C (.ref (w_r w 18)) 16 q_16 fk_B_15 rfl dX1_remove_35 ?_
      refine g_iload_n C dX1_remove_38 1 rfl ?_
      refine g_aload_n C dX1_remove_39 0 rfl ?_
      refine g_get C (.ref (w_r w 18)) 16 q_16 fk_B_15 rfl dX1_remove_40 ?_
      refine g_iload_n C dX1_remove_43 1 rfl ?_
      refine g_iconst C dX1_remove_44 (v := 1) rfl ?_
      refine g_iadd C dX1_remove_45  ?_
      have hg3 := gd_1 h
      replace h := gd_2 h
      refine g_iald C 18 q_18 hg3 _ rfl dX1_remove_46 ?_
      have hg4 := gd_1 h
      replace h := gd_2 h
      refine g_iast C 18 q_18 hg4 _ rfl  dX1_remove_47 ?_
      refine g_aload_n C dX1_remove_48 0 rfl ?_
      refine g_get C (.ref (w_r w 19)) 16 q_16 fk_B_18 rfl dX1_remove_49 ?_
      refine g_iload_n C dX1_remove_52 1 rfl ?_
      refine g_aload_n C dX1_remove_53 0 rfl ?_
      refine g_get C (.ref (w_r w 19)) 16 q_16 fk_B_18 rfl dX1_remove_54 ?_
      refine g_iload_n C dX1_remove_57 1 rfl ?_
      refine g_iconst C dX1_remove_58 (v := 1) rfl ?_
      refine g_iadd C dX1_remove_59  ?_
      have hg5 := gd_1 h
      replace h := gd_2 h
      refine g_iald C 19 q_19 hg5 _ rfl dX1_remove_60 ?_
      have hg6 := gd_1 h
      replace h := gd_2 h
      refine g_iast C 19 q_19 hg6 _ rfl  dX1_remove_61 ?_
      refine g_aload_n C dX1_remove_62 0 rfl ?_
      refine g_get C (.ref (w_r w 20)) 16 q_16 fk_B_21 rfl dX1_remove_63 ?_
      refine g_iload_n C dX1_remove_66 1 rfl ?_
      refine g_aload_n C dX1_remove_67 0 rfl ?_
      refine g_get C (.ref (w_r w 20)) 16 q_16 fk_B_21 rfl dX1_remove_68 ?_
      refine g_iload_n C dX1_remove_71 1 rfl ?_
      refine g_iconst C dX1_remove_72 (v := 1) rfl ?_
      refine g_iadd C dX1_remove_73  ?_
      have hg7 := gd_1 h
      replace h := gd_2 h
      refine g_iald C 20 q_20 hg7 _ rfl dX1_remove_74 ?_
      have hg8 := gd_1 h
      replace h := gd_2 h
      refine g_iast C 20 q_20 hg8 _ rfl  dX1_remove_75 ?_
      refine g_aload_n C dX1_remove_76 0 rfl ?_
      refine g_get C (.ref (w_r w 21)) 16 q_16 fk_B_24 rfl dX1_remove_77 ?_
      refine g_iload_n C dX1_remove_80 1 rfl ?_
      refine g_aload_n C dX1_remove_81 0 rfl ?_
      refine g_get C (.ref (w_r w 21)) 16 q_16 fk_B_24 rfl dX1_remove_82 ?_
      refine g_iload_n C dX1_remove_85 1 rfl ?_
      refine g_iconst C dX1_remove_86 (v := 1) rfl ?_
      refine g_iadd C dX1_remove_87  ?_
      have hg9 := gd_1 h
      replace h := gd_2 h
      refine g_iald C 21 q_21 hg9 _ rfl dX1_remove_88 ?_
      have hg10 := gd_1 h
      replace h := gd_2 h
      refine g_iast C 21 q_21 hg10 _ rfl  dX1_remove_89 ?_
      refine g_iinc C (lv' := [(2, .int (x2 + 1)), (0, .ref (w_r w 16))]) (v := (x2 + 1)) dX1_remove_90 1 rfl rfl (by decide) rfl ?_
      refine g_goto C dX1_remove_93 (tgt := 12) rfl ?_
      refine g_sub [1, 0] (lv' := [(0, .ref (w_r w 16)), (2, .int (x2 + 1))]) rfl ?_
      exact hl1 ((x2 + 1), (wr (wr (wr (wr (wr d 17 x2.toNatClampNeg (d 17 (x2 + 1).toNatClampNeg)) 18 x2.toNatClampNeg ((wr d 17 x2.toNatClampNeg (d 17 (x2 + 1).toNatClampNeg)) 18 (x2 + 1).toNatClampNeg)) 19 x2.toNatClampNeg ((wr (wr d 17 x2.toNatClampNeg (d 17 (x2 + 1).toNatClampNeg)) 18 x2.toNatClampNeg ((wr d 17 x2.toNatClampNeg (d 17 (x2 + 1).toNatClampNeg)) 18 (x2 + 1).toNatClampNeg)) 19 (x2 + 1).toNatClampNeg)) 20 x2.toNatClampNeg ((wr (wr (wr d 17 x2.toNatClampNeg (d 17 (x2 + 1).toNatClampNeg)) 18 x2.toNatClampNeg ((wr d 17 x2.toNatClampNeg (d 17 (x2 + 1).toNatClampNeg)) 18 (x2 + 1).toNatClampNeg)) 19 x2.toNatClampNeg ((wr (wr d 17 x2.toNatClampNeg (d 17 (x2 + 1).toNatClampNeg)) 18 x2.toNatClampNeg ((wr d 17 x2.toNatClampNeg (d 17 (x2 + 1).toNatClampNeg)) 18 (x2 + 1).toNatClampNeg)) 19 (x2 + 1).toNatClampNeg)) 20 (x2 + 1).toNatClampNeg)) 21 x2.toNatClampNeg ((wr (wr (wr (wr d 17 x2.toNatClampNeg (d 17 (x2 + 1).toNatClampNeg)) 18 x2.toNatClampNeg ((wr d 17 x2.toNatClampNeg (d 17 (x2 + 1).toNatClampNeg)) 18 (x2 + 1).toNatClampNeg)) 19 x2.toNatClampNeg ((wr (wr d 17 x2.toNatClampNeg (d 17 (x2 + 1).toNatClampNeg)) 18 x2.toNatClampNeg ((wr d 17 x2.toNatClampNeg (d 17 (x2 + 1).toNatClampNeg)) 18 (x2 + 1).toNatClampNeg)) 19 (x2 + 1).toNatClampNeg)) 20 x2.toNatClampNeg ((wr (wr (wr d 17 x2.toNatClampNeg (d 17 (x2 + 1).toNatClampNeg)) 18 x2.toNatClampNeg ((wr d 17 x2.toNatClampNeg (d 17 (x2 + 1).toNatClampNeg)) 18 (x2 + 1).toNatClampNeg)) 19 x2.toNatClampNeg ((wr (wr d 17 x2.toNatClampNeg (d 17 (x2 + 1).toNatClampNeg)) 18 x2.toNatClampNeg ((wr d 17 x2.toNatClampNeg (d 17 (x2 + 1).toNatClampNeg)) 18 (x2 + 1).toNatClampNeg)) 19 (x2 + 1).toNatClampNeg)) 20 (x2 + 1).toNatClampNeg)) 21 (x2 + 1).toNatClampNeg))) (Option.some.inj h).symm
  unfold f_B_remove at h
  refine g_aload_n C dX1_remove_0 0 rfl ?_
  refine g_dup C dX1_remove_1 rfl ?_
  refine g_get C (.int (d 16 0)) 16 q_16 fk_B_27 rfl dX1_remove_2 ?_
  refine g_iconst C dX1_remove_5 (v := 1) rfl ?_
  refine g_isub C dX1_remove_6  ?_
  refine g_put C 16 q_16 pk_B_27 rfl rfl dX1_remove_7 ?_
  refine g_iload_n C dX1_remove_10 1 rfl ?_
  refine g_istore_n C (lv' := [(2, .int x1), (0, .ref (w_r w 16)), (1, .int x1)]) dX1_remove_11 (by decide) rfl ?_
  refine g_sub [1, 0] (lv' := [(0, .ref (w_r w 16)), (2, .int x1)]) rfl ?_
  exact R12 x1 (wr d 16 0 ((d 16 0) - 1)) h
set_option maxHeartbeats 4000000 in
set_option maxRecDepth 100000 in
theorem m_S_giveBack {w : wT} {l : Launch} {x1 : Int32} {d : Dt} {rE : Int32} {dE : Dt} (hO : okW w) (h : f_S_giveBack x1 d = some (rE, dE)) : gM w l yX8_giveBack cX8_giveBack 3 (Option.some Jvm.ClassFile.FieldType.int) 1 [.ref (w_r w 2), .int x1] d dE (some (.int rE)) := by
  refine gM_of (by decide) [(0, .ref (w_r w 2)), (1, .int x1)] rfl rfl ?_ hO
  intro p e R s m args below meth c C hR hr hlk
  unfold f_S_giveBack at h
  refine g_aload_n C dX8_giveBack_0 0 rfl ?_
  refine g_get C (.ref (w_r w 16)) 2 q_2 fk_S_21 rfl dX8_giveBack_1 ?_
  refine g_get C (.ref (w_r w 20)) 16 q_16 fk_S_72 rfl dX8_giveBack_4 ?_
  refine g_iload_n C dX8_giveBack_7 1 rfl ?_
  have hg2 := gd_1 h
  replace h := gd_2 h
  refine g_iald C 20 q_20 hg2 _ rfl dX8_giveBack_8 ?_
  refine g_iconst C dX8_giveBack_9 (v := 2) rfl ?_
  refine g_idiv C dX8_giveBack_10 (by decide) ?_
  refine g_istore_n C (lv' := [(2, .int ((d 20 x1.toNatClampNeg) / 2)), (0, .ref (w_r w 2)), (1, .int x1)]) dX8_giveBack_11 (by decide) rfl ?_
  refine g_aload_n C dX8_giveBack_12 1 rfl ?_
  refine g_dup C dX8_giveBack_13 rfl ?_
  refine g_get C (.int (d 2 5)) 2 q_2 fk_S_53 rfl dX8_giveBack_14 ?_
  refine g_iload_n C dX8_giveBack_17 0 rfl ?_
  refine g_iadd C dX8_giveBack_18  ?_
  refine g_put C 2 q_2 pk_S_53 rfl rfl dX8_giveBack_19 ?_
  refine g_aload_n C dX8_giveBack_22 1 rfl ?_
  refine g_get C (.ref (w_r w 16)) 2 q_2 fk_S_21 rfl dX8_giveBack_23 ?_
  refine g_iload_n C dX8_giveBack_26 2 rfl ?_
  obtain ⟨d3, hc4, h⟩ := ob1_1 h
  refine g_callVv C 16 q_16 vk_S_75 hR rfl (m_B_remove C.2.2.2.2.2.2.1 hc4) rfl rfl rfl dX8_giveBack_27 rfl rfl ?_
  refine g_iload_n C dX8_giveBack_30 0 rfl ?_
  exact g_iret C hr hlk rfl (congrArg Prod.snd (Option.some.inj h)) (congrArg (fun z => some (Value.int z.1)) (Option.some.inj h)) dX8_giveBack_31
set_option maxHeartbeats 4000000 in
set_option maxRecDepth 100000 in
theorem m_T_add {w : wT} {l : Launch} {x1 x2 x3 : Int32} {d : Dt} {rE : Int32} {dE : Dt} (hO : okW w) (h : f_T_add x1 x2 x3 d = some (rE, dE)) : gM w l yX9_add cX9_add 4 (Option.some Jvm.ClassFile.FieldType.int) 0 [.ref (w_r w 22), .int x1, .int x2, .int x3] d dE (some (.int rE)) := by
  refine gM_of (by decide) [(0, .ref (w_r w 22)), (1, .int x1), (2, .int x2), (3, .int x3)] rfl rfl ?_ hO
  intro p e R s m args below meth c C hR hr hlk
  unfold f_T_add at h
  refine g_aload_n C dX9_add_0 0 rfl ?_
  refine g_get C (.ref (w_r w 23)) 22 q_22 fk_T_9 rfl dX9_add_1 ?_
  refine g_aload_n C dX9_add_4 0 rfl ?_
  refine g_get C (.int (d 22 0)) 22 q_22 fk_T_22 rfl dX9_add_5 ?_
  refine g_iload_n C dX9_add_8 1 rfl ?_
  have hg1 := gd_1 h
  replace h := gd_2 h
  refine g_iast C 23 q_23 hg1 _ rfl  dX9_add_9 ?_
  refine g_aload_n C dX9_add_10 0 rfl ?_
  refine g_get C (.ref (w_r w 24)) 22 q_22 fk_T_15 rfl dX9_add_11 ?_
  refine g_aload_n C dX9_add_14 0 rfl ?_
  refine g_get C (.int ((wr d 23 (d 22 0).toNatClampNeg x1) 22 0)) 22 q_22 fk_T_22 rfl dX9_add_15 ?_
  refine g_iload_n C dX9_add_18 2 rfl ?_
  have hg2 := gd_1 h
  replace h := gd_2 h
  refine g_iast C 24 q_24 hg2 _ rfl  dX9_add_19 ?_
  refine g_aload_n C dX9_add_20 0 rfl ?_
  refine g_get C (.ref (w_r w 25)) 22 q_22 fk_T_18 rfl dX9_add_21 ?_
  refine g_aload_n C dX9_add_24 0 rfl ?_
  refine g_get C (.int ((wr (wr d 23 (d 22 0).toNatClampNeg x1) 24 ((wr d 23 (d 22 0).toNatClampNeg x1) 22 0).toNatClampNeg x2) 22 0)) 22 q_22 fk_T_22 rfl dX9_add_25 ?_
  refine g_iload_n C dX9_add_28 3 rfl ?_
  have hg3 := gd_1 h
  replace h := gd_2 h
  have hg4 := gd_1 h
  replace h := gd_2 h
  refine g_zast C 25 q_25 hg3 _ rfl (nar_v hg4) dX9_add_29 ?_
  refine g_aload_n C dX9_add_30 0 rfl ?_
  refine g_dup C dX9_add_31 rfl ?_
  refine g_get C (.int ((wr (wr (wr d 23 (d 22 0).toNatClampNeg x1) 24 ((wr d 23 (d 22 0).toNatClampNeg x1) 22 0).toNatClampNeg x2) 25 ((wr (wr d 23 (d 22 0).toNatClampNeg x1) 24 ((wr d 23 (d 22 0).toNatClampNeg x1) 22 0).toNatClampNeg x2) 22 0).toNatClampNeg x3) 22 0)) 22 q_22 fk_T_22 rfl dX9_add_32 ?_
  refine g_iconst C dX9_add_35 (v := 1) rfl ?_
  refine g_iadd C dX9_add_36  ?_
  refine g_put C 22 q_22 pk_T_22 rfl rfl dX9_add_37 ?_
  refine g_aload_n C dX9_add_40 0 rfl ?_
  refine g_get C (.int ((wr (wr (wr (wr d 23 (d 22 0).toNatClampNeg x1) 24 ((wr d 23 (d 22 0).toNatClampNeg x1) 22 0).toNatClampNeg x2) 25 ((wr (wr d 23 (d 22 0).toNatClampNeg x1) 24 ((wr d 23 (d 22 0).toNatClampNeg x1) 22 0).toNatClampNeg x2) 22 0).toNatClampNeg x3) 22 0 (((wr (wr (wr d 23 (d 22 0).toNatClampNeg x1) 24 ((wr d 23 (d 22 0).toNatClampNeg x1) 22 0).toNatClampNeg x2) 25 ((wr (wr d 23 (d 22 0).toNatClampNeg x1) 24 ((wr d 23 (d 22 0).toNatClampNeg x1) 22 0).toNatClampNeg x2) 22 0).toNatClampNeg x3) 22 0) + 1)) 22 0)) 22 q_22 fk_T_22 rfl dX9_add_41 ?_
  refine g_iconst C dX9_add_44 (v := 1) rfl ?_
  refine g_isub C dX9_add_45  ?_
  exact g_iret C hr hlk rfl (congrArg Prod.snd (Option.some.inj h)) (congrArg (fun z => some (Value.int z.1)) (Option.some.inj h)) dX9_add_46
set_option maxHeartbeats 4000000 in
set_option maxRecDepth 100000 in
theorem m_T_remove {w : wT} {l : Launch} {x1 : Int32} {d : Dt} {rE : Int32} {dE : Dt} (hO : okW w) (h : f_T_remove x1 d = some (rE, dE)) : gM w l yX9_remove cX9_remove 3 (Option.some Jvm.ClassFile.FieldType.int) 0 [.ref (w_r w 22), .int x1] d dE (some (.int rE)) := by
  refine gM_of (by decide) [(0, .ref (w_r w 22)), (1, .int x1)] rfl rfl ?_ hO
  intro p e R s m args below meth c C hR hr hlk
  have R12 : ∀ (x2 : Int32) (d : Dt), f_T_remove_12 x2 d = some (rE, dE) → gG w p l e R s m args below meth c 3 0 0 (gE w below args s dE (some (.int rE))) d [(0, .ref (w_r w 22)), (2, .int x2)] 12 [] := by
    intro x2 d  h
    refine iter_ind (G := fun s_ : (Int32 × Dt) => gG w p l e R s m args below meth c 3 0 0 (gE w below args s dE (some (.int rE))) s_.2 [(0, .ref (w_r w 22)), (2, .int s_.1)] 12 []) ?_ fu _ h
    clear h
    intro s_ y1 h hl1 hx1
    obtain ⟨x2, d⟩ := s_
    show gG w p l e R s m args below meth c 3 0 0 (gE w below args s dE (some (.int rE))) d [(0, .ref (w_r w 22)), (2, .int x2)] 12 []
    dsimp only at h
    unfold st_T_remove_12 at h
    refine g_iload_n C dX9_remove_12 1 rfl ?_
    refine g_aload_n C dX9_remove_13 0 rfl ?_
    refine g_get C (.int (d 22 0)) 22 q_22 fk_T_22 rfl dX9_remove_14 ?_
    refine g_icmp_ge C dX9_remove_17 (tgt := 68) rfl (fun q => ?_) (fun q => ?_)
    · replace h := it_t q h
      replace h := ir_2 h hx1
      refine g_aload_n C dX9_remove_68 0 rfl ?_
      refine g_get C (.int (d 22 0)) 22 q_22 fk_T_22 rfl dX9_remove_69 ?_
      exact g_iret C hr hlk rfl (congrArg Prod.snd (Option.some.inj h)) (congrArg (fun z => some (Value.int z.1)) (Option.some.inj h)) dX9_remove_72
    · replace h := it_f q h
      refine g_aload_n C dX9_remove_20 0 rfl ?_
      refine g_get C (.ref (w_r w 23)) 22 q_22 fk_T_9 rfl dX9_remove_21 ?_
      refine g_iload_n C dX9_remove_24 1 rfl ?_
      refine g_aload_n C dX9_remove_25 0 rfl ?_
      refine g_get C (.ref (w_r w 23)) 22 q_22 fk_T_9 rfl dX9_remove_26 ?_
      refine g_iload_n C dX9_remove_29 1 rfl ?_
      refine g_iconst C dX9_remove_30 (v := 1) rfl ?_
      refine g_iadd C dX9_remove_31  ?_
      have hg1 := gd_1 h
      replace h := gd_2 h
      refine g_iald C 23 q_23 hg1 _ rfl dX9_remove_32 ?_
      have hg2 := gd_1 h
      replace h := gd_2 h
      refine g_iast C 23 q_23 hg2 _ rfl  dX9_remove_33 ?_
      refine g_aload_n C dX9_remove_34 0 rfl ?_
      refine g_get C (.ref (w_r w 24)) 22 q_22 fk_T_15 rfl dX9_remove_35 ?_
      refine g_iload_n C dX9_remove_38 1 rfl ?_
      refine g_aload_n C dX9_remove_39 0 rfl ?_
      refine g_get C (.ref (w_r w 24)) 22 q_22 fk_T_15 rfl dX9_remove_40 ?_
      refine g_iload_n C dX9_remove_43 1 rfl ?_
      refine g_iconst C dX9_remove_44 (v := 1) rfl ?_
      refine g_iadd C dX9_remove_45  ?_
      have hg3 := gd_1 h
      replace h := gd_2 h
      refine g_iald C 24 q_24 hg3 _ rfl dX9_remove_46 ?_
      have hg4 := gd_1 h
      replace h := gd_2 h
      refine g_iast C 24 q_24 hg4 _ rfl  dX9_remove_47 ?_
      refine g_aload_n C dX9_remove_48 0 rfl ?_
      refine g_get C (.ref (w_r w 25)) 22 q_22 fk_T_18 rfl dX9_remove_49 ?_
      refine g_iload_n C dX9_remove_52 1 rfl ?_
      refine g_aload_n C dX9_remove_53 0 rfl ?_
      refine g_get C (.ref (w_r w 25)) 22 q_22 fk_T_18 rfl dX9_remove_54 ?_
      refine g_iload_n C dX9_remove_57 1 rfl ?_
      refine g_iconst C dX9_remove_58 (v := 1) rfl ?_
      refine g_iadd C dX9_remove_59  ?_
      have hg5 := gd_1 h
      replace h := gd_2 h
      refine g_zald C 25 q_25 hg5 _ rfl dX9_remove_60 ?_
      have hg6 := gd_1 h
      replace h := gd_2 h
      have hg7 := gd_1 h
      replace h := gd_2 h
      refine g_zast C 25 q_25 hg6 _ rfl (nar_v hg7) dX9_remove_61 ?_
      refine g_iinc C (lv' := [(2, .int (x2 + 1)), (0, .ref (w_r w 22))]) (v := (x2 + 1)) dX9_remove_62 1 rfl rfl (by decide) rfl ?_
      refine g_goto C dX9_remove_65 (tgt := 12) rfl ?_
      refine g_sub [1, 0] (lv' := [(0, .ref (w_r w 22)), (2, .int (x2 + 1))]) rfl ?_
      exact hl1 ((x2 + 1), (wr (wr (wr d 23 x2.toNatClampNeg (d 23 (x2 + 1).toNatClampNeg)) 24 x2.toNatClampNeg ((wr d 23 x2.toNatClampNeg (d 23 (x2 + 1).toNatClampNeg)) 24 (x2 + 1).toNatClampNeg)) 25 x2.toNatClampNeg ((wr (wr d 23 x2.toNatClampNeg (d 23 (x2 + 1).toNatClampNeg)) 24 x2.toNatClampNeg ((wr d 23 x2.toNatClampNeg (d 23 (x2 + 1).toNatClampNeg)) 24 (x2 + 1).toNatClampNeg)) 25 (x2 + 1).toNatClampNeg))) (Option.some.inj h).symm
  unfold f_T_remove at h
  refine g_aload_n C dX9_remove_0 0 rfl ?_
  refine g_dup C dX9_remove_1 rfl ?_
  refine g_get C (.int (d 22 0)) 22 q_22 fk_T_22 rfl dX9_remove_2 ?_
  refine g_iconst C dX9_remove_5 (v := 1) rfl ?_
  refine g_isub C dX9_remove_6  ?_
  refine g_put C 22 q_22 pk_T_22 rfl rfl dX9_remove_7 ?_
  refine g_iload_n C dX9_remove_10 1 rfl ?_
  refine g_istore_n C (lv' := [(2, .int x1), (0, .ref (w_r w 22)), (1, .int x1)]) dX9_remove_11 (by decide) rfl ?_
  refine g_sub [1, 0] (lv' := [(0, .ref (w_r w 22)), (2, .int x1)]) rfl ?_
  exact R12 x1 (wr d 22 0 ((d 22 0) - 1)) h
set_option maxHeartbeats 4000000 in
set_option maxRecDepth 100000 in
theorem m_L_endSentence {w : wT} {l : Launch} {x1 : Int32} {d : Dt} {rE : Int32} {dE : Dt} (hO : okW w) (h : f_L_endSentence x1 d = some (rE, dE)) : gM w l yX5_endSentence cX5_endSentence 5 (Option.some Jvm.ClassFile.FieldType.int) 0 [.ref (w_r w 3), .int x1] d dE (some (.int rE)) := by
  refine gM_of (by decide) [(0, .ref (w_r w 3)), (1, .int x1)] rfl rfl ?_ hO
  intro p e R s m args below meth c C hR hr hlk
  have R24 : ∀ (x1 : Int32) (x3 : Int32) (x4 : Int32) (d : Dt) (hd0 : inb x1 8 = true), f_L_endSentence_24 x1 x3 x4 d = some (rE, dE) → gG w p l e R s m args below meth c 5 0 0 (gE w below args s dE (some (.int rE))) d [(0, .ref (w_r w 3)), (1, .int x1), (2, .ref (w_r w (8 + x1.toNatClampNeg))), (3, .int x3), (4, .int x4)] 24 [] := by
    intro x1 x3 x4 d hd0 h
    refine iter_ind (G := fun s_ : (Int32 × Dt) => gG w p l e R s m args below meth c 5 0 0 (gE w below args s dE (some (.int rE))) s_.2 [(0, .ref (w_r w 3)), (1, .int x1), (2, .ref (w_r w (8 + x1.toNatClampNeg))), (3, .int x3), (4, .int s_.1)] 24 []) ?_ fu _ h
    clear h
    intro s_ y1 h hl1 hx1
    obtain ⟨x4, d⟩ := s_
    show gG w p l e R s m args below meth c 5 0 0 (gE w below args s dE (some (.int rE))) d [(0, .ref (w_r w 3)), (1, .int x1), (2, .ref (w_r w (8 + x1.toNatClampNeg))), (3, .int x3), (4, .int x4)] 24 []
    dsimp only at h
    unfold st_L_endSentence_24 at h
    refine g_iload C dX5_endSentence_24 4 rfl ?_
    refine g_aload_n C dX5_endSentence_26 0 rfl ?_
    refine g_get C (.ref (w_r w 6)) 3 q_3 fk_L_18 rfl dX5_endSentence_27 ?_
    refine g_iload_n C dX5_endSentence_30 1 rfl ?_
    have hg1 := gd_1 h
    replace h := gd_2 h
    refine g_iald C 6 q_6 hg1 _ rfl dX5_endSentence_31 ?_
    refine g_icmp_ge C dX5_endSentence_32 (tgt := 51) rfl (fun q => ?_) (fun q => ?_)
    · replace h := it_t q h
      replace h := ir_2 h hx1
      refine g_iload_n C dX5_endSentence_51 3 rfl ?_
      exact g_iret C hr hlk rfl (congrArg Prod.snd (Option.some.inj h)) (congrArg (fun z => some (Value.int z.1)) (Option.some.inj h)) dX5_endSentence_52
    · replace h := it_f q h
      refine g_aload_n C dX5_endSentence_35 2 rfl ?_
      refine g_iload C dX5_endSentence_36 4 rfl ?_
      refine g_aload_n C dX5_endSentence_38 2 rfl ?_
      refine g_iload C dX5_endSentence_39 4 rfl ?_
      refine g_iconst C dX5_endSentence_41 (v := 1) rfl ?_
      refine g_iadd C dX5_endSentence_42  ?_
      have hg2 := gd_1 h
      replace h := gd_2 h
      refine g_iald C (8 + x1.toNatClampNeg) (isC_row8 hd0) hg2 _ rfl dX5_endSentence_43 ?_
      have hg3 := gd_1 h
      replace h := gd_2 h
      refine g_iast C (8 + x1.toNatClampNeg) (isC_row8 hd0) hg3 _ rfl  dX5_endSentence_44 ?_
      refine g_iinc C (lv' := [(4, .int (x4 + 1)), (0, .ref (w_r w 3)), (1, .int x1), (2, .ref (w_r w (8 + x1.toNatClampNeg))), (3, .int x3)]) (v := (x4 + 1)) dX5_endSentence_45 4 rfl rfl (by decide) rfl ?_
      refine g_goto C dX5_endSentence_48 (tgt := 24) rfl ?_
      refine g_sub [1, 2, 3, 4, 0] (lv' := [(0, .ref (w_r w 3)), (1, .int x1), (2, .ref (w_r w (8 + x1.toNatClampNeg))), (3, .int x3), (4, .int (x4 + 1))]) rfl ?_
      exact hl1 ((x4 + 1), (wr d (8 + x1.toNatClampNeg) x4.toNatClampNeg (d (8 + x1.toNatClampNeg) (x4 + 1).toNatClampNeg))) (Option.some.inj h).symm
  unfold f_L_endSentence at h
  refine g_aload_n C dX5_endSentence_0 0 rfl ?_
  refine g_get C (.ref (w_r w 7)) 3 q_3 fk_L_23 rfl dX5_endSentence_1 ?_
  refine g_iload_n C dX5_endSentence_4 1 rfl ?_
  have hg4 := gd_1 h
  replace h := gd_2 h
  refine g_aald C 7 q_7 hg4 dX5_endSentence_5 ?_
  refine g_astore_n C (lv' := [(2, .ref (w_r w (8 + x1.toNatClampNeg))), (0, .ref (w_r w 3)), (1, .int x1)]) dX5_endSentence_6 (by decide) rfl ?_
  refine g_aload_n C dX5_endSentence_7 0 rfl ?_
  refine g_iconst C dX5_endSentence_8 (v := 0) rfl ?_
  refine g_iald C (8 + x1.toNatClampNeg) (isC_row8 hg4) (by decide) 0 (by decide) dX5_endSentence_9 ?_
  refine g_istore_n C (lv' := [(3, .int (d (8 + x1.toNatClampNeg) 0)), (2, .ref (w_r w (8 + x1.toNatClampNeg))), (0, .ref (w_r w 3)), (1, .int x1)]) dX5_endSentence_10 (by decide) rfl ?_
  refine g_aload_n C dX5_endSentence_11 2 rfl ?_
  refine g_get C (.ref (w_r w 6)) 3 q_3 fk_L_18 rfl dX5_endSentence_12 ?_
  refine g_iload_n C dX5_endSentence_15 3 rfl ?_
  refine g_dup2 C dX5_endSentence_16 rfl rfl ?_
  have hg5 := gd_1 h
  replace h := gd_2 h
  refine g_iald C 6 q_6 hg5 _ rfl dX5_endSentence_17 ?_
  refine g_iconst C dX5_endSentence_18 (v := 1) rfl ?_
  refine g_isub C dX5_endSentence_19  ?_
  have hg6 := gd_1 h
  replace h := gd_2 h
  refine g_iast C 6 q_6 hg6 _ rfl  dX5_endSentence_20 ?_
  refine g_iconst C dX5_endSentence_21 (v := 0) rfl ?_
  refine g_istore C (lv' := [(4, .int 0), (3, .int (d (8 + x1.toNatClampNeg) 0)), (2, .ref (w_r w (8 + x1.toNatClampNeg))), (0, .ref (w_r w 3)), (1, .int x1)]) dX5_endSentence_22 (by decide) rfl ?_
  refine g_sub [3, 4, 2, 1, 0] (lv' := [(0, .ref (w_r w 3)), (1, .int x1), (2, .ref (w_r w (8 + x1.toNatClampNeg))), (3, .int (d (8 + x1.toNatClampNeg) 0)), (4, .int 0)]) rfl ?_
  exact R24 x1 (d (8 + x1.toNatClampNeg) 0) 0 (wr d 6 x1.toNatClampNeg ((d 6 x1.toNatClampNeg) - 1)) hg4 h
set_option maxHeartbeats 4000000 in
set_option maxRecDepth 100000 in
theorem m_S_letLapse {w : wT} {l : Launch} {d : Dt} {dE : Dt} (hO : okW w) (h : f_S_letLapse  d = some dE) : gM w l yX8_letLapse cX8_letLapse 2 (Option.none : Option Jvm.ClassFile.FieldType) 1 [.ref (w_r w 2)] d dE none := by
  refine gM_of (by decide) [(0, .ref (w_r w 2))] rfl rfl ?_ hO
  intro p e R s m args below meth c C hR hr hlk
  have R10 : ∀ (x1 : Int32) (d : Dt), f_S_letLapse_10 x1 d = some dE → gG w p l e R s m args below meth c 2 0 0 (gE w below args s dE none) d [(0, .ref (w_r w 2)), (1, .int x1)] 10 [] := by
    intro x1 d  h
    refine iter_ind (G := fun s_ : (Int32 × Dt) => gG w p l e R s m args below meth c 2 0 0 (gE w below args s dE none) s_.2 [(0, .ref (w_r w 2)), (1, .int s_.1)] 10 []) ?_ fu _ h
    clear h
    intro s_ y1 h hl1 hx1
    obtain ⟨x1, d⟩ := s_
    show gG w p l e R s m args below meth c 2 0 0 (gE w below args s dE none) d [(0, .ref (w_r w 2)), (1, .int x1)] 10 []
    dsimp only at h
    unfold st_S_letLapse_10 at h
    refine g_iload_n C dX8_letLapse_10 1 rfl ?_
    refine g_if_lt C dX8_letLapse_11 (tgt := 72) rfl (fun q => ?_) (fun q => ?_)
    · replace h := it_t q h
      replace h := ir_2 h hx1
      exact g_vret C hr hlk (Option.some.inj h) rfl dX8_letLapse_72
    · replace h := it_f q h
      refine g_aload_n C dX8_letLapse_14 0 rfl ?_
      refine g_get C (.ref (w_r w 16)) 2 q_2 fk_S_21 rfl dX8_letLapse_15 ?_
      refine g_get C (.ref (w_r w 19)) 16 q_16 fk_S_99 rfl dX8_letLapse_18 ?_
      refine g_iload_n C dX8_letLapse_21 1 rfl ?_
      have hg2 := gd_1 h
      replace h := gd_2 h
      refine g_iald C 19 q_19 hg2 _ rfl dX8_letLapse_22 ?_
      refine g_aload_n C dX8_letLapse_23 0 rfl ?_
      refine g_get C (.int (d 2 0)) 2 q_2 fk_S_36 rfl dX8_letLapse_24 ?_
      refine g_icmp_gt C dX8_letLapse_27 (tgt := 66) rfl (fun q => ?_) (fun q => ?_)
      · replace h := it_t q h
        refine g_iinc C (lv' := [(1, .int (x1 + (-1))), (0, .ref (w_r w 2))]) (v := (x1 + (-1))) dX8_letLapse_66 1 rfl rfl (by decide) rfl ?_
        refine g_goto C dX8_letLapse_69 (tgt := 10) rfl ?_
        refine g_sub [1, 0] (lv' := [(0, .ref (w_r w 2)), (1, .int (x1 + (-1)))]) rfl ?_
        exact hl1 ((x1 + (-1)), d) (Option.some.inj h).symm
      · replace h := it_f q h
        refine g_aload_n C dX8_letLapse_30 0 rfl ?_
        refine g_dup C dX8_letLapse_31 rfl ?_
        refine g_get C (.int (d 2 5)) 2 q_2 fk_S_53 rfl dX8_letLapse_32 ?_
        refine g_aload_n C dX8_letLapse_35 0 rfl ?_
        refine g_get C (.ref (w_r w 16)) 2 q_2 fk_S_21 rfl dX8_letLapse_36 ?_
        refine g_get C (.ref (w_r w 20)) 16 q_16 fk_S_72 rfl dX8_letLapse_39 ?_
        refine g_iload_n C dX8_letLapse_42 1 rfl ?_
        have hg3 := gd_1 h
        replace h := gd_2 h
        refine g_iald C 20 q_20 hg3 _ rfl dX8_letLapse_43 ?_
        refine g_iadd C dX8_letLapse_44  ?_
        refine g_put C 2 q_2 pk_S_53 rfl rfl dX8_letLapse_45 ?_
        refine g_aload_n C dX8_letLapse_48 0 rfl ?_
        refine g_dup C dX8_letLapse_49 rfl ?_
        refine g_get C (.int ((wr d 2 5 ((d 2 5) + (d 20 x1.toNatClampNeg))) 2 7)) 2 q_2 fk_S_62 rfl dX8_letLapse_50 ?_
        refine g_iconst C dX8_letLapse_53 (v := 1) rfl ?_
        refine g_iadd C dX8_letLapse_54  ?_
        refine g_put C 2 q_2 pk_S_62 rfl rfl dX8_letLapse_55 ?_
        refine g_aload_n C dX8_letLapse_58 0 rfl ?_
        refine g_get C (.ref (w_r w 16)) 2 q_2 fk_S_21 rfl dX8_letLapse_59 ?_
        refine g_iload_n C dX8_letLapse_62 1 rfl ?_
        obtain ⟨d4, hc5, h⟩ := ob1_1 h
        refine g_callVv C 16 q_16 vk_S_75 hR rfl (m_B_remove C.2.2.2.2.2.2.1 hc5) rfl rfl rfl dX8_letLapse_63 rfl rfl ?_
        refine g_iinc C (lv' := [(1, .int (x1 + (-1))), (0, .ref (w_r w 2))]) (v := (x1 + (-1))) dX8_letLapse_66 1 rfl rfl (by decide) rfl ?_
        refine g_goto C dX8_letLapse_69 (tgt := 10) rfl ?_
        refine g_sub [1, 0] (lv' := [(0, .ref (w_r w 2)), (1, .int (x1 + (-1)))]) rfl ?_
        exact hl1 ((x1 + (-1)), d4) (Option.some.inj h).symm
  unfold f_S_letLapse at h
  refine g_aload_n C dX8_letLapse_0 0 rfl ?_
  refine g_get C (.ref (w_r w 16)) 2 q_2 fk_S_21 rfl dX8_letLapse_1 ?_
  refine g_get C (.int (d 16 0)) 16 q_16 fk_S_96 rfl dX8_letLapse_4 ?_
  refine g_iconst C dX8_letLapse_7 (v := 1) rfl ?_
  refine g_isub C dX8_letLapse_8  ?_
  refine g_istore_n C (lv' := [(1, .int ((d 16 0) - 1)), (0, .ref (w_r w 2))]) dX8_letLapse_9 (by decide) rfl ?_
  refine g_sub [1, 0] (lv' := [(0, .ref (w_r w 2)), (1, .int ((d 16 0) - 1))]) rfl ?_
  exact R10 ((d 16 0) - 1) d h
set_option maxHeartbeats 4000000 in
set_option maxRecDepth 100000 in
theorem m_L_liveOneDay {w : wT} {l : Launch} {d : Dt} {rE : Int32} {dE : Dt} (hO : okW w) (h : f_L_liveOneDay  d = some (rE, dE)) : gM w l yX5_liveOneDay cX5_liveOneDay 3 (Option.some Jvm.ClassFile.FieldType.int) 1 [.ref (w_r w 3)] d dE (some (.int rE)) := by
  refine gM_of (by decide) [(0, .ref (w_r w 3))] rfl rfl ?_ hO
  intro p e R s m args below meth c C hR hr hlk
  have R4 : ∀ (x1 : Int32) (x2 : Int32) (d : Dt), f_L_liveOneDay_4 x1 x2 d = some (rE, dE) → gG w p l e R s m args below meth c 3 0 0 (gE w below args s dE (some (.int rE))) d [(0, .ref (w_r w 3)), (1, .int x1), (2, .int x2)] 4 [] := by
    intro x1 x2 d  h
    refine iter_ind (G := fun s_ : (Int32 × Int32 × Dt) => gG w p l e R s m args below meth c 3 0 0 (gE w below args s dE (some (.int rE))) s_.2.2 [(0, .ref (w_r w 3)), (1, .int s_.1), (2, .int s_.2.1)] 4 []) ?_ fu _ h
    clear h
    intro s_ y1 h hl1 hx1
    obtain ⟨x1, x2, d⟩ := s_
    show gG w p l e R s m args below meth c 3 0 0 (gE w below args s dE (some (.int rE))) d [(0, .ref (w_r w 3)), (1, .int x1), (2, .int x2)] 4 []
    dsimp only at h
    unfold st_L_liveOneDay_4 at h
    refine g_iload_n C dX5_liveOneDay_4 2 rfl ?_
    refine g_aload_n C dX5_liveOneDay_5 0 rfl ?_
    refine g_get C (.int (d 3 0)) 3 q_3 fk_L_26 rfl dX5_liveOneDay_6 ?_
    refine g_icmp_ge C dX5_liveOneDay_9 (tgt := 98) rfl (fun q => ?_) (fun q => ?_)
    · replace h := it_t q h
      replace h := ir_2 h hx1
      refine g_iload_n C dX5_liveOneDay_98 1 rfl ?_
      exact g_iret C hr hlk rfl (congrArg Prod.snd (Option.some.inj h)) (congrArg (fun z => some (Value.int z.1)) (Option.some.inj h)) dX5_liveOneDay_99
    · replace h := it_f q h
      refine g_aload_n C dX5_liveOneDay_12 0 rfl ?_
      refine g_iload_n C dX5_liveOneDay_13 2 rfl ?_
      obtain ⟨r4, hc5, h⟩ := ob1_1 h
      refine g_callVi C 3 q_3 vk_L_36 hR rfl (m_L_serves C.2.2.2.2.2.2.1 hc5) rfl rfl rfl dX5_liveOneDay_14 rfl rfl ?_
      refine g_if_eq C dX5_liveOneDay_17 (tgt := 73) rfl (fun q => ?_) (fun q => ?_)
      · replace h := it_t q h
        refine g_aload_n C dX5_liveOneDay_73 0 rfl ?_
        refine g_get C (.ref (w_r w 4)) 3 q_3 fk_L_9 rfl dX5_liveOneDay_74 ?_
        refine g_iload_n C dX5_liveOneDay_77 2 rfl ?_
        refine g_aload_n C dX5_liveOneDay_78 0 rfl ?_
        refine g_get C (.ref (w_r w 4)) 3 q_3 fk_L_9 rfl dX5_liveOneDay_79 ?_
        refine g_iload_n C dX5_liveOneDay_82 2 rfl ?_
        have hg6 := gd_1 h
        replace h := gd_2 h
        refine g_iald C 4 q_4 hg6 _ rfl dX5_liveOneDay_83 ?_
        refine g_iconst C dX5_liveOneDay_84 (v := 1) rfl ?_
        refine g_iadd C dX5_liveOneDay_85  ?_
        refine g_bipush C dX5_liveOneDay_86 (v := 9) (by decide) ?_
        refine g_mmin C mm_L_50 mm_sta_min mm_ini mm_cod_min hR rfl rfl dX5_liveOneDay_88 rfl rfl ?_
        have hg7 := gd_1 h
        replace h := gd_2 h
        refine g_iast C 4 q_4 hg7 _ rfl  dX5_liveOneDay_91 ?_
        refine g_iinc C (lv' := [(2, .int (x2 + 1)), (0, .ref (w_r w 3)), (1, .int x1)]) (v := (x2 + 1)) dX5_liveOneDay_92 2 rfl rfl (by decide) rfl ?_
        refine g_goto C dX5_liveOneDay_95 (tgt := 4) rfl ?_
        refine g_sub [1, 2, 0] (lv' := [(0, .ref (w_r w 3)), (1, .int x1), (2, .int (x2 + 1))]) rfl ?_
        exact hl1 (x1, (x2 + 1), (wr d 4 x2.toNatClampNeg (mnI ((d 4 x2.toNatClampNeg) + 1) 9))) (Option.some.inj h).symm
      · replace h := it_f q h
        refine g_aload_n C dX5_liveOneDay_20 0 rfl ?_
        refine g_get C (.ref (w_r w 4)) 3 q_3 fk_L_9 rfl dX5_liveOneDay_21 ?_
        refine g_iload_n C dX5_liveOneDay_24 2 rfl ?_
        refine g_aload_n C dX5_liveOneDay_25 0 rfl ?_
        refine g_get C (.ref (w_r w 4)) 3 q_3 fk_L_9 rfl dX5_liveOneDay_26 ?_
        refine g_iload_n C dX5_liveOneDay_29 2 rfl ?_
        have hg8 := gd_1 h
        replace h := gd_2 h
        refine g_iald C 4 q_4 hg8 _ rfl dX5_liveOneDay_30 ?_
        refine g_iconst C dX5_liveOneDay_31 (v := 1) rfl ?_
        refine g_isub C dX5_liveOneDay_32  ?_
        refine g_iconst C dX5_liveOneDay_33 (v := 0) rfl ?_
        refine g_mmax C mm_L_40 mm_sta_max mm_ini mm_cod_max hR rfl rfl dX5_liveOneDay_34 rfl rfl ?_
        have hg9 := gd_1 h
        replace h := gd_2 h
        refine g_iast C 4 q_4 hg9 _ rfl  dX5_liveOneDay_37 ?_
        refine g_aload_n C dX5_liveOneDay_38 0 rfl ?_
        refine g_get C (.ref (w_r w 7)) 3 q_3 fk_L_23 rfl dX5_liveOneDay_39 ?_
        refine g_iload_n C dX5_liveOneDay_42 2 rfl ?_
        have hg10 := gd_1 h
        replace h := gd_2 h
        refine g_aald C 7 q_7 hg10 dX5_liveOneDay_43 ?_
        refine g_iconst C dX5_liveOneDay_44 (v := 0) rfl ?_
        refine g_dup2 C dX5_liveOneDay_45 rfl rfl ?_
        refine g_iald C (8 + x2.toNatClampNeg) (isC_row8 hg10) (by decide) 0 (by decide) dX5_liveOneDay_46 ?_
        refine g_iconst C dX5_liveOneDay_47 (v := 1) rfl ?_
        refine g_isub C dX5_liveOneDay_48  ?_
        refine g_iast C (8 + x2.toNatClampNeg) (isC_row8 hg10) (by decide) 0 (by decide)  dX5_liveOneDay_49 ?_
        refine g_iinc C (lv' := [(1, .int (x1 + 1)), (0, .ref (w_r w 3)), (2, .int x2)]) (v := (x1 + 1)) dX5_liveOneDay_50 1 rfl rfl (by decide) rfl ?_
        refine g_aload_n C dX5_liveOneDay_53 1 rfl ?_
        refine g_get C (.ref (w_r w 7)) 3 q_3 fk_L_23 rfl dX5_liveOneDay_54 ?_
        refine g_iload_n C dX5_liveOneDay_57 2 rfl ?_
        have hg11 := gd_1 h
        replace h := gd_2 h
        refine g_aald C 7 q_7 hg11 dX5_liveOneDay_58 ?_
        refine g_iconst C dX5_liveOneDay_59 (v := 0) rfl ?_
        refine g_iald C (8 + x2.toNatClampNeg) (isC_row8 hg11) (by decide) 0 (by decide) dX5_liveOneDay_60 ?_
        refine g_if_ne C dX5_liveOneDay_61 (tgt := 92) rfl (fun q => ?_) (fun q => ?_)
        · replace h := it_f q h
          refine g_iinc C (lv' := [(2, .int (x2 + 1)), (1, .int (x1 + 1)), (0, .ref (w_r w 3))]) (v := (x2 + 1)) dX5_liveOneDay_92 2 rfl rfl (by decide) rfl ?_
          refine g_goto C dX5_liveOneDay_95 (tgt := 4) rfl ?_
          refine g_sub [2, 1, 0] (lv' := [(0, .ref (w_r w 3)), (1, .int (x1 + 1)), (2, .int (x2 + 1))]) rfl ?_
          exact hl1 ((x1 + 1), (x2 + 1), (wr (wr d 4 x2.toNatClampNeg (mxI ((d 4 x2.toNatClampNeg) - 1) 0)) (8 + x2.toNatClampNeg) 0 (((wr d 4 x2.toNatClampNeg (mxI ((d 4 x2.toNatClampNeg) - 1) 0)) (8 + x2.toNatClampNeg) 0) - 1))) (Option.some.inj h).symm
        · replace h := it_t q h
          refine g_aload_n C dX5_liveOneDay_64 1 rfl ?_
          refine g_iload_n C dX5_liveOneDay_65 2 rfl ?_
          obtain ⟨r12, d13, hc14, h⟩ := ob2_1 h
          refine g_callVi C 3 q_3 vk_L_46 hR rfl (m_L_endSentence C.2.2.2.2.2.2.1 hc14) rfl rfl rfl dX5_liveOneDay_66 rfl rfl ?_
          refine g_pop C dX5_liveOneDay_69 rfl ?_
          refine g_goto C dX5_liveOneDay_70 (tgt := 92) rfl ?_
          refine g_iinc C (lv' := [(2, .int (x2 + 1)), (1, .int (x1 + 1)), (0, .ref (w_r w 3))]) (v := (x2 + 1)) dX5_liveOneDay_92 2 rfl rfl (by decide) rfl ?_
          refine g_goto C dX5_liveOneDay_95 (tgt := 4) rfl ?_
          refine g_sub [2, 1, 0] (lv' := [(0, .ref (w_r w 3)), (1, .int (x1 + 1)), (2, .int (x2 + 1))]) rfl ?_
          exact hl1 ((x1 + 1), (x2 + 1), d13) (Option.some.inj h).symm
  unfold f_L_liveOneDay at h
  refine g_iconst C dX5_liveOneDay_0 (v := 0) rfl ?_
  refine g_istore_n C (lv' := [(1, .int 0), (0, .ref (w_r w 3))]) dX5_liveOneDay_1 (by decide) rfl ?_
  refine g_iconst C dX5_liveOneDay_2 (v := 0) rfl ?_
  refine g_istore_n C (lv' := [(2, .int 0), (1, .int 0), (0, .ref (w_r w 3))]) dX5_liveOneDay_3 (by decide) rfl ?_
  refine g_sub [2, 1, 0] (lv' := [(0, .ref (w_r w 3)), (1, .int 0), (2, .int 0)]) rfl ?_
  exact R4 0 0 d h
set_option maxHeartbeats 4000000 in
set_option maxRecDepth 100000 in
theorem m_P_isDueBefore {w : wT} {l : Launch} {x1 x2 : Int32} {d : Dt} {rE : Int32} (hO : okW w) (h : f_P_isDueBefore x1 x2 d = some rE) : gM w l yX7_isDueBefore cX7_isDueBefore 5 (Option.some Jvm.ClassFile.FieldType.boolean) 0 [.ref (w_r w 16), .int x1, .int x2] d d (some (.int rE)) := by
  refine gM_of (by decide) [(0, .ref (w_r w 16)), (1, .int x1), (2, .int x2)] rfl rfl ?_ hO
  intro p e R s m args below meth c C hR hr hlk
  unfold f_P_isDueBefore at h
  refine g_aload_n C dX7_isDueBefore_0 0 rfl ?_
  refine g_get C (.ref (w_r w 19)) 16 q_16 fk_P_56 rfl dX7_isDueBefore_1 ?_
  refine g_iload_n C dX7_isDueBefore_4 1 rfl ?_
  have hg1 := gd_1 h
  replace h := gd_2 h
  refine g_iald C 19 q_19 hg1 _ rfl dX7_isDueBefore_5 ?_
  refine g_istore_n C (lv' := [(3, .int (d 19 x1.toNatClampNeg)), (0, .ref (w_r w 16)), (1, .int x1), (2, .int x2)]) dX7_isDueBefore_6 (by decide) rfl ?_
  refine g_aload_n C dX7_isDueBefore_7 1 rfl ?_
  refine g_get C (.ref (w_r w 19)) 16 q_16 fk_P_56 rfl dX7_isDueBefore_8 ?_
  refine g_iload_n C dX7_isDueBefore_11 3 rfl ?_
  have hg2 := gd_1 h
  replace h := gd_2 h
  refine g_iald C 19 q_19 hg2 _ rfl dX7_isDueBefore_12 ?_
  refine g_istore C (lv' := [(4, .int (d 19 x2.toNatClampNeg)), (3, .int (d 19 x1.toNatClampNeg)), (0, .ref (w_r w 16)), (1, .int x1), (2, .int x2)]) dX7_isDueBefore_13 (by decide) rfl ?_
  refine g_iload_n C dX7_isDueBefore_15 1 rfl ?_
  refine g_iload C dX7_isDueBefore_16 0 rfl ?_
  refine g_icmp_eq C dX7_isDueBefore_18 (tgt := 35) rfl (fun q => ?_) (fun q => ?_)
  · replace h := it_t q h
    refine g_iload_n C dX7_isDueBefore_35 3 rfl ?_
    refine g_iload_n C dX7_isDueBefore_36 4 rfl ?_
    refine g_icmp_ge C dX7_isDueBefore_37 (tgt := 44) rfl (fun q => ?_) (fun q => ?_)
    · replace h := it_t q h
      refine g_iconst C dX7_isDueBefore_44 (v := 0) rfl ?_
      exact g_iret C hr hlk rfl rfl (congrArg (fun z => some (Value.int z)) (Option.some.inj h)) dX7_isDueBefore_45
    · replace h := it_f q h
      refine g_iconst C dX7_isDueBefore_40 (v := 1) rfl ?_
      refine g_goto C dX7_isDueBefore_41 (tgt := 45) rfl ?_
      exact g_iret C hr hlk rfl rfl (congrArg (fun z => some (Value.int z)) (Option.some.inj h)) dX7_isDueBefore_45
  · replace h := it_f q h
    refine g_iload_n C dX7_isDueBefore_21 1 rfl ?_
    refine g_iload C dX7_isDueBefore_22 0 rfl ?_
    refine g_icmp_ge C dX7_isDueBefore_24 (tgt := 31) rfl (fun q => ?_) (fun q => ?_)
    · replace h := it_t q h
      refine g_iconst C dX7_isDueBefore_31 (v := 0) rfl ?_
      refine g_goto C dX7_isDueBefore_32 (tgt := 45) rfl ?_
      exact g_iret C hr hlk rfl rfl (congrArg (fun z => some (Value.int z)) (Option.some.inj h)) dX7_isDueBefore_45
    · replace h := it_f q h
      refine g_iconst C dX7_isDueBefore_27 (v := 1) rfl ?_
      refine g_goto C dX7_isDueBefore_28 (tgt := 45) rfl ?_
      exact g_iret C hr hlk rfl rfl (congrArg (fun z => some (Value.int z)) (Option.some.inj h)) dX7_isDueBefore_45
set_option maxHeartbeats 4000000 in
set_option maxRecDepth 100000 in
theorem m_P_orderHearings {w : wT} {l : Launch} {d : Dt} {dE : Dt} (hO : okW w) (h : f_P_orderHearings  d = some dE) : gM w l yX7_orderHearings cX7_orderHearings 5 (Option.none : Option Jvm.ClassFile.FieldType) 1 [.ref (w_r w 277), .ref (w_r w 16)] d dE none := by
  refine gM_of (by decide) [(0, .ref (w_r w 277)), (1, .ref (w_r w 16))] rfl rfl ?_ hO
  intro p e R s m args below meth c C hR hr hlk
  have R2 : ∀ (x2 : Int32) (d : Dt), f_P_orderHearings_2 x2 d = some dE → gG w p l e R s m args below meth c 5 0 0 (gE w below args s dE none) d [(0, .ref (w_r w 277)), (1, .ref (w_r w 16)), (2, .int x2)] 2 [] := by
    intro x2 d  h
    refine iter_ind (G := fun s_ : (Int32 × Dt) => gG w p l e R s m args below meth c 5 0 0 (gE w below args s dE none) s_.2 [(0, .ref (w_r w 277)), (1, .ref (w_r w 16)), (2, .int s_.1)] 2 []) ?_ fu _ h
    clear h
    intro s_ y1 h hl1 hx1
    obtain ⟨x2, d⟩ := s_
    show gG w p l e R s m args below meth c 5 0 0 (gE w below args s dE none) d [(0, .ref (w_r w 277)), (1, .ref (w_r w 16)), (2, .int x2)] 2 []
    dsimp only at h
    unfold st_P_orderHearings_2 at h
    have R15 : ∀ (x2 : Int32) (x3 : Int32) (x4 : Int32) (d : Dt), f_P_orderHearings_15 x2 x3 x4 d = some y1 → gG w p l e R s m args below meth c 5 0 0 (gE w below args s dE none) d [(0, .ref (w_r w 277)), (1, .ref (w_r w 16)), (2, .int x2), (3, .int x3), (4, .int x4)] 15 [] := by
      intro x2 x3 x4 d  h
      refine iter_ind (G := fun s_ : (Int32 × Int32) => gG w p l e R s m args below meth c 5 0 0 (gE w below args s dE none) d [(0, .ref (w_r w 277)), (1, .ref (w_r w 16)), (2, .int x2), (3, .int s_.1), (4, .int s_.2)] 15 []) ?_ fu _ h
      clear h
      intro s_ y2 h hl2 hx2
      obtain ⟨x3, x4⟩ := s_
      show gG w p l e R s m args below meth c 5 0 0 (gE w below args s dE none) d [(0, .ref (w_r w 277)), (1, .ref (w_r w 16)), (2, .int x2), (3, .int x3), (4, .int x4)] 15 []
      dsimp only at h
      unfold st_P_orderHearings_15 at h
      refine g_iload C dX7_orderHearings_15 4 rfl ?_
      refine g_aload_n C dX7_orderHearings_17 1 rfl ?_
      refine g_get C (.int (d 16 0)) 16 q_16 fk_P_36 rfl dX7_orderHearings_18 ?_
      refine g_icmp_ge C dX7_orderHearings_21 (tgt := 56) rfl (fun q => ?_) (fun q => ?_)
      · replace h := it_t q h
        replace h := ir_2 h hx2
        refine g_aload_n C dX7_orderHearings_56 0 rfl ?_
        refine g_get C (.int (d 277 1)) 277 q_277 fk_P_29 rfl dX7_orderHearings_57 ?_
        refine g_iload_n C dX7_orderHearings_60 2 rfl ?_
        refine g_ishr C dX7_orderHearings_61  ?_
        refine g_iconst C dX7_orderHearings_62 (v := 1) rfl ?_
        refine g_iand C dX7_orderHearings_63  ?_
        refine g_iconst C dX7_orderHearings_64 (v := 1) rfl ?_
        refine g_icmp_ne C dX7_orderHearings_65 (tgt := 75) rfl (fun q => ?_) (fun q => ?_)
        · replace h := it_f q h
          refine g_iinc C (lv' := [(2, .int (x2 + 1)), (0, .ref (w_r w 277)), (1, .ref (w_r w 16)), (3, .int x3), (4, .int x4)]) (v := (x2 + 1)) dX7_orderHearings_75 2 rfl rfl (by decide) rfl ?_
          refine g_goto C dX7_orderHearings_78 (tgt := 2) rfl ?_
          refine g_sub [1, 2, 0] (lv' := [(0, .ref (w_r w 277)), (1, .ref (w_r w 16)), (2, .int (x2 + 1))]) rfl ?_
          exact hl1 ((x2 + 1), d) (Option.some.inj h).symm
        · replace h := it_t q h
          refine g_aload_n C dX7_orderHearings_68 0 rfl ?_
          refine g_get C (.ref (w_r w 278)) 277 q_277 fk_P_9 rfl dX7_orderHearings_69 ?_
          refine g_iload_n C dX7_orderHearings_72 3 rfl ?_
          refine g_iload_n C dX7_orderHearings_73 2 rfl ?_
          have hg2 := gd_1 h
          replace h := gd_2 h
          refine g_iast C 278 q_278 hg2 _ rfl  dX7_orderHearings_74 ?_
          refine g_iinc C (lv' := [(2, .int (x2 + 1)), (0, .ref (w_r w 277)), (1, .ref (w_r w 16)), (3, .int x3), (4, .int x4)]) (v := (x2 + 1)) dX7_orderHearings_75 2 rfl rfl (by decide) rfl ?_
          refine g_goto C dX7_orderHearings_78 (tgt := 2) rfl ?_
          refine g_sub [1, 2, 0] (lv' := [(0, .ref (w_r w 277)), (1, .ref (w_r w 16)), (2, .int (x2 + 1))]) rfl ?_
          exact hl1 ((x2 + 1), (wr d 278 x3.toNatClampNeg x2)) (Option.some.inj h).symm
      · replace h := it_f q h
        refine g_aload_n C dX7_orderHearings_24 0 rfl ?_
        refine g_get C (.int (d 277 1)) 277 q_277 fk_P_29 rfl dX7_orderHearings_25 ?_
        refine g_iload C dX7_orderHearings_28 4 rfl ?_
        refine g_ishr C dX7_orderHearings_30  ?_
        refine g_iconst C dX7_orderHearings_31 (v := 1) rfl ?_
        refine g_iand C dX7_orderHearings_32  ?_
        refine g_iconst C dX7_orderHearings_33 (v := 1) rfl ?_
        refine g_icmp_ne C dX7_orderHearings_34 (tgt := 50) rfl (fun q => ?_) (fun q => ?_)
        · replace h := it_f q h
          refine g_iinc C (lv' := [(4, .int (x4 + 1)), (0, .ref (w_r w 277)), (1, .ref (w_r w 16)), (2, .int x2), (3, .int x3)]) (v := (x4 + 1)) dX7_orderHearings_50 4 rfl rfl (by decide) rfl ?_
          refine g_goto C dX7_orderHearings_53 (tgt := 15) rfl ?_
          refine g_sub [1, 2, 3, 4, 0] (lv' := [(0, .ref (w_r w 277)), (1, .ref (w_r w 16)), (2, .int x2), (3, .int x3), (4, .int (x4 + 1))]) rfl ?_
          exact hl2 (x3, (x4 + 1)) (Option.some.inj h).symm
        · replace h := it_t q h
          refine g_aload_n C dX7_orderHearings_37 1 rfl ?_
          refine g_iload C dX7_orderHearings_38 4 rfl ?_
          refine g_iload_n C dX7_orderHearings_40 2 rfl ?_
          obtain ⟨r3, hc4, h⟩ := ob1_1 h
          refine g_callSi C sk_P_67 hR rfl (m_P_isDueBefore C.2.2.2.2.2.2.1 hc4) rfl rfl rfl dX7_orderHearings_41 rfl rfl ?_
          refine g_if_eq C dX7_orderHearings_44 (tgt := 50) rfl (fun q => ?_) (fun q => ?_)
          · replace h := it_t q h
            refine g_iinc C (lv' := [(4, .int (x4 + 1)), (0, .ref (w_r w 277)), (1, .ref (w_r w 16)), (2, .int x2), (3, .int x3)]) (v := (x4 + 1)) dX7_orderHearings_50 4 rfl rfl (by decide) rfl ?_
            refine g_goto C dX7_orderHearings_53 (tgt := 15) rfl ?_
            refine g_sub [1, 2, 3, 4, 0] (lv' := [(0, .ref (w_r w 277)), (1, .ref (w_r w 16)), (2, .int x2), (3, .int x3), (4, .int (x4 + 1))]) rfl ?_
            exact hl2 (x3, (x4 + 1)) (Option.some.inj h).symm
          · replace h := it_f q h
            refine g_iinc C (lv' := [(3, .int (x3 + 1)), (0, .ref (w_r w 277)), (1, .ref (w_r w 16)), (2, .int x2), (4, .int x4)]) (v := (x3 + 1)) dX7_orderHearings_47 3 rfl rfl (by decide) rfl ?_
            refine g_iinc C (lv' := [(4, .int (x4 + 1)), (3, .int (x3 + 1)), (0, .ref (w_r w 277)), (1, .ref (w_r w 16)), (2, .int x2)]) (v := (x4 + 1)) dX7_orderHearings_50 4 rfl rfl (by decide) rfl ?_
            refine g_goto C dX7_orderHearings_53 (tgt := 15) rfl ?_
            refine g_sub [2, 3, 4, 1, 0] (lv' := [(0, .ref (w_r w 277)), (1, .ref (w_r w 16)), (2, .int x2), (3, .int (x3 + 1)), (4, .int (x4 + 1))]) rfl ?_
            exact hl2 ((x3 + 1), (x4 + 1)) (Option.some.inj h).symm
    refine g_iload_n C dX7_orderHearings_2 2 rfl ?_
    refine g_aload_n C dX7_orderHearings_3 1 rfl ?_
    refine g_get C (.int (d 16 0)) 16 q_16 fk_P_36 rfl dX7_orderHearings_4 ?_
    refine g_icmp_ge C dX7_orderHearings_7 (tgt := 81) rfl (fun q => ?_) (fun q => ?_)
    · replace h := it_t q h
      replace h := ir_2 h hx1
      exact g_vret C hr hlk (Option.some.inj h) rfl dX7_orderHearings_81
    · replace h := it_f q h
      refine g_iconst C dX7_orderHearings_10 (v := 0) rfl ?_
      refine g_istore_n C (lv' := [(3, .int 0), (0, .ref (w_r w 277)), (1, .ref (w_r w 16)), (2, .int x2)]) dX7_orderHearings_11 (by decide) rfl ?_
      refine g_iconst C dX7_orderHearings_12 (v := 0) rfl ?_
      refine g_istore C (lv' := [(4, .int 0), (3, .int 0), (0, .ref (w_r w 277)), (1, .ref (w_r w 16)), (2, .int x2)]) dX7_orderHearings_13 (by decide) rfl ?_
      refine g_sub [2, 3, 4, 1, 0] (lv' := [(0, .ref (w_r w 277)), (1, .ref (w_r w 16)), (2, .int x2), (3, .int 0), (4, .int 0)]) rfl ?_
      exact R15 x2 0 0 d h
  unfold f_P_orderHearings at h
  refine g_iconst C dX7_orderHearings_0 (v := 0) rfl ?_
  refine g_istore_n C (lv' := [(2, .int 0), (0, .ref (w_r w 277)), (1, .ref (w_r w 16))]) dX7_orderHearings_1 (by decide) rfl ?_
  refine g_sub [1, 2, 0] (lv' := [(0, .ref (w_r w 277)), (1, .ref (w_r w 16)), (2, .int 0)]) rfl ?_
  exact R2 0 d h
set_option maxHeartbeats 4000000 in
set_option maxRecDepth 100000 in
theorem m_JI_bitCount {w : wT} {l : Launch} {x0 : Int32} {d : Dt} {rE : Int32} (hO : okW w) (h : f_JI_bitCount x0 d = some rE) : gM w l yJ6_bitCount_0f7a4 cJ6_bitCount_0f7a4 1 (Option.some Jvm.ClassFile.FieldType.int) 0 [.int x0] d d (some (.int rE)) := by
  refine gM_of (by decide) [(0, .int x0)] rfl rfl ?_ hO
  intro p e R s m args below meth c C hR hr hlk
  unfold f_JI_bitCount at h
  refine g_iload_n C dJ6_bitCount_0f7a4_0 0 rfl ?_
  refine g_iload_n C dJ6_bitCount_0f7a4_1 0 rfl ?_
  refine g_iconst C dJ6_bitCount_0f7a4_2 (v := 1) rfl ?_
  refine g_iushr C dJ6_bitCount_0f7a4_3  ?_
  refine g_ldcw C (v := 1431655765) (wA 448 (by decide +kernel) (by decide +kernel)) dJ6_bitCount_0f7a4_4 ?_
  refine g_iand C dJ6_bitCount_0f7a4_7  ?_
  refine g_isub C dJ6_bitCount_0f7a4_8  ?_
  obtain ⟨t6, ht6, h⟩ := bnd_1 h
  refine g_nm ht6 ?_
  refine g_istore_n C (lv' := [(0, .int t6)]) dJ6_bitCount_0f7a4_9 (by decide) rfl ?_
  refine g_iload_n C dJ6_bitCount_0f7a4_10 0 rfl ?_
  refine g_ldcw C (v := 858993459) (wA 449 (by decide +kernel) (by decide +kernel)) dJ6_bitCount_0f7a4_11 ?_
  refine g_iand C dJ6_bitCount_0f7a4_14  ?_
  refine g_iload_n C dJ6_bitCount_0f7a4_15 0 rfl ?_
  refine g_iconst C dJ6_bitCount_0f7a4_16 (v := 2) rfl ?_
  refine g_iushr C dJ6_bitCount_0f7a4_17  ?_
  refine g_ldcw C (v := 858993459) (wA 449 (by decide +kernel) (by decide +kernel)) dJ6_bitCount_0f7a4_18 ?_
  refine g_iand C dJ6_bitCount_0f7a4_21  ?_
  refine g_iadd C dJ6_bitCount_0f7a4_22  ?_
  obtain ⟨t7, ht7, h⟩ := bnd_1 h
  refine g_nm ht7 ?_
  refine g_istore_n C (lv' := [(0, .int t7)]) dJ6_bitCount_0f7a4_23 (by decide) rfl ?_
  refine g_iload_n C dJ6_bitCount_0f7a4_24 0 rfl ?_
  refine g_iload_n C dJ6_bitCount_0f7a4_25 0 rfl ?_
  refine g_iconst C dJ6_bitCount_0f7a4_26 (v := 4) rfl ?_
  refine g_iushr C dJ6_bitCount_0f7a4_27  ?_
  refine g_iadd C dJ6_bitCount_0f7a4_28  ?_
  refine g_ldcw C (v := 252645135) (wA 450 (by decide +kernel) (by decide +kernel)) dJ6_bitCount_0f7a4_29 ?_
  refine g_iand C dJ6_bitCount_0f7a4_32  ?_
  obtain ⟨t8, ht8, h⟩ := bnd_1 h
  refine g_nm ht8 ?_
  refine g_istore_n C (lv' := [(0, .int t8)]) dJ6_bitCount_0f7a4_33 (by decide) rfl ?_
  refine g_iload_n C dJ6_bitCount_0f7a4_34 0 rfl ?_
  refine g_iload_n C dJ6_bitCount_0f7a4_35 0 rfl ?_
  refine g_bipush C dJ6_bitCount_0f7a4_36 (v := 8) (by decide) ?_
  refine g_iushr C dJ6_bitCount_0f7a4_38  ?_
  refine g_iadd C dJ6_bitCount_0f7a4_39  ?_
  obtain ⟨t9, ht9, h⟩ := bnd_1 h
  refine g_nm ht9 ?_
  refine g_istore_n C (lv' := [(0, .int t9)]) dJ6_bitCount_0f7a4_40 (by decide) rfl ?_
  refine g_iload_n C dJ6_bitCount_0f7a4_41 0 rfl ?_
  refine g_iload_n C dJ6_bitCount_0f7a4_42 0 rfl ?_
  refine g_bipush C dJ6_bitCount_0f7a4_43 (v := 16) (by decide) ?_
  refine g_iushr C dJ6_bitCount_0f7a4_45  ?_
  refine g_iadd C dJ6_bitCount_0f7a4_46  ?_
  obtain ⟨t10, ht10, h⟩ := bnd_1 h
  refine g_nm ht10 ?_
  refine g_istore_n C (lv' := [(0, .int t10)]) dJ6_bitCount_0f7a4_47 (by decide) rfl ?_
  refine g_iload_n C dJ6_bitCount_0f7a4_48 0 rfl ?_
  refine g_bipush C dJ6_bitCount_0f7a4_49 (v := 63) (by decide) ?_
  refine g_iand C dJ6_bitCount_0f7a4_51  ?_
  exact g_iret C hr hlk rfl rfl (congrArg (fun z => some (Value.int z)) (Option.some.inj h)) dJ6_bitCount_0f7a4_52
set_option maxHeartbeats 4000000 in
set_option maxRecDepth 100000 in
theorem m_P_isPossible {w : wT} {l : Launch} {x1 : Int32} {d : Dt} {rE : Int32} (hO : okW w) (h : f_P_isPossible x1 d = some rE) : gM w l yX7_isPossible cX7_isPossible 3 (Option.some Jvm.ClassFile.FieldType.boolean) 1 [.ref (w_r w 277), .int x1] d d (some (.int rE)) := by
  refine gM_of (by decide) [(0, .ref (w_r w 277)), (1, .int x1)] rfl rfl ?_ hO
  intro p e R s m args below meth c C hR hr hlk
  have R2 : ∀ (x1 : Int32) (x2 : Int32), f_P_isPossible_2 x1 x2 d = some rE → gG w p l e R s m args below meth c 3 0 0 (gE w below args s d (some (.int rE))) d [(0, .ref (w_r w 277)), (1, .int x1), (2, .int x2)] 2 [] := by
    intro x1 x2   h
    refine iter_ind (G := fun s_ : (Int32) => gG w p l e R s m args below meth c 3 0 0 (gE w below args s d (some (.int rE))) d [(0, .ref (w_r w 277)), (1, .int x1), (2, .int s_)] 2 []) ?_ fu _ h
    clear h
    intro x2 y1 h hl1 hx1
    show gG w p l e R s m args below meth c 3 0 0 (gE w below args s d (some (.int rE))) d [(0, .ref (w_r w 277)), (1, .int x1), (2, .int x2)] 2 []
    unfold st_P_isPossible_2 at h
    refine g_iload_n C dX7_isPossible_2 2 rfl ?_
    refine g_aload_n C dX7_isPossible_3 0 rfl ?_
    refine g_get C (.ref (w_r w 280)) 277 q_277 fk_P_18 rfl dX7_isPossible_4 ?_
    refine g_alen C 13 280 q_280 rfl 0 rfl (by decide) dX7_isPossible_7 ?_
    refine g_icmp_ge C dX7_isPossible_8 (tgt := 34) rfl (fun q => ?_) (fun q => ?_)
    · replace h := it_t q h
      replace h := ir_2 h hx1
      refine g_iconst C dX7_isPossible_34 (v := 1) rfl ?_
      exact g_iret C hr hlk rfl rfl (congrArg (fun z => some (Value.int z)) (Option.some.inj h)) dX7_isPossible_35
    · replace h := it_f q h
      refine g_iload_n C dX7_isPossible_11 1 rfl ?_
      refine g_aload_n C dX7_isPossible_12 0 rfl ?_
      refine g_get C (.ref (w_r w 280)) 277 q_277 fk_P_18 rfl dX7_isPossible_13 ?_
      refine g_iload_n C dX7_isPossible_16 2 rfl ?_
      have hg2 := gd_1 h
      replace h := gd_2 h
      refine g_iald C 280 q_280 hg2 _ rfl dX7_isPossible_17 ?_
      refine g_iand C dX7_isPossible_18  ?_
      obtain ⟨r3, hc4, h⟩ := ob1_1 h
      refine g_callSi C sk_P_59 hR rfl (m_JI_bitCount C.2.2.2.2.2.2.1 hc4) rfl rfl rfl dX7_isPossible_19 rfl rfl ?_
      refine g_iload_n C dX7_isPossible_22 2 rfl ?_
      refine g_icmp_le C dX7_isPossible_23 (tgt := 28) rfl (fun q => ?_) (fun q => ?_)
      · replace h := it_t q h
        refine g_iinc C (lv' := [(2, .int (x2 + 1)), (0, .ref (w_r w 277)), (1, .int x1)]) (v := (x2 + 1)) dX7_isPossible_28 2 rfl rfl (by decide) rfl ?_
        refine g_goto C dX7_isPossible_31 (tgt := 2) rfl ?_
        refine g_sub [1, 2, 0] (lv' := [(0, .ref (w_r w 277)), (1, .int x1), (2, .int (x2 + 1))]) rfl ?_
        exact hl1 (x2 + 1) (Option.some.inj h).symm
      · replace h := it_f q h
        replace h := ir_2 h hx1
        refine g_iconst C dX7_isPossible_26 (v := 0) rfl ?_
        exact g_iret C hr hlk rfl rfl (congrArg (fun z => some (Value.int z)) (Option.some.inj h)) dX7_isPossible_27
  unfold f_P_isPossible at h
  refine g_iconst C dX7_isPossible_0 (v := 0) rfl ?_
  refine g_istore_n C (lv' := [(2, .int 0), (0, .ref (w_r w 277)), (1, .int x1)]) dX7_isPossible_1 (by decide) rfl ?_
  refine g_sub [1, 2, 0] (lv' := [(0, .ref (w_r w 277)), (1, .int x1), (2, .int 0)]) rfl ?_
  exact R2 x1 0 h
set_option maxHeartbeats 4000000 in
set_option maxRecDepth 100000 in
theorem m_P_findDueSets {w : wT} {l : Launch} {x2 : Int32} {d : Dt} {dE : Dt} (hO : okW w) (h : f_P_findDueSets x2 d = some dE) : gM w l yX7_findDueSets cX7_findDueSets 5 (Option.none : Option Jvm.ClassFile.FieldType) 0 [.ref (w_r w 277), .ref (w_r w 16), .int x2] d dE none := by
  refine gM_of (by decide) [(0, .ref (w_r w 277)), (1, .ref (w_r w 16)), (2, .int x2)] rfl rfl ?_ hO
  intro p e R s m args below meth c C hR hr hlk
  have R2 : ∀ (x2 : Int32) (x3 : Int32) (d : Dt), f_P_findDueSets_2 x2 x3 d = some dE → gG w p l e R s m args below meth c 5 0 0 (gE w below args s dE none) d [(0, .ref (w_r w 277)), (1, .ref (w_r w 16)), (2, .int x2), (3, .int x3)] 2 [] := by
    intro x2 x3 d  h
    refine iter_ind (G := fun s_ : (Int32 × Dt) => gG w p l e R s m args below meth c 5 0 0 (gE w below args s dE none) s_.2 [(0, .ref (w_r w 277)), (1, .ref (w_r w 16)), (2, .int x2), (3, .int s_.1)] 2 []) ?_ fu _ h
    clear h
    intro s_ y1 h hl1 hx1
    obtain ⟨x3, d⟩ := s_
    show gG w p l e R s m args below meth c 5 0 0 (gE w below args s dE none) d [(0, .ref (w_r w 277)), (1, .ref (w_r w 16)), (2, .int x2), (3, .int x3)] 2 []
    dsimp only at h
    unfold st_P_findDueSets_2 at h
    have R21 : ∀ (x3 : Int32) (x4 : Int32) (d : Dt), f_P_findDueSets_21 x2 x3 x4 d = some y1 → gG w p l e R s m args below meth c 5 0 0 (gE w below args s dE none) d [(0, .ref (w_r w 277)), (1, .ref (w_r w 16)), (2, .int x2), (3, .int x3), (4, .int x4)] 21 [] := by
      intro x3 x4 d  h
      refine iter_ind (G := fun s_ : (Int32 × Dt) => gG w p l e R s m args below meth c 5 0 0 (gE w below args s dE none) s_.2 [(0, .ref (w_r w 277)), (1, .ref (w_r w 16)), (2, .int x2), (3, .int x3), (4, .int s_.1)] 21 []) ?_ fu _ h
      clear h
      intro s_ y2 h hl2 hx2
      obtain ⟨x4, d⟩ := s_
      show gG w p l e R s m args below meth c 5 0 0 (gE w below args s dE none) d [(0, .ref (w_r w 277)), (1, .ref (w_r w 16)), (2, .int x2), (3, .int x3), (4, .int x4)] 21 []
      dsimp only at h
      unfold st_P_findDueSets_21 at h
      refine g_iload C dX7_findDueSets_21 4 rfl ?_
      refine g_aload_n C dX7_findDueSets_23 1 rfl ?_
      refine g_get C (.int (d 16 0)) 16 q_16 fk_P_36 rfl dX7_findDueSets_24 ?_
      refine g_icmp_ge C dX7_findDueSets_27 (tgt := 62) rfl (fun q => ?_) (fun q => ?_)
      · replace h := it_t q h
        replace h := ir_2 h hx2
        refine g_iinc C (lv' := [(3, .int (x3 + 1)), (0, .ref (w_r w 277)), (1, .ref (w_r w 16)), (2, .int x2), (4, .int x4)]) (v := (x3 + 1)) dX7_findDueSets_62 3 rfl rfl (by decide) rfl ?_
        refine g_goto C dX7_findDueSets_65 (tgt := 2) rfl ?_
        refine g_sub [1, 2, 3, 0] (lv' := [(0, .ref (w_r w 277)), (1, .ref (w_r w 16)), (2, .int x2), (3, .int (x3 + 1))]) rfl ?_
        exact hl1 ((x3 + 1), d) (Option.some.inj h).symm
      · replace h := it_f q h
        refine g_aload_n C dX7_findDueSets_30 1 rfl ?_
        refine g_get C (.ref (w_r w 19)) 16 q_16 fk_P_56 rfl dX7_findDueSets_31 ?_
        refine g_iload C dX7_findDueSets_34 4 rfl ?_
        have hg1 := gd_1 h
        replace h := gd_2 h
        refine g_iald C 19 q_19 hg1 _ rfl dX7_findDueSets_36 ?_
        refine g_iload_n C dX7_findDueSets_37 2 rfl ?_
        refine g_isub C dX7_findDueSets_38  ?_
        refine g_iload_n C dX7_findDueSets_39 3 rfl ?_
        refine g_icmp_gt C dX7_findDueSets_40 (tgt := 56) rfl (fun q => ?_) (fun q => ?_)
        · replace h := it_t q h
          refine g_iinc C (lv' := [(4, .int (x4 + 1)), (0, .ref (w_r w 277)), (1, .ref (w_r w 16)), (2, .int x2), (3, .int x3)]) (v := (x4 + 1)) dX7_findDueSets_56 4 rfl rfl (by decide) rfl ?_
          refine g_goto C dX7_findDueSets_59 (tgt := 21) rfl ?_
          refine g_sub [1, 2, 3, 4, 0] (lv' := [(0, .ref (w_r w 277)), (1, .ref (w_r w 16)), (2, .int x2), (3, .int x3), (4, .int (x4 + 1))]) rfl ?_
          exact hl2 ((x4 + 1), d) (Option.some.inj h).symm
        · replace h := it_f q h
          refine g_aload_n C dX7_findDueSets_43 0 rfl ?_
          refine g_get C (.ref (w_r w 280)) 277 q_277 fk_P_18 rfl dX7_findDueSets_44 ?_
          refine g_iload_n C dX7_findDueSets_47 3 rfl ?_
          refine g_dup2 C dX7_findDueSets_48 rfl rfl ?_
          have hg2 := gd_1 h
          replace h := gd_2 h
          refine g_iald C 280 q_280 hg2 _ rfl dX7_findDueSets_49 ?_
          refine g_iconst C dX7_findDueSets_50 (v := 1) rfl ?_
          refine g_iload C dX7_findDueSets_51 4 rfl ?_
          refine g_ishl C dX7_findDueSets_53  ?_
          refine g_ior C dX7_findDueSets_54  ?_
          have hg3 := gd_1 h
          replace h := gd_2 h
          refine g_iast C 280 q_280 hg3 _ rfl  dX7_findDueSets_55 ?_
          refine g_iinc C (lv' := [(4, .int (x4 + 1)), (0, .ref (w_r w 277)), (1, .ref (w_r w 16)), (2, .int x2), (3, .int x3)]) (v := (x4 + 1)) dX7_findDueSets_56 4 rfl rfl (by decide) rfl ?_
          refine g_goto C dX7_findDueSets_59 (tgt := 21) rfl ?_
          refine g_sub [1, 2, 3, 4, 0] (lv' := [(0, .ref (w_r w 277)), (1, .ref (w_r w 16)), (2, .int x2), (3, .int x3), (4, .int (x4 + 1))]) rfl ?_
          exact hl2 ((x4 + 1), (wr d 280 x3.toNatClampNeg ((d 280 x3.toNatClampNeg) ||| (1 <<< (x4 &&& 31))))) (Option.some.inj h).symm
    refine g_iload_n C dX7_findDueSets_2 3 rfl ?_
    refine g_aload_n C dX7_findDueSets_3 0 rfl ?_
    refine g_get C (.ref (w_r w 280)) 277 q_277 fk_P_18 rfl dX7_findDueSets_4 ?_
    refine g_alen C 13 280 q_280 rfl 0 rfl (by decide) dX7_findDueSets_7 ?_
    refine g_icmp_ge C dX7_findDueSets_8 (tgt := 68) rfl (fun q => ?_) (fun q => ?_)
    · replace h := it_t q h
      replace h := ir_2 h hx1
      exact g_vret C hr hlk (Option.some.inj h) rfl dX7_findDueSets_68
    · replace h := it_f q h
      refine g_aload_n C dX7_findDueSets_11 0 rfl ?_
      refine g_get C (.ref (w_r w 280)) 277 q_277 fk_P_18 rfl dX7_findDueSets_12 ?_
      refine g_iload_n C dX7_findDueSets_15 3 rfl ?_
      refine g_iconst C dX7_findDueSets_16 (v := 0) rfl ?_
      have hg4 := gd_1 h
      replace h := gd_2 h
      refine g_iast C 280 q_280 hg4 _ rfl  dX7_findDueSets_17 ?_
      refine g_iconst C dX7_findDueSets_18 (v := 0) rfl ?_
      refine g_istore C (lv' := [(4, .int 0), (0, .ref (w_r w 277)), (1, .ref (w_r w 16)), (2, .int x2), (3, .int x3)]) dX7_findDueSets_19 (by decide) rfl ?_
      refine g_sub [1, 2, 3, 4, 0] (lv' := [(0, .ref (w_r w 277)), (1, .ref (w_r w 16)), (2, .int x2), (3, .int x3), (4, .int 0)]) rfl ?_
      exact R21 x3 0 (wr d 280 x3.toNatClampNeg 0) h
  unfold f_P_findDueSets at h
  refine g_iconst C dX7_findDueSets_0 (v := 0) rfl ?_
  refine g_istore_n C (lv' := [(3, .int 0), (0, .ref (w_r w 277)), (1, .ref (w_r w 16)), (2, .int x2)]) dX7_findDueSets_1 (by decide) rfl ?_
  refine g_sub [1, 2, 3, 0] (lv' := [(0, .ref (w_r w 277)), (1, .ref (w_r w 16)), (2, .int x2), (3, .int 0)]) rfl ?_
  exact R2 x2 0 d h
set_option maxHeartbeats 4000000 in
set_option maxRecDepth 100000 in
theorem m_P_orderVisits {w : wT} {l : Launch} {d : Dt} {dE : Dt} (hO : okW w) (h : f_P_orderVisits  d = some dE) : gM w l yX7_orderVisits cX7_orderVisits 6 (Option.none : Option Jvm.ClassFile.FieldType) 1 [.ref (w_r w 277), .ref (w_r w 16)] d dE none := by
  refine gM_of (by decide) [(0, .ref (w_r w 277)), (1, .ref (w_r w 16))] rfl rfl ?_ hO
  intro p e R s m args below meth c C hR hr hlk
  have R2 : ∀ (x2 : Int32) (d : Dt), f_P_orderVisits_2 x2 d = some dE → gG w p l e R s m args below meth c 6 0 0 (gE w below args s dE none) d [(0, .ref (w_r w 277)), (1, .ref (w_r w 16)), (2, .int x2)] 2 [] := by
    intro x2 d  h
    refine iter_ind (G := fun s_ : (Int32 × Dt) => gG w p l e R s m args below meth c 6 0 0 (gE w below args s dE none) s_.2 [(0, .ref (w_r w 277)), (1, .ref (w_r w 16)), (2, .int s_.1)] 2 []) ?_ fu _ h
    clear h
    intro s_ y1 h hl1 hx1
    obtain ⟨x2, d⟩ := s_
    show gG w p l e R s m args below meth c 6 0 0 (gE w below args s dE none) d [(0, .ref (w_r w 277)), (1, .ref (w_r w 16)), (2, .int x2)] 2 []
    dsimp only at h
    unfold st_P_orderVisits_2 at h
    have R15 : ∀ (x2 : Int32) (x3 : Int32) (x4 : Int32) (d : Dt), f_P_orderVisits_15 x2 x3 x4 d = some y1 → gG w p l e R s m args below meth c 6 0 0 (gE w below args s dE none) d [(0, .ref (w_r w 277)), (1, .ref (w_r w 16)), (2, .int x2), (3, .int x3), (4, .int x4)] 15 [] := by
      intro x2 x3 x4 d  h
      refine iter_ind (G := fun s_ : (Int32 × Int32) => gG w p l e R s m args below meth c 6 0 0 (gE w below args s dE none) d [(0, .ref (w_r w 277)), (1, .ref (w_r w 16)), (2, .int x2), (3, .int s_.1), (4, .int s_.2)] 15 []) ?_ fu _ h
      clear h
      intro s_ y2 h hl2 hx2
      obtain ⟨x3, x4⟩ := s_
      show gG w p l e R s m args below meth c 6 0 0 (gE w below args s dE none) d [(0, .ref (w_r w 277)), (1, .ref (w_r w 16)), (2, .int x2), (3, .int x3), (4, .int x4)] 15 []
      dsimp only at h
      unfold st_P_orderVisits_15 at h
      refine g_iload C dX7_orderVisits_15 4 rfl ?_
      refine g_aload_n C dX7_orderVisits_17 1 rfl ?_
      refine g_get C (.int (d 16 0)) 16 q_16 fk_P_36 rfl dX7_orderVisits_18 ?_
      refine g_icmp_ge C dX7_orderVisits_21 (tgt := 69) rfl (fun q => ?_) (fun q => ?_)
      · replace h := it_t q h
        replace h := ir_2 h hx2
        refine g_aload_n C dX7_orderVisits_69 0 rfl ?_
        refine g_get C (.ref (w_r w 279)) 277 q_277 fk_P_15 rfl dX7_orderVisits_70 ?_
        refine g_iload_n C dX7_orderVisits_73 3 rfl ?_
        refine g_iload_n C dX7_orderVisits_74 2 rfl ?_
        have hg2 := gd_1 h
        replace h := gd_2 h
        refine g_iast C 279 q_279 hg2 _ rfl  dX7_orderVisits_75 ?_
        refine g_iinc C (lv' := [(2, .int (x2 + 1)), (0, .ref (w_r w 277)), (1, .ref (w_r w 16)), (3, .int x3), (4, .int x4)]) (v := (x2 + 1)) dX7_orderVisits_76 2 rfl rfl (by decide) rfl ?_
        refine g_goto C dX7_orderVisits_79 (tgt := 2) rfl ?_
        refine g_sub [1, 2, 0] (lv' := [(0, .ref (w_r w 277)), (1, .ref (w_r w 16)), (2, .int (x2 + 1))]) rfl ?_
        exact hl1 ((x2 + 1), (wr d 279 x3.toNatClampNeg x2)) (Option.some.inj h).symm
      · replace h := it_f q h
        refine g_aload_n C dX7_orderVisits_24 1 rfl ?_
        refine g_get C (.ref (w_r w 20)) 16 q_16 fk_P_64 rfl dX7_orderVisits_25 ?_
        refine g_iload C dX7_orderVisits_28 4 rfl ?_
        have hg3 := gd_1 h
        replace h := gd_2 h
        refine g_iald C 20 q_20 hg3 _ rfl dX7_orderVisits_30 ?_
        refine g_aload_n C dX7_orderVisits_31 1 rfl ?_
        refine g_get C (.ref (w_r w 20)) 16 q_16 fk_P_64 rfl dX7_orderVisits_32 ?_
        refine g_iload_n C dX7_orderVisits_35 2 rfl ?_
        have hg4 := gd_1 h
        replace h := gd_2 h
        refine g_iald C 20 q_20 hg4 _ rfl dX7_orderVisits_36 ?_
        refine g_isub C dX7_orderVisits_37  ?_
        refine g_istore C (lv' := [(5, .int ((d 20 x4.toNatClampNeg) - (d 20 x2.toNatClampNeg))), (0, .ref (w_r w 277)), (1, .ref (w_r w 16)), (2, .int x2), (3, .int x3), (4, .int x4)]) dX7_orderVisits_38 (by decide) rfl ?_
        refine g_iload C dX7_orderVisits_40 0 rfl ?_
        refine g_if_gt C dX7_orderVisits_42 (tgt := 60) rfl (fun q => ?_) (fun q => ?_)
        · replace h := it_t q h
          refine g_iinc C (lv' := [(3, .int (x3 + 1)), (5, .int ((d 20 x4.toNatClampNeg) - (d 20 x2.toNatClampNeg))), (0, .ref (w_r w 277)), (1, .ref (w_r w 16)), (2, .int x2), (4, .int x4)]) (v := (x3 + 1)) dX7_orderVisits_60 4 rfl rfl (by decide) rfl ?_
          refine g_iinc C (lv' := [(4, .int (x4 + 1)), (3, .int (x3 + 1)), (5, .int ((d 20 x4.toNatClampNeg) - (d 20 x2.toNatClampNeg))), (0, .ref (w_r w 277)), (1, .ref (w_r w 16)), (2, .int x2)]) (v := (x4 + 1)) dX7_orderVisits_63 5 rfl rfl (by decide) rfl ?_
          refine g_goto C dX7_orderVisits_66 (tgt := 15) rfl ?_
          refine g_sub [3, 4, 5, 1, 0] (lv' := [(0, .ref (w_r w 277)), (1, .ref (w_r w 16)), (2, .int x2), (3, .int (x3 + 1)), (4, .int (x4 + 1))]) rfl ?_
          exact hl2 ((x3 + 1), (x4 + 1)) (Option.some.inj h).symm
        · replace h := it_f q h
          refine g_iload C dX7_orderVisits_45 0 rfl ?_
          refine g_if_ne C dX7_orderVisits_47 (tgt := 63) rfl (fun q => ?_) (fun q => ?_)
          · replace h := it_f q h
            refine g_iinc C (lv' := [(4, .int (x4 + 1)), (5, .int ((d 20 x4.toNatClampNeg) - (d 20 x2.toNatClampNeg))), (0, .ref (w_r w 277)), (1, .ref (w_r w 16)), (2, .int x2), (3, .int x3)]) (v := (x4 + 1)) dX7_orderVisits_63 5 rfl rfl (by decide) rfl ?_
            refine g_goto C dX7_orderVisits_66 (tgt := 15) rfl ?_
            refine g_sub [2, 3, 4, 5, 0] (lv' := [(0, .ref (w_r w 277)), (1, .ref (w_r w 16)), (2, .int x2), (3, .int x3), (4, .int (x4 + 1))]) rfl ?_
            exact hl2 (x3, (x4 + 1)) (Option.some.inj h).symm
          · replace h := it_t q h
            refine g_aload_n C dX7_orderVisits_50 2 rfl ?_
            refine g_iload C dX7_orderVisits_51 5 rfl ?_
            refine g_iload_n C dX7_orderVisits_53 3 rfl ?_
            obtain ⟨r5, hc6, h⟩ := ob1_1 h
            refine g_callSi C sk_P_67 hR rfl (m_P_isDueBefore C.2.2.2.2.2.2.1 hc6) rfl rfl rfl dX7_orderVisits_54 rfl rfl ?_
            refine g_if_eq C dX7_orderVisits_57 (tgt := 63) rfl (fun q => ?_) (fun q => ?_)
            · replace h := it_t q h
              refine g_iinc C (lv' := [(4, .int (x4 + 1)), (5, .int ((d 20 x4.toNatClampNeg) - (d 20 x2.toNatClampNeg))), (0, .ref (w_r w 277)), (1, .ref (w_r w 16)), (2, .int x2), (3, .int x3)]) (v := (x4 + 1)) dX7_orderVisits_63 5 rfl rfl (by decide) rfl ?_
              refine g_goto C dX7_orderVisits_66 (tgt := 15) rfl ?_
              refine g_sub [2, 3, 4, 5, 0] (lv' := [(0, .ref (w_r w 277)), (1, .ref (w_r w 16)), (2, .int x2), (3, .int x3), (4, .int (x4 + 1))]) rfl ?_
              exact hl2 (x3, (x4 + 1)) (Option.some.inj h).symm
            · replace h := it_f q h
              refine g_iinc C (lv' := [(3, .int (x3 + 1)), (5, .int ((d 20 x4.toNatClampNeg) - (d 20 x2.toNatClampNeg))), (0, .ref (w_r w 277)), (1, .ref (w_r w 16)), (2, .int x2), (4, .int x4)]) (v := (x3 + 1)) dX7_orderVisits_60 4 rfl rfl (by decide) rfl ?_
              refine g_iinc C (lv' := [(4, .int (x4 + 1)), (3, .int (x3 + 1)), (5, .int ((d 20 x4.toNatClampNeg) - (d 20 x2.toNatClampNeg))), (0, .ref (w_r w 277)), (1, .ref (w_r w 16)), (2, .int x2)]) (v := (x4 + 1)) dX7_orderVisits_63 5 rfl rfl (by decide) rfl ?_
              refine g_goto C dX7_orderVisits_66 (tgt := 15) rfl ?_
              refine g_sub [3, 4, 5, 1, 0] (lv' := [(0, .ref (w_r w 277)), (1, .ref (w_r w 16)), (2, .int x2), (3, .int (x3 + 1)), (4, .int (x4 + 1))]) rfl ?_
              exact hl2 ((x3 + 1), (x4 + 1)) (Option.some.inj h).symm
    refine g_iload_n C dX7_orderVisits_2 2 rfl ?_
    refine g_aload_n C dX7_orderVisits_3 1 rfl ?_
    refine g_get C (.int (d 16 0)) 16 q_16 fk_P_36 rfl dX7_orderVisits_4 ?_
    refine g_icmp_ge C dX7_orderVisits_7 (tgt := 82) rfl (fun q => ?_) (fun q => ?_)
    · replace h := it_t q h
      replace h := ir_2 h hx1
      exact g_vret C hr hlk (Option.some.inj h) rfl dX7_orderVisits_82
    · replace h := it_f q h
      refine g_iconst C dX7_orderVisits_10 (v := 0) rfl ?_
      refine g_istore_n C (lv' := [(3, .int 0), (0, .ref (w_r w 277)), (1, .ref (w_r w 16)), (2, .int x2)]) dX7_orderVisits_11 (by decide) rfl ?_
      refine g_iconst C dX7_orderVisits_12 (v := 0) rfl ?_
      refine g_istore C (lv' := [(4, .int 0), (3, .int 0), (0, .ref (w_r w 277)), (1, .ref (w_r w 16)), (2, .int x2)]) dX7_orderVisits_13 (by decide) rfl ?_
      refine g_sub [2, 3, 4, 1, 0] (lv' := [(0, .ref (w_r w 277)), (1, .ref (w_r w 16)), (2, .int x2), (3, .int 0), (4, .int 0)]) rfl ?_
      exact R15 x2 0 0 d h
  unfold f_P_orderVisits at h
  refine g_iconst C dX7_orderVisits_0 (v := 0) rfl ?_
  refine g_istore_n C (lv' := [(2, .int 0), (0, .ref (w_r w 277)), (1, .ref (w_r w 16))]) dX7_orderVisits_1 (by decide) rfl ?_
  refine g_sub [1, 2, 0] (lv' := [(0, .ref (w_r w 277)), (1, .ref (w_r w 16)), (2, .int 0)]) rfl ?_
  exact R2 0 d h
