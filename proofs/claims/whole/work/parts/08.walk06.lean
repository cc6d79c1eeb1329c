/-! 08: walks -/
set_option maxHeartbeats 4000000 in
set_option maxRecDepth 100000 in
theorem m_T_remove {w : wT} {l : Launch} {x1 : Int32} {d : Dt} {rE : Int32} {dE : Dt} (hO : okW w) (h : f_T_remove x1 d = some (rE, dE)) : gM w l yX9_remove cX9_remove 3 (Option.some Jvm.ClassFile.FieldType.int) 0 [.ref (w_r w 22), .int x1] d dE (some (.int rE)) := by
  refine gM_of (by decide) [(0, .ref (w_r w 22)), (1, .int x1)] rfl rfl ?_ hO
  intro p e R s m args below meth c C hR hr hlk
  have R12 : ∀ (x2 : Int32) (d : Dt), f_T_remove_12 x2 d = some (rE, dE) → gG w p l e R s m args below meth c 3 0 0 (gE w below args s dE (some (.int rE))) d [(0, .ref (w_r w 22)), (2, .int x2)] 12 [] := by
    intro x2 d  h
    refine iter_ind (G := fun s_ : (Int32 × Dt) => gG w p l e R s m args below meth c 3 0 0 (gE w below args s dE (some (.int rE))) s_.2 [(0, .ref (w_r w 22)), (2, .int s_.1)] 12 []) ?_ fu _ h
    clear h
    intro s_ y1 h hl1 hx1
    obtain ⟨x2, d⟩ := s_
    show gG w p l e R s m args below meth c 3 0 0 (gE w below args s dE (some (.int rE))) d [(0, .ref (w_r w 22)), (2, .int x2)] 12 []
    dsimp only at h
    unfold st_T_remove_12 at h
    refine g_iload_n C dX9_remove_12 1 rfl ?_
    refine g_aload_n C dX9_remove_13 0 rfl ?_
    refine g_get C (.int (d 22 0)) 22 q_22 fk_T_22 rfl dX9_remove_14 ?_
    refine g_icmp_ge C dX9_remove_17 (tgt := 68) rfl (fun q => ?_) (fun q => ?_)
    · replace h := it_t q h
      replace h := ir_2 h hx1
      refine g_aload_n C dX9_remove_68 0 rfl ?_
      refine g_get C (.int (d 22 0)) 22 q_22 fk_T_22 rfl dX9_remove_69 ?_
      exact g_iret C hr hlk rfl (congrArg Prod.snd (Option.some.inj h)) (congrArg (fun z => some (Value.int z.1)) (Option.some.inj h)) dX9_remove_72
    · replace h := it_f q h
      refine g_aload_n C dX9_remove_20 0 rfl ?_
      refine g_get C (.ref (w_r w 23)) 22 q_22 fk_T_9 rfl dX9_remove_21 ?_
      refine g_iload_n C dX9_remove_24 1 rfl ?_
      refine g_aload_n C dX9_remove_25 0 rfl ?_
      refine g_get C (.ref (w_r w 23)) 22 q_22 fk_T_9 rfl dX9_remove_26 ?_
      refine g_iload_n C dX9_remove_29 1 rfl ?_
      refine g_iconst C dX9_remove_30 (v := 1) rfl ?_
      refine g_iadd C dX9_remove_31  ?_
      have hg5 := gd_1 h
      replace h := gd_2 h
      refine g_iald C 23 q_23 hg5 _ rfl dX9_remove_32 ?_
      have hg6 := gd_1 h
      replace h := gd_2 h
      refine g_iast C 23 q_23 hg6 _ rfl  dX9_remove_33 ?_
      obtain ⟨d7, hd7, h⟩ := bnd_1 h
      refine g_nmD hd7 ?_
      refine g_aload_n C dX9_remove_34 0 rfl ?_
      refine g_get C (.ref (w_r w 24)) 22 q_22 fk_T_15 rfl dX9_remove_35 ?_
      refine g_iload_n C dX9_remove_38 1 rfl ?_
      refine g_aload_n C dX9_remove_39 0 rfl ?_
      refine g_get C (.ref (w_r w 24)) 22 q_22 fk_T_15 rfl dX9_remove_40 ?_
      refine g_iload_n C dX9_remove_43 1 rfl ?_
      refine g_iconst C dX9_remove_44 (v := 1) rfl ?_
      refine g_iadd C dX9_remove_45  ?_
      have hg8 := gd_1 h
      replace h := gd_2 h
      refine g_iald C 24 q_24 hg8 _ rfl dX9_remove_46 ?_
      have hg9 := gd_1 h
      replace h := gd_2 h
      refine g_iast C 24 q_24 hg9 _ rfl  dX9_remove_47 ?_
      obtain ⟨d10, hd10, h⟩ := bnd_1 h
      refine g_nmD hd10 ?_
      refine g_aload_n C dX9_remove_48 0 rfl ?_
      refine g_get C (.ref (w_r w 25)) 22 q_22 fk_T_18 rfl dX9_remove_49 ?_
      refine g_iload_n C dX9_remove_52 1 rfl ?_
      refine g_aload_n C dX9_remove_53 0 rfl ?_
      refine g_get C (.ref (w_r w 25)) 22 q_22 fk_T_18 rfl dX9_remove_54 ?_
      refine g_iload_n C dX9_remove_57 1 rfl ?_
      refine g_iconst C dX9_remove_58 (v := 1) rfl ?_
      refine g_iadd C dX9_remove_59  ?_
      have hg11 := gd_1 h
      replace h := gd_2 h
      refine g_zald C 25 q_25 hg11 _ rfl dX9_remove_60 ?_
      have hg12 := gd_1 h
      replace h := gd_2 h
      have hg13 := gd_1 h
      replace h := gd_2 h
      refine g_zast C 25 q_25 hg12 _ rfl (nar_v hg13) dX9_remove_61 ?_
      obtain ⟨d14, hd14, h⟩ := bnd_1 h
      refine g_nmD hd14 ?_
      refine g_iinc C (lv' := [(2, .int (x2 + 1)), (0, .ref (w_r w 22))]) (v := (x2 + 1)) dX9_remove_62 1 rfl rfl (by decide) rfl ?_
      refine g_goto C dX9_remove_65 (tgt := 12) rfl ?_
      refine g_sub [1, 0] (lv' := [(0, .ref (w_r w 22)), (2, .int (x2 + 1))]) rfl ?_
      exact hl1 ((x2 + 1), d14) (Option.some.inj h).symm
  unfold f_T_remove at h
  refine g_aload_n C dX9_remove_0 0 rfl ?_
  refine g_dup C dX9_remove_1 rfl ?_
  refine g_get C (.int (d 22 0)) 22 q_22 fk_T_22 rfl dX9_remove_2 ?_
  refine g_iconst C dX9_remove_5 (v := 1) rfl ?_
  refine g_isub C dX9_remove_6  ?_
  refine g_put C 22 q_22 pk_T_22 rfl rfl dX9_remove_7 ?_
  obtain ⟨d15, hd15, h⟩ := bnd_1 h
  refine g_nmD hd15 ?_
  refine g_iload_n C dX9_remove_10 1 rfl ?_
  refine g_istore_n C (lv' := [(2, .int x1), (0, .ref (w_r w 22)), (1, .int x1)]) dX9_remove_11 (by decide) rfl ?_
  refine g_sub [1, 0] (lv' := [(0, .ref (w_r w 22)), (2, .int x1)]) rfl ?_
  exact R12 x1 d15 h
set_option maxHeartbeats 4000000 in
set_option maxRecDepth 100000 in
theorem m_L_endSentence {w : wT} {l : Launch} {x1 : Int32} {d : Dt} {rE : Int32} {dE : Dt} (hO : okW w) (h : f_L_endSentence x1 d = some (rE, dE)) : gM w l yX5_endSentence cX5_endSentence 5 (Option.some Jvm.ClassFile.FieldType.int) 0 [.ref (w_r w 3), .int x1] d dE (some (.int rE)) := by
  refine gM_of (by decide) [(0, .ref (w_r w 3)), (1, .int x1)] rfl rfl ?_ hO
  intro p e R s m args below meth c C hR hr hlk
  have R24 : ∀ (x1 : Int32) (x3 : Int32) (x4 : Int32) (d : Dt) (hd0 : inb x1 8 = true), f_L_endSentence_24 x1 x3 x4 d = some (rE, dE) → gG w p l e R s m args below meth c 5 0 0 (gE w below args s dE (some (.int rE))) d [(0, .ref (w_r w 3)), (1, .int x1), (2, .ref (w_r w (8 + x1.toNatClampNeg))), (3, .int x3), (4, .int x4)] 24 [] := by
    intro x1 x3 x4 d hd0 h
    refine iter_ind (G := fun s_ : (Int32 × Dt) => gG w p l e R s m args below meth c 5 0 0 (gE w below args s dE (some (.int rE))) s_.2 [(0, .ref (w_r w 3)), (1, .int x1), (2, .ref (w_r w (8 + x1.toNatClampNeg))), (3, .int x3), (4, .int s_.1)] 24 []) ?_ fu _ h
    clear h
    intro s_ y1 h hl1 hx1
    obtain ⟨x4, d⟩ := s_
    show gG w p l e R s m args below meth c 5 0 0 (gE w below args s dE (some (.int rE))) d [(0, .ref (w_r w 3)), (1, .int x1), (2, .ref (w_r w (8 + x1.toNatClampNeg))), (3, .int x3), (4, .int x4)] 24 []
    dsimp only at h
    unfold st_L_endSentence_24 at h
    refine g_iload C dX5_endSentence_24 4 rfl ?_
    refine g_aload_n C dX5_endSentence_26 0 rfl ?_
    refine g_get C (.ref (w_r w 6)) 3 q_3 fk_L_18 rfl dX5_endSentence_27 ?_
    refine g_iload_n C dX5_endSentence_30 1 rfl ?_
    have hg3 := gd_1 h
    replace h := gd_2 h
    refine g_iald C 6 q_6 hg3 _ rfl dX5_endSentence_31 ?_
    refine g_icmp_ge C dX5_endSentence_32 (tgt := 51) rfl (fun q => ?_) (fun q => ?_)
    · replace h := it_t q h
      replace h := ir_2 h hx1
      refine g_iload_n C dX5_endSentence_51 3 rfl ?_
      exact g_iret C hr hlk rfl (congrArg Prod.snd (Option.some.inj h)) (congrArg (fun z => some (Value.int z.1)) (Option.some.inj h)) dX5_endSentence_52
    · replace h := it_f q h
      refine g_aload_n C dX5_endSentence_35 2 rfl ?_
      refine g_iload C dX5_endSentence_36 4 rfl ?_
      refine g_aload_n C dX5_endSentence_38 2 rfl ?_
      refine g_iload C dX5_endSentence_39 4 rfl ?_
      refine g_iconst C dX5_endSentence_41 (v := 1) rfl ?_
      refine g_iadd C dX5_endSentence_42  ?_
      have hg4 := gd_1 h
      replace h := gd_2 h
      refine g_iald C (8 + x1.toNatClampNeg) (isC_row8 hd0) hg4 _ rfl dX5_endSentence_43 ?_
      have hg5 := gd_1 h
      replace h := gd_2 h
      refine g_iast C (8 + x1.toNatClampNeg) (isC_row8 hd0) hg5 _ rfl  dX5_endSentence_44 ?_
      obtain ⟨d6, hd6, h⟩ := bnd_1 h
      refine g_nmD hd6 ?_
      refine g_iinc C (lv' := [(4, .int (x4 + 1)), (0, .ref (w_r w 3)), (1, .int x1), (2, .ref (w_r w (8 + x1.toNatClampNeg))), (3, .int x3)]) (v := (x4 + 1)) dX5_endSentence_45 4 rfl rfl (by decide) rfl ?_
      refine g_goto C dX5_endSentence_48 (tgt := 24) rfl ?_
      refine g_sub [1, 2, 3, 4, 0] (lv' := [(0, .ref (w_r w 3)), (1, .int x1), (2, .ref (w_r w (8 + x1.toNatClampNeg))), (3, .int x3), (4, .int (x4 + 1))]) rfl ?_
      exact hl1 ((x4 + 1), d6) (Option.some.inj h).symm
  unfold f_L_endSentence at h
  refine g_aload_n C dX5_endSentence_0 0 rfl ?_
  refine g_get C (.ref (w_r w 7)) 3 q_3 fk_L_23 rfl dX5_endSentence_1 ?_
  refine g_iload_n C dX5_endSentence_4 1 rfl ?_
  have hg7 := gd_1 h
  replace h := gd_2 h
  refine g_aald C 7 q_7 hg7 dX5_endSentence_5 ?_
  refine g_astore_n C (lv' := [(2, .ref (w_r w (8 + x1.toNatClampNeg))), (0, .ref (w_r w 3)), (1, .int x1)]) dX5_endSentence_6 (by decide) rfl ?_
  refine g_aload_n C dX5_endSentence_7 0 rfl ?_
  refine g_iconst C dX5_endSentence_8 (v := 0) rfl ?_
  refine g_iald C (8 + x1.toNatClampNeg) (isC_row8 hg7) (by decide) 0 (by decide) dX5_endSentence_9 ?_
  refine g_istore_n C (lv' := [(3, .int (d (8 + x1.toNatClampNeg) 0)), (2, .ref (w_r w (8 + x1.toNatClampNeg))), (0, .ref (w_r w 3)), (1, .int x1)]) dX5_endSentence_10 (by decide) rfl ?_
  refine g_aload_n C dX5_endSentence_11 2 rfl ?_
  refine g_get C (.ref (w_r w 6)) 3 q_3 fk_L_18 rfl dX5_endSentence_12 ?_
  refine g_iload_n C dX5_endSentence_15 3 rfl ?_
  refine g_dup2 C dX5_endSentence_16 rfl rfl ?_
  have hg8 := gd_1 h
  replace h := gd_2 h
  refine g_iald C 6 q_6 hg8 _ rfl dX5_endSentence_17 ?_
  refine g_iconst C dX5_endSentence_18 (v := 1) rfl ?_
  refine g_isub C dX5_endSentence_19  ?_
  have hg9 := gd_1 h
  replace h := gd_2 h
  refine g_iast C 6 q_6 hg9 _ rfl  dX5_endSentence_20 ?_
  obtain ⟨d10, hd10, h⟩ := bnd_1 h
  refine g_nmD hd10 ?_
  refine g_iconst C dX5_endSentence_21 (v := 0) rfl ?_
  refine g_istore C (lv' := [(4, .int 0), (3, .int (d (8 + x1.toNatClampNeg) 0)), (2, .ref (w_r w (8 + x1.toNatClampNeg))), (0, .ref (w_r w 3)), (1, .int x1)]) dX5_endSentence_22 (by decide) rfl ?_
  refine g_sub [3, 4, 2, 1, 0] (lv' := [(0, .ref (w_r w 3)), (1, .int x1), (2, .ref (w_r w (8 + x1.toNatClampNeg))), (3, .int (d (8 + x1.toNatClampNeg) 0)), (4, .int 0)]) rfl ?_
  exact R24 x1 (d (8 + x1.toNatClampNeg) 0) 0 d10 hg7 h
set_option maxHeartbeats 4000000 in
set_option maxRecDepth 100000 in
theorem m_S_letLapse {w : wT} {l : Launch} {d : Dt} {dE : Dt} (hO : okW w) (h : f_S_letLapse  d = some dE) : gM w l yX8_letLapse cX8_letLapse 2 (Option.none : Option Jvm.ClassFile.FieldType) 1 [.ref (w_r w 2)] d dE none := by
  refine gM_of (by decide) [(0, .ref (w_r w 2))] rfl rfl ?_ hO
  intro p e R s m args below meth c C hR hr hlk
  have R10 : ∀ (x1 : Int32) (d : Dt), f_S_letLapse_10 x1 d = some dE → gG w p l e R s m args below meth c 2 0 0 (gE w below args s dE none) d [(0, .ref (w_r w 2)), (1, .int x1)] 10 [] := by
    intro x1 d  h
    refine iter_ind (G := fun s_ : (Int32 × Dt) => gG w p l e R s m args below meth c 2 0 0 (gE w below args s dE none) s_.2 [(0, .ref (w_r w 2)), (1, .int s_.1)] 10 []) ?_ fu _ h
    clear h
    intro s_ y1 h hl1 hx1
    obtain ⟨x1, d⟩ := s_
    show gG w p l e R s m args below meth c 2 0 0 (gE w below args s dE none) d [(0, .ref (w_r w 2)), (1, .int x1)] 10 []
    dsimp only at h
    unfold st_S_letLapse_10 at h
    refine g_iload_n C dX8_letLapse_10 1 rfl ?_
    refine g_if_lt C dX8_letLapse_11 (tgt := 72) rfl (fun q => ?_) (fun q => ?_)
    · replace h := it_t q h
      replace h := ir_2 h hx1
      exact g_vret C hr hlk (Option.some.inj h) rfl dX8_letLapse_72
    · replace h := it_f q h
      refine g_aload_n C dX8_letLapse_14 0 rfl ?_
      refine g_get C (.ref (w_r w 16)) 2 q_2 fk_S_21 rfl dX8_letLapse_15 ?_
      refine g_get C (.ref (w_r w 19)) 16 q_16 fk_S_99 rfl dX8_letLapse_18 ?_
      refine g_iload_n C dX8_letLapse_21 1 rfl ?_
      have hg4 := gd_1 h
      replace h := gd_2 h
      refine g_iald C 19 q_19 hg4 _ rfl dX8_letLapse_22 ?_
      refine g_aload_n C dX8_letLapse_23 0 rfl ?_
      refine g_get C (.int (d 2 0)) 2 q_2 fk_S_36 rfl dX8_letLapse_24 ?_
      refine g_icmp_gt C dX8_letLapse_27 (tgt := 66) rfl (fun q => ?_) (fun q => ?_)
      · replace h := it_t q h
        refine g_iinc C (lv' := [(1, .int (x1 + (-1))), (0, .ref (w_r w 2))]) (v := (x1 + (-1))) dX8_letLapse_66 1 rfl rfl (by decide) rfl ?_
        refine g_goto C dX8_letLapse_69 (tgt := 10) rfl ?_
        refine g_sub [1, 0] (lv' := [(0, .ref (w_r w 2)), (1, .int (x1 + (-1)))]) rfl ?_
        exact hl1 ((x1 + (-1)), d) (Option.some.inj h).symm
      · replace h := it_f q h
        refine g_aload_n C dX8_letLapse_30 0 rfl ?_
        refine g_dup C dX8_letLapse_31 rfl ?_
        refine g_get C (.int (d 2 5)) 2 q_2 fk_S_53 rfl dX8_letLapse_32 ?_
        refine g_aload_n C dX8_letLapse_35 0 rfl ?_
        refine g_get C (.ref (w_r w 16)) 2 q_2 fk_S_21 rfl dX8_letLapse_36 ?_
        refine g_get C (.ref (w_r w 20)) 16 q_16 fk_S_72 rfl dX8_letLapse_39 ?_
        refine g_iload_n C dX8_letLapse_42 1 rfl ?_
        have hg5 := gd_1 h
        replace h := gd_2 h
        refine g_iald C 20 q_20 hg5 _ rfl dX8_letLapse_43 ?_
        refine g_iadd C dX8_letLapse_44  ?_
        refine g_put C 2 q_2 pk_S_53 rfl rfl dX8_letLapse_45 ?_
        obtain ⟨d6, hd6, h⟩ := bnd_1 h
        refine g_nmD hd6 ?_
        refine g_aload_n C dX8_letLapse_48 0 rfl ?_
        refine g_dup C dX8_letLapse_49 rfl ?_
        refine g_get C (.int (d6 2 7)) 2 q_2 fk_S_62 rfl dX8_letLapse_50 ?_
        refine g_iconst C dX8_letLapse_53 (v := 1) rfl ?_
        refine g_iadd C dX8_letLapse_54  ?_
        refine g_put C 2 q_2 pk_S_62 rfl rfl dX8_letLapse_55 ?_
        obtain ⟨d7, hd7, h⟩ := bnd_1 h
        refine g_nmD hd7 ?_
        refine g_aload_n C dX8_letLapse_58 0 rfl ?_
        refine g_get C (.ref (w_r w 16)) 2 q_2 fk_S_21 rfl dX8_letLapse_59 ?_
        refine g_iload_n C dX8_letLapse_62 1 rfl ?_
        obtain ⟨d8, hc9, h⟩ := ob1_1 h
        refine g_callVv C 16 q_16 vk_S_75 hR rfl (m_B_remove C.2.2.2.2.2.2.1 hc9) rfl rfl rfl dX8_letLapse_63 rfl rfl ?_
        refine g_iinc C (lv' := [(1, .int (x1 + (-1))), (0, .ref (w_r w 2))]) (v := (x1 + (-1))) dX8_letLapse_66 1 rfl rfl (by decide) rfl ?_
        refine g_goto C dX8_letLapse_69 (tgt := 10) rfl ?_
        refine g_sub [1, 0] (lv' := [(0, .ref (w_r w 2)), (1, .int (x1 + (-1)))]) rfl ?_
        exact hl1 ((x1 + (-1)), d8) (Option.some.inj h).symm
  unfold f_S_letLapse at h
  refine g_aload_n C dX8_letLapse_0 0 rfl ?_
  refine g_get C (.ref (w_r w 16)) 2 q_2 fk_S_21 rfl dX8_letLapse_1 ?_
  refine g_get C (.int (d 16 0)) 16 q_16 fk_S_96 rfl dX8_letLapse_4 ?_
  refine g_iconst C dX8_letLapse_7 (v := 1) rfl ?_
  refine g_isub C dX8_letLapse_8  ?_
  refine g_istore_n C (lv' := [(1, .int ((d 16 0) - 1)), (0, .ref (w_r w 2))]) dX8_letLapse_9 (by decide) rfl ?_
  refine g_sub [1, 0] (lv' := [(0, .ref (w_r w 2)), (1, .int ((d 16 0) - 1))]) rfl ?_
  exact R10 ((d 16 0) - 1) d h
set_option maxHeartbeats 4000000 in
set_option maxRecDepth 100000 in
theorem m_L_liveOneDay {w : wT} {l : Launch} {d : Dt} {rE : Int32} {dE : Dt} (hO : okW w) (h : f_L_liveOneDay  d = some (rE, dE)) : gM w l yX5_liveOneDay cX5_liveOneDay 3 (Option.some Jvm.ClassFile.FieldType.int) 1 [.ref (w_r w 3)] d dE (some (.int rE)) := by
  refine gM_of (by decide) [(0, .ref (w_r w 3))] rfl rfl ?_ hO
  intro p e R s m args below meth c C hR hr hlk
  have R4 : ∀ (x1 : Int32) (x2 : Int32) (d : Dt), f_L_liveOneDay_4 x1 x2 d = some (rE, dE) → gG w p l e R s m args below meth c 3 0 0 (gE w below args s dE (some (.int rE))) d [(0, .ref (w_r w 3)), (1, .int x1), (2, .int x2)] 4 [] := by
    intro x1 x2 d  h
    refine iter_ind (G := fun s_ : (Int32 × Int32 × Dt) => gG w p l e R s m args below meth c 3 0 0 (gE w below args s dE (some (.int rE))) s_.2.2 [(0, .ref (w_r w 3)), (1, .int s_.1), (2, .int s_.2.1)] 4 []) ?_ fu _ h
    clear h
    intro s_ y1 h hl1 hx1
    obtain ⟨x1, x2, d⟩ := s_
    show gG w p l e R s m args below meth c 3 0 0 (gE w below args s dE (some (.int rE))) d [(0, .ref (w_r w 3)), (1, .int x1), (2, .int x2)] 4 []
    dsimp only at h
    unfold st_L_liveOneDay_4 at h
    refine g_iload_n C dX5_liveOneDay_4 2 rfl ?_
    refine g_aload_n C dX5_liveOneDay_5 0 rfl ?_
    refine g_get C (.int (d 3 0)) 3 q_3 fk_L_26 rfl dX5_liveOneDay_6 ?_
    refine g_icmp_ge C dX5_liveOneDay_9 (tgt := 98) rfl (fun q => ?_) (fun q => ?_)
    · replace h := it_t q h
      replace h := ir_2 h hx1
      refine g_iload_n C dX5_liveOneDay_98 1 rfl ?_
      exact g_iret C hr hlk rfl (congrArg Prod.snd (Option.some.inj h)) (congrArg (fun z => some (Value.int z.1)) (Option.some.inj h)) dX5_liveOneDay_99
    · replace h := it_f q h
      refine g_aload_n C dX5_liveOneDay_12 0 rfl ?_
      refine g_iload_n C dX5_liveOneDay_13 2 rfl ?_
      obtain ⟨r7, hc8, h⟩ := ob1_1 h
      refine g_callVi C 3 q_3 vk_L_36 hR rfl (m_L_serves C.2.2.2.2.2.2.1 hc8) rfl rfl rfl dX5_liveOneDay_14 rfl rfl ?_
      refine g_if_eq C dX5_liveOneDay_17 (tgt := 73) rfl (fun q => ?_) (fun q => ?_)
      · replace h := it_t q h
        refine g_aload_n C dX5_liveOneDay_73 0 rfl ?_
        refine g_get C (.ref (w_r w 4)) 3 q_3 fk_L_9 rfl dX5_liveOneDay_74 ?_
        refine g_iload_n C dX5_liveOneDay_77 2 rfl ?_
        refine g_aload_n C dX5_liveOneDay_78 0 rfl ?_
        refine g_get C (.ref (w_r w 4)) 3 q_3 fk_L_9 rfl dX5_liveOneDay_79 ?_
        refine g_iload_n C dX5_liveOneDay_82 2 rfl ?_
        have hg9 := gd_1 h
        replace h := gd_2 h
        refine g_iald C 4 q_4 hg9 _ rfl dX5_liveOneDay_83 ?_
        refine g_iconst C dX5_liveOneDay_84 (v := 1) rfl ?_
        refine g_iadd C dX5_liveOneDay_85  ?_
        refine g_bipush C dX5_liveOneDay_86 (v := 9) (by decide) ?_
        refine g_mmin C mm_L_50 mm_sta_min mm_ini mm_cod_min hR rfl rfl dX5_liveOneDay_88 rfl rfl ?_
        have hg10 := gd_1 h
        replace h := gd_2 h
        refine g_iast C 4 q_4 hg10 _ rfl  dX5_liveOneDay_91 ?_
        obtain ⟨d11, hd11, h⟩ := bnd_1 h
        refine g_nmD hd11 ?_
        refine g_iinc C (lv' := [(2, .int (x2 + 1)), (0, .ref (w_r w 3)), (1, .int x1)]) (v := (x2 + 1)) dX5_liveOneDay_92 2 rfl rfl (by decide) rfl ?_
        refine g_goto C dX5_liveOneDay_95 (tgt := 4) rfl ?_
        refine g_sub [1, 2, 0] (lv' := [(0, .ref (w_r w 3)), (1, .int x1), (2, .int (x2 + 1))]) rfl ?_
        exact hl1 (x1, (x2 + 1), d11) (Option.some.inj h).symm
      · replace h := it_f q h
        refine g_aload_n C dX5_liveOneDay_20 0 rfl ?_
        refine g_get C (.ref (w_r w 4)) 3 q_3 fk_L_9 rfl dX5_liveOneDay_21 ?_
        refine g_iload_n C dX5_liveOneDay_24 2 rfl ?_
        refine g_aload_n C dX5_liveOneDay_25 0 rfl ?_
        refine g_get C (.ref (w_r w 4)) 3 q_3 fk_L_9 rfl dX5_liveOneDay_26 ?_
        refine g_iload_n C dX5_liveOneDay_29 2 rfl ?_
        have hg12 := gd_1 h
        replace h := gd_2 h
        refine g_iald C 4 q_4 hg12 _ rfl dX5_liveOneDay_30 ?_
        refine g_iconst C dX5_liveOneDay_31 (v := 1) rfl ?_
        refine g_isub C dX5_liveOneDay_32  ?_
        refine g_iconst C dX5_liveOneDay_33 (v := 0) rfl ?_
        refine g_mmax C mm_L_40 mm_sta_max mm_ini mm_cod_max hR rfl rfl dX5_liveOneDay_34 rfl rfl ?_
        have hg13 := gd_1 h
        replace h := gd_2 h
        refine g_iast C 4 q_4 hg13 _ rfl  dX5_liveOneDay_37 ?_
        obtain ⟨d14, hd14, h⟩ := bnd_1 h
        refine g_nmD hd14 ?_
        refine g_aload_n C dX5_liveOneDay_38 0 rfl ?_
        refine g_get C (.ref (w_r w 7)) 3 q_3 fk_L_23 rfl dX5_liveOneDay_39 ?_
        refine g_iload_n C dX5_liveOneDay_42 2 rfl ?_
        have hg15 := gd_1 h
        replace h := gd_2 h
        refine g_aald C 7 q_7 hg15 dX5_liveOneDay_43 ?_
        refine g_iconst C dX5_liveOneDay_44 (v := 0) rfl ?_
        refine g_dup2 C dX5_liveOneDay_45 rfl rfl ?_
        refine g_iald C (8 + x2.toNatClampNeg) (isC_row8 hg15) (by decide) 0 (by decide) dX5_liveOneDay_46 ?_
        refine g_iconst C dX5_liveOneDay_47 (v := 1) rfl ?_
        refine g_isub C dX5_liveOneDay_48  ?_
        refine g_iast C (8 + x2.toNatClampNeg) (isC_row8 hg15) (by decide) 0 (by decide)  dX5_liveOneDay_49 ?_
        obtain ⟨d16, hd16, h⟩ := bnd_1 h
        refine g_nmD hd16 ?_
        refine g_iinc C (lv' := [(1, .int (x1 + 1)), (0, .ref (w_r w 3)), (2, .int x2)]) (v := (x1 + 1)) dX5_liveOneDay_50 1 rfl rfl (by decide) rfl ?_
        refine g_aload_n C dX5_liveOneDay_53 1 rfl ?_
        refine g_get C (.ref (w_r w 7)) 3 q_3 fk_L_23 rfl dX5_liveOneDay_54 ?_
        refine g_iload_n C dX5_liveOneDay_57 2 rfl ?_
        have hg17 := gd_1 h
        replace h := gd_2 h
        refine g_aald C 7 q_7 hg17 dX5_liveOneDay_58 ?_
        refine g_iconst C dX5_liveOneDay_59 (v := 0) rfl ?_
        refine g_iald C (8 + x2.toNatClampNeg) (isC_row8 hg17) (by decide) 0 (by decide) dX5_liveOneDay_60 ?_
        refine g_if_ne C dX5_liveOneDay_61 (tgt := 92) rfl (fun q => ?_) (fun q => ?_)
        · replace h := it_f q h
          refine g_iinc C (lv' := [(2, .int (x2 + 1)), (1, .int (x1 + 1)), (0, .ref (w_r w 3))]) (v := (x2 + 1)) dX5_liveOneDay_92 2 rfl rfl (by decide) rfl ?_
          refine g_goto C dX5_liveOneDay_95 (tgt := 4) rfl ?_
          refine g_sub [2, 1, 0] (lv' := [(0, .ref (w_r w 3)), (1, .int (x1 + 1)), (2, .int (x2 + 1))]) rfl ?_
          exact hl1 ((x1 + 1), (x2 + 1), d16) (Option.some.inj h).symm
        · replace h := it_t q h
          refine g_aload_n C dX5_liveOneDay_64 1 rfl ?_
          refine g_iload_n C dX5_liveOneDay_65 2 rfl ?_
          obtain ⟨r18, d19, hc20, h⟩ := ob2_1 h
          refine g_callVi C 3 q_3 vk_L_46 hR rfl (m_L_endSentence C.2.2.2.2.2.2.1 hc20) rfl rfl rfl dX5_liveOneDay_66 rfl rfl ?_
          refine g_pop C dX5_liveOneDay_69 rfl ?_
          refine g_goto C dX5_liveOneDay_70 (tgt := 92) rfl ?_
          refine g_iinc C (lv' := [(2, .int (x2 + 1)), (1, .int (x1 + 1)), (0, .ref (w_r w 3))]) (v := (x2 + 1)) dX5_liveOneDay_92 2 rfl rfl (by decide) rfl ?_
          refine g_goto C dX5_liveOneDay_95 (tgt := 4) rfl ?_
          refine g_sub [2, 1, 0] (lv' := [(0, .ref (w_r w 3)), (1, .int (x1 + 1)), (2, .int (x2 + 1))]) rfl ?_
          exact hl1 ((x1 + 1), (x2 + 1), d19) (Option.some.inj h).symm
  unfold f_L_liveOneDay at h
  refine g_iconst C dX5_liveOneDay_0 (v := 0) rfl ?_
  refine g_istore_n C (lv' := [(1, .int 0), (0, .ref (w_r w 3))]) dX5_liveOneDay_1 (by decide) rfl ?_
  refine g_iconst C dX5_liveOneDay_2 (v := 0) rfl ?_
  refine g_istore_n C (lv' := [(2, .int 0), (1, .int 0), (0, .ref (w_r w 3))]) dX5_liveOneDay_3 (by decide) rfl ?_
  refine g_sub [2, 1, 0] (lv' := [(0, .ref (w_r w 3)), (1, .int 0), (2, .int 0)]) rfl ?_
  exact R4 0 0 d h
set_option maxHeartbeats 4000000 in
set_option maxRecDepth 100000 in
theorem m_P_isDueBefore {w : wT} {l : Launch} {x1 x2 : Int32} {d : Dt} {rE : Int32} (hO : okW w) (h : f_P_isDueBefore x1 x2 d = some rE) : gM w l yX7_isDueBefore cX7_isDueBefore 5 (Option.some Jvm.ClassFile.FieldType.boolean) 0 [.ref (w_r w 16), .int x1, .int x2] d d (some (.int rE)) := by
  refine gM_of (by decide) [(0, .ref (w_r w 16)), (1, .int x1), (2, .int x2)] rfl rfl ?_ hO
  intro p e R s m args below meth c C hR hr hlk
  unfold f_P_isDueBefore at h
  refine g_aload_n C dX7_isDueBefore_0 0 rfl ?_
  refine g_get C (.ref (w_r w 19)) 16 q_16 fk_P_56 rfl dX7_isDueBefore_1 ?_
  refine g_iload_n C dX7_isDueBefore_4 1 rfl ?_
  have hg1 := gd_1 h
  replace h := gd_2 h
  refine g_iald C 19 q_19 hg1 _ rfl dX7_isDueBefore_5 ?_
  refine g_istore_n C (lv' := [(3, .int (d 19 x1.toNatClampNeg)), (0, .ref (w_r w 16)), (1, .int x1), (2, .int x2)]) dX7_isDueBefore_6 (by decide) rfl ?_
  refine g_aload_n C dX7_isDueBefore_7 1 rfl ?_
  refine g_get C (.ref (w_r w 19)) 16 q_16 fk_P_56 rfl dX7_isDueBefore_8 ?_
  refine g_iload_n C dX7_isDueBefore_11 3 rfl ?_
  have hg2 := gd_1 h
  replace h := gd_2 h
  refine g_iald C 19 q_19 hg2 _ rfl dX7_isDueBefore_12 ?_
  refine g_istore C (lv' := [(4, .int (d 19 x2.toNatClampNeg)), (3, .int (d 19 x1.toNatClampNeg)), (0, .ref (w_r w 16)), (1, .int x1), (2, .int x2)]) dX7_isDueBefore_13 (by decide) rfl ?_
  refine g_iload_n C dX7_isDueBefore_15 1 rfl ?_
  refine g_iload C dX7_isDueBefore_16 0 rfl ?_
  refine g_icmp_eq C dX7_isDueBefore_18 (tgt := 35) rfl (fun q => ?_) (fun q => ?_)
  · replace h := it_t q h
    refine g_iload_n C dX7_isDueBefore_35 3 rfl ?_
    refine g_iload_n C dX7_isDueBefore_36 4 rfl ?_
    refine g_icmp_ge C dX7_isDueBefore_37 (tgt := 44) rfl (fun q => ?_) (fun q => ?_)
    · replace h := it_t q h
      refine g_iconst C dX7_isDueBefore_44 (v := 0) rfl ?_
      exact g_iret C hr hlk rfl rfl (congrArg (fun z => some (Value.int z)) (Option.some.inj h)) dX7_isDueBefore_45
    · replace h := it_f q h
      refine g_iconst C dX7_isDueBefore_40 (v := 1) rfl ?_
      refine g_goto C dX7_isDueBefore_41 (tgt := 45) rfl ?_
      exact g_iret C hr hlk rfl rfl (congrArg (fun z => some (Value.int z)) (Option.some.inj h)) dX7_isDueBefore_45
  · replace h := it_f q h
    refine g_iload_n C dX7_isDueBefore_21 1 rfl ?_
    refine g_iload C dX7_isDueBefore_22 0 rfl ?_
    refine g_icmp_ge C dX7_isDueBefore_24 (tgt := 31) rfl (fun q => ?_) (fun q => ?_)
    · replace h := it_t q h
      refine g_iconst C dX7_isDueBefore_31 (v := 0) rfl ?_
      refine g_goto C dX7_isDueBefore_32 (tgt := 45) rfl ?_
      exact g_iret C hr hlk rfl rfl (congrArg (fun z => some (Value.int z)) (Option.some.inj h)) dX7_isDueBefore_45
    · replace h := it_f q h
      refine g_iconst C dX7_isDueBefore_27 (v := 1) rfl ?_
      refine g_goto C dX7_isDueBefore_28 (tgt := 45) rfl ?_
      exact g_iret C hr hlk rfl rfl (congrArg (fun z => some (Value.int z)) (Option.some.inj h)) dX7_isDueBefore_45
set_option maxHeartbeats 4000000 in
set_option maxRecDepth 100000 in
theorem m_P_orderHearings {w : wT} {l : Launch} {d : Dt} {dE : Dt} (hO : okW w) (h : f_P_orderHearings  d = some dE) : gM w l yX7_orderHearings cX7_orderHearings 5 (Option.none : Option Jvm.ClassFile.FieldType) 1 [.ref (w_r w 277), .ref (w_r w 16)] d dE none := by
  refine gM_of (by decide) [(0, .ref (w_r w 277)), (1, .ref (w_r w 16))] rfl rfl ?_ hO
  intro p e R s m args below meth c C hR hr hlk
  have R2 : ∀ (x2 : Int32) (d : Dt), f_P_orderHearings_2 x2 d = some dE → gG w p l e R s m args below meth c 5 0 0 (gE w below args s dE none) d [(0, .ref (w_r w 277)), (1, .ref (w_r w 16)), (2, .int x2)] 2 [] := by
    intro x2 d  h
    refine iter_ind (G := fun s_ : (Int32 × Dt) => gG w p l e R s m args below meth c 5 0 0 (gE w below args s dE none) s_.2 [(0, .ref (w_r w 277)), (1, .ref (w_r w 16)), (2, .int s_.1)] 2 []) ?_ fu _ h
    clear h
    intro s_ y1 h hl1 hx1
    obtain ⟨x2, d⟩ := s_
    show gG w p l e R s m args below meth c 5 0 0 (gE w below args s dE none) d [(0, .ref (w_r w 277)), (1, .ref (w_r w 16)), (2, .int x2)] 2 []
    dsimp only at h
    unfold st_P_orderHearings_2 at h
    have R15 : ∀ (x2 : Int32) (x3 : Int32) (x4 : Int32) (d : Dt), f_P_orderHearings_15 x2 x3 x4 d = some y1 → gG w p l e R s m args below meth c 5 0 0 (gE w below args s dE none) d [(0, .ref (w_r w 277)), (1, .ref (w_r w 16)), (2, .int x2), (3, .int x3), (4, .int x4)] 15 [] := by
      intro x2 x3 x4 d  h
      refine iter_ind (G := fun s_ : (Int32 × Int32) => gG w p l e R s m args below meth c 5 0 0 (gE w below args s dE none) d [(0, .ref (w_r w 277)), (1, .ref (w_r w 16)), (2, .int x2), (3, .int s_.1), (4, .int s_.2)] 15 []) ?_ fu _ h
      clear h
      intro s_ y2 h hl2 hx2
      obtain ⟨x3, x4⟩ := s_
      show gG w p l e R s m args below meth c 5 0 0 (gE w below args s dE none) d [(0, .ref (w_r w 277)), (1, .ref (w_r w 16)), (2, .int x2), (3, .int x3), (4, .int x4)] 15 []
      dsimp only at h
      unfold st_P_orderHearings_15 at h
      refine g_iload C dX7_orderHearings_15 4 rfl ?_
      refine g_aload_n C dX7_orderHearings_17 1 rfl ?_
      refine g_get C (.int (d 16 0)) 16 q_16 fk_P_36 rfl dX7_orderHearings_18 ?_
      refine g_icmp_ge C dX7_orderHearings_21 (tgt := 56) rfl (fun q => ?_) (fun q => ?_)
      · replace h := it_t q h
        replace h := ir_2 h hx2
        refine g_aload_n C dX7_orderHearings_56 0 rfl ?_
        refine g_get C (.int (d 277 1)) 277 q_277 fk_P_29 rfl dX7_orderHearings_57 ?_
        refine g_iload_n C dX7_orderHearings_60 2 rfl ?_
        refine g_ishr C dX7_orderHearings_61  ?_
        refine g_iconst C dX7_orderHearings_62 (v := 1) rfl ?_
        refine g_iand C dX7_orderHearings_63  ?_
        refine g_iconst C dX7_orderHearings_64 (v := 1) rfl ?_
        refine g_icmp_ne C dX7_orderHearings_65 (tgt := 75) rfl (fun q => ?_) (fun q => ?_)
        · replace h := it_f q h
          refine g_iinc C (lv' := [(2, .int (x2 + 1)), (0, .ref (w_r w 277)), (1, .ref (w_r w 16)), (3, .int x3), (4, .int x4)]) (v := (x2 + 1)) dX7_orderHearings_75 2 rfl rfl (by decide) rfl ?_
          refine g_goto C dX7_orderHearings_78 (tgt := 2) rfl ?_
          refine g_sub [1, 2, 0] (lv' := [(0, .ref (w_r w 277)), (1, .ref (w_r w 16)), (2, .int (x2 + 1))]) rfl ?_
          exact hl1 ((x2 + 1), d) (Option.some.inj h).symm
        · replace h := it_t q h
          refine g_aload_n C dX7_orderHearings_68 0 rfl ?_
          refine g_get C (.ref (w_r w 278)) 277 q_277 fk_P_9 rfl dX7_orderHearings_69 ?_
          refine g_iload_n C dX7_orderHearings_72 3 rfl ?_
          refine g_iload_n C dX7_orderHearings_73 2 rfl ?_
          have hg3 := gd_1 h
          replace h := gd_2 h
          refine g_iast C 278 q_278 hg3 _ rfl  dX7_orderHearings_74 ?_
          obtain ⟨d4, hd4, h⟩ := bnd_1 h
          refine g_nmD hd4 ?_
          refine g_iinc C (lv' := [(2, .int (x2 + 1)), (0, .ref (w_r w 277)), (1, .ref (w_r w 16)), (3, .int x3), (4, .int x4)]) (v := (x2 + 1)) dX7_orderHearings_75 2 rfl rfl (by decide) rfl ?_
          refine g_goto C dX7_orderHearings_78 (tgt := 2) rfl ?_
          refine g_sub [1, 2, 0] (lv' := [(0, .ref (w_r w 277)), (1, .ref (w_r w 16)), (2, .int (x2 + 1))]) rfl ?_
          exact hl1 ((x2 + 1), d4) (Option.some.inj h).symm
      · replace h := it_f q h
        refine g_aload_n C dX7_orderHearings_24 0 rfl ?_
        refine g_get C (.int (d 277 1)) 277 q_277 fk_P_29 rfl dX7_orderHearings_25 ?_
        refine g_iload C dX7_orderHearings_28 4 rfl ?_
        refine g_ishr C dX7_orderHearings_30  ?_
        refine g_iconst C dX7_orderHearings_31 (v := 1) rfl ?_
        refine g_iand C dX7_orderHearings_32  ?_
        refine g_iconst C dX7_orderHearings_33 (v := 1) rfl ?_
        refine g_icmp_ne C dX7_orderHearings_34 (tgt := 50) rfl (fun q => ?_) (fun q => ?_)
        · replace h := it_f q h
          refine g_iinc C (lv' := [(4, .int (x4 + 1)), (0, .ref (w_r w 277)), (1, .ref (w_r w 16)), (2, .int x2), (3, .int x3)]) (v := (x4 + 1)) dX7_orderHearings_50 4 rfl rfl (by decide) rfl ?_
          refine g_goto C dX7_orderHearings_53 (tgt := 15) rfl ?_
          refine g_sub [1, 2, 3, 4, 0] (lv' := [(0, .ref (w_r w 277)), (1, .ref (w_r w 16)), (2, .int x2), (3, .int x3), (4, .int (x4 + 1))]) rfl ?_
          exact hl2 (x3, (x4 + 1)) (Option.some.inj h).symm
        · replace h := it_t q h
          refine g_aload_n C dX7_orderHearings_37 1 rfl ?_
          refine g_iload C dX7_orderHearings_38 4 rfl ?_
          refine g_iload_n C dX7_orderHearings_40 2 rfl ?_
          obtain ⟨r5, hc6, h⟩ := ob1_1 h
          refine g_callSi C sk_P_67 hR rfl (m_P_isDueBefore C.2.2.2.2.2.2.1 hc6) rfl rfl rfl dX7_orderHearings_41 rfl rfl ?_
          refine g_if_eq C dX7_orderHearings_44 (tgt := 50) rfl (fun q => ?_) (fun q => ?_)
          · replace h := it_t q h
            refine g_iinc C (lv' := [(4, .int (x4 + 1)), (0, .ref (w_r w 277)), (1, .ref (w_r w 16)), (2, .int x2), (3, .int x3)]) (v := (x4 + 1)) dX7_orderHearings_50 4 rfl rfl (by decide) rfl ?_
            refine g_goto C dX7_orderHearings_53 (tgt := 15) rfl ?_
            refine g_sub [1, 2, 3, 4, 0] (lv' := [(0, .ref (w_r w 277)), (1, .ref (w_r w 16)), (2, .int x2), (3, .int x3), (4, .int (x4 + 1))]) rfl ?_
            exact hl2 (x3, (x4 + 1)) (Option.some.inj h).symm
          · replace h := it_f q h
            refine g_iinc C (lv' := [(3, .int (x3 + 1)), (0, .ref (w_r w 277)), (1, .ref (w_r w 16)), (2, .int x2), (4, .int x4)]) (v := (x3 + 1)) dX7_orderHearings_47 3 rfl rfl (by decide) rfl ?_
            refine g_iinc C (lv' := [(4, .int (x4 + 1)), (3, .int (x3 + 1)), (0, .ref (w_r w 277)), (1, .ref (w_r w 16)), (2, .int x2)]) (v := (x4 + 1)) dX7_orderHearings_50 4 rfl rfl (by decide) rfl ?_
            refine g_goto C dX7_orderHearings_53 (tgt := 15) rfl ?_
            refine g_sub [2, 3, 4, 1, 0] (lv' := [(0, .ref (w_r w 277)), (1, .ref (w_r w 16)), (2, .int x2), (3, .int (x3 + 1)), (4, .int (x4 + 1))]) rfl ?_
            exact hl2 ((x3 + 1), (x4 + 1)) (Option.some.inj h).symm
    refine g_iload_n C dX7_orderHearings_2 2 rfl ?_
    refine g_aload_n C dX7_orderHearings_3 1 rfl ?_
    refine g_get C (.int (d 16 0)) 16 q_16 fk_P_36 rfl dX7_orderHearings_4 ?_
    refine g_icmp_ge C dX7_orderHearings_7 (tgt := 81) rfl (fun q => ?_) (fun q => ?_)
    · replace h := it_t q h
      replace h := ir_2 h hx1
      exact g_vret C hr hlk (Option.some.inj h) rfl dX7_orderHearings_81
    · replace h := it_f q h
      refine g_iconst C dX7_orderHearings_10 (v := 0) rfl ?_
      refine g_istore_n C (lv' := [(3, .int 0), (0, .ref (w_r w 277)), (1, .ref (w_r w 16)), (2, .int x2)]) dX7_orderHearings_11 (by decide) rfl ?_
      refine g_iconst C dX7_orderHearings_12 (v := 0) rfl ?_
      refine g_istore C (lv' := [(4, .int 0), (3, .int 0), (0, .ref (w_r w 277)), (1, .ref (w_r w 16)), (2, .int x2)]) dX7_orderHearings_13 (by decide) rfl ?_
      refine g_sub [2, 3, 4, 1, 0] (lv' := [(0, .ref (w_r w 277)), (1, .ref (w_r w 16)), (2, .int x2), (3, .int 0), (4, .int 0)]) rfl ?_
      exact R15 x2 0 0 d h
  unfold f_P_orderHearings at h
  refine g_iconst C dX7_orderHearings_0 (v := 0) rfl ?_
  refine g_istore_n C (lv' := [(2, .int 0), (0, .ref (w_r w 277)), (1, .ref (w_r w 16))]) dX7_orderHearings_1 (by decide) rfl ?_
  refine g_sub [1, 2, 0] (lv' := [(0, .ref (w_r w 277)), (1, .ref (w_r w 16)), (2, .int 0)]) rfl ?_
  exact R2 0 d h
set_option maxHeartbeats 4000000 in
set_option maxRecDepth 100000 in
theorem m_JI_bitCount {w : wT} {l : Launch} {x0 : Int32} {d : Dt} {rE : Int32} (hO : okW w) (h : f_JI_bitCount x0 d = some rE) : gM w l yJ6_bitCount_0f7a4 cJ6_bitCount_0f7a4 1 (Option.some Jvm.ClassFile.FieldType.int) 0 [.int x0] d d (some (.int rE)) := by
  refine gM_of (by decide) [(0, .int x0)] rfl rfl ?_ hO
  intro p e R s m args below meth c C hR hr hlk
  unfold f_JI_bitCount at h
  refine g_iload_n C dJ6_bitCount_0f7a4_0 0 rfl ?_
  refine g_iload_n C dJ6_bitCount_0f7a4_1 0 rfl ?_
  refine g_iconst C dJ6_bitCount_0f7a4_2 (v := 1) rfl ?_
  refine g_iushr C dJ6_bitCount_0f7a4_3  ?_
  refine g_ldcw C (v := 1431655765) (wA 448 (by decide +kernel) (by decide +kernel)) dJ6_bitCount_0f7a4_4 ?_
  refine g_iand C dJ6_bitCount_0f7a4_7  ?_
  refine g_isub C dJ6_bitCount_0f7a4_8  ?_
  obtain ⟨t6, ht6, h⟩ := bnd_1 h
  refine g_nm ht6 ?_
  refine g_istore_n C (lv' := [(0, .int t6)]) dJ6_bitCount_0f7a4_9 (by decide) rfl ?_
  refine g_iload_n C dJ6_bitCount_0f7a4_10 0 rfl ?_
  refine g_ldcw C (v := 858993459) (wA 449 (by decide +kernel) (by decide +kernel)) dJ6_bitCount_0f7a4_11 ?_
  refine g_iand C dJ6_bitCount_0f7a4_14  ?_
  refine g_iload_n C dJ6_bitCount_0f7a4_15 0 rfl ?_
  refine g_iconst C dJ6_bitCount_0f7a4_16 (v := 2) rfl ?_
  refine g_iushr C dJ6_bitCount_0f7a4_17  ?_
  refine g_ldcw C (v := 858993459) (wA 449 (by decide +kernel) (by decide +kernel)) dJ6_bitCount_0f7a4_18 ?_
  refine g_iand C dJ6_bitCount_0f7a4_21  ?_
  refine g_iadd C dJ6_bitCount_0f7a4_22  ?_
  obtain ⟨t7, ht7, h⟩ := bnd_1 h
  refine g_nm ht7 ?_
  refine g_istore_n C (lv' := [(0, .int t7)]) dJ6_bitCount_0f7a4_23 (by decide) rfl ?_
  refine g_iload_n C dJ6_bitCount_0f7a4_24 0 rfl ?_
  refine g_iload_n C dJ6_bitCount_0f7a4_25 0 rfl ?_
  refine g_iconst C dJ6_bitCount_0f7a4_26 (v := 4) rfl ?_
  refine g_iushr C dJ6_bitCount_0f7a4_27  ?_
  refine g_iadd C dJ6_bitCount_0f7a4_28  ?_
  refine g_ldcw C (v := 252645135) (wA 450 (by decide +kernel) (by decide +kernel)) dJ6_bitCount_0f7a4_29 ?_
  refine g_iand C dJ6_bitCount_0f7a4_32  ?_
  obtain ⟨t8, ht8, h⟩ := bnd_1 h
  refine g_nm ht8 ?_
  refine g_istore_n C (lv' := [(0, .int t8)]) dJ6_bitCount_0f7a4_33 (by decide) rfl ?_
  refine g_iload_n C dJ6_bitCount_0f7a4_34 0 rfl ?_
  refine g_iload_n C dJ6_bitCount_0f7a4_35 0 rfl ?_
  refine g_bipush C dJ6_bitCount_0f7a4_36 (v := 8) (by decide) ?_
  refine g_iushr C dJ6_bitCount_0f7a4_38  ?_
  refine g_iadd C dJ6_bitCount_0f7a4_39  ?_
  obtain ⟨t9, ht9, h⟩ := bnd_1 h
  refine g_nm ht9 ?_
  refine g_istore_n C (lv' := [(0, .int t9)]) dJ6_bitCount_0f7a4_40 (by decide) rfl ?_
  refine g_iload_n C dJ6_bitCount_0f7a4_41 0 rfl ?_
  refine g_iload_n C dJ6_bitCount_0f7a4_42 0 rfl ?_
  refine g_bipush C dJ6_bitCount_0f7a4_43 (v := 16) (by decide) ?_
  refine g_iushr C dJ6_bitCount_0f7a4_45  ?_
  refine g_iadd C dJ6_bitCount_0f7a4_46  ?_
  obtain ⟨t10, ht10, h⟩ := bnd_1 h
  refine g_nm ht10 ?_
  refine g_istore_n C (lv' := [(0, .int t10)]) dJ6_bitCount_0f7a4_47 (by decide) rfl ?_
  refine g_iload_n C dJ6_bitCount_0f7a4_48 0 rfl ?_
  refine g_bipush C dJ6_bitCount_0f7a4_49 (v := 63) (by decide) ?_
  refine g_iand C dJ6_bitCount_0f7a4_51  ?_
  exact g_iret C hr hlk rfl rfl (congrArg (fun z => some (Value.int z)) (Option.some.inj h)) dJ6_bitCount_0f7a4_52
set_option maxHeartbeats 4000000 in
set_option maxRecDepth 100000 in
theorem m_P_isPossible {w : wT} {l : Launch} {x1 : Int32} {d : Dt} {rE : Int32} (hO : okW w) (h : f_P_isPossible x1 d = some rE) : gM w l yX7_isPossible cX7_isPossible 3 (Option.some Jvm.ClassFile.FieldType.boolean) 1 [.ref (w_r w 277), .int x1] d d (some (.int rE)) := by
  refine gM_of (by decide) [(0, .ref (w_r w 277)), (1, .int x1)] rfl rfl ?_ hO
  intro p e R s m args below meth c C hR hr hlk
  have R2 : ∀ (x1 : Int32) (x2 : Int32), f_P_isPossible_2 x1 x2 d = some rE → gG w p l e R s m args below meth c 3 0 0 (gE w below args s d (some (.int rE))) d [(0, .ref (w_r w 277)), (1, .int x1), (2, .int x2)] 2 [] := by
    intro x1 x2   h
    refine iter_ind (G := fun s_ : (Int32) => gG w p l e R s m args below meth c 3 0 0 (gE w below args s d (some (.int rE))) d [(0, .ref (w_r w 277)), (1, .int x1), (2, .int s_)] 2 []) ?_ fu _ h
    clear h
    intro x2 y1 h hl1 hx1
    show gG w p l e R s m args below meth c 3 0 0 (gE w below args s d (some (.int rE))) d [(0, .ref (w_r w 277)), (1, .int x1), (2, .int x2)] 2 []
    unfold st_P_isPossible_2 at h
    refine g_iload_n C dX7_isPossible_2 2 rfl ?_
    refine g_aload_n C dX7_isPossible_3 0 rfl ?_
    refine g_get C (.ref (w_r w 280)) 277 q_277 fk_P_18 rfl dX7_isPossible_4 ?_
    refine g_alen C 13 280 q_280 rfl 0 rfl (by decide) dX7_isPossible_7 ?_
    refine g_icmp_ge C dX7_isPossible_8 (tgt := 34) rfl (fun q => ?_) (fun q => ?_)
    · replace h := it_t q h
      replace h := ir_2 h hx1
      refine g_iconst C dX7_isPossible_34 (v := 1) rfl ?_
      exact g_iret C hr hlk rfl rfl (congrArg (fun z => some (Value.int z)) (Option.some.inj h)) dX7_isPossible_35
    · replace h := it_f q h
      refine g_iload_n C dX7_isPossible_11 1 rfl ?_
      refine g_aload_n C dX7_isPossible_12 0 rfl ?_
      refine g_get C (.ref (w_r w 280)) 277 q_277 fk_P_18 rfl dX7_isPossible_13 ?_
      refine g_iload_n C dX7_isPossible_16 2 rfl ?_
      have hg2 := gd_1 h
      replace h := gd_2 h
      refine g_iald C 280 q_280 hg2 _ rfl dX7_isPossible_17 ?_
      refine g_iand C dX7_isPossible_18  ?_
      obtain ⟨r3, hc4, h⟩ := ob1_1 h
      refine g_callSi C sk_P_59 hR rfl (m_JI_bitCount C.2.2.2.2.2.2.1 hc4) rfl rfl rfl dX7_isPossible_19 rfl rfl ?_
      refine g_iload_n C dX7_isPossible_22 2 rfl ?_
      refine g_icmp_le C dX7_isPossible_23 (tgt := 28) rfl (fun q => ?_) (fun q => ?_)
      · replace h := it_t q h
        refine g_iinc C (lv' := [(2, .int (x2 + 1)), (0, .ref (w_r w 277)), (1, .int x1)]) (v := (x2 + 1)) dX7_isPossible_28 2 rfl rfl (by decide) rfl ?_
        refine g_goto C dX7_isPossible_31 (tgt := 2) rfl ?_
        refine g_sub [1, 2, 0] (lv' := [(0, .ref (w_r w 277)), (1, .int x1), (2, .int (x2 + 1))]) rfl ?_
        exact hl1 (x2 + 1) (Option.some.inj h).symm
      · replace h := it_f q h
        replace h := ir_2 h hx1
        refine g_iconst C dX7_isPossible_26 (v := 0) rfl ?_
        exact g_iret C hr hlk rfl rfl (congrArg (fun z => some (Value.int z)) (Option.some.inj h)) dX7_isPossible_27
  unfold f_P_isPossible at h
  refine g_iconst C dX7_isPossible_0 (v := 0) rfl ?_
  refine g_istore_n C (lv' := [(2, .int 0), (0, .ref (w_r w 277)), (1, .int x1)]) dX7_isPossible_1 (by decide) rfl ?_
  refine g_sub [1, 2, 0] (lv' := [(0, .ref (w_r w 277)), (1, .int x1), (2, .int 0)]) rfl ?_
  exact R2 x1 0 h
set_option maxHeartbeats 4000000 in
set_option maxRecDepth 100000 in
theorem m_P_findDueSets {w : wT} {l : Launch} {x2 : Int32} {d : Dt} {dE : Dt} (hO : okW w) (h : f_P_findDueSets x2 d = some dE) : gM w l yX7_findDueSets cX7_findDueSets 5 (Option.none : Option Jvm.ClassFile.FieldType) 0 [.ref (w_r w 277), .ref (w_r w 16), .int x2] d dE none := by
  refine gM_of (by decide) [(0, .ref (w_r w 277)), (1, .ref (w_r w 16)), (2, .int x2)] rfl rfl ?_ hO
  intro p e R s m args below meth c C hR hr hlk
  have R2 : ∀ (x2 : Int32) (x3 : Int32) (d : Dt), f_P_findDueSets_2 x2 x3 d = some dE → gG w p l e R s m args below meth c 5 0 0 (gE w below args s dE none) d [(0, .ref (w_r w 277)), (1, .ref (w_r w 16)), (2, .int x2), (3, .int x3)] 2 [] := by
    intro x2 x3 d  h
    refine iter_ind (G := fun s_ : (Int32 × Dt) => gG w p l e R s m args below meth c 5 0 0 (gE w below args s dE none) s_.2 [(0, .ref (w_r w 277)), (1, .ref (w_r w 16)), (2, .int x2), (3, .int s_.1)] 2 []) ?_ fu _ h
    clear h
    intro s_ y1 h hl1 hx1
    obtain ⟨x3, d⟩ := s_
    show gG w p l e R s m args below meth c 5 0 0 (gE w below args s dE none) d [(0, .ref (w_r w 277)), (1, .ref (w_r w 16)), (2, .int x2), (3, .int x3)] 2 []
    dsimp only at h
    unfold st_P_findDueSets_2 at h
    have R21 : ∀ (x3 : Int32) (x4 : Int32) (d : Dt), f_P_findDueSets_21 x2 x3 x4 d = some y1 → gG w p l e R s m args below meth c 5 0 0 (gE w below args s dE none) d [(0, .ref (w_r w 277)), (1, .ref (w_r w 16)), (2, .int x2), (3, .int x3), (4, .int x4)] 21 [] := by
      intro x3 x4 d  h
      refine iter_ind (G := fun s_ : (Int32 × Dt) => gG w p l e R s m args below meth c 5 0 0 (gE w below args s dE none) s_.2 [(0, .ref (w_r w 277)), (1, .ref (w_r w 16)), (2, .int x2), (3, .int x3), (4, .int s_.1)] 21 []) ?_ fu _ h
      clear h
      intro s_ y2 h hl2 hx2
      obtain ⟨x4, d⟩ := s_
      show gG w p l e R s m args below meth c 5 0 0 (gE w below args s dE none) d [(0, .ref (w_r w 277)), (1, .ref (w_r w 16)), (2, .int x2), (3, .int x3), (4, .int x4)] 21 []
      dsimp only at h
      unfold st_P_findDueSets_21 at h
      refine g_iload C dX7_findDueSets_21 4 rfl ?_
      refine g_aload_n C dX7_findDueSets_23 1 rfl ?_
      refine g_get C (.int (d 16 0)) 16 q_16 fk_P_36 rfl dX7_findDueSets_24 ?_
      refine g_icmp_ge C dX7_findDueSets_27 (tgt := 62) rfl (fun q => ?_) (fun q => ?_)
      · replace h := it_t q h
        replace h := ir_2 h hx2
        refine g_iinc C (lv' := [(3, .int (x3 + 1)), (0, .ref (w_r w 277)), (1, .ref (w_r w 16)), (2, .int x2), (4, .int x4)]) (v := (x3 + 1)) dX7_findDueSets_62 3 rfl rfl (by decide) rfl ?_
        refine g_goto C dX7_findDueSets_65 (tgt := 2) rfl ?_
        refine g_sub [1, 2, 3, 0] (lv' := [(0, .ref (w_r w 277)), (1, .ref (w_r w 16)), (2, .int x2), (3, .int (x3 + 1))]) rfl ?_
        exact hl1 ((x3 + 1), d) (Option.some.inj h).symm
      · replace h := it_f q h
        refine g_aload_n C dX7_findDueSets_30 1 rfl ?_
        refine g_get C (.ref (w_r w 19)) 16 q_16 fk_P_56 rfl dX7_findDueSets_31 ?_
        refine g_iload C dX7_findDueSets_34 4 rfl ?_
        have hg3 := gd_1 h
        replace h := gd_2 h
        refine g_iald C 19 q_19 hg3 _ rfl dX7_findDueSets_36 ?_
        refine g_iload_n C dX7_findDueSets_37 2 rfl ?_
        refine g_isub C dX7_findDueSets_38  ?_
        refine g_iload_n C dX7_findDueSets_39 3 rfl ?_
        refine g_icmp_gt C dX7_findDueSets_40 (tgt := 56) rfl (fun q => ?_) (fun q => ?_)
        · replace h := it_t q h
          refine g_iinc C (lv' := [(4, .int (x4 + 1)), (0, .ref (w_r w 277)), (1, .ref (w_r w 16)), (2, .int x2), (3, .int x3)]) (v := (x4 + 1)) dX7_findDueSets_56 4 rfl rfl (by decide) rfl ?_
          refine g_goto C dX7_findDueSets_59 (tgt := 21) rfl ?_
          refine g_sub [1, 2, 3, 4, 0] (lv' := [(0, .ref (w_r w 277)), (1, .ref (w_r w 16)), (2, .int x2), (3, .int x3), (4, .int (x4 + 1))]) rfl ?_
          exact hl2 ((x4 + 1), d) (Option.some.inj h).symm
        · replace h := it_f q h
          refine g_aload_n C dX7_findDueSets_43 0 rfl ?_
          refine g_get C (.ref (w_r w 280)) 277 q_277 fk_P_18 rfl dX7_findDueSets_44 ?_
          refine g_iload_n C dX7_findDueSets_47 3 rfl ?_
          refine g_dup2 C dX7_findDueSets_48 rfl rfl ?_
          have hg4 := gd_1 h
          replace h := gd_2 h
          refine g_iald C 280 q_280 hg4 _ rfl dX7_findDueSets_49 ?_
          refine g_iconst C dX7_findDueSets_50 (v := 1) rfl ?_
          refine g_iload C dX7_findDueSets_51 4 rfl ?_
          refine g_ishl C dX7_findDueSets_53  ?_
          refine g_ior C dX7_findDueSets_54  ?_
          have hg5 := gd_1 h
          replace h := gd_2 h
          refine g_iast C 280 q_280 hg5 _ rfl  dX7_findDueSets_55 ?_
          obtain ⟨d6, hd6, h⟩ := bnd_1 h
          refine g_nmD hd6 ?_
          refine g_iinc C (lv' := [(4, .int (x4 + 1)), (0, .ref (w_r w 277)), (1, .ref (w_r w 16)), (2, .int x2), (3, .int x3)]) (v := (x4 + 1)) dX7_findDueSets_56 4 rfl rfl (by decide) rfl ?_
          refine g_goto C dX7_findDueSets_59 (tgt := 21) rfl ?_
          refine g_sub [1, 2, 3, 4, 0] (lv' := [(0, .ref (w_r w 277)), (1, .ref (w_r w 16)), (2, .int x2), (3, .int x3), (4, .int (x4 + 1))]) rfl ?_
          exact hl2 ((x4 + 1), d6) (Option.some.inj h).symm
    refine g_iload_n C dX7_findDueSets_2 3 rfl ?_
    refine g_aload_n C dX7_findDueSets_3 0 rfl ?_
    refine g_get C (.ref (w_r w 280)) 277 q_277 fk_P_18 rfl dX7_findDueSets_4 ?_
    refine g_alen C 13 280 q_280 rfl 0 rfl (by decide) dX7_findDueSets_7 ?_
    refine g_icmp_ge C dX7_findDueSets_8 (tgt := 68) rfl (fun q => ?_) (fun q => ?_)
    · replace h := it_t q h
      replace h := ir_2 h hx1
      exact g_vret C hr hlk (Option.some.inj h) rfl dX7_findDueSets_68
    · replace h := it_f q h
      refine g_aload_n C dX7_findDueSets_11 0 rfl ?_
      refine g_get C (.ref (w_r w 280)) 277 q_277 fk_P_18 rfl dX7_findDueSets_12 ?_
      refine g_iload_n C dX7_findDueSets_15 3 rfl ?_
      refine g_iconst C dX7_findDueSets_16 (v := 0) rfl ?_
      have hg7 := gd_1 h
      replace h := gd_2 h
      refine g_iast C 280 q_280 hg7 _ rfl  dX7_findDueSets_17 ?_
      obtain ⟨d8, hd8, h⟩ := bnd_1 h
      refine g_nmD hd8 ?_
      refine g_iconst C dX7_findDueSets_18 (v := 0) rfl ?_
      refine g_istore C (lv' := [(4, .int 0), (0, .ref (w_r w 277)), (1, .ref (w_r w 16)), (2, .int x2), (3, .int x3)]) dX7_findDueSets_19 (by decide) rfl ?_
      refine g_sub [1, 2, 3, 4, 0] (lv' := [(0, .ref (w_r w 277)), (1, .ref (w_r w 16)), (2, .int x2), (3, .int x3), (4, .int 0)]) rfl ?_
      exact R21 x3 0 d8 h
  unfold f_P_findDueSets at h
  refine g_iconst C dX7_findDueSets_0 (v := 0) rfl ?_
  refine g_istore_n C (lv' := [(3, .int 0), (0, .ref (w_r w 277)), (1, .ref (w_r w 16)), (2, .int x2)]) dX7_findDueSets_1 (by decide) rfl ?_
  refine g_sub [1, 2, 3, 0] (lv' := [(0, .ref (w_r w 277)), (1, .ref (w_r w 16)), (2, .int x2), (3, .int 0)]) rfl ?_
  exact R2 x2 0 d h
set_option maxHeartbeats 4000000 in
set_option maxRecDepth 100000 in
theorem m_P_orderVisits {w : wT} {l : Launch} {d : Dt} {dE : Dt} (hO : okW w) (h : f_P_orderVisits  d = some dE) : gM w l yX7_orderVisits cX7_orderVisits 6 (Option.none : Option Jvm.ClassFile.FieldType) 1 [.ref (w_r w 277), .ref (w_r w 16)] d dE none := by
  refine gM_of (by decide) [(0, .ref (w_r w 277)), (1, .ref (w_r w 16))] rfl rfl ?_ hO
  intro p e R s m args below meth c C hR hr hlk
  have R2 : ∀ (x2 : Int32) (d : Dt), f_P_orderVisits_2 x2 d = some dE → gG w p l e R s m args below meth c 6 0 0 (gE w below args s dE none) d [(0, .ref (w_r w 277)), (1, .ref (w_r w 16)), (2, .int x2)] 2 [] := by
    intro x2 d  h
    refine iter_ind (G := fun s_ : (Int32 × Dt) => gG w p l e R s m args below meth c 6 0 0 (gE w below args s dE none) s_.2 [(0, .ref (w_r w 277)), (1, .ref (w_r w 16)), (2, .int s_.1)] 2 []) ?_ fu _ h
    clear h
    intro s_ y1 h hl1 hx1
    obtain ⟨x2, d⟩ := s_
    show gG w p l e R s m args below meth c 6 0 0 (gE w below args s dE none) d [(0, .ref (w_r w 277)), (1, .ref (w_r w 16)), (2, .int x2)] 2 []
    dsimp only at h
    unfold st_P_orderVisits_2 at h
    have R15 : ∀ (x2 : Int32) (x3 : Int32) (x4 : Int32) (d : Dt), f_P_orderVisits_15 x2 x3 x4 d = some y1 → gG w p l e R s m args below meth c 6 0 0 (gE w below args s dE none) d [(0, .ref (w_r w 277)), (1, .ref (w_r w 16)), (2, .int x2), (3, .int x3), (4, .int x4)] 15 [] := by
      intro x2 x3 x4 d  h
      refine iter_ind (G := fun s_ : (Int32 × Int32) => gG w p l e R s m args below meth c 6 0 0 (gE w below args s dE none) d [(0, .ref (w_r w 277)), (1, .ref (w_r w 16)), (2, .int x2), (3, .int s_.1), (4, .int s_.2)] 15 []) ?_ fu _ h
      clear h
      intro s_ y2 h hl2 hx2
      obtain ⟨x3, x4⟩ := s_
      show gG w p l e R s m args below meth c 6 0 0 (gE w below args s dE none) d [(0, .ref (w_r w 277)), (1, .ref (w_r w 16)), (2, .int x2), (3, .int x3), (4, .int x4)] 15 []
      dsimp only at h
      unfold st_P_orderVisits_15 at h
      refine g_iload C dX7_orderVisits_15 4 rfl ?_
      refine g_aload_n C dX7_orderVisits_17 1 rfl ?_
      refine g_get C (.int (d 16 0)) 16 q_16 fk_P_36 rfl dX7_orderVisits_18 ?_
      refine g_icmp_ge C dX7_orderVisits_21 (tgt := 69) rfl (fun q => ?_) (fun q => ?_)
      · replace h := it_t q h
        replace h := ir_2 h hx2
        refine g_aload_n C dX7_orderVisits_69 0 rfl ?_
        refine g_get C (.ref (w_r w 279)) 277 q_277 fk_P_15 rfl dX7_orderVisits_70 ?_
        refine g_iload_n C dX7_orderVisits_73 3 rfl ?_
        refine g_iload_n C dX7_orderVisits_74 2 rfl ?_
        have hg3 := gd_1 h
        replace h := gd_2 h
        refine g_iast C 279 q_279 hg3 _ rfl  dX7_orderVisits_75 ?_
        obtain ⟨d4, hd4, h⟩ := bnd_1 h
        refine g_nmD hd4 ?_
        refine g_iinc C (lv' := [(2, .int (x2 + 1)), (0, .ref (w_r w 277)), (1, .ref (w_r w 16)), (3, .int x3), (4, .int x4)]) (v := (x2 + 1)) dX7_orderVisits_76 2 rfl rfl (by decide) rfl ?_
        refine g_goto C dX7_orderVisits_79 (tgt := 2) rfl ?_
        refine g_sub [1, 2, 0] (lv' := [(0, .ref (w_r w 277)), (1, .ref (w_r w 16)), (2, .int (x2 + 1))]) rfl ?_
        exact hl1 ((x2 + 1), d4) (Option.some.inj h).symm
      · replace h := it_f q h
        refine g_aload_n C dX7_orderVisits_24 1 rfl ?_
        refine g_get C (.ref (w_r w 20)) 16 q_16 fk_P_64 rfl dX7_orderVisits_25 ?_
        refine g_iload C dX7_orderVisits_28 4 rfl ?_
        have hg5 := gd_1 h
        replace h := gd_2 h
        refine g_iald C 20 q_20 hg5 _ rfl dX7_orderVisits_30 ?_
        refine g_aload_n C dX7_orderVisits_31 1 rfl ?_
        refine g_get C (.ref (w_r w 20)) 16 q_16 fk_P_64 rfl dX7_orderVisits_32 ?_
        refine g_iload_n C dX7_orderVisits_35 2 rfl ?_
        have hg6 := gd_1 h
        replace h := gd_2 h
        refine g_iald C 20 q_20 hg6 _ rfl dX7_orderVisits_36 ?_
        refine g_isub C dX7_orderVisits_37  ?_
        refine g_istore C (lv' := [(5, .int ((d 20 x4.toNatClampNeg) - (d 20 x2.toNatClampNeg))), (0, .ref (w_r w 277)), (1, .ref (w_r w 16)), (2, .int x2), (3, .int x3), (4, .int x4)]) dX7_orderVisits_38 (by decide) rfl ?_
        refine g_iload C dX7_orderVisits_40 0 rfl ?_
        refine g_if_gt C dX7_orderVisits_42 (tgt := 60) rfl (fun q => ?_) (fun q => ?_)
        · replace h := it_t q h
          refine g_iinc C (lv' := [(3, .int (x3 + 1)), (5, .int ((d 20 x4.toNatClampNeg) - (d 20 x2.toNatClampNeg))), (0, .ref (w_r w 277)), (1, .ref (w_r w 16)), (2, .int x2), (4, .int x4)]) (v := (x3 + 1)) dX7_orderVisits_60 4 rfl rfl (by decide) rfl ?_
          refine g_iinc C (lv' := [(4, .int (x4 + 1)), (3, .int (x3 + 1)), (5, .int ((d 20 x4.toNatClampNeg) - (d 20 x2.toNatClampNeg))), (0, .ref (w_r w 277)), (1, .ref (w_r w 16)), (2, .int x2)]) (v := (x4 + 1)) dX7_orderVisits_63 5 rfl rfl (by decide) rfl ?_
          refine g_goto C dX7_orderVisits_66 (tgt := 15) rfl ?_
          refine g_sub [3, 4, 5, 1, 0] (lv' := [(0, .ref (w_r w 277)), (1, .ref (w_r w 16)), (2, .int x2), (3, .int (x3 + 1)), (4, .int (x4 + 1))]) rfl ?_
          exact hl2 ((x3 + 1), (x4 + 1)) (Option.some.inj h).symm
        · replace h := it_f q h
          refine g_iload C dX7_orderVisits_45 0 rfl ?_
          refine g_if_ne C dX7_orderVisits_47 (tgt := 63) rfl (fun q => ?_) (fun q => ?_)
          · replace h := it_f q h
            refine g_iinc C (lv' := [(4, .int (x4 + 1)), (5, .int ((d 20 x4.toNatClampNeg) - (d 20 x2.toNatClampNeg))), (0, .ref (w_r w 277)), (1, .ref (w_r w 16)), (2, .int x2), (3, .int x3)]) (v := (x4 + 1)) dX7_orderVisits_63 5 rfl rfl (by decide) rfl ?_
            refine g_goto C dX7_orderVisits_66 (tgt := 15) rfl ?_
            refine g_sub [2, 3, 4, 5, 0] (lv' := [(0, .ref (w_r w 277)), (1, .ref (w_r w 16)), (2, .int x2), (3, .int x3), (4, .int (x4 + 1))]) rfl ?_
            exact hl2 (x3, (x4 + 1)) (Option.some.inj h).symm
          · replace h := it_t q h
            refine g_aload_n C dX7_orderVisits_50 2 rfl ?_
            refine g_iload C dX7_orderVisits_51 5 rfl ?_
            refine g_iload_n C dX7_orderVisits_53 3 rfl ?_
            obtain ⟨r7, hc8, h⟩ := ob1_1 h
            refine g_callSi C sk_P_67 hR rfl (m_P_isDueBefore C.2.2.2.2.2.2.1 hc8) rfl rfl rfl dX7_orderVisits_54 rfl rfl ?_
            refine g_if_eq C dX7_orderVisits_57 (tgt := 63) rfl (fun q => ?_) (fun q => ?_)
            · replace h := it_t q h
              refine g_iinc C (lv' := [(4, .int (x4 + 1)), (5, .int ((d 20 x4.toNatClampNeg) - (d 20 x2.toNatClampNeg))), (0, .ref (w_r w 277)), (1, .ref (w_r w 16)), (2, .int x2), (3, .int x3)]) (v := (x4 + 1)) dX7_orderVisits_63 5 rfl rfl (by decide) rfl ?_
              refine g_goto C dX7_orderVisits_66 (tgt := 15) rfl ?_
              refine g_sub [2, 3, 4, 5, 0] (lv' := [(0, .ref (w_r w 277)), (1, .ref (w_r w 16)), (2, .int x2), (3, .int x3), (4, .int (x4 + 1))]) rfl ?_
              exact hl2 (x3, (x4 + 1)) (Option.some.inj h).symm
            · replace h := it_f q h
              refine g_iinc C (lv' := [(3, .int (x3 + 1)), (5, .int ((d 20 x4.toNatClampNeg) - (d 20 x2.toNatClampNeg))), (0, .ref (w_r w 277)), (1, .ref (w_r w 16)), (2, .int x2), (4, .int x4)]) (v := (x3 + 1)) dX7_orderVisits_60 4 rfl rfl (by decide) rfl ?_
              refine g_iinc C (lv' := [(4, .int (x4 + 1)), (3, .int (x3 + 1)), (5, .int ((d 20 x4.toNatClampNeg) - (d 20 x2.toNatClampNeg))), (0, .ref (w_r w 277)), (1, .ref (w_r w 16)), (2, .int x2)]) (v := (x4 + 1)) dX7_orderVisits_63 5 rfl rfl (by decide) rfl ?_
              refine g_goto C dX7_orderVisits_66 (tgt := 15) rfl ?_
              refine g_sub [3, 4, 5, 1, 0] (lv' := [(0, .ref (w_r w 277)), (1, .ref (w_r w 16)), (2, .int x2), (3, .int (x3 + 1)), (4, .int (x4 + 1))]) rfl ?_
              exact hl2 ((x3 + 1), (x4 + 1)) (Option.some.inj h).symm
    refine g_iload_n C dX7_orderVisits_2 2 rfl ?_
    refine g_aload_n C dX7_orderVisits_3 1 rfl ?_
    refine g_get C (.int (d 16 0)) 16 q_16 fk_P_36 rfl dX7_orderVisits_4 ?_
    refine g_icmp_ge C dX7_orderVisits_7 (tgt := 82) rfl (fun q => ?_) (fun q => ?_)
    · replace h := it_t q h
      replace h := ir_2 h hx1
      exact g_vret C hr hlk (Option.some.inj h) rfl dX7_orderVisits_82
    · replace h := it_f q h
      refine g_iconst C dX7_orderVisits_10 (v := 0) rfl ?_
      refine g_istore_n C (lv' := [(3, .int 0), (0, .ref (w_r w 277)), (1, .ref (w_r w 16)), (2, .int x2)]) dX7_orderVisits_11 (by decide) rfl ?_
      refine g_iconst C dX7_orderVisits_12 (v := 0) rfl ?_
      refine g_istore C (lv' := [(4, .int 0), (3, .int 0), (0, .ref (w_r w 277)), (1, .ref (w_r w 16)), (2, .int x2)]) dX7_orderVisits_13 (by decide) rfl ?_
      refine g_sub [2, 3, 4, 1, 0] (lv' := [(0, .ref (w_r w 277)), (1, .ref (w_r w 16)), (2, .int x2), (3, .int 0), (4, .int 0)]) rfl ?_
      exact R15 x2 0 0 d h
  unfold f_P_orderVisits at h
  refine g_iconst C dX7_orderVisits_0 (v := 0) rfl ?_
  refine g_istore_n C (lv' := [(2, .int 0), (0, .ref (w_r w 277)), (1, .ref (w_r w 16))]) dX7_orderVisits_1 (by decide) rfl ?_
  refine g_sub [1, 2, 0] (lv' := [(0, .ref (w_r w 277)), (1, .ref (w_r w 16)), (2, .int 0)]) rfl ?_
  exact R2 0 d h
set_option maxHeartbeats 4000000 in
set_option maxRecDepth 100000 in
theorem m_P_make {w : wT} {l : Launch} {x2 : Int32} {d : Dt} {dE : Dt} (hO : okW w) (h : f_P_make x2 d = some dE) : gM w l yX7_make cX7_make 5 (Option.none : Option Jvm.ClassFile.FieldType) 2 [.ref (w_r w 277), .ref (w_r w 16), .int x2] d dE none := by
  refine gM_of (by decide) [(0, .ref (w_r w 277)), (1, .ref (w_r w 16)), (2, .int x2)] rfl rfl ?_ hO
  intro p e R s m args below meth c C hR hr hlk
  have R23 : ∀ (x3 : Int32) (d : Dt), f_P_make_23 x3 d = some dE → gG w p l e R s m args below meth c 5 0 0 (gE w below args s dE none) d [(0, .ref (w_r w 277)), (1, .ref (w_r w 16)), (3, .int x3)] 23 [] := by
    intro x3 d  h
    refine iter_ind (G := fun s_ : (Int32 × Dt) => gG w p l e R s m args below meth c 5 0 0 (gE w below args s dE none) s_.2 [(0, .ref (w_r w 277)), (1, .ref (w_r w 16)), (3, .int s_.1)] 23 []) ?_ fu _ h
    clear h
    intro s_ y1 h hl1 hx1
    obtain ⟨x3, d⟩ := s_
    show gG w p l e R s m args below meth c 5 0 0 (gE w below args s dE none) d [(0, .ref (w_r w 277)), (1, .ref (w_r w 16)), (3, .int x3)] 23 []
    dsimp only at h
    unfold st_P_make_23 at h
    refine g_iload_n C dX7_make_23 2 rfl ?_
    refine g_aload_n C dX7_make_24 1 rfl ?_
    refine g_get C (.int (d 16 0)) 16 q_16 fk_P_36 rfl dX7_make_25 ?_
    refine g_icmp_ge C dX7_make_28 (tgt := 77) rfl (fun q => ?_) (fun q => ?_)
    · replace h := it_t q h
      replace h := ir_2 h hx1
      refine g_aload_n C dX7_make_77 0 rfl ?_
      refine g_aload_n C dX7_make_78 1 rfl ?_
      obtain ⟨d9, hc10, h⟩ := ob1_1 h
      refine g_callVv C 277 q_277 vk_P_43 hR rfl (m_P_orderHearings C.2.2.2.2.2.2.1 hc10) rfl rfl rfl dX7_make_79 rfl rfl ?_
      exact g_vret C hr hlk (Option.some.inj h) rfl dX7_make_82
    · replace h := it_f q h
      refine g_aload_n C dX7_make_31 0 rfl ?_
      refine g_get C (.int (d 277 1)) 277 q_277 fk_P_29 rfl dX7_make_32 ?_
      refine g_iconst C dX7_make_35 (v := 1) rfl ?_
      refine g_aload_n C dX7_make_36 0 rfl ?_
      refine g_get C (.ref (w_r w 279)) 277 q_277 fk_P_15 rfl dX7_make_37 ?_
      refine g_iload_n C dX7_make_40 2 rfl ?_
      have hg11 := gd_1 h
      replace h := gd_2 h
      refine g_iald C 279 q_279 hg11 _ rfl dX7_make_41 ?_
      refine g_ishl C dX7_make_42  ?_
      refine g_ior C dX7_make_43  ?_
      refine g_istore C (lv' := [(4, .int ((d 277 1) ||| (1 <<< ((d 279 x3.toNatClampNeg) &&& 31)))), (0, .ref (w_r w 277)), (1, .ref (w_r w 16)), (3, .int x3)]) dX7_make_44 (by decide) rfl ?_
      refine g_aload_n C dX7_make_46 1 rfl ?_
      refine g_iload C dX7_make_47 0 rfl ?_
      obtain ⟨r12, hc13, h⟩ := ob1_1 h
      refine g_callVi C 277 q_277 vk_P_39 hR rfl (m_P_isPossible C.2.2.2.2.2.2.1 hc13) rfl rfl rfl dX7_make_49 rfl rfl ?_
      refine g_if_eq C dX7_make_52 (tgt := 71) rfl (fun q => ?_) (fun q => ?_)
      · replace h := it_t q h
        refine g_iinc C (lv' := [(3, .int (x3 + 1)), (4, .int ((d 277 1) ||| (1 <<< ((d 279 x3.toNatClampNeg) &&& 31)))), (0, .ref (w_r w 277)), (1, .ref (w_r w 16))]) (v := (x3 + 1)) dX7_make_71 3 rfl rfl (by decide) rfl ?_
        refine g_goto C dX7_make_74 (tgt := 23) rfl ?_
        refine g_sub [2, 3, 0] (lv' := [(0, .ref (w_r w 277)), (1, .ref (w_r w 16)), (3, .int (x3 + 1))]) rfl ?_
        exact hl1 ((x3 + 1), d) (Option.some.inj h).symm
      · replace h := it_f q h
        refine g_aload_n C dX7_make_55 1 rfl ?_
        refine g_iload C dX7_make_56 0 rfl ?_
        refine g_put C 277 q_277 pk_P_29 rfl rfl dX7_make_58 ?_
        obtain ⟨d14, hd14, h⟩ := bnd_1 h
        refine g_nmD hd14 ?_
        refine g_aload_n C dX7_make_61 1 rfl ?_
        refine g_dup C dX7_make_62 rfl ?_
        refine g_get C (.int (d14 277 0)) 277 q_277 fk_P_33 rfl dX7_make_63 ?_
        refine g_iconst C dX7_make_66 (v := 1) rfl ?_
        refine g_iadd C dX7_make_67  ?_
        refine g_put C 277 q_277 pk_P_33 rfl rfl dX7_make_68 ?_
        obtain ⟨d15, hd15, h⟩ := bnd_1 h
        refine g_nmD hd15 ?_
        refine g_iinc C (lv' := [(3, .int (x3 + 1)), (4, .int ((d 277 1) ||| (1 <<< ((d 279 x3.toNatClampNeg) &&& 31)))), (0, .ref (w_r w 277)), (1, .ref (w_r w 16))]) (v := (x3 + 1)) dX7_make_71 3 rfl rfl (by decide) rfl ?_
        refine g_goto C dX7_make_74 (tgt := 23) rfl ?_
        refine g_sub [2, 3, 0] (lv' := [(0, .ref (w_r w 277)), (1, .ref (w_r w 16)), (3, .int (x3 + 1))]) rfl ?_
        exact hl1 ((x3 + 1), d15) (Option.some.inj h).symm
  unfold f_P_make at h
  refine g_aload_n C dX7_make_0 0 rfl ?_
  refine g_aload_n C dX7_make_1 1 rfl ?_
  refine g_iload_n C dX7_make_2 2 rfl ?_
  obtain ⟨d16, hc17, h⟩ := ob1_1 h
  refine g_callVv C 277 q_277 vk_P_21 hR rfl (m_P_findDueSets C.2.2.2.2.2.2.1 hc17) rfl rfl rfl dX7_make_3 rfl rfl ?_
  refine g_aload_n C dX7_make_6 0 rfl ?_
  refine g_aload_n C dX7_make_7 1 rfl ?_
  obtain ⟨d18, hc19, h⟩ := ob1_1 h
  refine g_callVv C 277 q_277 vk_P_25 hR rfl (m_P_orderVisits C.2.2.2.2.2.2.1 hc19) rfl rfl rfl dX7_make_8 rfl rfl ?_
  refine g_aload_n C dX7_make_11 0 rfl ?_
  refine g_iconst C dX7_make_12 (v := 0) rfl ?_
  refine g_put C 277 q_277 pk_P_29 rfl rfl dX7_make_13 ?_
  obtain ⟨d20, hd20, h⟩ := bnd_1 h
  refine g_nmD hd20 ?_
  refine g_aload_n C dX7_make_16 0 rfl ?_
  refine g_iconst C dX7_make_17 (v := 0) rfl ?_
  refine g_put C 277 q_277 pk_P_33 rfl rfl dX7_make_18 ?_
  obtain ⟨d21, hd21, h⟩ := bnd_1 h
  refine g_nmD hd21 ?_
  refine g_iconst C dX7_make_21 (v := 0) rfl ?_
  refine g_istore_n C (lv' := [(3, .int 0), (0, .ref (w_r w 277)), (1, .ref (w_r w 16)), (2, .int x2)]) dX7_make_22 (by decide) rfl ?_
  refine g_sub [1, 2, 0] (lv' := [(0, .ref (w_r w 277)), (1, .ref (w_r w 16)), (3, .int 0)]) rfl ?_
  exact R23 0 d21 h
set_option maxHeartbeats 4000000 in
set_option maxRecDepth 100000 in
theorem m_G_join {w : wT} {l : Launch} {x1 x2 x3 : Int32} {d : Dt} {dE : Dt} (hO : okW w) (h : f_G_join x1 x2 x3 d = some dE) : gM w l yX2_join cX2_join 8 (Option.none : Option Jvm.ClassFile.FieldType) 0 [.ref (w_r w 281), .int x1, .int x2, .int x3] d dE none := by
  refine gM_of (by decide) [(0, .ref (w_r w 281)), (1, .int x1), (2, .int x2), (3, .int x3)] rfl rfl ?_ hO
  intro p e R s m args below meth c C hR hr hlk
  have R67 : ∀ (v1 : Int32) (v2 : Int32) (d : Dt), f_G_join_67  v1 v2 d = some dE → gG w p l e R s m args below meth c 8 0 0 (gE w below args s dE none) d [] 67 [.int v2, .int v1, .ref (w_r w 284)] := by
    intro  v1 v2 d  h
    unfold f_G_join_67 at h
    have hg6 := gd_1 h
    replace h := gd_2 h
    have hg7 := gd_1 h
    replace h := gd_2 h
    refine g_zast C 284 q_284 hg6 _ rfl (nar_v hg7) dX2_join_67 ?_
    obtain ⟨d8, hd8, h⟩ := bnd_1 h
    refine g_nmD hd8 ?_
    exact g_vret C hr hlk (Option.some.inj h) rfl dX2_join_68
  have R62 : ∀ (v1 : Int32) (d : Dt), f_G_join_62  v1 d = some dE → gG w p l e R s m args below meth c 8 0 0 (gE w below args s dE none) d [] 62 [.int v1, .ref (w_r w 284)] := by
    intro  v1 d  h
    unfold f_G_join_62 at h
    refine g_iconst C dX2_join_62 (v := 1) rfl ?_
    refine g_goto C dX2_join_63 (tgt := 67) rfl ?_
    exact R67 v1 1 d h
  have R104 : ∀ (x4 : Int32) (x5 : Int32) (x6 : Int32) (x7 : Int32) (d : Dt), f_G_join_104 x4 x5 x6 x7 d = some dE → gG w p l e R s m args below meth c 8 0 0 (gE w below args s dE none) d [(0, .ref (w_r w 281)), (4, .int x4), (5, .int x5), (6, .int x6), (7, .int x7)] 104 [] := by
    intro x4 x5 x6 x7 d  h
    refine iter_ind (G := fun s_ : (Int32 × Dt) => gG w p l e R s m args below meth c 8 0 0 (gE w below args s dE none) s_.2 [(0, .ref (w_r w 281)), (4, .int x4), (5, .int x5), (6, .int x6), (7, .int s_.1)] 104 []) ?_ fu _ h
    clear h
    intro s_ y1 h hl1 hx1
    obtain ⟨x7, d⟩ := s_
    show gG w p l e R s m args below meth c 8 0 0 (gE w below args s dE none) d [(0, .ref (w_r w 281)), (4, .int x4), (5, .int x5), (6, .int x6), (7, .int x7)] 104 []
    dsimp only at h
    unfold st_G_join_104 at h
    refine g_iload C dX2_join_104 4 rfl ?_
    refine g_aload_n C dX2_join_106 0 rfl ?_
    refine g_get C (.int (d 281 0)) 281 q_281 fk_G_31 rfl dX2_join_107 ?_
    refine g_icmp_ge C dX2_join_110 (tgt := 152) rfl (fun q => ?_) (fun q => ?_)
    · replace h := it_t q h
      replace h := ir_2 h hx1
      exact g_vret C hr hlk (Option.some.inj h) rfl dX2_join_152
    · replace h := it_f q h
      refine g_aload_n C dX2_join_113 0 rfl ?_
      refine g_get C (.ref (w_r w 282)) 281 q_281 fk_G_9 rfl dX2_join_114 ?_
      refine g_iload C dX2_join_117 4 rfl ?_
      have hg9 := gd_1 h
      replace h := gd_2 h
      refine g_iald C 282 q_282 hg9 _ rfl dX2_join_119 ?_
      refine g_iload C dX2_join_120 2 rfl ?_
      refine g_icmp_ne C dX2_join_122 (tgt := 146) rfl (fun q => ?_) (fun q => ?_)
      · replace h := it_f q h
        refine g_iinc C (lv' := [(7, .int (x7 + 1)), (0, .ref (w_r w 281)), (4, .int x4), (5, .int x5), (6, .int x6)]) (v := (x7 + 1)) dX2_join_146 4 rfl rfl (by decide) rfl ?_
        refine g_goto C dX2_join_149 (tgt := 104) rfl ?_
        refine g_sub [1, 2, 3, 4, 0] (lv' := [(0, .ref (w_r w 281)), (4, .int x4), (5, .int x5), (6, .int x6), (7, .int (x7 + 1))]) rfl ?_
        exact hl1 ((x7 + 1), d) (Option.some.inj h).symm
      · replace h := it_t q h
        refine g_aload_n C dX2_join_125 0 rfl ?_
        refine g_get C (.ref (w_r w 282)) 281 q_281 fk_G_9 rfl dX2_join_126 ?_
        refine g_iload C dX2_join_129 4 rfl ?_
        refine g_iload C dX2_join_131 1 rfl ?_
        have hg10 := gd_1 h
        replace h := gd_2 h
        refine g_iast C 282 q_282 hg10 _ rfl  dX2_join_133 ?_
        obtain ⟨d11, hd11, h⟩ := bnd_1 h
        refine g_nmD hd11 ?_
        refine g_aload_n C dX2_join_134 0 rfl ?_
        refine g_get C (.ref (w_r w 283)) 281 q_281 fk_G_15 rfl dX2_join_135 ?_
        refine g_iload C dX2_join_138 4 rfl ?_
        refine g_dup2 C dX2_join_140 rfl rfl ?_
        have hg12 := gd_1 h
        replace h := gd_2 h
        refine g_iald C 283 q_283 hg12 _ rfl dX2_join_141 ?_
        refine g_iload C dX2_join_142 3 rfl ?_
        refine g_ixor C dX2_join_144  ?_
        have hg13 := gd_1 h
        replace h := gd_2 h
        refine g_iast C 283 q_283 hg13 _ rfl  dX2_join_145 ?_
        obtain ⟨d14, hd14, h⟩ := bnd_1 h
        refine g_nmD hd14 ?_
        refine g_iinc C (lv' := [(7, .int (x7 + 1)), (0, .ref (w_r w 281)), (4, .int x4), (5, .int x5), (6, .int x6)]) (v := (x7 + 1)) dX2_join_146 4 rfl rfl (by decide) rfl ?_
        refine g_goto C dX2_join_149 (tgt := 104) rfl ?_
        refine g_sub [1, 2, 3, 4, 0] (lv' := [(0, .ref (w_r w 281)), (4, .int x4), (5, .int x5), (6, .int x6), (7, .int (x7 + 1))]) rfl ?_
        exact hl1 ((x7 + 1), d14) (Option.some.inj h).symm
  have R100 : ∀ (x4 : Int32) (x5 : Int32) (x6 : Int32) (v1 : Int32) (v2 : Int32) (d : Dt), f_G_join_100 x4 x5 x6 v1 v2 d = some dE → gG w p l e R s m args below meth c 8 0 0 (gE w below args s dE none) d [(0, .ref (w_r w 281)), (4, .int x4), (5, .int x5), (6, .int x6)] 100 [.int v2, .int v1, .ref (w_r w 284)] := by
    intro x4 x5 x6 v1 v2 d  h
    unfold f_G_join_100 at h
    have hg15 := gd_1 h
    replace h := gd_2 h
    have hg16 := gd_1 h
    replace h := gd_2 h
    refine g_zast C 284 q_284 hg15 _ rfl (nar_v hg16) dX2_join_100 ?_
    obtain ⟨d17, hd17, h⟩ := bnd_1 h
    refine g_nmD hd17 ?_
    refine g_iconst C dX2_join_101 (v := 0) rfl ?_
    refine g_istore C (lv' := [(7, .int 0), (0, .ref (w_r w 281)), (4, .int x4), (5, .int x5), (6, .int x6)]) dX2_join_102 (by decide) rfl ?_
    refine g_sub [1, 2, 3, 4, 0] (lv' := [(0, .ref (w_r w 281)), (4, .int x4), (5, .int x5), (6, .int x6), (7, .int 0)]) rfl ?_
    exact R104 x4 x5 x6 0 d17 h
  have R95 : ∀ (x4 : Int32) (x5 : Int32) (x6 : Int32) (v1 : Int32) (d : Dt), f_G_join_95 x4 x5 x6 v1 d = some dE → gG w p l e R s m args below meth c 8 0 0 (gE w below args s dE none) d [(0, .ref (w_r w 281)), (4, .int x4), (5, .int x5), (6, .int x6)] 95 [.int v1, .ref (w_r w 284)] := by
    intro x4 x5 x6 v1 d  h
    unfold f_G_join_95 at h
    refine g_iconst C dX2_join_95 (v := 1) rfl ?_
    refine g_goto C dX2_join_96 (tgt := 100) rfl ?_
    exact R100 x4 x5 x6 v1 1 d h
  unfold f_G_join at h
  refine g_aload_n C dX2_join_0 0 rfl ?_
  refine g_get C (.ref (w_r w 282)) 281 q_281 fk_G_9 rfl dX2_join_1 ?_
  refine g_iload_n C dX2_join_4 1 rfl ?_
  have hg18 := gd_1 h
  replace h := gd_2 h
  refine g_iald C 282 q_282 hg18 _ rfl dX2_join_5 ?_
  refine g_istore C (lv' := [(4, .int (d 282 x1.toNatClampNeg)), (0, .ref (w_r w 281)), (1, .int x1), (2, .int x2), (3, .int x3)]) dX2_join_6 (by decide) rfl ?_
  refine g_aload_n C dX2_join_8 1 rfl ?_
  refine g_get C (.ref (w_r w 282)) 281 q_281 fk_G_9 rfl dX2_join_9 ?_
  refine g_iload_n C dX2_join_12 3 rfl ?_
  have hg19 := gd_1 h
  replace h := gd_2 h
  refine g_iald C 282 q_282 hg19 _ rfl dX2_join_13 ?_
  refine g_istore C (lv' := [(5, .int (d 282 x2.toNatClampNeg)), (4, .int (d 282 x1.toNatClampNeg)), (0, .ref (w_r w 281)), (1, .int x1), (2, .int x2), (3, .int x3)]) dX2_join_14 (by decide) rfl ?_
  refine g_aload_n C dX2_join_16 2 rfl ?_
  refine g_get C (.ref (w_r w 283)) 281 q_281 fk_G_15 rfl dX2_join_17 ?_
  refine g_iload_n C dX2_join_20 3 rfl ?_
  have hg20 := gd_1 h
  replace h := gd_2 h
  refine g_iald C 283 q_283 hg20 _ rfl dX2_join_21 ?_
  refine g_aload_n C dX2_join_22 2 rfl ?_
  refine g_get C (.ref (w_r w 283)) 281 q_281 fk_G_15 rfl dX2_join_23 ?_
  refine g_iload_n C dX2_join_26 4 rfl ?_
  have hg21 := gd_1 h
  replace h := gd_2 h
  refine g_iald C 283 q_283 hg21 _ rfl dX2_join_27 ?_
  refine g_ixor C dX2_join_28  ?_
  refine g_iload_n C dX2_join_29 5 rfl ?_
  refine g_ixor C dX2_join_30  ?_
  obtain ⟨t22, ht22, h⟩ := bnd_1 h
  refine g_nm ht22 ?_
  refine g_istore C (lv' := [(6, .int t22), (5, .int (d 282 x2.toNatClampNeg)), (4, .int (d 282 x1.toNatClampNeg)), (0, .ref (w_r w 281)), (1, .int x1), (2, .int x2), (3, .int x3)]) dX2_join_31 (by decide) rfl ?_
  refine g_iload C dX2_join_33 2 rfl ?_
  refine g_iload C dX2_join_35 1 rfl ?_
  refine g_icmp_ne C dX2_join_37 (tgt := 69) rfl (fun q => ?_) (fun q => ?_)
  · replace h := it_f q h
    refine g_aload_n C dX2_join_69 3 rfl ?_
    refine g_get C (.ref (w_r w 284)) 281 q_281 fk_G_18 rfl dX2_join_70 ?_
    refine g_iload C dX2_join_73 2 rfl ?_
    refine g_aload_n C dX2_join_75 3 rfl ?_
    refine g_get C (.ref (w_r w 284)) 281 q_281 fk_G_18 rfl dX2_join_76 ?_
    refine g_iload C dX2_join_79 2 rfl ?_
    have hg23 := gd_1 h
    replace h := gd_2 h
    refine g_zald C 284 q_284 hg23 _ rfl dX2_join_81 ?_
    refine g_if_ne C dX2_join_82 (tgt := 95) rfl (fun q => ?_) (fun q => ?_)
    · replace h := it_f q h
      refine g_sub [3, 2, 1, 0] (lv' := [(0, .ref (w_r w 281)), (4, .int (d 282 x1.toNatClampNeg)), (5, .int (d 282 x2.toNatClampNeg)), (6, .int t22)]) rfl ?_
      exact R95 (d 282 x1.toNatClampNeg) (d 282 x2.toNatClampNeg) t22 (d 282 x1.toNatClampNeg) d h
    · replace h := it_t q h
      refine g_aload_n C dX2_join_85 3 rfl ?_
      refine g_get C (.ref (w_r w 284)) 281 q_281 fk_G_18 rfl dX2_join_86 ?_
      refine g_iload C dX2_join_89 1 rfl ?_
      have hg24 := gd_1 h
      replace h := gd_2 h
      refine g_zald C 284 q_284 hg24 _ rfl dX2_join_91 ?_
      refine g_if_eq C dX2_join_92 (tgt := 99) rfl (fun q => ?_) (fun q => ?_)
      · replace h := it_t q h
        refine g_iconst C dX2_join_99 (v := 0) rfl ?_
        refine g_sub [3, 2, 1, 0] (lv' := [(0, .ref (w_r w 281)), (4, .int (d 282 x1.toNatClampNeg)), (5, .int (d 282 x2.toNatClampNeg)), (6, .int t22)]) rfl ?_
        exact R100 (d 282 x1.toNatClampNeg) (d 282 x2.toNatClampNeg) t22 (d 282 x1.toNatClampNeg) 0 d h
      · replace h := it_f q h
        refine g_sub [3, 2, 1, 0] (lv' := [(0, .ref (w_r w 281)), (4, .int (d 282 x1.toNatClampNeg)), (5, .int (d 282 x2.toNatClampNeg)), (6, .int t22)]) rfl ?_
        exact R95 (d 282 x1.toNatClampNeg) (d 282 x2.toNatClampNeg) t22 (d 282 x1.toNatClampNeg) d h
  · replace h := it_t q h
    refine g_aload_n C dX2_join_40 3 rfl ?_
    refine g_get C (.ref (w_r w 284)) 281 q_281 fk_G_18 rfl dX2_join_41 ?_
    refine g_iload C dX2_join_44 2 rfl ?_
    refine g_aload_n C dX2_join_46 3 rfl ?_
    refine g_get C (.ref (w_r w 284)) 281 q_281 fk_G_18 rfl dX2_join_47 ?_
    refine g_iload C dX2_join_50 2 rfl ?_
    have hg25 := gd_1 h
    replace h := gd_2 h
    refine g_zald C 284 q_284 hg25 _ rfl dX2_join_52 ?_
    refine g_if_ne C dX2_join_53 (tgt := 62) rfl (fun q => ?_) (fun q => ?_)
    · replace h := it_f q h
      refine g_sub [] (lv' := []) rfl ?_
      exact R62 (d 282 x1.toNatClampNeg) d h
    · replace h := it_t q h
      refine g_iload C dX2_join_56 0 rfl ?_
      refine g_iconst C dX2_join_58 (v := 1) rfl ?_
      refine g_icmp_ne C dX2_join_59 (tgt := 66) rfl (fun q => ?_) (fun q => ?_)
      · replace h := it_f q h
        refine g_iconst C dX2_join_66 (v := 0) rfl ?_
        refine g_sub [] (lv' := []) rfl ?_
        exact R67 (d 282 x1.toNatClampNeg) 0 d h
      · replace h := it_t q h
        refine g_sub [] (lv' := []) rfl ?_
        exact R62 (d 282 x1.toNatClampNeg) d h
set_option maxHeartbeats 4000000 in
set_option maxRecDepth 100000 in
theorem m_G_seenByLeader {w : wT} {l : Launch} {x1 x2 : Int32} {d : Dt} {rE : Int32} (hO : okW w) (h : f_G_seenByLeader x1 x2 d = some rE) : gM w l yX2_seenByLeader cX2_seenByLeader 3 (Option.some Jvm.ClassFile.FieldType.int) 0 [.ref (w_r w 281), .int x1, .int x2] d d (some (.int rE)) := by
  refine gM_of (by decide) [(0, .ref (w_r w 281)), (1, .int x1), (2, .int x2)] rfl rfl ?_ hO
  intro p e R s m args below meth c C hR hr hlk
  unfold f_G_seenByLeader at h
  refine g_aload_n C dX2_seenByLeader_0 0 rfl ?_
  refine g_get C (.ref (w_r w 283)) 281 q_281 fk_G_15 rfl dX2_seenByLeader_1 ?_
  refine g_iload_n C dX2_seenByLeader_4 1 rfl ?_
  have hg1 := gd_1 h
  replace h := gd_2 h
  refine g_iald C 283 q_283 hg1 _ rfl dX2_seenByLeader_5 ?_
  refine g_iconst C dX2_seenByLeader_6 (v := 1) rfl ?_
  refine g_icmp_ne C dX2_seenByLeader_7 (tgt := 16) rfl (fun q => ?_) (fun q => ?_)
  · replace h := it_f q h
    refine g_iload_n C dX2_seenByLeader_16 2 rfl ?_
    exact g_iret C hr hlk rfl rfl (congrArg (fun z => some (Value.int z)) (Option.some.inj h)) dX2_seenByLeader_17
  · replace h := it_t q h
    refine g_iconst C dX2_seenByLeader_10 (v := 3) rfl ?_
    refine g_iload_n C dX2_seenByLeader_11 2 rfl ?_
    refine g_isub C dX2_seenByLeader_12  ?_
    refine g_goto C dX2_seenByLeader_13 (tgt := 17) rfl ?_
    exact g_iret C hr hlk rfl rfl (congrArg (fun z => some (Value.int z)) (Option.some.inj h)) dX2_seenByLeader_17
set_option maxHeartbeats 4000000 in
set_option maxRecDepth 100000 in
theorem m_G_find {w : wT} {l : Launch} {x3 : Int32} {d : Dt} {dE : Dt} (hO : okW w) (h : f_G_find x3 d = some dE) : gM w l yX2_find cX2_find 5 (Option.none : Option Jvm.ClassFile.FieldType) 1 [.ref (w_r w 281), .ref (w_r w 3), .ref (w_r w 22), .int x3] d dE none := by
  refine gM_of (by decide) [(0, .ref (w_r w 281)), (1, .ref (w_r w 3)), (2, .ref (w_r w 22)), (3, .int x3)] rfl rfl ?_ hO
  intro p e R s m args below meth c C hR hr hlk
  have R123 : ∀ (x4 : Int32) (d : Dt), f_G_find_123 x4 d = some dE → gG w p l e R s m args below meth c 5 0 0 (gE w below args s dE none) d [(0, .ref (w_r w 281)), (1, .ref (w_r w 3)), (4, .int x4)] 123 [] := by
    intro x4 d  h
    refine iter_ind (G := fun s_ : (Int32 × Dt) => gG w p l e R s m args below meth c 5 0 0 (gE w below args s dE none) s_.2 [(0, .ref (w_r w 281)), (1, .ref (w_r w 3)), (4, .int s_.1)] 123 []) ?_ fu _ h
    clear h
    intro s_ y1 h hl1 hx1
    obtain ⟨x4, d⟩ := s_
    show gG w p l e R s m args below meth c 5 0 0 (gE w below args s dE none) d [(0, .ref (w_r w 281)), (1, .ref (w_r w 3)), (4, .int x4)] 123 []
    dsimp only at h
    unfold st_G_find_123 at h
    refine g_iload C dX2_find_123 2 rfl ?_
    refine g_aload_n C dX2_find_125 0 rfl ?_
    refine g_get C (.int (d 281 0)) 281 q_281 fk_G_31 rfl dX2_find_126 ?_
    refine g_icmp_ge C dX2_find_129 (tgt := 176) rfl (fun q => ?_) (fun q => ?_)
    · replace h := it_t q h
      replace h := ir_2 h hx1
      exact g_vret C hr hlk (Option.some.inj h) rfl dX2_find_176
    · replace h := it_f q h
      refine g_aload_n C dX2_find_132 1 rfl ?_
      refine g_get C (.ref (w_r w 5)) 3 q_3 fk_G_48 rfl dX2_find_133 ?_
      refine g_iload C dX2_find_136 2 rfl ?_
      have hg9 := gd_1 h
      replace h := gd_2 h
      refine g_iald C 5 q_5 hg9 _ rfl dX2_find_138 ?_
      refine g_if_eq C dX2_find_139 (tgt := 170) rfl (fun q => ?_) (fun q => ?_)
      · replace h := it_t q h
        refine g_iinc C (lv' := [(4, .int (x4 + 1)), (0, .ref (w_r w 281)), (1, .ref (w_r w 3))]) (v := (x4 + 1)) dX2_find_170 2 rfl rfl (by decide) rfl ?_
        refine g_goto C dX2_find_173 (tgt := 123) rfl ?_
        refine g_sub [1, 2, 0] (lv' := [(0, .ref (w_r w 281)), (1, .ref (w_r w 3)), (4, .int (x4 + 1))]) rfl ?_
        exact hl1 ((x4 + 1), d) (Option.some.inj h).symm
      · replace h := it_f q h
        refine g_aload_n C dX2_find_142 0 rfl ?_
        refine g_get C (.ref (w_r w 285)) 281 q_281 fk_G_22 rfl dX2_find_143 ?_
        refine g_aload_n C dX2_find_146 0 rfl ?_
        refine g_get C (.ref (w_r w 282)) 281 q_281 fk_G_9 rfl dX2_find_147 ?_
        refine g_iload C dX2_find_150 2 rfl ?_
        have hg10 := gd_1 h
        replace h := gd_2 h
        refine g_iald C 282 q_282 hg10 _ rfl dX2_find_152 ?_
        refine g_dup2 C dX2_find_153 rfl rfl ?_
        have hg11 := gd_1 h
        replace h := gd_2 h
        refine g_iald C 285 q_285 hg11 _ rfl dX2_find_154 ?_
        refine g_aload_n C dX2_find_155 0 rfl ?_
        refine g_iload C dX2_find_156 2 rfl ?_
        refine g_aload_n C dX2_find_158 1 rfl ?_
        refine g_get C (.ref (w_r w 5)) 3 q_3 fk_G_48 rfl dX2_find_159 ?_
        refine g_iload C dX2_find_162 2 rfl ?_
        have hg12 := gd_1 h
        replace h := gd_2 h
        refine g_iald C 5 q_5 hg12 _ rfl dX2_find_164 ?_
        obtain ⟨r13, hc14, h⟩ := ob1_1 h
        refine g_callVi C 281 q_281 vk_G_51 hR rfl (m_G_seenByLeader C.2.2.2.2.2.2.1 hc14) rfl rfl rfl dX2_find_165 rfl rfl ?_
        refine g_ior C dX2_find_168  ?_
        have hg15 := gd_1 h
        replace h := gd_2 h
        refine g_iast C 285 q_285 hg15 _ rfl  dX2_find_169 ?_
        obtain ⟨d16, hd16, h⟩ := bnd_1 h
        refine g_nmD hd16 ?_
        refine g_iinc C (lv' := [(4, .int (x4 + 1)), (0, .ref (w_r w 281)), (1, .ref (w_r w 3))]) (v := (x4 + 1)) dX2_find_170 2 rfl rfl (by decide) rfl ?_
        refine g_goto C dX2_find_173 (tgt := 123) rfl ?_
        refine g_sub [1, 2, 0] (lv' := [(0, .ref (w_r w 281)), (1, .ref (w_r w 3)), (4, .int (x4 + 1))]) rfl ?_
        exact hl1 ((x4 + 1), d16) (Option.some.inj h).symm
  have R62 : ∀ (x3 : Int32) (x4 : Int32) (d : Dt), f_G_find_62 x3 x4 d = some dE → gG w p l e R s m args below meth c 5 0 0 (gE w below args s dE none) d [(0, .ref (w_r w 281)), (1, .ref (w_r w 3)), (2, .ref (w_r w 22)), (3, .int x3), (4, .int x4)] 62 [] := by
    intro x3 x4 d  h
    refine iter_ind (G := fun s_ : (Int32 × Dt) => gG w p l e R s m args below meth c 5 0 0 (gE w below args s dE none) s_.2 [(0, .ref (w_r w 281)), (1, .ref (w_r w 3)), (2, .ref (w_r w 22)), (3, .int x3), (4, .int s_.1)] 62 []) ?_ fu _ h
    clear h
    intro s_ y1 h hl1 hx1
    obtain ⟨x4, d⟩ := s_
    show gG w p l e R s m args below meth c 5 0 0 (gE w below args s dE none) d [(0, .ref (w_r w 281)), (1, .ref (w_r w 3)), (2, .ref (w_r w 22)), (3, .int x3), (4, .int x4)] 62 []
    dsimp only at h
    unfold st_G_find_62 at h
    have R111 : ∀ (x4 : Int32) (v1 : Int32) (v2 : Int32) (v3 : Int32) (d : Dt), f_G_find_111 x3 x4 v1 v2 v3 d = some y1 → gG w p l e R s m args below meth c 5 0 0 (gE w below args s dE none) d [(0, .ref (w_r w 281)), (1, .ref (w_r w 3)), (2, .ref (w_r w 22)), (3, .int x3), (4, .int x4)] 111 [.int v3, .int v2, .int v1, .ref (w_r w 281)] := by
      intro x4 v1 v2 v3 d  h
      unfold f_G_find_111 at h
      obtain ⟨d17, hc18, h⟩ := ob1_1 h
      refine g_callVv C 281 q_281 vk_G_44 hR rfl (m_G_join C.2.2.2.2.2.2.1 hc18) rfl rfl rfl dX2_find_111 rfl rfl ?_
      refine g_iinc C (lv' := [(4, .int (x4 + 1)), (0, .ref (w_r w 281)), (1, .ref (w_r w 3)), (2, .ref (w_r w 22)), (3, .int x3)]) (v := (x4 + 1)) dX2_find_114 4 rfl rfl (by decide) rfl ?_
      refine g_goto C dX2_find_117 (tgt := 62) rfl ?_
      refine g_sub [1, 2, 3, 4, 0] (lv' := [(0, .ref (w_r w 281)), (1, .ref (w_r w 3)), (2, .ref (w_r w 22)), (3, .int x3), (4, .int (x4 + 1))]) rfl ?_
      exact hl1 ((x4 + 1), d17) (Option.some.inj h).symm
    refine g_iload C dX2_find_62 4 rfl ?_
    refine g_aload_n C dX2_find_64 2 rfl ?_
    refine g_get C (.int (d 22 0)) 22 q_22 fk_G_32 rfl dX2_find_65 ?_
    refine g_icmp_ge C dX2_find_68 (tgt := 120) rfl (fun q => ?_) (fun q => ?_)
    · replace h := it_t q h
      replace h := ir_2 h hx1
      refine g_iconst C dX2_find_120 (v := 0) rfl ?_
      refine g_istore C (lv' := [(4, .int 0), (0, .ref (w_r w 281)), (1, .ref (w_r w 3)), (2, .ref (w_r w 22)), (3, .int x3)]) dX2_find_121 (by decide) rfl ?_
      refine g_sub [1, 2, 0] (lv' := [(0, .ref (w_r w 281)), (1, .ref (w_r w 3)), (4, .int 0)]) rfl ?_
      exact R123 0 d h
    · replace h := it_f q h
      refine g_iload_n C dX2_find_71 3 rfl ?_
      refine g_iload C dX2_find_72 4 rfl ?_
      refine g_ishr C dX2_find_74  ?_
      refine g_iconst C dX2_find_75 (v := 1) rfl ?_
      refine g_iand C dX2_find_76  ?_
      refine g_iconst C dX2_find_77 (v := 1) rfl ?_
      refine g_icmp_ne C dX2_find_78 (tgt := 114) rfl (fun q => ?_) (fun q => ?_)
      · replace h := it_f q h
        refine g_iinc C (lv' := [(4, .int (x4 + 1)), (0, .ref (w_r w 281)), (1, .ref (w_r w 3)), (2, .ref (w_r w 22)), (3, .int x3)]) (v := (x4 + 1)) dX2_find_114 4 rfl rfl (by decide) rfl ?_
        refine g_goto C dX2_find_117 (tgt := 62) rfl ?_
        refine g_sub [1, 2, 3, 4, 0] (lv' := [(0, .ref (w_r w 281)), (1, .ref (w_r w 3)), (2, .ref (w_r w 22)), (3, .int x3), (4, .int (x4 + 1))]) rfl ?_
        exact hl1 ((x4 + 1), d) (Option.some.inj h).symm
      · replace h := it_t q h
        refine g_aload_n C dX2_find_81 0 rfl ?_
        refine g_aload_n C dX2_find_82 2 rfl ?_
        refine g_get C (.ref (w_r w 23)) 22 q_22 fk_G_35 rfl dX2_find_83 ?_
        refine g_iload C dX2_find_86 4 rfl ?_
        have hg19 := gd_1 h
        replace h := gd_2 h
        refine g_iald C 23 q_23 hg19 _ rfl dX2_find_88 ?_
        refine g_aload_n C dX2_find_89 2 rfl ?_
        refine g_get C (.ref (w_r w 24)) 22 q_22 fk_G_38 rfl dX2_find_90 ?_
        refine g_iload C dX2_find_93 4 rfl ?_
        have hg20 := gd_1 h
        replace h := gd_2 h
        refine g_iald C 24 q_24 hg20 _ rfl dX2_find_95 ?_
        refine g_aload_n C dX2_find_96 2 rfl ?_
        refine g_get C (.ref (w_r w 25)) 22 q_22 fk_G_41 rfl dX2_find_97 ?_
        refine g_iload C dX2_find_100 4 rfl ?_
        have hg21 := gd_1 h
        replace h := gd_2 h
        refine g_zald C 25 q_25 hg21 _ rfl dX2_find_102 ?_
        refine g_if_eq C dX2_find_103 (tgt := 110) rfl (fun q => ?_) (fun q => ?_)
        · replace h := it_t q h
          refine g_iconst C dX2_find_110 (v := 1) rfl ?_
          exact R111 x4 (d 23 x4.toNatClampNeg) (d 24 x4.toNatClampNeg) 1 d h
        · replace h := it_f q h
          refine g_iconst C dX2_find_106 (v := 0) rfl ?_
          refine g_goto C dX2_find_107 (tgt := 111) rfl ?_
          exact R111 x4 (d 23 x4.toNatClampNeg) (d 24 x4.toNatClampNeg) 0 d h
  have R11 : ∀ (x3 : Int32) (x4 : Int32) (d : Dt), f_G_find_11 x3 x4 d = some dE → gG w p l e R s m args below meth c 5 0 0 (gE w below args s dE none) d [(0, .ref (w_r w 281)), (1, .ref (w_r w 3)), (2, .ref (w_r w 22)), (3, .int x3), (4, .int x4)] 11 [] := by
    intro x3 x4 d  h
    refine iter_ind (G := fun s_ : (Int32 × Dt) => gG w p l e R s m args below meth c 5 0 0 (gE w below args s dE none) s_.2 [(0, .ref (w_r w 281)), (1, .ref (w_r w 3)), (2, .ref (w_r w 22)), (3, .int x3), (4, .int s_.1)] 11 []) ?_ fu _ h
    clear h
    intro s_ y1 h hl1 hx1
    obtain ⟨x4, d⟩ := s_
    show gG w p l e R s m args below meth c 5 0 0 (gE w below args s dE none) d [(0, .ref (w_r w 281)), (1, .ref (w_r w 3)), (2, .ref (w_r w 22)), (3, .int x3), (4, .int x4)] 11 []
    dsimp only at h
    unfold st_G_find_11 at h
    refine g_iload C dX2_find_11 4 rfl ?_
    refine g_aload_n C dX2_find_13 0 rfl ?_
    refine g_get C (.int (d 281 0)) 281 q_281 fk_G_31 rfl dX2_find_14 ?_
    refine g_icmp_ge C dX2_find_17 (tgt := 59) rfl (fun q => ?_) (fun q => ?_)
    · replace h := it_t q h
      replace h := ir_2 h hx1
      refine g_iconst C dX2_find_59 (v := 0) rfl ?_
      refine g_istore C (lv' := [(4, .int 0), (0, .ref (w_r w 281)), (1, .ref (w_r w 3)), (2, .ref (w_r w 22)), (3, .int x3)]) dX2_find_60 (by decide) rfl ?_
      refine g_sub [1, 2, 3, 4, 0] (lv' := [(0, .ref (w_r w 281)), (1, .ref (w_r w 3)), (2, .ref (w_r w 22)), (3, .int x3), (4, .int 0)]) rfl ?_
      exact R62 x3 0 d h
    · replace h := it_f q h
      refine g_aload_n C dX2_find_20 0 rfl ?_
      refine g_get C (.ref (w_r w 282)) 281 q_281 fk_G_9 rfl dX2_find_21 ?_
      refine g_iload C dX2_find_24 4 rfl ?_
      refine g_iload C dX2_find_26 4 rfl ?_
      have hg22 := gd_1 h
      replace h := gd_2 h
      refine g_iast C 282 q_282 hg22 _ rfl  dX2_find_28 ?_
      obtain ⟨d23, hd23, h⟩ := bnd_1 h
      refine g_nmD hd23 ?_
      refine g_aload_n C dX2_find_29 0 rfl ?_
      refine g_get C (.ref (w_r w 283)) 281 q_281 fk_G_15 rfl dX2_find_30 ?_
      refine g_iload C dX2_find_33 4 rfl ?_
      refine g_iconst C dX2_find_35 (v := 0) rfl ?_
      have hg24 := gd_1 h
      replace h := gd_2 h
      refine g_iast C 283 q_283 hg24 _ rfl  dX2_find_36 ?_
      obtain ⟨d25, hd25, h⟩ := bnd_1 h
      refine g_nmD hd25 ?_
      refine g_aload_n C dX2_find_37 0 rfl ?_
      refine g_get C (.ref (w_r w 284)) 281 q_281 fk_G_18 rfl dX2_find_38 ?_
      refine g_iload C dX2_find_41 4 rfl ?_
      refine g_iconst C dX2_find_43 (v := 0) rfl ?_
      have hg26 := gd_1 h
      replace h := gd_2 h
      refine g_zast C 284 q_284 hg26 _ rfl (nar_v (by decide)) dX2_find_44 ?_
      obtain ⟨d27, hd27, h⟩ := bnd_1 h
      refine g_nmD hd27 ?_
      refine g_aload_n C dX2_find_45 0 rfl ?_
      refine g_get C (.ref (w_r w 285)) 281 q_281 fk_G_22 rfl dX2_find_46 ?_
      refine g_iload C dX2_find_49 4 rfl ?_
      refine g_iconst C dX2_find_51 (v := 0) rfl ?_
      have hg28 := gd_1 h
      replace h := gd_2 h
      refine g_iast C 285 q_285 hg28 _ rfl  dX2_find_52 ?_
      obtain ⟨d29, hd29, h⟩ := bnd_1 h
      refine g_nmD hd29 ?_
      refine g_iinc C (lv' := [(4, .int (x4 + 1)), (0, .ref (w_r w 281)), (1, .ref (w_r w 3)), (2, .ref (w_r w 22)), (3, .int x3)]) (v := (x4 + 1)) dX2_find_53 4 rfl rfl (by decide) rfl ?_
      refine g_goto C dX2_find_56 (tgt := 11) rfl ?_
      refine g_sub [1, 2, 3, 4, 0] (lv' := [(0, .ref (w_r w 281)), (1, .ref (w_r w 3)), (2, .ref (w_r w 22)), (3, .int x3), (4, .int (x4 + 1))]) rfl ?_
      exact hl1 ((x4 + 1), d29) (Option.some.inj h).symm
  unfold f_G_find at h
  refine g_aload_n C dX2_find_0 0 rfl ?_
  refine g_aload_n C dX2_find_1 1 rfl ?_
  refine g_get C (.int (d 3 0)) 3 q_3 fk_G_25 rfl dX2_find_2 ?_
  refine g_put C 281 q_281 pk_G_31 rfl rfl dX2_find_5 ?_
  obtain ⟨d30, hd30, h⟩ := bnd_1 h
  refine g_nmD hd30 ?_
  refine g_iconst C dX2_find_8 (v := 0) rfl ?_
  refine g_istore C (lv' := [(4, .int 0), (0, .ref (w_r w 281)), (1, .ref (w_r w 3)), (2, .ref (w_r w 22)), (3, .int x3)]) dX2_find_9 (by decide) rfl ?_
  refine g_sub [1, 2, 3, 4, 0] (lv' := [(0, .ref (w_r w 281)), (1, .ref (w_r w 3)), (2, .ref (w_r w 22)), (3, .int x3), (4, .int 0)]) rfl ?_
  exact R11 x3 0 d30 h
set_option maxHeartbeats 4000000 in
set_option maxRecDepth 100000 in
theorem m_G_isBroken {w : wT} {l : Launch} {x1 : Int32} {d : Dt} {rE : Int32} (hO : okW w) (h : f_G_isBroken x1 d = some rE) : gM w l yX2_isBroken cX2_isBroken 2 (Option.some Jvm.ClassFile.FieldType.boolean) 0 [.ref (w_r w 281), .int x1] d d (some (.int rE)) := by
  refine gM_of (by decide) [(0, .ref (w_r w 281)), (1, .int x1)] rfl rfl ?_ hO
  intro p e R s m args below meth c C hR hr hlk
  unfold f_G_isBroken at h
  refine g_aload_n C dX2_isBroken_0 0 rfl ?_
  refine g_get C (.ref (w_r w 284)) 281 q_281 fk_G_18 rfl dX2_isBroken_1 ?_
  refine g_aload_n C dX2_isBroken_4 0 rfl ?_
  refine g_get C (.ref (w_r w 282)) 281 q_281 fk_G_9 rfl dX2_isBroken_5 ?_
  refine g_iload_n C dX2_isBroken_8 1 rfl ?_
  have hg1 := gd_1 h
  replace h := gd_2 h
  refine g_iald C 282 q_282 hg1 _ rfl dX2_isBroken_9 ?_
  have hg2 := gd_1 h
  replace h := gd_2 h
  refine g_zald C 284 q_284 hg2 _ rfl dX2_isBroken_10 ?_
  refine g_if_ne C dX2_isBroken_11 (tgt := 29) rfl (fun q => ?_) (fun q => ?_)
  · replace h := it_f q h
    refine g_iconst C dX2_isBroken_29 (v := 1) rfl ?_
    refine g_goto C dX2_isBroken_30 (tgt := 34) rfl ?_
    exact g_iret C hr hlk rfl rfl (congrArg (fun z => some (Value.int z)) (Option.some.inj h)) dX2_isBroken_34
  · replace h := it_t q h
    refine g_aload_n C dX2_isBroken_14 0 rfl ?_
    refine g_get C (.ref (w_r w 285)) 281 q_281 fk_G_22 rfl dX2_isBroken_15 ?_
    refine g_aload_n C dX2_isBroken_18 0 rfl ?_
    refine g_get C (.ref (w_r w 282)) 281 q_281 fk_G_9 rfl dX2_isBroken_19 ?_
    refine g_iload_n C dX2_isBroken_22 1 rfl ?_
    have hg3 := gd_1 h
    replace h := gd_2 h
    refine g_iald C 282 q_282 hg3 _ rfl dX2_isBroken_23 ?_
    have hg4 := gd_1 h
    replace h := gd_2 h
    refine g_iald C 285 q_285 hg4 _ rfl dX2_isBroken_24 ?_
    refine g_iconst C dX2_isBroken_25 (v := 3) rfl ?_
    refine g_icmp_ne C dX2_isBroken_26 (tgt := 33) rfl (fun q => ?_) (fun q => ?_)
    · replace h := it_f q h
      refine g_iconst C dX2_isBroken_33 (v := 0) rfl ?_
      exact g_iret C hr hlk rfl rfl (congrArg (fun z => some (Value.int z)) (Option.some.inj h)) dX2_isBroken_34
    · replace h := it_t q h
      refine g_iconst C dX2_isBroken_29 (v := 1) rfl ?_
      refine g_goto C dX2_isBroken_30 (tgt := 34) rfl ?_
      exact g_iret C hr hlk rfl rfl (congrArg (fun z => some (Value.int z)) (Option.some.inj h)) dX2_isBroken_34
set_option maxHeartbeats 4000000 in
set_option maxRecDepth 100000 in
theorem m_G_verdictOn {w : wT} {l : Launch} {x1 : Int32} {d : Dt} {rE : Int32} (hO : okW w) (h : f_G_verdictOn x1 d = some rE) : gM w l yX2_verdictOn cX2_verdictOn 3 (Option.some Jvm.ClassFile.FieldType.char) 1 [.ref (w_r w 281), .int x1] d d (some (.int rE)) := by
  refine gM_of (by decide) [(0, .ref (w_r w 281)), (1, .int x1)] rfl rfl ?_ hO
  intro p e R s m args below meth c C hR hr hlk
  unfold f_G_verdictOn at h
  refine g_aload_n C dX2_verdictOn_0 0 rfl ?_
  refine g_iload_n C dX2_verdictOn_1 1 rfl ?_
  obtain ⟨r3, hc4, h⟩ := ob1_1 h
  refine g_callVi C 281 q_281 vk_G_55 hR rfl (m_G_isBroken C.2.2.2.2.2.2.1 hc4) rfl rfl rfl dX2_verdictOn_2 rfl rfl ?_
  refine g_if_eq C dX2_verdictOn_5 (tgt := 11) rfl (fun q => ?_) (fun q => ?_)
  · replace h := it_t q h
    refine g_aload_n C dX2_verdictOn_11 0 rfl ?_
    refine g_get C (.ref (w_r w 285)) 281 q_281 fk_G_22 rfl dX2_verdictOn_12 ?_
    refine g_aload_n C dX2_verdictOn_15 0 rfl ?_
    refine g_get C (.ref (w_r w 282)) 281 q_281 fk_G_9 rfl dX2_verdictOn_16 ?_
    refine g_iload_n C dX2_verdictOn_19 1 rfl ?_
    have hg5 := gd_1 h
    replace h := gd_2 h
    refine g_iald C 282 q_282 hg5 _ rfl dX2_verdictOn_20 ?_
    have hg6 := gd_1 h
    replace h := gd_2 h
    refine g_iald C 285 q_285 hg6 _ rfl dX2_verdictOn_21 ?_
    refine g_istore_n C (lv' := [(2, .int (d 285 (d 282 x1.toNatClampNeg).toNatClampNeg)), (0, .ref (w_r w 281)), (1, .int x1)]) dX2_verdictOn_22 (by decide) rfl ?_
    refine g_iload_n C dX2_verdictOn_23 0 rfl ?_
    refine g_if_ne C dX2_verdictOn_24 (tgt := 30) rfl (fun q => ?_) (fun q => ?_)
    · replace h := it_f q h
      refine g_aload_n C dX2_verdictOn_30 1 rfl ?_
      refine g_iload_n C dX2_verdictOn_31 2 rfl ?_
      refine g_iload_n C dX2_verdictOn_32 0 rfl ?_
      obtain ⟨r7, hc8, h⟩ := ob1_1 h
      refine g_callVi C 281 q_281 vk_G_51 hR rfl (m_G_seenByLeader C.2.2.2.2.2.2.1 hc8) rfl rfl rfl dX2_verdictOn_33 rfl rfl ?_
      refine g_iconst C dX2_verdictOn_36 (v := 1) rfl ?_
      refine g_icmp_ne C dX2_verdictOn_37 (tgt := 45) rfl (fun q => ?_) (fun q => ?_)
      · replace h := it_f q h
        refine g_bipush C dX2_verdictOn_45 (v := 105) (by decide) ?_
        exact g_iret C hr hlk rfl rfl (congrArg (fun z => some (Value.int z)) (Option.some.inj h)) dX2_verdictOn_47
      · replace h := it_t q h
        refine g_bipush C dX2_verdictOn_40 (v := 103) (by decide) ?_
        refine g_goto C dX2_verdictOn_42 (tgt := 47) rfl ?_
        exact g_iret C hr hlk rfl rfl (congrArg (fun z => some (Value.int z)) (Option.some.inj h)) dX2_verdictOn_47
    · replace h := it_t q h
      refine g_bipush C dX2_verdictOn_27 (v := 117) (by decide) ?_
      exact g_iret C hr hlk rfl rfl (congrArg (fun z => some (Value.int z)) (Option.some.inj h)) dX2_verdictOn_29
  · replace h := it_f q h
    refine g_bipush C dX2_verdictOn_8 (v := 109) (by decide) ?_
    exact g_iret C hr hlk rfl rfl (congrArg (fun z => some (Value.int z)) (Option.some.inj h)) dX2_verdictOn_10
set_option maxHeartbeats 4000000 in
set_option maxRecDepth 100000 in
theorem m_L_addSentence {w : wT} {l : Launch} {x1 x2 : Int32} {d : Dt} {dE : Dt} (hO : okW w) (h : f_L_addSentence x1 x2 d = some dE) : gM w l yX5_addSentence cX5_addSentence 3 (Option.none : Option Jvm.ClassFile.FieldType) 0 [.ref (w_r w 3), .int x1, .int x2] d dE none := by
  refine gM_of (by decide) [(0, .ref (w_r w 3)), (1, .int x1), (2, .int x2)] rfl rfl ?_ hO
  intro p e R s m args below meth c C hR hr hlk
  unfold f_L_addSentence at h
  refine g_aload_n C dX5_addSentence_0 0 rfl ?_
  refine g_get C (.ref (w_r w 6)) 3 q_3 fk_L_18 rfl dX5_addSentence_1 ?_
  refine g_iload_n C dX5_addSentence_4 1 rfl ?_
  have hg3 := gd_1 h
  replace h := gd_2 h
  refine g_iald C 6 q_6 hg3 _ rfl dX5_addSentence_5 ?_
  refine g_bipush C dX5_addSentence_6 (v := 8) (by decide) ?_
  refine g_icmp_ge C dX5_addSentence_8 (tgt := 35) rfl (fun q => ?_) (fun q => ?_)
  · replace h := it_t q h
    exact g_vret C hr hlk (Option.some.inj h) rfl dX5_addSentence_35
  · replace h := it_f q h
    refine g_aload_n C dX5_addSentence_11 0 rfl ?_
    refine g_get C (.ref (w_r w 7)) 3 q_3 fk_L_23 rfl dX5_addSentence_12 ?_
    refine g_iload_n C dX5_addSentence_15 1 rfl ?_
    have hg4 := gd_1 h
    replace h := gd_2 h
    refine g_aald C 7 q_7 hg4 dX5_addSentence_16 ?_
    refine g_aload_n C dX5_addSentence_17 0 rfl ?_
    refine g_get C (.ref (w_r w 6)) 3 q_3 fk_L_18 rfl dX5_addSentence_18 ?_
    refine g_iload_n C dX5_addSentence_21 1 rfl ?_
    have hg5 := gd_1 h
    replace h := gd_2 h
    refine g_iald C 6 q_6 hg5 _ rfl dX5_addSentence_22 ?_
    refine g_iload_n C dX5_addSentence_23 2 rfl ?_
    have hg6 := gd_1 h
    replace h := gd_2 h
    refine g_iast C (8 + x1.toNatClampNeg) (isC_row8 hg4) hg6 _ rfl  dX5_addSentence_24 ?_
    obtain ⟨d7, hd7, h⟩ := bnd_1 h
    refine g_nmD hd7 ?_
    refine g_aload_n C dX5_addSentence_25 0 rfl ?_
    refine g_get C (.ref (w_r w 6)) 3 q_3 fk_L_18 rfl dX5_addSentence_26 ?_
    refine g_iload_n C dX5_addSentence_29 1 rfl ?_
    refine g_dup2 C dX5_addSentence_30 rfl rfl ?_
    have hg8 := gd_1 h
    replace h := gd_2 h
    refine g_iald C 6 q_6 hg8 _ rfl dX5_addSentence_31 ?_
    refine g_iconst C dX5_addSentence_32 (v := 1) rfl ?_
    refine g_iadd C dX5_addSentence_33  ?_
    have hg9 := gd_1 h
    replace h := gd_2 h
    refine g_iast C 6 q_6 hg9 _ rfl  dX5_addSentence_34 ?_
    obtain ⟨d10, hd10, h⟩ := bnd_1 h
    refine g_nmD hd10 ?_
    exact g_vret C hr hlk (Option.some.inj h) rfl dX5_addSentence_35
set_option maxHeartbeats 4000000 in
set_option maxRecDepth 100000 in
theorem m_S_closeHearing {w : wT} {l : Launch} {x1 x2 : Int32} {d : Dt} {dE : Dt} (hO : okW w) (h : f_S_closeHearing x1 x2 d = some dE) : gM w l yX8_closeHearing cX8_closeHearing 4 (Option.none : Option Jvm.ClassFile.FieldType) 4 [.ref (w_r w 2), .int x1, .int x2] d dE none := by
  refine gM_of (by decide) [(0, .ref (w_r w 2)), (1, .int x1), (2, .int x2)] rfl rfl ?_ hO
  intro p e R s m args below meth c C hR hr hlk
  have R87 : ∀ (x1 : Int32) (d : Dt), f_S_closeHearing_87 x1  d = some dE → gG w p l e R s m args below meth c 4 0 0 (gE w below args s dE none) d [(0, .ref (w_r w 2)), (1, .int x1)] 87 [] := by
    intro x1  d  h
    unfold f_S_closeHearing_87 at h
    refine g_aload_n C dX8_closeHearing_87 0 rfl ?_
    refine g_get C (.ref (w_r w 16)) 2 q_2 fk_S_21 rfl dX8_closeHearing_88 ?_
    refine g_iload_n C dX8_closeHearing_91 1 rfl ?_
    obtain ⟨d6, hc7, h⟩ := ob1_1 h
    refine g_callVv C 16 q_16 vk_S_75 hR rfl (m_B_remove C.2.2.2.2.2.2.1 hc7) rfl rfl rfl dX8_closeHearing_92 rfl rfl ?_
    exact g_vret C hr hlk (Option.some.inj h) rfl dX8_closeHearing_95
  have R61 : ∀ (x1 : Int32) (x2 : Int32) (d : Dt), f_S_closeHearing_61 x1 x2  d = some dE → gG w p l e R s m args below meth c 4 0 0 (gE w below args s dE none) d [(0, .ref (w_r w 2)), (1, .int x1), (2, .int x2)] 61 [] := by
    intro x1 x2  d  h
    unfold f_S_closeHearing_61 at h
    refine g_iload_n C dX8_closeHearing_61 2 rfl ?_
    refine g_bipush C dX8_closeHearing_62 (v := 109) (by decide) ?_
    refine g_icmp_ne C dX8_closeHearing_64 (tgt := 87) rfl (fun q => ?_) (fun q => ?_)
    · replace h := it_f q h
      refine g_sub [0, 1] (lv' := [(0, .ref (w_r w 2)), (1, .int x1)]) rfl ?_
      exact R87 x1 d h
    · replace h := it_t q h
      refine g_aload_n C dX8_closeHearing_67 0 rfl ?_
      refine g_dup C dX8_closeHearing_68 rfl ?_
      refine g_get C (.int (d 2 5)) 2 q_2 fk_S_53 rfl dX8_closeHearing_69 ?_
      refine g_aload_n C dX8_closeHearing_72 0 rfl ?_
      refine g_get C (.ref (w_r w 16)) 2 q_2 fk_S_21 rfl dX8_closeHearing_73 ?_
      refine g_get C (.ref (w_r w 20)) 16 q_16 fk_S_72 rfl dX8_closeHearing_76 ?_
      refine g_iload_n C dX8_closeHearing_79 1 rfl ?_
      have hg8 := gd_1 h
      replace h := gd_2 h
      refine g_iald C 20 q_20 hg8 _ rfl dX8_closeHearing_80 ?_
      refine g_iconst C dX8_closeHearing_81 (v := 2) rfl ?_
      refine g_idiv C dX8_closeHearing_82 (by decide) ?_
      refine g_iadd C dX8_closeHearing_83  ?_
      refine g_put C 2 q_2 pk_S_53 rfl rfl dX8_closeHearing_84 ?_
      obtain ⟨d9, hd9, h⟩ := bnd_1 h
      refine g_nmD hd9 ?_
      refine g_sub [0, 1] (lv' := [(0, .ref (w_r w 2)), (1, .int x1)]) rfl ?_
      exact R87 x1 d9 h
  have R30 : ∀ (x1 : Int32) (x2 : Int32) (d : Dt), f_S_closeHearing_30 x1 x2  d = some dE → gG w p l e R s m args below meth c 4 0 0 (gE w below args s dE none) d [(0, .ref (w_r w 2)), (1, .int x1), (2, .int x2)] 30 [] := by
    intro x1 x2  d  h
    unfold f_S_closeHearing_30 at h
    refine g_iload_n C dX8_closeHearing_30 2 rfl ?_
    refine g_bipush C dX8_closeHearing_31 (v := 103) (by decide) ?_
    refine g_icmp_ne C dX8_closeHearing_33 (tgt := 61) rfl (fun q => ?_) (fun q => ?_)
    · replace h := it_f q h
      exact R61 x1 x2 d h
    · replace h := it_t q h
      refine g_aload_n C dX8_closeHearing_36 0 rfl ?_
      refine g_get C (.ref (w_r w 3)) 2 q_2 fk_S_12 rfl dX8_closeHearing_37 ?_
      refine g_aload_n C dX8_closeHearing_40 0 rfl ?_
      refine g_get C (.ref (w_r w 16)) 2 q_2 fk_S_21 rfl dX8_closeHearing_41 ?_
      refine g_get C (.ref (w_r w 18)) 16 q_16 fk_S_87 rfl dX8_closeHearing_44 ?_
      refine g_iload_n C dX8_closeHearing_47 1 rfl ?_
      have hg10 := gd_1 h
      replace h := gd_2 h
      refine g_iald C 18 q_18 hg10 _ rfl dX8_closeHearing_48 ?_
      refine g_aload_n C dX8_closeHearing_49 0 rfl ?_
      refine g_get C (.ref (w_r w 16)) 2 q_2 fk_S_21 rfl dX8_closeHearing_50 ?_
      refine g_get C (.ref (w_r w 21)) 16 q_16 fk_S_89 rfl dX8_closeHearing_53 ?_
      refine g_iload_n C dX8_closeHearing_56 1 rfl ?_
      have hg11 := gd_1 h
      replace h := gd_2 h
      refine g_iald C 21 q_21 hg11 _ rfl dX8_closeHearing_57 ?_
      obtain ⟨d12, hc13, h⟩ := ob1_1 h
      refine g_callVv C 3 q_3 vk_S_92 hR rfl (m_L_addSentence C.2.2.2.2.2.2.1 hc13) rfl rfl rfl dX8_closeHearing_58 rfl rfl ?_
      exact R61 x1 x2 d12 h
  unfold f_S_closeHearing at h
  refine g_ldcS C 11 (by decide) (by decide +kernel) (by decide +kernel) dX8_closeHearing_0 ?_
  refine g_iload_n C dX8_closeHearing_2 2 rfl ?_
  obtain ⟨r14, hc15, h⟩ := ob1_1 h
  refine g_callO C _ (ks_obj C (by decide)) yk_J0_indexOf_0f7a4 rfl (wA 944 (by decide +kernel) (by decide +kernel)) (wA 945 (by decide +kernel) (by decide +kernel)) (wA 946 (by decide +kernel) (by decide +kernel)) hR rfl (m_JS_indexOf1 C.2.2.2.2.2.2.1 (by decide) hc15) rfl rfl rfl dX8_closeHearing_3 rfl rfl ?_
  refine g_istore_n C (lv' := [(3, .int r14), (0, .ref (w_r w 2)), (1, .int x1), (2, .int x2)]) dX8_closeHearing_6 (by decide) rfl ?_
  refine g_iload_n C dX8_closeHearing_7 0 rfl ?_
  refine g_if_lt C dX8_closeHearing_8 (tgt := 30) rfl (fun q => ?_) (fun q => ?_)
  · replace h := it_t q h
    refine g_sub [1, 2, 3] (lv' := [(0, .ref (w_r w 2)), (1, .int x1), (2, .int x2)]) rfl ?_
    exact R30 x1 x2 d h
  · replace h := it_f q h
    refine g_iload_n C dX8_closeHearing_11 0 rfl ?_
    refine g_aload_n C dX8_closeHearing_12 1 rfl ?_
    refine g_get C (.ref (w_r w 26)) 2 q_2 fk_S_32 rfl dX8_closeHearing_13 ?_
    refine g_alen C 4 26 q_26 rfl 0 rfl (by decide) dX8_closeHearing_16 ?_
    refine g_icmp_ge C dX8_closeHearing_17 (tgt := 30) rfl (fun q => ?_) (fun q => ?_)
    · replace h := it_t q h
      refine g_sub [1, 2, 3] (lv' := [(0, .ref (w_r w 2)), (1, .int x1), (2, .int x2)]) rfl ?_
      exact R30 x1 x2 d h
    · replace h := it_f q h
      refine g_aload_n C dX8_closeHearing_20 1 rfl ?_
      refine g_get C (.ref (w_r w 26)) 2 q_2 fk_S_32 rfl dX8_closeHearing_21 ?_
      refine g_iload_n C dX8_closeHearing_24 0 rfl ?_
      refine g_dup2 C dX8_closeHearing_25 rfl rfl ?_
      have hg16 := gd_1 h
      replace h := gd_2 h
      refine g_iald C 26 q_26 hg16 _ rfl dX8_closeHearing_26 ?_
      refine g_iconst C dX8_closeHearing_27 (v := 1) rfl ?_
      refine g_iadd C dX8_closeHearing_28  ?_
      have hg17 := gd_1 h
      replace h := gd_2 h
      refine g_iast C 26 q_26 hg17 _ rfl  dX8_closeHearing_29 ?_
      obtain ⟨d18, hd18, h⟩ := bnd_1 h
      refine g_nmD hd18 ?_
      refine g_sub [1, 2, 3] (lv' := [(0, .ref (w_r w 2)), (1, .int x1), (2, .int x2)]) rfl ?_
      exact R30 x1 x2 d18 h
set_option maxHeartbeats 4000000 in
set_option maxRecDepth 100000 in
theorem m_C_hear {w : wT} {l : Launch} {x1 : Int32} {d : Dt} {dE : Dt} (hO : okW w) (h : f_C_hear x1 d = some dE) : gM w l yX11_hear cX11_hear 2 (Option.none : Option Jvm.ClassFile.FieldType) 5 [.ref (w_r w 0), .int x1] d dE none := by
  refine gM_of (by decide) [(0, .ref (w_r w 0)), (1, .int x1)] rfl rfl ?_ hO
  intro p e R s m args below meth c C hR hr hlk
  unfold f_C_hear at h
  refine g_aload_n C dX11_hear_0 0 rfl ?_
  refine g_get C (.ref (w_r w 281)) 0 q_0 fk_C_36 rfl dX11_hear_1 ?_
  refine g_aload_n C dX11_hear_4 0 rfl ?_
  refine g_get C (.ref (w_r w 2)) 0 q_0 fk_C_10 rfl dX11_hear_5 ?_
  refine g_get C (.ref (w_r w 3)) 2 q_2 fk_C_68 rfl dX11_hear_8 ?_
  refine g_aload_n C dX11_hear_11 0 rfl ?_
  refine g_get C (.ref (w_r w 2)) 0 q_0 fk_C_10 rfl dX11_hear_12 ?_
  refine g_get C (.ref (w_r w 22)) 2 q_2 fk_C_128 rfl dX11_hear_15 ?_
  refine g_iconst C dX11_hear_18 (v := (-1)) (by decide) ?_
  obtain ⟨d4, hc5, h⟩ := ob1_1 h
  refine g_callVv C 281 q_281 vk_C_262 hR rfl (m_G_find C.2.2.2.2.2.2.1 hc5) rfl rfl rfl dX11_hear_19 rfl rfl ?_
  refine g_aload_n C dX11_hear_22 0 rfl ?_
  refine g_get C (.ref (w_r w 2)) 0 q_0 fk_C_10 rfl dX11_hear_23 ?_
  refine g_iload_n C dX11_hear_26 1 rfl ?_
  refine g_aload_n C dX11_hear_27 0 rfl ?_
  refine g_get C (.ref (w_r w 281)) 0 q_0 fk_C_36 rfl dX11_hear_28 ?_
  refine g_aload_n C dX11_hear_31 0 rfl ?_
  refine g_get C (.ref (w_r w 2)) 0 q_0 fk_C_10 rfl dX11_hear_32 ?_
  refine g_get C (.ref (w_r w 16)) 2 q_2 fk_C_108 rfl dX11_hear_35 ?_
  refine g_get C (.ref (w_r w 18)) 16 q_16 fk_C_221 rfl dX11_hear_38 ?_
  refine g_iload_n C dX11_hear_41 1 rfl ?_
  have hg6 := gd_1 h
  replace h := gd_2 h
  refine g_iald C 18 q_18 hg6 _ rfl dX11_hear_42 ?_
  obtain ⟨r7, hc8, h⟩ := ob1_1 h
  refine g_callVi C 281 q_281 vk_C_284 hR rfl (m_G_verdictOn C.2.2.2.2.2.2.1 hc8) rfl rfl rfl dX11_hear_43 rfl rfl ?_
  obtain ⟨d9, hc10, h⟩ := ob1_1 h
  refine g_callVv C 2 q_2 vk_C_457 hR rfl (m_S_closeHearing C.2.2.2.2.2.2.1 hc10) rfl rfl rfl dX11_hear_46 rfl rfl ?_
  exact g_vret C hr hlk (Option.some.inj h) rfl dX11_hear_49
set_option maxHeartbeats 4000000 in
set_option maxRecDepth 100000 in
theorem m_C_letPass {w : wT} {l : Launch} {x1 : Int32} {d : Dt} {rE : Int32} {dE : Dt} (hO : okW w) (h : f_C_letPass x1 d = some (rE, dE)) : gM w l yX11_letPass cX11_letPass 4 (Option.some Jvm.ClassFile.FieldType.int) 6 [.ref (w_r w 0), .int x1] d dE (some (.int rE)) := by
  refine gM_of (by decide) [(0, .ref (w_r w 0)), (1, .int x1)] rfl rfl ?_ hO
  intro p e R s m args below meth c C hR hr hlk
  have R4 : ∀ (x1 : Int32) (x2 : Int32) (x3 : Int32) (d : Dt), f_C_letPass_4 x1 x2 x3 d = some (rE, dE) → gG w p l e R s m args below meth c 4 0 0 (gE w below args s dE (some (.int rE))) d [(0, .ref (w_r w 0)), (1, .int x1), (2, .int x2), (3, .int x3)] 4 [] := by
    intro x1 x2 x3 d  h
    refine iter_ind (G := fun s_ : (Int32 × Int32 × Dt) => gG w p l e R s m args below meth c 4 0 0 (gE w below args s dE (some (.int rE))) s_.2.2 [(0, .ref (w_r w 0)), (1, .int x1), (2, .int s_.1), (3, .int s_.2.1)] 4 []) ?_ fu _ h
    clear h
    intro s_ y1 h hl1 hx1
    obtain ⟨x2, x3, d⟩ := s_
    show gG w p l e R s m args below meth c 4 0 0 (gE w below args s dE (some (.int rE))) d [(0, .ref (w_r w 0)), (1, .int x1), (2, .int x2), (3, .int x3)] 4 []
    dsimp only at h
    unfold st_C_letPass_4 at h
    have R69 : ∀ (x2 : Int32) (x3 : Int32) (d : Dt), f_C_letPass_69 x1 x2 x3  d = some y1 → gG w p l e R s m args below meth c 4 0 0 (gE w below args s dE (some (.int rE))) d [(0, .ref (w_r w 0)), (1, .int x1), (2, .int x2), (3, .int x3)] 69 [] := by
      intro x2 x3  d  h
      unfold f_C_letPass_69 at h
      refine g_aload_n C dX11_letPass_69 0 rfl ?_
      refine g_get C (.ref (w_r w 2)) 0 q_0 fk_C_10 rfl dX11_letPass_70 ?_
      obtain ⟨d8, hc9, h⟩ := ob1_1 h
      refine g_callVv C 2 q_2 vk_C_451 hR rfl (m_S_letLapse C.2.2.2.2.2.2.1 hc9) rfl rfl rfl dX11_letPass_73 rfl rfl ?_
      refine g_aload_n C dX11_letPass_76 0 rfl ?_
      refine g_get C (.ref (w_r w 2)) 0 q_0 fk_C_10 rfl dX11_letPass_77 ?_
      refine g_dup C dX11_letPass_80 rfl ?_
      refine g_get C (.int (d8 2 8)) 2 q_2 fk_C_327 rfl dX11_letPass_81 ?_
      refine g_aload_n C dX11_letPass_84 0 rfl ?_
      refine g_get C (.ref (w_r w 2)) 0 q_0 fk_C_10 rfl dX11_letPass_85 ?_
      refine g_get C (.ref (w_r w 3)) 2 q_2 fk_C_68 rfl dX11_letPass_88 ?_
      obtain ⟨r10, d11, hc12, h⟩ := ob2_1 h
      refine g_callVi C 3 q_3 vk_C_454 hR rfl (m_L_liveOneDay C.2.2.2.2.2.2.1 hc12) rfl rfl rfl dX11_letPass_91 rfl rfl ?_
      refine g_iadd C dX11_letPass_94  ?_
      refine g_put C 2 q_2 pk_C_327 rfl rfl dX11_letPass_95 ?_
      obtain ⟨d13, hd13, h⟩ := bnd_1 h
      refine g_nmD hd13 ?_
      refine g_iinc C (lv' := [(3, .int (x3 + 1)), (0, .ref (w_r w 0)), (1, .int x1), (2, .int x2)]) (v := (x3 + 1)) dX11_letPass_98 3 rfl rfl (by decide) rfl ?_
      refine g_goto C dX11_letPass_101 (tgt := 4) rfl ?_
      refine g_sub [1, 2, 3, 0] (lv' := [(0, .ref (w_r w 0)), (1, .int x1), (2, .int x2), (3, .int (x3 + 1))]) rfl ?_
      exact hl1 (x2, (x3 + 1), d13) (Option.some.inj h).symm
    refine g_iload_n C dX11_letPass_4 3 rfl ?_
    refine g_iload_n C dX11_letPass_5 1 rfl ?_
    refine g_icmp_ge C dX11_letPass_6 (tgt := 104) rfl (fun q => ?_) (fun q => ?_)
    · replace h := it_t q h
      replace h := ir_2 h hx1
      refine g_iload_n C dX11_letPass_104 2 rfl ?_
      exact g_iret C hr hlk rfl (congrArg Prod.snd (Option.some.inj h)) (congrArg (fun z => some (Value.int z.1)) (Option.some.inj h)) dX11_letPass_105
    · replace h := it_f q h
      refine g_aload_n C dX11_letPass_9 0 rfl ?_
      refine g_get C (.ref (w_r w 277)) 0 q_0 fk_C_29 rfl dX11_letPass_10 ?_
      refine g_aload_n C dX11_letPass_13 0 rfl ?_
      refine g_get C (.ref (w_r w 2)) 0 q_0 fk_C_10 rfl dX11_letPass_14 ?_
      refine g_get C (.ref (w_r w 16)) 2 q_2 fk_C_108 rfl dX11_letPass_17 ?_
      refine g_aload_n C dX11_letPass_20 0 rfl ?_
      refine g_get C (.ref (w_r w 2)) 0 q_0 fk_C_10 rfl dX11_letPass_21 ?_
      refine g_get C (.int (d 2 0)) 2 q_2 fk_C_180 rfl dX11_letPass_24 ?_
      obtain ⟨d14, hc15, h⟩ := ob1_1 h
      refine g_callVv C 277 q_277 vk_C_232 hR rfl (m_P_make C.2.2.2.2.2.2.1 hc15) rfl rfl rfl dX11_letPass_27 rfl rfl ?_
      refine g_aload_n C dX11_letPass_30 0 rfl ?_
      refine g_get C (.ref (w_r w 2)) 0 q_0 fk_C_10 rfl dX11_letPass_31 ?_
      refine g_dup C dX11_letPass_34 rfl ?_
      refine g_get C (.int (d14 2 0)) 2 q_2 fk_C_180 rfl dX11_letPass_35 ?_
      refine g_iconst C dX11_letPass_38 (v := 1) rfl ?_
      refine g_iadd C dX11_letPass_39  ?_
      refine g_put C 2 q_2 pk_C_180 rfl rfl dX11_letPass_40 ?_
      obtain ⟨d16, hd16, h⟩ := bnd_1 h
      refine g_nmD hd16 ?_
      refine g_aload_n C dX11_letPass_43 0 rfl ?_
      refine g_get C (.ref (w_r w 277)) 0 q_0 fk_C_29 rfl dX11_letPass_44 ?_
      refine g_get C (.int (d16 277 0)) 277 q_277 fk_C_403 rfl dX11_letPass_47 ?_
      refine g_if_le C dX11_letPass_50 (tgt := 69) rfl (fun q => ?_) (fun q => ?_)
      · replace h := it_t q h
        exact R69 x2 x3 d16 h
      · replace h := it_f q h
        refine g_aload_n C dX11_letPass_53 0 rfl ?_
        refine g_aload_n C dX11_letPass_54 0 rfl ?_
        refine g_get C (.ref (w_r w 277)) 0 q_0 fk_C_29 rfl dX11_letPass_55 ?_
        refine g_get C (.ref (w_r w 278)) 277 q_277 fk_C_404 rfl dX11_letPass_58 ?_
        refine g_iconst C dX11_letPass_61 (v := 0) rfl ?_
        refine g_iald C 278 q_278 (by decide) 0 (by decide) dX11_letPass_62 ?_
        obtain ⟨d17, hc18, h⟩ := ob1_1 h
        refine g_callVv C 0 q_0 vk_C_448 hR rfl (m_C_hear C.2.2.2.2.2.2.1 hc18) rfl rfl rfl dX11_letPass_63 rfl rfl ?_
        refine g_iinc C (lv' := [(2, .int (x2 + 1)), (0, .ref (w_r w 0)), (1, .int x1), (3, .int x3)]) (v := (x2 + 1)) dX11_letPass_66 2 rfl rfl (by decide) rfl ?_
        refine g_sub [1, 2, 0, 3] (lv' := [(0, .ref (w_r w 0)), (1, .int x1), (2, .int (x2 + 1)), (3, .int x3)]) rfl ?_
        exact R69 (x2 + 1) x3 d17 h
  unfold f_C_letPass at h
  refine g_iconst C dX11_letPass_0 (v := 0) rfl ?_
  refine g_istore_n C (lv' := [(2, .int 0), (0, .ref (w_r w 0)), (1, .int x1)]) dX11_letPass_1 (by decide) rfl ?_
  refine g_iconst C dX11_letPass_2 (v := 0) rfl ?_
  refine g_istore_n C (lv' := [(3, .int 0), (2, .int 0), (0, .ref (w_r w 0)), (1, .int x1)]) dX11_letPass_3 (by decide) rfl ?_
  refine g_sub [2, 3, 1, 0] (lv' := [(0, .ref (w_r w 0)), (1, .int x1), (2, .int 0), (3, .int 0)]) rfl ?_
  exact R4 x1 0 0 d h
