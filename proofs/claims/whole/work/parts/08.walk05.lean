/-! 08: walks -/
set_option maxHeartbeats 4000000 in
set_option maxRecDepth 100000 in
theorem m_T_copyFrom {w : wT} {l : Launch} {a : Nat} {b : Nat} {d : Dt} {dE : Dt} (hO : okW w) (ha : stB a) (hb : stB b) (h : f_T_copyFrom a b  d = some dE) : gM w l yX9_copyFrom cX9_copyFrom 3 (Option.none : Option Jvm.ClassFile.FieldType) 1 [.ref (w_r w (a + 20)), .ref (w_r w (b + 20))] d dE none := by
  refine gM_of (by decide) [(0, .ref (w_r w (a + 20))), (1, .ref (w_r w (b + 20)))] rfl rfl ?_ hO
  intro p e R s m args below meth c C hR hr hlk
  have R40 : ∀ (x2 : Int32) (d : Dt), f_T_copyFrom_40 a b x2 d = some dE → gG w p l e R s m args below meth c 3 0 0 (gE w below args s dE none) d [(0, .ref (w_r w (a + 20))), (1, .ref (w_r w (b + 20))), (2, .int x2)] 40 [] := by
    intro x2 d  h
    refine iter_ind (G := fun s_ : (Int32 × Dt) => gG w p l e R s m args below meth c 3 0 0 (gE w below args s dE none) s_.2 [(0, .ref (w_r w (a + 20))), (1, .ref (w_r w (b + 20))), (2, .int s_.1)] 40 []) ?_ fu _ h
    clear h
    intro s_ y1 h hl1 hx1
    obtain ⟨x2, d⟩ := s_
    show gG w p l e R s m args below meth c 3 0 0 (gE w below args s dE none) d [(0, .ref (w_r w (a + 20))), (1, .ref (w_r w (b + 20))), (2, .int x2)] 40 []
    dsimp only at h
    unfold st_T_copyFrom_40 at h
    refine g_iload_n C dX9_copyFrom_40 2 rfl ?_
    refine g_bipush C dX9_copyFrom_41 (v := 12) (by decide) ?_
    refine g_icmp_ge C dX9_copyFrom_43 (tgt := 64) rfl (fun q => ?_) (fun q => ?_)
    · replace h := it_t q h
      replace h := ir_2 h hx1
      exact g_vret C hr hlk (Option.some.inj h) rfl dX9_copyFrom_64
    · replace h := it_f q h
      refine g_aload_n C dX9_copyFrom_46 0 rfl ?_
      refine g_get C (.ref (w_r w (a + 23))) (a + 20) (show isC (a + 20) 9 0 from ha 20 (by decide)) fk_T_18 rfl dX9_copyFrom_47 ?_
      refine g_iload_n C dX9_copyFrom_50 2 rfl ?_
      refine g_aload_n C dX9_copyFrom_51 1 rfl ?_
      refine g_get C (.ref (w_r w (b + 23))) (b + 20) (show isC (b + 20) 9 0 from hb 20 (by decide)) fk_T_18 rfl dX9_copyFrom_52 ?_
      refine g_iload_n C dX9_copyFrom_55 2 rfl ?_
      have hg5 := gd_1 h
      replace h := gd_2 h
      refine g_zald C (b + 23) (show isC (b + 23) 22 12 from hb 23 (by decide)) hg5 _ rfl dX9_copyFrom_56 ?_
      have hg6 := gd_1 h
      replace h := gd_2 h
      have hg7 := gd_1 h
      replace h := gd_2 h
      refine g_zast C (a + 23) (show isC (a + 23) 22 12 from ha 23 (by decide)) hg6 _ rfl (nar_v hg7) dX9_copyFrom_57 ?_
      obtain ⟨d8, hd8, h⟩ := bnd_1 h
      refine g_nmD hd8 ?_
      refine g_iinc C (lv' := [(2, .int (x2 + 1)), (0, .ref (w_r w (a + 20))), (1, .ref (w_r w (b + 20)))]) (v := (x2 + 1)) dX9_copyFrom_58 2 rfl rfl (by decide) rfl ?_
      refine g_goto C dX9_copyFrom_61 (tgt := 40) rfl ?_
      refine g_sub [1, 2, 0] (lv' := [(0, .ref (w_r w (a + 20))), (1, .ref (w_r w (b + 20))), (2, .int (x2 + 1))]) rfl ?_
      exact hl1 ((x2 + 1), d8) (Option.some.inj h).symm
  unfold f_T_copyFrom at h
  refine g_aload_n C dX9_copyFrom_0 0 rfl ?_
  refine g_aload_n C dX9_copyFrom_1 1 rfl ?_
  refine g_get C (.int (d (b + 20) 0)) (b + 20) (show isC (b + 20) 9 0 from hb 20 (by decide)) fk_T_22 rfl dX9_copyFrom_2 ?_
  refine g_put C (a + 20) (show isC (a + 20) 9 0 from ha 20 (by decide)) pk_T_22 rfl rfl dX9_copyFrom_5 ?_
  obtain ⟨d9, hd9, h⟩ := bnd_1 h
  refine g_nmD hd9 ?_
  refine g_aload_n C dX9_copyFrom_8 1 rfl ?_
  refine g_get C (.ref (w_r w (b + 21))) (b + 20) (show isC (b + 20) 9 0 from hb 20 (by decide)) fk_T_9 rfl dX9_copyFrom_9 ?_
  refine g_iconst C dX9_copyFrom_12 (v := 0) rfl ?_
  refine g_aload_n C dX9_copyFrom_13 0 rfl ?_
  refine g_get C (.ref (w_r w (a + 21))) (a + 20) (show isC (a + 20) 9 0 from ha 20 (by decide)) fk_T_9 rfl dX9_copyFrom_14 ?_
  refine g_iconst C dX9_copyFrom_17 (v := 0) rfl ?_
  refine g_bipush C dX9_copyFrom_18 (v := 12) (by decide) ?_
  refine g_copy C (b + 21) (a + 21) (show isC (b + 21) 20 12 from hb 21 (by decide)) (show isC (a + 21) 20 12 from ha 21 (by decide)) 12 (by decide) (by decide) rfl rfl ac_T_26 ac_nat ac_sta ac_ini hR rfl dX9_copyFrom_20 ?_
  obtain ⟨d10, hd10, h⟩ := bnd_1 h
  refine g_nmD hd10 ?_
  refine g_aload_n C dX9_copyFrom_23 1 rfl ?_
  refine g_get C (.ref (w_r w (b + 22))) (b + 20) (show isC (b + 20) 9 0 from hb 20 (by decide)) fk_T_15 rfl dX9_copyFrom_24 ?_
  refine g_iconst C dX9_copyFrom_27 (v := 0) rfl ?_
  refine g_aload_n C dX9_copyFrom_28 0 rfl ?_
  refine g_get C (.ref (w_r w (a + 22))) (a + 20) (show isC (a + 20) 9 0 from ha 20 (by decide)) fk_T_15 rfl dX9_copyFrom_29 ?_
  refine g_iconst C dX9_copyFrom_32 (v := 0) rfl ?_
  refine g_bipush C dX9_copyFrom_33 (v := 12) (by decide) ?_
  refine g_copy C (b + 22) (a + 22) (show isC (b + 22) 20 12 from hb 22 (by decide)) (show isC (a + 22) 20 12 from ha 22 (by decide)) 12 (by decide) (by decide) rfl rfl ac_T_26 ac_nat ac_sta ac_ini hR rfl dX9_copyFrom_35 ?_
  obtain ⟨d11, hd11, h⟩ := bnd_1 h
  refine g_nmD hd11 ?_
  refine g_iconst C dX9_copyFrom_38 (v := 0) rfl ?_
  refine g_istore_n C (lv' := [(2, .int 0), (0, .ref (w_r w (a + 20))), (1, .ref (w_r w (b + 20)))]) dX9_copyFrom_39 (by decide) rfl ?_
  refine g_sub [1, 2, 0] (lv' := [(0, .ref (w_r w (a + 20))), (1, .ref (w_r w (b + 20))), (2, .int 0)]) rfl ?_
  exact R40 0 d11 h
set_option maxHeartbeats 4000000 in
set_option maxRecDepth 100000 in
theorem m_S_copyFrom {w : wT} {l : Launch} {a : Nat} {b : Nat} {d : Dt} {dE : Dt} (hO : okW w) (ha : stB a) (hb : stB b) (h : f_S_copyFrom a b  d = some dE) : gM w l yX8_copyFrom cX8_copyFrom 2 (Option.none : Option Jvm.ClassFile.FieldType) 2 [.ref (w_r w a), .ref (w_r w b)] d dE none := by
  refine gM_of (by decide) [(0, .ref (w_r w a)), (1, .ref (w_r w b))] rfl rfl ?_ hO
  intro p e R s m args below meth c C hR hr hlk
  unfold f_S_copyFrom at h
  refine g_aload_n C dX8_copyFrom_0 0 rfl ?_
  refine g_aload_n C dX8_copyFrom_1 1 rfl ?_
  refine g_get C (.int (d b 0)) b (show isC b 8 0 from hb 0 (by decide)) fk_S_36 rfl dX8_copyFrom_2 ?_
  refine g_put C a (show isC a 8 0 from ha 0 (by decide)) pk_S_36 rfl rfl dX8_copyFrom_5 ?_
  obtain ⟨d10, hd10, h⟩ := bnd_1 h
  refine g_nmD hd10 ?_
  refine g_aload_n C dX8_copyFrom_8 0 rfl ?_
  refine g_get C (.ref (w_r w (a + 1))) a (show isC a 8 0 from ha 0 (by decide)) fk_S_12 rfl dX8_copyFrom_9 ?_
  refine g_aload_n C dX8_copyFrom_12 1 rfl ?_
  refine g_get C (.ref (w_r w (b + 1))) b (show isC b 8 0 from hb 0 (by decide)) fk_S_12 rfl dX8_copyFrom_13 ?_
  obtain ⟨d11, hc12, h⟩ := ob1_1 h
  refine g_callVv C (a + 1) (show isC (a + 1) 5 0 from ha 1 (by decide)) vk_S_40 hR rfl (m_L_copyFrom C.2.2.2.2.2.2.1 ha hb hc12) rfl rfl rfl dX8_copyFrom_16 rfl rfl ?_
  refine g_aload_n C dX8_copyFrom_19 0 rfl ?_
  refine g_get C (.ref (w_r w (a + 14))) a (show isC a 8 0 from ha 0 (by decide)) fk_S_21 rfl dX8_copyFrom_20 ?_
  refine g_aload_n C dX8_copyFrom_23 1 rfl ?_
  refine g_get C (.ref (w_r w (b + 14))) b (show isC b 8 0 from hb 0 (by decide)) fk_S_21 rfl dX8_copyFrom_24 ?_
  obtain ⟨d13, hc14, h⟩ := ob1_1 h
  refine g_callVv C (a + 14) (show isC (a + 14) 2 0 from ha 14 (by decide)) vk_S_44 hR rfl (m_B_copyFrom C.2.2.2.2.2.2.1 ha hb hc14) rfl rfl rfl dX8_copyFrom_27 rfl rfl ?_
  refine g_aload_n C dX8_copyFrom_30 0 rfl ?_
  refine g_get C (.ref (w_r w (a + 20))) a (show isC a 8 0 from ha 0 (by decide)) fk_S_28 rfl dX8_copyFrom_31 ?_
  refine g_aload_n C dX8_copyFrom_34 1 rfl ?_
  refine g_get C (.ref (w_r w (b + 20))) b (show isC b 8 0 from hb 0 (by decide)) fk_S_28 rfl dX8_copyFrom_35 ?_
  obtain ⟨d15, hc16, h⟩ := ob1_1 h
  refine g_callVv C (a + 20) (show isC (a + 20) 9 0 from ha 20 (by decide)) vk_S_47 hR rfl (m_T_copyFrom C.2.2.2.2.2.2.1 ha hb hc16) rfl rfl rfl dX8_copyFrom_38 rfl rfl ?_
  refine g_aload_n C dX8_copyFrom_41 0 rfl ?_
  refine g_aload_n C dX8_copyFrom_42 1 rfl ?_
  refine g_get C (.int (d15 b 4)) b (show isC b 8 0 from hb 0 (by decide)) fk_S_50 rfl dX8_copyFrom_43 ?_
  refine g_put C a (show isC a 8 0 from ha 0 (by decide)) pk_S_50 rfl rfl dX8_copyFrom_46 ?_
  obtain ⟨d17, hd17, h⟩ := bnd_1 h
  refine g_nmD hd17 ?_
  refine g_aload_n C dX8_copyFrom_49 0 rfl ?_
  refine g_aload_n C dX8_copyFrom_50 1 rfl ?_
  refine g_get C (.int (d17 b 5)) b (show isC b 8 0 from hb 0 (by decide)) fk_S_53 rfl dX8_copyFrom_51 ?_
  refine g_put C a (show isC a 8 0 from ha 0 (by decide)) pk_S_53 rfl rfl dX8_copyFrom_54 ?_
  obtain ⟨d18, hd18, h⟩ := bnd_1 h
  refine g_nmD hd18 ?_
  refine g_aload_n C dX8_copyFrom_57 1 rfl ?_
  refine g_get C (.ref (w_r w (b + 24))) b (show isC b 8 0 from hb 0 (by decide)) fk_S_32 rfl dX8_copyFrom_58 ?_
  refine g_iconst C dX8_copyFrom_61 (v := 0) rfl ?_
  refine g_aload_n C dX8_copyFrom_62 0 rfl ?_
  refine g_get C (.ref (w_r w (a + 24))) a (show isC a 8 0 from ha 0 (by decide)) fk_S_32 rfl dX8_copyFrom_63 ?_
  refine g_iconst C dX8_copyFrom_66 (v := 0) rfl ?_
  refine g_aload_n C dX8_copyFrom_67 0 rfl ?_
  refine g_get C (.ref (w_r w (a + 24))) a (show isC a 8 0 from ha 0 (by decide)) fk_S_32 rfl dX8_copyFrom_68 ?_
  refine g_alen C 4 (a + 24) (show isC (a + 24) 20 4 from ha 24 (by decide)) rfl 0 rfl (by decide) dX8_copyFrom_71 ?_
  refine g_copy C (b + 24) (a + 24) (show isC (b + 24) 20 4 from hb 24 (by decide)) (show isC (a + 24) 20 4 from ha 24 (by decide)) 4 (by decide) (by decide) rfl rfl ac_S_56 ac_nat ac_sta ac_ini hR rfl dX8_copyFrom_72 ?_
  obtain ⟨d19, hd19, h⟩ := bnd_1 h
  refine g_nmD hd19 ?_
  refine g_aload_n C dX8_copyFrom_75 0 rfl ?_
  refine g_aload_n C dX8_copyFrom_76 1 rfl ?_
  refine g_get C (.int (d19 b 7)) b (show isC b 8 0 from hb 0 (by decide)) fk_S_62 rfl dX8_copyFrom_77 ?_
  refine g_put C a (show isC a 8 0 from ha 0 (by decide)) pk_S_62 rfl rfl dX8_copyFrom_80 ?_
  obtain ⟨d20, hd20, h⟩ := bnd_1 h
  refine g_nmD hd20 ?_
  refine g_aload_n C dX8_copyFrom_83 0 rfl ?_
  refine g_aload_n C dX8_copyFrom_84 1 rfl ?_
  refine g_get C (.int (d20 b 8)) b (show isC b 8 0 from hb 0 (by decide)) fk_S_65 rfl dX8_copyFrom_85 ?_
  refine g_put C a (show isC a 8 0 from ha 0 (by decide)) pk_S_65 rfl rfl dX8_copyFrom_88 ?_
  obtain ⟨d21, hd21, h⟩ := bnd_1 h
  refine g_nmD hd21 ?_
  exact g_vret C hr hlk (Option.some.inj h) rfl dX8_copyFrom_91
set_option maxHeartbeats 4000000 in
set_option maxRecDepth 100000 in
theorem m_C_remember {w : wT} {l : Launch} {d : Dt} {dE : Dt} (hO : okW w) (h : f_C_remember  d = some dE) : gM w l yX11_remember cX11_remember 2 (Option.none : Option Jvm.ClassFile.FieldType) 3 [.ref (w_r w 0), .ref (w_r w 2)] d dE none := by
  refine gM_of (by decide) [(0, .ref (w_r w 0)), (1, .ref (w_r w 2))] rfl rfl ?_ hO
  intro p e R s m args below meth c C hR hr hlk
  have R33 : ∀ (v1 : Int32) (d : Dt), f_C_remember_33  v1 d = some dE → gG w p l e R s m args below meth c 2 0 0 (gE w below args s dE none) d [(0, .ref (w_r w 0))] 33 [.int v1, .ref (w_r w 0)] := by
    intro  v1 d  h
    unfold f_C_remember_33 at h
    refine g_put C 0 q_0 pk_C_419 rfl rfl dX11_remember_33 ?_
    obtain ⟨d4, hd4, h⟩ := bnd_1 h
    refine g_nmD hd4 ?_
    refine g_aload_n C dX11_remember_36 0 rfl ?_
    refine g_aload_n C dX11_remember_37 0 rfl ?_
    refine g_get C (.int (d4 0 10)) 0 q_0 fk_C_414 rfl dX11_remember_38 ?_
    refine g_iconst C dX11_remember_41 (v := 1) rfl ?_
    refine g_iadd C dX11_remember_42  ?_
    refine g_bipush C dX11_remember_43 (v := 8) (by decide) ?_
    refine g_mmin C mm_C_443 mm_sta_min mm_ini mm_cod_min hR rfl rfl dX11_remember_45 rfl rfl ?_
    refine g_put C 0 q_0 pk_C_414 rfl rfl dX11_remember_48 ?_
    obtain ⟨d5, hd5, h⟩ := bnd_1 h
    refine g_nmD hd5 ?_
    exact g_vret C hr hlk (Option.some.inj h) rfl dX11_remember_51
  unfold f_C_remember at h
  refine g_aload_n C dX11_remember_0 0 rfl ?_
  refine g_get C (.ref (w_r w 1)) 0 q_0 fk_C_22 rfl dX11_remember_1 ?_
  refine g_aload_n C dX11_remember_4 0 rfl ?_
  refine g_get C (.int (d 0 9)) 0 q_0 fk_C_419 rfl dX11_remember_5 ?_
  have hg6 := gd_1 h
  replace h := gd_2 h
  refine g_aald3 C 1 q_1 hg6 dX11_remember_8 ?_
  refine g_aload_n C dX11_remember_9 1 rfl ?_
  obtain ⟨d7, hc8, h⟩ := ob1_1 h
  refine g_callVv C (77 + 25 * (d 0 9).toNatClampNeg) (show isC (77 + 25 * (d 0 9).toNatClampNeg) 8 0 from stB_h hg6 0 (by decide)) vk_C_377 hR rfl (m_S_copyFrom C.2.2.2.2.2.2.1 (stB_h hg6) stB_2 hc8) rfl rfl rfl dX11_remember_10 rfl rfl ?_
  refine g_aload_n C dX11_remember_13 0 rfl ?_
  refine g_aload_n C dX11_remember_14 0 rfl ?_
  refine g_get C (.int (d7 0 9)) 0 q_0 fk_C_419 rfl dX11_remember_15 ?_
  refine g_bipush C dX11_remember_18 (v := 7) (by decide) ?_
  refine g_icmp_ne C dX11_remember_20 (tgt := 27) rfl (fun q => ?_) (fun q => ?_)
  · replace h := it_f q h
    refine g_aload_n C dX11_remember_27 0 rfl ?_
    refine g_get C (.int (d7 0 9)) 0 q_0 fk_C_419 rfl dX11_remember_28 ?_
    refine g_iconst C dX11_remember_31 (v := 1) rfl ?_
    refine g_iadd C dX11_remember_32  ?_
    refine g_sub [0] (lv' := [(0, .ref (w_r w 0))]) rfl ?_
    exact R33 ((d7 0 9) + 1) d7 h
  · replace h := it_t q h
    refine g_iconst C dX11_remember_23 (v := 0) rfl ?_
    refine g_goto C dX11_remember_24 (tgt := 33) rfl ?_
    refine g_sub [0] (lv' := [(0, .ref (w_r w 0))]) rfl ?_
    exact R33 0 d7 h
set_option maxHeartbeats 4000000 in
set_option maxRecDepth 100000 in
theorem m_L_add {w : wT} {l : Launch} {d : Dt} {rE : Int32} {dE : Dt} (hO : okW w) (h : f_L_add  d = some (rE, dE)) : gM w l yX5_add cX5_add 1 (Option.some Jvm.ClassFile.FieldType.int) 0 [.ref (w_r w 3)] d dE (some (.int rE)) := by
  refine gM_of (by decide) [(0, .ref (w_r w 3))] rfl rfl ?_ hO
  intro p e R s m args below meth c C hR hr hlk
  unfold f_L_add at h
  refine g_aload_n C dX5_add_0 0 rfl ?_
  refine g_get C (.ref (w_r w 4)) 3 q_3 fk_L_9 rfl dX5_add_1 ?_
  refine g_aload_n C dX5_add_4 0 rfl ?_
  refine g_get C (.int (d 3 0)) 3 q_3 fk_L_26 rfl dX5_add_5 ?_
  refine g_bipush C dX5_add_8 (v := 9) (by decide) ?_
  have hg5 := gd_1 h
  replace h := gd_2 h
  refine g_iast C 4 q_4 hg5 _ rfl  dX5_add_10 ?_
  obtain ⟨d6, hd6, h⟩ := bnd_1 h
  refine g_nmD hd6 ?_
  refine g_aload_n C dX5_add_11 0 rfl ?_
  refine g_get C (.ref (w_r w 5)) 3 q_3 fk_L_15 rfl dX5_add_12 ?_
  refine g_aload_n C dX5_add_15 0 rfl ?_
  refine g_get C (.int (d6 3 0)) 3 q_3 fk_L_26 rfl dX5_add_16 ?_
  refine g_iconst C dX5_add_19 (v := 0) rfl ?_
  have hg7 := gd_1 h
  replace h := gd_2 h
  refine g_iast C 5 q_5 hg7 _ rfl  dX5_add_20 ?_
  obtain ⟨d8, hd8, h⟩ := bnd_1 h
  refine g_nmD hd8 ?_
  refine g_aload_n C dX5_add_21 0 rfl ?_
  refine g_get C (.ref (w_r w 6)) 3 q_3 fk_L_18 rfl dX5_add_22 ?_
  refine g_aload_n C dX5_add_25 0 rfl ?_
  refine g_get C (.int (d8 3 0)) 3 q_3 fk_L_26 rfl dX5_add_26 ?_
  refine g_iconst C dX5_add_29 (v := 0) rfl ?_
  have hg9 := gd_1 h
  replace h := gd_2 h
  refine g_iast C 6 q_6 hg9 _ rfl  dX5_add_30 ?_
  obtain ⟨d10, hd10, h⟩ := bnd_1 h
  refine g_nmD hd10 ?_
  refine g_aload_n C dX5_add_31 0 rfl ?_
  refine g_dup C dX5_add_32 rfl ?_
  refine g_get C (.int (d10 3 0)) 3 q_3 fk_L_26 rfl dX5_add_33 ?_
  refine g_iconst C dX5_add_36 (v := 1) rfl ?_
  refine g_iadd C dX5_add_37  ?_
  refine g_put C 3 q_3 pk_L_26 rfl rfl dX5_add_38 ?_
  obtain ⟨d11, hd11, h⟩ := bnd_1 h
  refine g_nmD hd11 ?_
  refine g_aload_n C dX5_add_41 0 rfl ?_
  refine g_get C (.int (d11 3 0)) 3 q_3 fk_L_26 rfl dX5_add_42 ?_
  refine g_iconst C dX5_add_45 (v := 1) rfl ?_
  refine g_isub C dX5_add_46  ?_
  exact g_iret C hr hlk rfl (congrArg Prod.snd (Option.some.inj h)) (congrArg (fun z => some (Value.int z.1)) (Option.some.inj h)) dX5_add_47
set_option maxHeartbeats 4000000 in
set_option maxRecDepth 100000 in
theorem m_C_addLantern {w : wT} {l : Launch} {d : Dt} {zE : ((Int32 × Dt) ⊕ (Nat × Dt))} (hO : okW w) (hl9 : l.stackTraces = false) (h : f_C_addLantern  d = some zE) : gMX w l yX11_addLantern cX11_addLantern 1 (Option.some Jvm.ClassFile.FieldType.int) 6 1 6 [.ref (w_r w 0)] d (oW zE) := by
  refine gMX_of (by decide) [(0, .ref (w_r w 0))] rfl rfl ?_ hO
  intro p e R s m args below meth c C hR hr hlk hx
  unfold f_C_addLantern at h
  refine g_aload_n C dX11_addLantern_0 0 rfl ?_
  refine g_get C (.ref (w_r w 2)) 0 q_0 fk_C_10 rfl dX11_addLantern_1 ?_
  refine g_get C (.ref (w_r w 3)) 2 q_2 fk_C_68 rfl dX11_addLantern_4 ?_
  obtain ⟨r5, hc6, h⟩ := ob1_1 h
  refine g_callVi C 3 q_3 vk_C_72 hR rfl (m_L_isFull C.2.2.2.2.2.2.1 hc6) rfl rfl rfl dX11_addLantern_7 rfl rfl ?_
  refine g_if_eq C dX11_addLantern_10 (tgt := 23) rfl (fun q => ?_) (fun q => ?_)
  · replace h := it_t q h
    refine g_aload_n C dX11_addLantern_23 0 rfl ?_
    refine g_aload_n C dX11_addLantern_24 0 rfl ?_
    refine g_get C (.ref (w_r w 2)) 0 q_0 fk_C_10 rfl dX11_addLantern_25 ?_
    obtain ⟨d7, hc8, h⟩ := ob1_1 h
    refine g_callVv C 0 q_0 vk_C_85 hR rfl (m_C_remember C.2.2.2.2.2.2.1 hc8) rfl rfl rfl dX11_addLantern_28 rfl rfl ?_
    refine g_aload_n C dX11_addLantern_31 0 rfl ?_
    refine g_get C (.ref (w_r w 2)) 0 q_0 fk_C_10 rfl dX11_addLantern_32 ?_
    refine g_get C (.ref (w_r w 3)) 2 q_2 fk_C_68 rfl dX11_addLantern_35 ?_
    obtain ⟨r9, d10, hc11, h⟩ := ob2_1 h
    refine g_callVi C 3 q_3 vk_C_89 hR rfl (m_L_add C.2.2.2.2.2.2.1 hc11) rfl rfl rfl dX11_addLantern_38 rfl rfl ?_
    exact g_iretX C hr hlk rfl rfl rfl (oW_i h) dX11_addLantern_41
  · replace h := it_f q h
    exact g_throwS C hl9 th_C_78_82 (i := 0) (by decide) (by decide +kernel) (by decide +kernel) hx hlk hR rfl dX11_addLantern_13 dX11_addLantern_16 dX11_addLantern_17 dX11_addLantern_19 dX11_addLantern_22 rfl rfl rfl rfl rfl (oW_t h)
set_option maxHeartbeats 4000000 in
set_option maxRecDepth 100000 in
theorem m_L_setAdmission {w : wT} {l : Launch} {x1 x2 : Int32} {d : Dt} {rE : Int32} {dE : Dt} (hO : okW w) (h : f_L_setAdmission x1 x2 d = some (rE, dE)) : gM w l yX5_setAdmission cX5_setAdmission 4 (Option.some Jvm.ClassFile.FieldType.int) 0 [.ref (w_r w 3), .int x1, .int x2] d dE (some (.int rE)) := by
  refine gM_of (by decide) [(0, .ref (w_r w 3)), (1, .int x1), (2, .int x2)] rfl rfl ?_ hO
  intro p e R s m args below meth c C hR hr hlk
  unfold f_L_setAdmission at h
  refine g_aload_n C dX5_setAdmission_0 0 rfl ?_
  refine g_get C (.ref (w_r w 5)) 3 q_3 fk_L_15 rfl dX5_setAdmission_1 ?_
  refine g_iload_n C dX5_setAdmission_4 1 rfl ?_
  have hg2 := gd_1 h
  replace h := gd_2 h
  refine g_iald C 5 q_5 hg2 _ rfl dX5_setAdmission_5 ?_
  refine g_istore_n C (lv' := [(3, .int (d 5 x1.toNatClampNeg)), (0, .ref (w_r w 3)), (1, .int x1), (2, .int x2)]) dX5_setAdmission_6 (by decide) rfl ?_
  refine g_aload_n C dX5_setAdmission_7 1 rfl ?_
  refine g_get C (.ref (w_r w 5)) 3 q_3 fk_L_15 rfl dX5_setAdmission_8 ?_
  refine g_iload_n C dX5_setAdmission_11 2 rfl ?_
  refine g_iload_n C dX5_setAdmission_12 3 rfl ?_
  have hg3 := gd_1 h
  replace h := gd_2 h
  refine g_iast C 5 q_5 hg3 _ rfl  dX5_setAdmission_13 ?_
  obtain ⟨d4, hd4, h⟩ := bnd_1 h
  refine g_nmD hd4 ?_
  refine g_iload_n C dX5_setAdmission_14 0 rfl ?_
  exact g_iret C hr hlk rfl (congrArg Prod.snd (Option.some.inj h)) (congrArg (fun z => some (Value.int z.1)) (Option.some.inj h)) dX5_setAdmission_15
set_option maxHeartbeats 4000000 in
set_option maxRecDepth 100000 in
theorem m_L_has {w : wT} {l : Launch} {x1 : Int32} {d : Dt} {rE : Int32} (hO : okW w) (h : f_L_has x1 d = some rE) : gM w l yX5_has cX5_has 2 (Option.some Jvm.ClassFile.FieldType.boolean) 0 [.ref (w_r w 3), .int x1] d d (some (.int rE)) := by
  refine gM_of (by decide) [(0, .ref (w_r w 3)), (1, .int x1)] rfl rfl ?_ hO
  intro p e R s m args below meth c C hR hr hlk
  unfold f_L_has at h
  refine g_iload_n C dX5_has_0 1 rfl ?_
  refine g_if_lt C dX5_has_1 (tgt := 16) rfl (fun q => ?_) (fun q => ?_)
  · replace h := it_t q h
    refine g_iconst C dX5_has_16 (v := 0) rfl ?_
    exact g_iret C hr hlk rfl rfl (congrArg (fun z => some (Value.int z)) (Option.some.inj h)) dX5_has_17
  · replace h := it_f q h
    refine g_iload_n C dX5_has_4 1 rfl ?_
    refine g_aload_n C dX5_has_5 0 rfl ?_
    refine g_get C (.int (d 3 0)) 3 q_3 fk_L_26 rfl dX5_has_6 ?_
    refine g_icmp_ge C dX5_has_9 (tgt := 16) rfl (fun q => ?_) (fun q => ?_)
    · replace h := it_t q h
      refine g_iconst C dX5_has_16 (v := 0) rfl ?_
      exact g_iret C hr hlk rfl rfl (congrArg (fun z => some (Value.int z)) (Option.some.inj h)) dX5_has_17
    · replace h := it_f q h
      refine g_iconst C dX5_has_12 (v := 1) rfl ?_
      refine g_goto C dX5_has_13 (tgt := 17) rfl ?_
      exact g_iret C hr hlk rfl rfl (congrArg (fun z => some (Value.int z)) (Option.some.inj h)) dX5_has_17
set_option maxHeartbeats 4000000 in
set_option maxRecDepth 100000 in
theorem m_C_checkLantern {w : wT} {l : Launch} {x1 : Int32} {d : Dt} {zE : (Unit ⊕ Nat)} (hO : okW w) (hl9 : l.stackTraces = false) (h : f_C_checkLantern x1 d = some zE) : gMX w l yX11_checkLantern cX11_checkLantern 2 (Option.none : Option Jvm.ClassFile.FieldType) 6 1 6 [.ref (w_r w 0), .int x1] d (oU d zE) := by
  refine gMX_of (by decide) [(0, .ref (w_r w 0)), (1, .int x1)] rfl rfl ?_ hO
  intro p e R s m args below meth c C hR hr hlk hx
  unfold f_C_checkLantern at h
  refine g_aload_n C dX11_checkLantern_0 0 rfl ?_
  refine g_get C (.ref (w_r w 2)) 0 q_0 fk_C_10 rfl dX11_checkLantern_1 ?_
  refine g_get C (.ref (w_r w 3)) 2 q_2 fk_C_68 rfl dX11_checkLantern_4 ?_
  refine g_iload_n C dX11_checkLantern_7 1 rfl ?_
  obtain ⟨r2, hc3, h⟩ := ob1_1 h
  refine g_callVi C 3 q_3 vk_C_199 hR rfl (m_L_has C.2.2.2.2.2.2.1 hc3) rfl rfl rfl dX11_checkLantern_8 rfl rfl ?_
  refine g_if_ne C dX11_checkLantern_11 (tgt := 25) rfl (fun q => ?_) (fun q => ?_)
  · replace h := it_f q h
    exact g_vretX C hr hlk rfl rfl (oU_i h) dX11_checkLantern_25
  · replace h := it_t q h
    exact g_throwSW C hl9 th_C_405_409 (i := 1) (by decide) (by decide +kernel) (by decide +kernel) hx hlk hR rfl dX11_checkLantern_14 dX11_checkLantern_17 dX11_checkLantern_18 dX11_checkLantern_21 dX11_checkLantern_24 rfl rfl rfl rfl rfl (oU_t h)
set_option maxHeartbeats 4000000 in
set_option maxRecDepth 100000 in
theorem m_L_admits {w : wT} {l : Launch} {x1 x2 : Int32} {d : Dt} {rE : Int32} (hO : okW w) (h : f_L_admits x1 x2 d = some rE) : gM w l yX5_admits cX5_admits 3 (Option.some Jvm.ClassFile.FieldType.boolean) 0 [.ref (w_r w 3), .int x1, .int x2] d d (some (.int rE)) := by
  refine gM_of (by decide) [(0, .ref (w_r w 3)), (1, .int x1), (2, .int x2)] rfl rfl ?_ hO
  intro p e R s m args below meth c C hR hr hlk
  have R15 : ∀ (v0 : Int32) (v1 : Int32), f_L_admits_15  v0 v1 d = some rE → gG w p l e R s m args below meth c 3 0 0 (gE w below args s d (some (.int rE))) d [] 15 [.int v1, .int v0] := by
    intro  v0 v1   h
    unfold f_L_admits_15 at h
    refine g_icmp_ne C dX5_admits_15 (tgt := 22) rfl (fun q => ?_) (fun q => ?_)
    · replace h := it_f q h
      refine g_iconst C dX5_admits_22 (v := 0) rfl ?_
      exact g_iret C hr hlk rfl rfl (congrArg (fun z => some (Value.int z)) (Option.some.inj h)) dX5_admits_23
    · replace h := it_t q h
      refine g_iconst C dX5_admits_18 (v := 1) rfl ?_
      refine g_goto C dX5_admits_19 (tgt := 23) rfl ?_
      exact g_iret C hr hlk rfl rfl (congrArg (fun z => some (Value.int z)) (Option.some.inj h)) dX5_admits_23
  unfold f_L_admits at h
  refine g_aload_n C dX5_admits_0 0 rfl ?_
  refine g_get C (.ref (w_r w 5)) 3 q_3 fk_L_15 rfl dX5_admits_1 ?_
  refine g_iload_n C dX5_admits_4 1 rfl ?_
  have hg1 := gd_1 h
  replace h := gd_2 h
  refine g_iald C 5 q_5 hg1 _ rfl dX5_admits_5 ?_
  refine g_iload_n C dX5_admits_6 2 rfl ?_
  refine g_if_eq C dX5_admits_7 (tgt := 14) rfl (fun q => ?_) (fun q => ?_)
  · replace h := it_t q h
    refine g_iconst C dX5_admits_14 (v := 2) rfl ?_
    refine g_sub [] (lv' := []) rfl ?_
    exact R15 (d 5 x1.toNatClampNeg) 2 h
  · replace h := it_f q h
    refine g_iconst C dX5_admits_10 (v := 1) rfl ?_
    refine g_goto C dX5_admits_11 (tgt := 15) rfl ?_
    refine g_sub [] (lv' := []) rfl ?_
    exact R15 (d 5 x1.toNatClampNeg) 1 h
set_option maxHeartbeats 4000000 in
set_option maxRecDepth 100000 in
theorem m_C_admit {w : wT} {l : Launch} {x1 x2 : Int32} {d : Dt} {zE : ((Int32 × Dt) ⊕ (Nat × Dt))} (hO : okW w) (hl9 : l.stackTraces = false) (h : f_C_admit x1 x2 d = some zE) : gMX w l yX11_admit cX11_admit 3 (Option.some Jvm.ClassFile.FieldType.boolean) 7 2 12 [.ref (w_r w 0), .int x1, .int x2] d (oW zE) := by
  refine gMX_of (by decide) [(0, .ref (w_r w 0)), (1, .int x1), (2, .int x2)] rfl rfl ?_ hO
  intro p e R s m args below meth c C hR hr hlk hx
  have R55 : ∀ (v1 : Int32) (v2 : Int32) (d : Dt), f_C_admit_55  v1 v2 d = some zE → gG w p l e R s m args below meth c 3 1 6 (gEX w below args s 2 12 (oW zE)) d [] 55 [.int v2, .int v1, .ref (w_r w 3)] := by
    intro  v1 v2 d  h
    unfold f_C_admit_55 at h
    obtain ⟨r6, d7, hc8, h⟩ := ob2_1 h
    refine g_callVi C 3 q_3 vk_C_152 hR rfl (m_L_setAdmission C.2.2.2.2.2.2.1 hc8) rfl rfl rfl dX11_admit_55 rfl rfl ?_
    refine g_if_eq C dX11_admit_58 (tgt := 65) rfl (fun q => ?_) (fun q => ?_)
    · replace h := it_t q h
      refine g_iconst C dX11_admit_65 (v := 0) rfl ?_
      exact g_iretX C hr hlk rfl rfl rfl (oW_i h) dX11_admit_66
    · replace h := it_f q h
      refine g_iconst C dX11_admit_61 (v := 1) rfl ?_
      refine g_goto C dX11_admit_62 (tgt := 66) rfl ?_
      exact g_iretX C hr hlk rfl rfl rfl (oW_i h) dX11_admit_66
  unfold f_C_admit at h
  refine g_aload_n C dX11_admit_0 0 rfl ?_
  refine g_iload_n C dX11_admit_1 1 rfl ?_
  obtain ⟨z11, hc10, h⟩ := ocU_1 h
  refine g_callVU C 1 6 0 q_0 vk_C_93 hR rfl (m_C_checkLantern C.2.2.2.2.2.2.1 hl9 hc10) rfl rfl rfl dX11_admit_2 rfl rfl rfl rfl (fun e13 => ?_) (fun et8 e13 => ?_)
  · subst e13
    replace h := ocU_i h
    refine g_aload_n C dX11_admit_5 0 rfl ?_
    refine g_get C (.ref (w_r w 2)) 0 q_0 fk_C_10 rfl dX11_admit_6 ?_
    refine g_get C (.ref (w_r w 3)) 2 q_2 fk_C_68 rfl dX11_admit_9 ?_
    refine g_iload_n C dX11_admit_12 1 rfl ?_
    refine g_iload_n C dX11_admit_13 2 rfl ?_
    obtain ⟨r14, hc15, h⟩ := ob1_1 h
    refine g_callVi C 3 q_3 vk_C_146 hR rfl (m_L_admits C.2.2.2.2.2.2.1 hc15) rfl rfl rfl dX11_admit_14 rfl rfl ?_
    refine g_if_eq C dX11_admit_17 (tgt := 30) rfl (fun q => ?_) (fun q => ?_)
    · replace h := it_t q h
      refine g_aload_n C dX11_admit_30 0 rfl ?_
      refine g_aload_n C dX11_admit_31 0 rfl ?_
      refine g_get C (.ref (w_r w 2)) 0 q_0 fk_C_10 rfl dX11_admit_32 ?_
      obtain ⟨d16, hc17, h⟩ := ob1_1 h
      refine g_callVv C 0 q_0 vk_C_85 hR rfl (m_C_remember C.2.2.2.2.2.2.1 hc17) rfl rfl rfl dX11_admit_35 rfl rfl ?_
      refine g_aload_n C dX11_admit_38 0 rfl ?_
      refine g_get C (.ref (w_r w 2)) 0 q_0 fk_C_10 rfl dX11_admit_39 ?_
      refine g_get C (.ref (w_r w 3)) 2 q_2 fk_C_68 rfl dX11_admit_42 ?_
      refine g_iload_n C dX11_admit_45 1 rfl ?_
      refine g_iload_n C dX11_admit_46 2 rfl ?_
      refine g_if_eq C dX11_admit_47 (tgt := 54) rfl (fun q => ?_) (fun q => ?_)
      · replace h := it_t q h
        refine g_iconst C dX11_admit_54 (v := 2) rfl ?_
        refine g_sub [] (lv' := []) rfl ?_
        exact R55 x1 2 d16 h
      · replace h := it_f q h
        refine g_iconst C dX11_admit_50 (v := 1) rfl ?_
        refine g_goto C dX11_admit_51 (tgt := 55) rfl ?_
        refine g_sub [] (lv' := []) rfl ?_
        exact R55 x1 1 d16 h
    · replace h := it_f q h
      exact g_throwS C hl9 th_C_78_82 (i := 8) (by decide) (by decide +kernel) (by decide +kernel) hx hlk hR rfl dX11_admit_20 dX11_admit_23 dX11_admit_24 dX11_admit_26 dX11_admit_29 rfl rfl rfl rfl rfl (oW_t h)
  · subst e13
    replace h := ocU_t h
    exact g_prop C hx hlk rfl rfl (oW_t h)
set_option maxHeartbeats 4000000 in
set_option maxRecDepth 100000 in
theorem m_C_briefAt {w : wT} {l : Launch} {x1 : Int32} {d : Dt} {zE : (Int32 ⊕ Nat)} (hO : okW w) (hl9 : l.stackTraces = false) (h : f_C_briefAt x1 d = some zE) : gMX w l yX11_briefAt cX11_briefAt 2 (Option.some Jvm.ClassFile.FieldType.int) 6 1 6 [.ref (w_r w 0), .int x1] d (oR d zE) := by
  refine gMX_of (by decide) [(0, .ref (w_r w 0)), (1, .int x1)] rfl rfl ?_ hO
  intro p e R s m args below meth c C hR hr hlk hx
  have R18 : f_C_briefAt_18   d = some zE → gG w p l e R s m args below meth c 2 0 0 (gEX w below args s 1 6 (oR d zE)) d [] 18 [] := by
    intro     h
    unfold f_C_briefAt_18 at h
    exact g_throwSy C hl9 th_C_160_164 (i := 13) (by decide) (by decide +kernel) (by decide +kernel) hx hlk hR rfl dX11_briefAt_18 dX11_briefAt_21 dX11_briefAt_22 dX11_briefAt_24 dX11_briefAt_27 rfl rfl rfl rfl rfl (oR_t h)
  unfold f_C_briefAt at h
  refine g_iload_n C dX11_briefAt_0 1 rfl ?_
  refine g_if_lt C dX11_briefAt_1 (tgt := 18) rfl (fun q => ?_) (fun q => ?_)
  · replace h := it_t q h
    refine g_sub [] (lv' := []) rfl ?_
    exact R18  h
  · replace h := it_f q h
    refine g_iload_n C dX11_briefAt_4 1 rfl ?_
    refine g_aload_n C dX11_briefAt_5 0 rfl ?_
    refine g_get C (.ref (w_r w 2)) 0 q_0 fk_C_10 rfl dX11_briefAt_6 ?_
    refine g_get C (.ref (w_r w 16)) 2 q_2 fk_C_108 rfl dX11_briefAt_9 ?_
    refine g_get C (.int (d 16 0)) 16 q_16 fk_C_215 rfl dX11_briefAt_12 ?_
    refine g_icmp_lt C dX11_briefAt_15 (tgt := 28) rfl (fun q => ?_) (fun q => ?_)
    · replace h := it_t q h
      refine g_aload_n C dX11_briefAt_28 0 rfl ?_
      refine g_get C (.ref (w_r w 2)) 0 q_0 fk_C_10 rfl dX11_briefAt_29 ?_
      refine g_get C (.ref (w_r w 16)) 2 q_2 fk_C_108 rfl dX11_briefAt_32 ?_
      refine g_get C (.ref (w_r w 17)) 16 q_16 fk_C_218 rfl dX11_briefAt_35 ?_
      refine g_iload_n C dX11_briefAt_38 1 rfl ?_
      have hg1 := gd_1 h
      replace h := gd_2 h
      refine g_iald C 17 q_17 hg1 _ rfl dX11_briefAt_39 ?_
      exact g_iretX C hr hlk rfl rfl rfl (oR_i h) dX11_briefAt_40
    · replace h := it_f q h
      refine g_sub [] (lv' := []) rfl ?_
      exact R18  h
set_option maxHeartbeats 4000000 in
set_option maxRecDepth 100000 in
theorem m_C_briefCount {w : wT} {l : Launch} {d : Dt} {rE : Int32} (hO : okW w) (h : f_C_briefCount  d = some rE) : gM w l yX11_briefCount cX11_briefCount 1 (Option.some Jvm.ClassFile.FieldType.int) 0 [.ref (w_r w 0)] d d (some (.int rE)) := by
  refine gM_of (by decide) [(0, .ref (w_r w 0))] rfl rfl ?_ hO
  intro p e R s m args below meth c C hR hr hlk
  unfold f_C_briefCount at h
  refine g_aload_n C dX11_briefCount_0 0 rfl ?_
  refine g_get C (.ref (w_r w 2)) 0 q_0 fk_C_10 rfl dX11_briefCount_1 ?_
  refine g_get C (.ref (w_r w 16)) 2 q_2 fk_C_108 rfl dX11_briefCount_4 ?_
  refine g_get C (.int (d 16 0)) 16 q_16 fk_C_215 rfl dX11_briefCount_7 ?_
  exact g_iret C hr hlk rfl rfl (congrArg (fun z => some (Value.int z)) (Option.some.inj h)) dX11_briefCount_10
set_option maxHeartbeats 4000000 in
set_option maxRecDepth 100000 in
theorem m_C_brightness {w : wT} {l : Launch} {x1 : Int32} {d : Dt} {zE : (Int32 ⊕ Nat)} (hO : okW w) (hl9 : l.stackTraces = false) (h : f_C_brightness x1 d = some zE) : gMX w l yX11_brightness cX11_brightness 2 (Option.some Jvm.ClassFile.FieldType.int) 7 1 6 [.ref (w_r w 0), .int x1] d (oR d zE) := by
  refine gMX_of (by decide) [(0, .ref (w_r w 0)), (1, .int x1)] rfl rfl ?_ hO
  intro p e R s m args below meth c C hR hr hlk hx
  unfold f_C_brightness at h
  refine g_aload_n C dX11_brightness_0 0 rfl ?_
  refine g_iload_n C dX11_brightness_1 1 rfl ?_
  obtain ⟨z4, hc3, h⟩ := ocU_1 h
  refine g_callVU C 1 6 0 q_0 vk_C_93 hR rfl (m_C_checkLantern C.2.2.2.2.2.2.1 hl9 hc3) rfl rfl rfl dX11_brightness_2 rfl rfl rfl rfl (fun e6 => ?_) (fun et1 e6 => ?_)
  · subst e6
    replace h := ocU_i h
    refine g_aload_n C dX11_brightness_5 0 rfl ?_
    refine g_get C (.ref (w_r w 2)) 0 q_0 fk_C_10 rfl dX11_brightness_6 ?_
    refine g_get C (.ref (w_r w 3)) 2 q_2 fk_C_68 rfl dX11_brightness_9 ?_
    refine g_get C (.ref (w_r w 4)) 3 q_3 fk_C_186 rfl dX11_brightness_12 ?_
    refine g_iload_n C dX11_brightness_15 1 rfl ?_
    have hg7 := gd_1 h
    replace h := gd_2 h
    refine g_iald C 4 q_4 hg7 _ rfl dX11_brightness_16 ?_
    exact g_iretX C hr hlk rfl rfl rfl (oR_i h) dX11_brightness_17
  · subst e6
    replace h := ocU_t h
    exact g_prop C hx hlk rfl rfl (oR_t h)
set_option maxHeartbeats 4000000 in
set_option maxRecDepth 100000 in
theorem m_C_canPass {w : wT} {l : Launch} {x0 : Int32} {d : Dt} {rE : Int32} (hO : okW w) (h : f_C_canPass x0 d = some rE) : gM w l yX11_canPass cX11_canPass 1 (Option.some Jvm.ClassFile.FieldType.boolean) 0 [.int x0] d d (some (.int rE)) := by
  refine gM_of (by decide) [(0, .int x0)] rfl rfl ?_ hO
  intro p e R s m args below meth c C hR hr hlk
  unfold f_C_canPass at h
  refine g_iload_n C dX11_canPass_0 0 rfl ?_
  refine g_iconst C dX11_canPass_1 (v := 1) rfl ?_
  refine g_icmp_lt C dX11_canPass_2 (tgt := 15) rfl (fun q => ?_) (fun q => ?_)
  · replace h := it_t q h
    refine g_iconst C dX11_canPass_15 (v := 0) rfl ?_
    exact g_iret C hr hlk rfl rfl (congrArg (fun z => some (Value.int z)) (Option.some.inj h)) dX11_canPass_16
  · replace h := it_f q h
    refine g_iload_n C dX11_canPass_5 0 rfl ?_
    refine g_bipush C dX11_canPass_6 (v := 9) (by decide) ?_
    refine g_icmp_gt C dX11_canPass_8 (tgt := 15) rfl (fun q => ?_) (fun q => ?_)
    · replace h := it_t q h
      refine g_iconst C dX11_canPass_15 (v := 0) rfl ?_
      exact g_iret C hr hlk rfl rfl (congrArg (fun z => some (Value.int z)) (Option.some.inj h)) dX11_canPass_16
    · replace h := it_f q h
      refine g_iconst C dX11_canPass_11 (v := 1) rfl ?_
      refine g_goto C dX11_canPass_12 (tgt := 16) rfl ?_
      exact g_iret C hr hlk rfl rfl (congrArg (fun z => some (Value.int z)) (Option.some.inj h)) dX11_canPass_16
set_option maxHeartbeats 4000000 in
set_option maxRecDepth 100000 in
theorem m_I_isAtEnd {w : wT} {l : Launch} {d : Dt} {rE : Int32} (hO : okW w) (h : f_I_isAtEnd  d = some rE) : gM w l yX3_isAtEnd cX3_isAtEnd 1 (Option.some Jvm.ClassFile.FieldType.boolean) 0 [.ref (w_r w 287)] d d (some (.int rE)) := by
  refine gM_of (by decide) [(0, .ref (w_r w 287))] rfl rfl ?_ hO
  intro p e R s m args below meth c C hR hr hlk
  unfold f_I_isAtEnd at h
  refine g_aload_n C dX3_isAtEnd_0 0 rfl ?_
  refine g_get C (.int (d 287 2)) 287 q_287 fk_I_32 rfl dX3_isAtEnd_1 ?_
  refine g_aload_n C dX3_isAtEnd_4 0 rfl ?_
  refine g_get C (.int (d 287 1)) 287 q_287 fk_I_28 rfl dX3_isAtEnd_5 ?_
  refine g_icmp_ge C dX3_isAtEnd_8 (tgt := 25) rfl (fun q => ?_) (fun q => ?_)
  · replace h := it_t q h
    refine g_iconst C dX3_isAtEnd_25 (v := 1) rfl ?_
    refine g_goto C dX3_isAtEnd_26 (tgt := 30) rfl ?_
    exact g_iret C hr hlk rfl rfl (congrArg (fun z => some (Value.int z)) (Option.some.inj h)) dX3_isAtEnd_30
  · replace h := it_f q h
    refine g_aload_n C dX3_isAtEnd_11 0 rfl ?_
    refine g_get C (.ref (w_r w 288)) 287 q_287 fk_I_9 rfl dX3_isAtEnd_12 ?_
    refine g_aload_n C dX3_isAtEnd_15 0 rfl ?_
    refine g_get C (.int (d 287 2)) 287 q_287 fk_I_32 rfl dX3_isAtEnd_16 ?_
    have hg1 := gd_1 h
    replace h := gd_2 h
    refine g_cald C 288 q_288 hg1 _ rfl dX3_isAtEnd_19 ?_
    refine g_bipush C dX3_isAtEnd_20 (v := 59) (by decide) ?_
    refine g_icmp_ne C dX3_isAtEnd_22 (tgt := 29) rfl (fun q => ?_) (fun q => ?_)
    · replace h := it_f q h
      refine g_iconst C dX3_isAtEnd_29 (v := 0) rfl ?_
      exact g_iret C hr hlk rfl rfl (congrArg (fun z => some (Value.int z)) (Option.some.inj h)) dX3_isAtEnd_30
    · replace h := it_t q h
      refine g_iconst C dX3_isAtEnd_25 (v := 1) rfl ?_
      refine g_goto C dX3_isAtEnd_26 (tgt := 30) rfl ?_
      exact g_iret C hr hlk rfl rfl (congrArg (fun z => some (Value.int z)) (Option.some.inj h)) dX3_isAtEnd_30
set_option maxHeartbeats 4000000 in
set_option maxRecDepth 100000 in
theorem m_I_isDigit {w : wT} {l : Launch} {x0 : Int32} {d : Dt} {rE : Int32} (hO : okW w) (h : f_I_isDigit x0 d = some rE) : gM w l yX3_isDigit cX3_isDigit 1 (Option.some Jvm.ClassFile.FieldType.boolean) 0 [.int x0] d d (some (.int rE)) := by
  refine gM_of (by decide) [(0, .int x0)] rfl rfl ?_ hO
  intro p e R s m args below meth c C hR hr hlk
  unfold f_I_isDigit at h
  refine g_iload_n C dX3_isDigit_0 0 rfl ?_
  refine g_bipush C dX3_isDigit_1 (v := 48) (by decide) ?_
  refine g_icmp_lt C dX3_isDigit_3 (tgt := 16) rfl (fun q => ?_) (fun q => ?_)
  · replace h := it_t q h
    refine g_iconst C dX3_isDigit_16 (v := 0) rfl ?_
    exact g_iret C hr hlk rfl rfl (congrArg (fun z => some (Value.int z)) (Option.some.inj h)) dX3_isDigit_17
  · replace h := it_f q h
    refine g_iload_n C dX3_isDigit_6 0 rfl ?_
    refine g_bipush C dX3_isDigit_7 (v := 57) (by decide) ?_
    refine g_icmp_gt C dX3_isDigit_9 (tgt := 16) rfl (fun q => ?_) (fun q => ?_)
    · replace h := it_t q h
      refine g_iconst C dX3_isDigit_16 (v := 0) rfl ?_
      exact g_iret C hr hlk rfl rfl (congrArg (fun z => some (Value.int z)) (Option.some.inj h)) dX3_isDigit_17
    · replace h := it_f q h
      refine g_iconst C dX3_isDigit_12 (v := 1) rfl ?_
      refine g_goto C dX3_isDigit_13 (tgt := 17) rfl ?_
      exact g_iret C hr hlk rfl rfl (congrArg (fun z => some (Value.int z)) (Option.some.inj h)) dX3_isDigit_17
set_option maxHeartbeats 4000000 in
set_option maxRecDepth 100000 in
theorem m_I_readNumber {w : wT} {l : Launch} {x1 : Int32} {d : Dt} {rE : Int32} {dE : Dt} (hO : okW w) (h : f_I_readNumber x1 d = some (rE, dE)) : gM w l yX3_readNumber cX3_readNumber 4 (Option.some Jvm.ClassFile.FieldType.boolean) 1 [.ref (w_r w 287), .int x1] d dE (some (.int rE)) := by
  refine gM_of (by decide) [(0, .ref (w_r w 287)), (1, .int x1)] rfl rfl ?_ hO
  intro p e R s m args below meth c C hR hr hlk
  have R69 : ∀ (x2 : Int32) (x3 : Int32) (d : Dt), f_I_readNumber_69 x2 x3  d = some (rE, dE) → gG w p l e R s m args below meth c 4 0 0 (gE w below args s dE (some (.int rE))) d [(0, .ref (w_r w 287)), (2, .int x2), (3, .int x3)] 69 [] := by
    intro x2 x3  d  h
    unfold f_I_readNumber_69 at h
    refine g_iload_n C dX3_readNumber_69 2 rfl ?_
    refine g_if_eq C dX3_readNumber_70 (tgt := 85) rfl (fun q => ?_) (fun q => ?_)
    · replace h := it_t q h
      refine g_iconst C dX3_readNumber_85 (v := 0) rfl ?_
      exact g_iret C hr hlk rfl (congrArg Prod.snd (Option.some.inj h)) (congrArg (fun z => some (Value.int z.1)) (Option.some.inj h)) dX3_readNumber_86
    · replace h := it_f q h
      refine g_aload_n C dX3_readNumber_73 0 rfl ?_
      refine g_get C (.int (d 287 5)) 287 q_287 fk_I_48 rfl dX3_readNumber_74 ?_
      refine g_aload_n C dX3_readNumber_77 0 rfl ?_
      refine g_get C (.ref (w_r w 289)) 287 q_287 fk_I_24 rfl dX3_readNumber_78 ?_
      refine g_alen C 4 289 q_289 rfl 0 rfl (by decide) dX3_readNumber_81 ?_
      refine g_icmp_lt C dX3_readNumber_82 (tgt := 87) rfl (fun q => ?_) (fun q => ?_)
      · replace h := it_t q h
        refine g_aload_n C dX3_readNumber_87 0 rfl ?_
        refine g_get C (.ref (w_r w 289)) 287 q_287 fk_I_24 rfl dX3_readNumber_88 ?_
        refine g_aload_n C dX3_readNumber_91 0 rfl ?_
        refine g_get C (.int (d 287 5)) 287 q_287 fk_I_48 rfl dX3_readNumber_92 ?_
        refine g_iload_n C dX3_readNumber_95 1 rfl ?_
        have hg5 := gd_1 h
        replace h := gd_2 h
        refine g_iast C 289 q_289 hg5 _ rfl  dX3_readNumber_96 ?_
        obtain ⟨d6, hd6, h⟩ := bnd_1 h
        refine g_nmD hd6 ?_
        refine g_aload_n C dX3_readNumber_97 0 rfl ?_
        refine g_dup C dX3_readNumber_98 rfl ?_
        refine g_get C (.int (d6 287 5)) 287 q_287 fk_I_48 rfl dX3_readNumber_99 ?_
        refine g_iconst C dX3_readNumber_102 (v := 1) rfl ?_
        refine g_iadd C dX3_readNumber_103  ?_
        refine g_put C 287 q_287 pk_I_48 rfl rfl dX3_readNumber_104 ?_
        obtain ⟨d7, hd7, h⟩ := bnd_1 h
        refine g_nmD hd7 ?_
        refine g_iconst C dX3_readNumber_107 (v := 1) rfl ?_
        exact g_iret C hr hlk rfl (congrArg Prod.snd (Option.some.inj h)) (congrArg (fun z => some (Value.int z.1)) (Option.some.inj h)) dX3_readNumber_108
      · replace h := it_f q h
        refine g_iconst C dX3_readNumber_85 (v := 0) rfl ?_
        exact g_iret C hr hlk rfl (congrArg Prod.snd (Option.some.inj h)) (congrArg (fun z => some (Value.int z.1)) (Option.some.inj h)) dX3_readNumber_86
  have R4 : ∀ (x1 : Int32) (x2 : Int32) (x3 : Int32) (d : Dt), f_I_readNumber_4 x1 x2 x3 d = some (rE, dE) → gG w p l e R s m args below meth c 4 0 0 (gE w below args s dE (some (.int rE))) d [(0, .ref (w_r w 287)), (1, .int x1), (2, .int x2), (3, .int x3)] 4 [] := by
    intro x1 x2 x3 d  h
    refine iter_ind (G := fun s_ : (Int32 × Int32 × Dt) => gG w p l e R s m args below meth c 4 0 0 (gE w below args s dE (some (.int rE))) s_.2.2 [(0, .ref (w_r w 287)), (1, .int x1), (2, .int s_.1), (3, .int s_.2.1)] 4 []) ?_ fu _ h
    clear h
    intro s_ y1 h hl1 hx1
    obtain ⟨x2, x3, d⟩ := s_
    show gG w p l e R s m args below meth c 4 0 0 (gE w below args s dE (some (.int rE))) d [(0, .ref (w_r w 287)), (1, .int x1), (2, .int x2), (3, .int x3)] 4 []
    dsimp only at h
    unfold st_I_readNumber_4 at h
    refine g_iload_n C dX3_readNumber_4 3 rfl ?_
    refine g_iload_n C dX3_readNumber_5 1 rfl ?_
    refine g_icmp_ge C dX3_readNumber_6 (tgt := 69) rfl (fun q => ?_) (fun q => ?_)
    · replace h := it_t q h
      replace h := ir_2 h hx1
      refine g_sub [0, 2, 3] (lv' := [(0, .ref (w_r w 287)), (2, .int x2), (3, .int x3)]) rfl ?_
      exact R69 x2 x3 d h
    · replace h := it_f q h
      refine g_aload_n C dX3_readNumber_9 0 rfl ?_
      refine g_get C (.int (d 287 2)) 287 q_287 fk_I_32 rfl dX3_readNumber_10 ?_
      refine g_aload_n C dX3_readNumber_13 0 rfl ?_
      refine g_get C (.int (d 287 1)) 287 q_287 fk_I_28 rfl dX3_readNumber_14 ?_
      refine g_icmp_ge C dX3_readNumber_17 (tgt := 69) rfl (fun q => ?_) (fun q => ?_)
      · replace h := it_t q h
        replace h := ir_2 h hx1
        refine g_sub [0, 2, 3] (lv' := [(0, .ref (w_r w 287)), (2, .int x2), (3, .int x3)]) rfl ?_
        exact R69 x2 x3 d h
      · replace h := it_f q h
        refine g_aload_n C dX3_readNumber_20 0 rfl ?_
        refine g_get C (.ref (w_r w 288)) 287 q_287 fk_I_9 rfl dX3_readNumber_21 ?_
        refine g_aload_n C dX3_readNumber_24 0 rfl ?_
        refine g_get C (.int (d 287 2)) 287 q_287 fk_I_32 rfl dX3_readNumber_25 ?_
        have hg8 := gd_1 h
        replace h := gd_2 h
        refine g_cald C 288 q_288 hg8 _ rfl dX3_readNumber_28 ?_
        obtain ⟨r9, hc10, h⟩ := ob1_1 h
        refine g_callSi C sk_I_99 hR rfl (m_I_isDigit C.2.2.2.2.2.2.1 hc10) rfl rfl rfl dX3_readNumber_29 rfl rfl ?_
        refine g_if_eq C dX3_readNumber_32 (tgt := 69) rfl (fun q => ?_) (fun q => ?_)
        · replace h := it_t q h
          replace h := ir_2 h hx1
          refine g_sub [0, 2, 3] (lv' := [(0, .ref (w_r w 287)), (2, .int x2), (3, .int x3)]) rfl ?_
          exact R69 x2 x3 d h
        · replace h := it_f q h
          refine g_iload_n C dX3_readNumber_35 2 rfl ?_
          refine g_bipush C dX3_readNumber_36 (v := 10) (by decide) ?_
          refine g_imul C dX3_readNumber_38  ?_
          refine g_aload_n C dX3_readNumber_39 0 rfl ?_
          refine g_get C (.ref (w_r w 288)) 287 q_287 fk_I_9 rfl dX3_readNumber_40 ?_
          refine g_aload_n C dX3_readNumber_43 0 rfl ?_
          refine g_get C (.int (d 287 2)) 287 q_287 fk_I_32 rfl dX3_readNumber_44 ?_
          have hg11 := gd_1 h
          replace h := gd_2 h
          refine g_cald C 288 q_288 hg11 _ rfl dX3_readNumber_47 ?_
          refine g_bipush C dX3_readNumber_48 (v := 48) (by decide) ?_
          refine g_isub C dX3_readNumber_50  ?_
          refine g_iadd C dX3_readNumber_51  ?_
          refine g_istore_n C (lv' := [(2, .int ((x2 * 10) + ((d 288 (d 287 2).toNatClampNeg) - 48))), (0, .ref (w_r w 287)), (1, .int x1), (3, .int x3)]) dX3_readNumber_52 (by decide) rfl ?_
          refine g_iinc C (lv' := [(3, .int (x3 + 1)), (2, .int ((x2 * 10) + ((d 288 (d 287 2).toNatClampNeg) - 48))), (0, .ref (w_r w 287)), (1, .int x1)]) (v := (x3 + 1)) dX3_readNumber_53 3 rfl rfl (by decide) rfl ?_
          refine g_aload_n C dX3_readNumber_56 2 rfl ?_
          refine g_dup C dX3_readNumber_57 rfl ?_
          refine g_get C (.int (d 287 2)) 287 q_287 fk_I_32 rfl dX3_readNumber_58 ?_
          refine g_iconst C dX3_readNumber_61 (v := 1) rfl ?_
          refine g_iadd C dX3_readNumber_62  ?_
          refine g_put C 287 q_287 pk_I_32 rfl rfl dX3_readNumber_63 ?_
          obtain ⟨d12, hd12, h⟩ := bnd_1 h
          refine g_nmD hd12 ?_
          refine g_goto C dX3_readNumber_66 (tgt := 4) rfl ?_
          refine g_sub [2, 3, 1, 0] (lv' := [(0, .ref (w_r w 287)), (1, .int x1), (2, .int ((x2 * 10) + ((d 288 (d 287 2).toNatClampNeg) - 48))), (3, .int (x3 + 1))]) rfl ?_
          exact hl1 (((x2 * 10) + ((d 288 (d 287 2).toNatClampNeg) - 48)), (x3 + 1), d12) (Option.some.inj h).symm
  unfold f_I_readNumber at h
  refine g_iconst C dX3_readNumber_0 (v := 0) rfl ?_
  refine g_istore_n C (lv' := [(2, .int 0), (0, .ref (w_r w 287)), (1, .int x1)]) dX3_readNumber_1 (by decide) rfl ?_
  refine g_iconst C dX3_readNumber_2 (v := 0) rfl ?_
  refine g_istore_n C (lv' := [(3, .int 0), (2, .int 0), (0, .ref (w_r w 287)), (1, .int x1)]) dX3_readNumber_3 (by decide) rfl ?_
  refine g_sub [2, 3, 1, 0] (lv' := [(0, .ref (w_r w 287)), (1, .int x1), (2, .int 0), (3, .int 0)]) rfl ?_
  exact R4 x1 0 0 d h
set_option maxHeartbeats 4000000 in
set_option maxRecDepth 100000 in
theorem m_I_readCharacter {w : wT} {l : Launch} {x1 : Int32} {d : Dt} {rE : Int32} {dE : Dt} (hO : okW w) (h : f_I_readCharacter x1 d = some (rE, dE)) : gM w l yX3_readCharacter cX3_readCharacter 2 (Option.some Jvm.ClassFile.FieldType.boolean) 0 [.ref (w_r w 287), .int x1] d dE (some (.int rE)) := by
  refine gM_of (by decide) [(0, .ref (w_r w 287)), (1, .int x1)] rfl rfl ?_ hO
  intro p e R s m args below meth c C hR hr hlk
  unfold f_I_readCharacter at h
  refine g_aload_n C dX3_readCharacter_0 0 rfl ?_
  refine g_get C (.int (d 287 2)) 287 q_287 fk_I_32 rfl dX3_readCharacter_1 ?_
  refine g_aload_n C dX3_readCharacter_4 0 rfl ?_
  refine g_get C (.int (d 287 1)) 287 q_287 fk_I_28 rfl dX3_readCharacter_5 ?_
  refine g_icmp_ge C dX3_readCharacter_8 (tgt := 24) rfl (fun q => ?_) (fun q => ?_)
  · replace h := it_t q h
    refine g_iconst C dX3_readCharacter_24 (v := 0) rfl ?_
    exact g_iret C hr hlk rfl (congrArg Prod.snd (Option.some.inj h)) (congrArg (fun z => some (Value.int z.1)) (Option.some.inj h)) dX3_readCharacter_25
  · replace h := it_f q h
    refine g_aload_n C dX3_readCharacter_11 0 rfl ?_
    refine g_get C (.ref (w_r w 288)) 287 q_287 fk_I_9 rfl dX3_readCharacter_12 ?_
    refine g_aload_n C dX3_readCharacter_15 0 rfl ?_
    refine g_get C (.int (d 287 2)) 287 q_287 fk_I_32 rfl dX3_readCharacter_16 ?_
    have hg2 := gd_1 h
    replace h := gd_2 h
    refine g_cald C 288 q_288 hg2 _ rfl dX3_readCharacter_19 ?_
    refine g_iload_n C dX3_readCharacter_20 1 rfl ?_
    refine g_icmp_eq C dX3_readCharacter_21 (tgt := 26) rfl (fun q => ?_) (fun q => ?_)
    · replace h := it_t q h
      refine g_aload_n C dX3_readCharacter_26 0 rfl ?_
      refine g_dup C dX3_readCharacter_27 rfl ?_
      refine g_get C (.int (d 287 2)) 287 q_287 fk_I_32 rfl dX3_readCharacter_28 ?_
      refine g_iconst C dX3_readCharacter_31 (v := 1) rfl ?_
      refine g_iadd C dX3_readCharacter_32  ?_
      refine g_put C 287 q_287 pk_I_32 rfl rfl dX3_readCharacter_33 ?_
      obtain ⟨d3, hd3, h⟩ := bnd_1 h
      refine g_nmD hd3 ?_
      refine g_iconst C dX3_readCharacter_36 (v := 1) rfl ?_
      exact g_iret C hr hlk rfl (congrArg Prod.snd (Option.some.inj h)) (congrArg (fun z => some (Value.int z.1)) (Option.some.inj h)) dX3_readCharacter_37
    · replace h := it_f q h
      refine g_iconst C dX3_readCharacter_24 (v := 0) rfl ?_
      exact g_iret C hr hlk rfl (congrArg Prod.snd (Option.some.inj h)) (congrArg (fun z => some (Value.int z.1)) (Option.some.inj h)) dX3_readCharacter_25
set_option maxHeartbeats 4000000 in
set_option maxRecDepth 100000 in
theorem m_I_readPart {w : wT} {l : Launch} {x1 : Int32} {d : Dt} {rE : Int32} {dE : Dt} (hO : okW w) (h : f_I_readPart x1 d = some (rE, dE)) : gM w l yX3_readPart cX3_readPart 2 (Option.some Jvm.ClassFile.FieldType.boolean) 2 [.ref (w_r w 287), .int x1] d dE (some (.int rE)) := by
  refine gM_of (by decide) [(0, .ref (w_r w 287)), (1, .int x1)] rfl rfl ?_ hO
  intro p e R s m args below meth c C hR hr hlk
  unfold f_I_readPart at h
  refine g_iload_n C dX3_readPart_0 1 rfl ?_
  refine g_bipush C dX3_readPart_1 (v := 32) (by decide) ?_
  refine g_icmp_ne C dX3_readPart_3 (tgt := 13) rfl (fun q => ?_) (fun q => ?_)
  · replace h := it_f q h
    refine g_iload_n C dX3_readPart_13 1 rfl ?_
    refine g_bipush C dX3_readPart_14 (v := 43) (by decide) ?_
    refine g_icmp_ne C dX3_readPart_16 (tgt := 51) rfl (fun q => ?_) (fun q => ?_)
    · replace h := it_f q h
      refine g_iload_n C dX3_readPart_51 1 rfl ?_
      refine g_bipush C dX3_readPart_52 (v := 103) (by decide) ?_
      refine g_icmp_ne C dX3_readPart_54 (tgt := 89) rfl (fun q => ?_) (fun q => ?_)
      · replace h := it_f q h
        refine g_aload_n C dX3_readPart_89 0 rfl ?_
        refine g_iload_n C dX3_readPart_90 1 rfl ?_
        refine g_bipush C dX3_readPart_91 (v := 48) (by decide) ?_
        refine g_isub C dX3_readPart_93  ?_
        obtain ⟨r15, d16, hc17, h⟩ := ob2_1 h
        refine g_callVi C 287 q_287 vk_I_95 hR rfl (m_I_readNumber C.2.2.2.2.2.2.1 hc17) rfl rfl rfl dX3_readPart_94 rfl rfl ?_
        have hg18 := gd_1 h
        replace h := gd_2 h
        exact g_iret C hr hlk (nar_n hg18) (congrArg Prod.snd (Option.some.inj h)) (congrArg (fun z => some (Value.int z.1)) (Option.some.inj h)) dX3_readPart_97
      · replace h := it_t q h
        refine g_aload_n C dX3_readPart_57 0 rfl ?_
        refine g_aload_n C dX3_readPart_58 0 rfl ?_
        refine g_bipush C dX3_readPart_59 (v := 103) (by decide) ?_
        obtain ⟨r19, d20, hc21, h⟩ := ob2_1 h
        refine g_callVi C 287 q_287 vk_I_88 hR rfl (m_I_readCharacter C.2.2.2.2.2.2.1 hc21) rfl rfl rfl dX3_readPart_61 rfl rfl ?_
        have hg22 := gd_1 h
        replace h := gd_2 h
        refine g_put C 287 q_287 pk_I_91 (nar_n hg22) (nar_f hg22) dX3_readPart_64 ?_
        obtain ⟨d23, hd23, h⟩ := bnd_1 h
        refine g_nmD hd23 ?_
        refine g_aload_n C dX3_readPart_67 0 rfl ?_
        refine g_get C (.int (d23 287 6)) 287 q_287 fk_I_91 rfl dX3_readPart_68 ?_
        refine g_if_ne C dX3_readPart_71 (tgt := 83) rfl (fun q => ?_) (fun q => ?_)
        · replace h := it_f q h
          refine g_iconst C dX3_readPart_83 (v := 1) rfl ?_
          refine g_goto C dX3_readPart_84 (tgt := 88) rfl ?_
          exact g_iret C hr hlk rfl (congrArg Prod.snd (Option.some.inj h)) (congrArg (fun z => some (Value.int z.1)) (Option.some.inj h)) dX3_readPart_88
        · replace h := it_t q h
          refine g_aload_n C dX3_readPart_74 0 rfl ?_
          refine g_bipush C dX3_readPart_75 (v := 105) (by decide) ?_
          obtain ⟨r24, d25, hc26, h⟩ := ob2_1 h
          refine g_callVi C 287 q_287 vk_I_88 hR rfl (m_I_readCharacter C.2.2.2.2.2.2.1 hc26) rfl rfl rfl dX3_readPart_77 rfl rfl ?_
          refine g_if_eq C dX3_readPart_80 (tgt := 87) rfl (fun q => ?_) (fun q => ?_)
          · replace h := it_t q h
            refine g_iconst C dX3_readPart_87 (v := 0) rfl ?_
            exact g_iret C hr hlk rfl (congrArg Prod.snd (Option.some.inj h)) (congrArg (fun z => some (Value.int z.1)) (Option.some.inj h)) dX3_readPart_88
          · replace h := it_f q h
            refine g_iconst C dX3_readPart_83 (v := 1) rfl ?_
            refine g_goto C dX3_readPart_84 (tgt := 88) rfl ?_
            exact g_iret C hr hlk rfl (congrArg Prod.snd (Option.some.inj h)) (congrArg (fun z => some (Value.int z.1)) (Option.some.inj h)) dX3_readPart_88
    · replace h := it_t q h
      refine g_aload_n C dX3_readPart_19 0 rfl ?_
      refine g_aload_n C dX3_readPart_20 0 rfl ?_
      refine g_bipush C dX3_readPart_21 (v := 43) (by decide) ?_
      obtain ⟨r27, d28, hc29, h⟩ := ob2_1 h
      refine g_callVi C 287 q_287 vk_I_88 hR rfl (m_I_readCharacter C.2.2.2.2.2.2.1 hc29) rfl rfl rfl dX3_readPart_23 rfl rfl ?_
      have hg30 := gd_1 h
      replace h := gd_2 h
      refine g_put C 287 q_287 pk_I_91 (nar_n hg30) (nar_f hg30) dX3_readPart_26 ?_
      obtain ⟨d31, hd31, h⟩ := bnd_1 h
      refine g_nmD hd31 ?_
      refine g_aload_n C dX3_readPart_29 0 rfl ?_
      refine g_get C (.int (d31 287 6)) 287 q_287 fk_I_91 rfl dX3_readPart_30 ?_
      refine g_if_ne C dX3_readPart_33 (tgt := 45) rfl (fun q => ?_) (fun q => ?_)
      · replace h := it_f q h
        refine g_iconst C dX3_readPart_45 (v := 1) rfl ?_
        refine g_goto C dX3_readPart_46 (tgt := 50) rfl ?_
        exact g_iret C hr hlk rfl (congrArg Prod.snd (Option.some.inj h)) (congrArg (fun z => some (Value.int z.1)) (Option.some.inj h)) dX3_readPart_50
      · replace h := it_t q h
        refine g_aload_n C dX3_readPart_36 0 rfl ?_
        refine g_bipush C dX3_readPart_37 (v := 45) (by decide) ?_
        obtain ⟨r32, d33, hc34, h⟩ := ob2_1 h
        refine g_callVi C 287 q_287 vk_I_88 hR rfl (m_I_readCharacter C.2.2.2.2.2.2.1 hc34) rfl rfl rfl dX3_readPart_39 rfl rfl ?_
        refine g_if_eq C dX3_readPart_42 (tgt := 49) rfl (fun q => ?_) (fun q => ?_)
        · replace h := it_t q h
          refine g_iconst C dX3_readPart_49 (v := 0) rfl ?_
          exact g_iret C hr hlk rfl (congrArg Prod.snd (Option.some.inj h)) (congrArg (fun z => some (Value.int z.1)) (Option.some.inj h)) dX3_readPart_50
        · replace h := it_f q h
          refine g_iconst C dX3_readPart_45 (v := 1) rfl ?_
          refine g_goto C dX3_readPart_46 (tgt := 50) rfl ?_
          exact g_iret C hr hlk rfl (congrArg Prod.snd (Option.some.inj h)) (congrArg (fun z => some (Value.int z.1)) (Option.some.inj h)) dX3_readPart_50
  · replace h := it_t q h
    refine g_aload_n C dX3_readPart_6 0 rfl ?_
    refine g_bipush C dX3_readPart_7 (v := 32) (by decide) ?_
    obtain ⟨r35, d36, hc37, h⟩ := ob2_1 h
    refine g_callVi C 287 q_287 vk_I_88 hR rfl (m_I_readCharacter C.2.2.2.2.2.2.1 hc37) rfl rfl rfl dX3_readPart_9 rfl rfl ?_
    have hg38 := gd_1 h
    replace h := gd_2 h
    exact g_iret C hr hlk (nar_n hg38) (congrArg Prod.snd (Option.some.inj h)) (congrArg (fun z => some (Value.int z.1)) (Option.some.inj h)) dX3_readPart_12
set_option maxHeartbeats 4000000 in
set_option maxRecDepth 100000 in
theorem m_I_lettersInCommon {w : wT} {l : Launch} {k1 : Nat} {d : Dt} {rE : Int32} (hO : okW w) (hk1 : k1 < 54) (h : f_I_lettersInCommon k1  d = some rE) : gM w l yX3_lettersInCommon cX3_lettersInCommon 3 (Option.some Jvm.ClassFile.FieldType.int) 4 [.ref (w_r w 287), .ref (w_k w k1)] d d (some (.int rE)) := by
  refine gM_of (by decide) [(0, .ref (w_r w 287)), (1, .ref (w_k w k1))] rfl rfl ?_ hO
  intro p e R s m args below meth c C hR hr hlk
  have R2 : ∀ (x2 : Int32), f_I_lettersInCommon_2 k1 x2 d = some rE → gG w p l e R s m args below meth c 3 0 0 (gE w below args s d (some (.int rE))) d [(0, .ref (w_r w 287)), (1, .ref (w_k w k1)), (2, .int x2)] 2 [] := by
    intro x2   h
    refine iter_ind (G := fun s_ : (Int32) => gG w p l e R s m args below meth c 3 0 0 (gE w below args s d (some (.int rE))) d [(0, .ref (w_r w 287)), (1, .ref (w_k w k1)), (2, .int s_)] 2 []) ?_ fu _ h
    clear h
    intro x2 y1 h hl1 hx1
    show gG w p l e R s m args below meth c 3 0 0 (gE w below args s d (some (.int rE))) d [(0, .ref (w_r w 287)), (1, .ref (w_k w k1)), (2, .int x2)] 2 []
    unfold st_I_lettersInCommon_2 at h
    refine g_iload_n C dX3_lettersInCommon_2 2 rfl ?_
    refine g_aload_n C dX3_lettersInCommon_3 1 rfl ?_
    obtain ⟨r3, hc4, h⟩ := ob1_1 h
    refine g_callO C _ (ks_obj C hk1) yk_J0_length_8abf5 rfl (wA 1333 (by decide +kernel) (by decide +kernel)) (wA 959 (by decide +kernel) (by decide +kernel)) (wA 960 (by decide +kernel) (by decide +kernel)) hR rfl (m_JS_length C.2.2.2.2.2.2.1 hk1 hc4) rfl rfl rfl dX3_lettersInCommon_4 rfl rfl ?_
    refine g_icmp_ge C dX3_lettersInCommon_7 (tgt := 48) rfl (fun q => ?_) (fun q => ?_)
    · replace h := it_t q h
      replace h := ir_2 h hx1
      refine g_iload_n C dX3_lettersInCommon_48 2 rfl ?_
      exact g_iret C hr hlk rfl rfl (congrArg (fun z => some (Value.int z)) (Option.some.inj h)) dX3_lettersInCommon_49
    · replace h := it_f q h
      refine g_aload_n C dX3_lettersInCommon_10 0 rfl ?_
      refine g_get C (.int (d 287 2)) 287 q_287 fk_I_32 rfl dX3_lettersInCommon_11 ?_
      refine g_iload_n C dX3_lettersInCommon_14 2 rfl ?_
      refine g_iadd C dX3_lettersInCommon_15  ?_
      refine g_aload_n C dX3_lettersInCommon_16 0 rfl ?_
      refine g_get C (.int (d 287 1)) 287 q_287 fk_I_28 rfl dX3_lettersInCommon_17 ?_
      refine g_icmp_ge C dX3_lettersInCommon_20 (tgt := 48) rfl (fun q => ?_) (fun q => ?_)
      · replace h := it_t q h
        replace h := ir_2 h hx1
        refine g_iload_n C dX3_lettersInCommon_48 2 rfl ?_
        exact g_iret C hr hlk rfl rfl (congrArg (fun z => some (Value.int z)) (Option.some.inj h)) dX3_lettersInCommon_49
      · replace h := it_f q h
        refine g_aload_n C dX3_lettersInCommon_23 0 rfl ?_
        refine g_get C (.ref (w_r w 288)) 287 q_287 fk_I_9 rfl dX3_lettersInCommon_24 ?_
        refine g_aload_n C dX3_lettersInCommon_27 0 rfl ?_
        refine g_get C (.int (d 287 2)) 287 q_287 fk_I_32 rfl dX3_lettersInCommon_28 ?_
        refine g_iload_n C dX3_lettersInCommon_31 2 rfl ?_
        refine g_iadd C dX3_lettersInCommon_32  ?_
        have hg5 := gd_1 h
        replace h := gd_2 h
        refine g_cald C 288 q_288 hg5 _ rfl dX3_lettersInCommon_33 ?_
        refine g_aload_n C dX3_lettersInCommon_34 1 rfl ?_
        refine g_iload_n C dX3_lettersInCommon_35 2 rfl ?_
        obtain ⟨r6, hc7, h⟩ := ob1_1 h
        refine g_callO C _ (ks_obj C hk1) yk_J0_charAt_5068e rfl (wA 1334 (by decide +kernel) (by decide +kernel)) (wA 1335 (by decide +kernel) (by decide +kernel)) (wA 1336 (by decide +kernel) (by decide +kernel)) hR rfl (m_JS_charAt C.2.2.2.2.2.2.1 hk1 hc7) rfl rfl rfl dX3_lettersInCommon_36 rfl rfl ?_
        refine g_icmp_ne C dX3_lettersInCommon_39 (tgt := 48) rfl (fun q => ?_) (fun q => ?_)
        · replace h := it_f q h
          replace h := ir_2 h hx1
          refine g_iload_n C dX3_lettersInCommon_48 2 rfl ?_
          exact g_iret C hr hlk rfl rfl (congrArg (fun z => some (Value.int z)) (Option.some.inj h)) dX3_lettersInCommon_49
        · replace h := it_t q h
          refine g_iinc C (lv' := [(2, .int (x2 + 1)), (0, .ref (w_r w 287)), (1, .ref (w_k w k1))]) (v := (x2 + 1)) dX3_lettersInCommon_42 2 rfl rfl (by decide) rfl ?_
          refine g_goto C dX3_lettersInCommon_45 (tgt := 2) rfl ?_
          refine g_sub [1, 2, 0] (lv' := [(0, .ref (w_r w 287)), (1, .ref (w_k w k1)), (2, .int (x2 + 1))]) rfl ?_
          exact hl1 (x2 + 1) (Option.some.inj h).symm
  unfold f_I_lettersInCommon at h
  refine g_iconst C dX3_lettersInCommon_0 (v := 0) rfl ?_
  refine g_istore_n C (lv' := [(2, .int 0), (0, .ref (w_r w 287)), (1, .ref (w_k w k1))]) dX3_lettersInCommon_1 (by decide) rfl ?_
  refine g_sub [1, 2, 0] (lv' := [(0, .ref (w_r w 287)), (1, .ref (w_k w k1)), (2, .int 0)]) rfl ?_
  exact R2 0 h
set_option maxHeartbeats 4000000 in
set_option maxRecDepth 100000 in
theorem m_I_readKeyword {w : wT} {l : Launch} {d : Dt} {rE : Int32} {dE : Dt} (hO : okW w) (h : f_I_readKeyword  d = some (rE, dE)) : gM w l yX3_readKeyword cX3_readKeyword 5 (Option.some Jvm.ClassFile.FieldType.boolean) 5 [.ref (w_r w 287)] d dE (some (.int rE)) := by
  refine gM_of (by decide) [(0, .ref (w_r w 287))] rfl rfl ?_ hO
  intro p e R s m args below meth c C hR hr hlk
  have R4 : ∀ (x1 : Int32) (x2 : Int32) (d : Dt), f_I_readKeyword_4 x1 x2 d = some (rE, dE) → gG w p l e R s m args below meth c 5 0 0 (gE w below args s dE (some (.int rE))) d [(0, .ref (w_r w 287)), (1, .int x1), (2, .int x2)] 4 [] := by
    intro x1 x2 d  h
    refine iter_ind (G := fun s_ : (Int32 × Int32) => gG w p l e R s m args below meth c 5 0 0 (gE w below args s dE (some (.int rE))) d [(0, .ref (w_r w 287)), (1, .int s_.1), (2, .int s_.2)] 4 []) ?_ fu _ h
    clear h
    intro s_ y1 h hl1 hx1
    obtain ⟨x1, x2⟩ := s_
    show gG w p l e R s m args below meth c 5 0 0 (gE w below args s dE (some (.int rE))) d [(0, .ref (w_r w 287)), (1, .int x1), (2, .int x2)] 4 []
    dsimp only at h
    unfold st_I_readKeyword_4 at h
    refine g_iload_n C dX3_readKeyword_4 2 rfl ?_
    refine g_getsN (host := "LanternCourt") C (kK_Z C) (wO 1327 (by decide +kernel) (by decide +kernel)) dX3_readKeyword_5 ?_
    refine g_lenK C (kK_T C) (v := 8) rfl dX3_readKeyword_8 ?_
    refine g_icmp_ge C dX3_readKeyword_9 (tgt := 72) rfl (fun q => ?_) (fun q => ?_)
    · replace h := it_t q h
      replace h := ir_2 h hx1
      refine g_aload_n C dX3_readKeyword_72 0 rfl ?_
      refine g_dup C dX3_readKeyword_73 rfl ?_
      refine g_get C (.int (d 287 2)) 287 q_287 fk_I_32 rfl dX3_readKeyword_74 ?_
      refine g_iload_n C dX3_readKeyword_77 1 rfl ?_
      refine g_iadd C dX3_readKeyword_78  ?_
      refine g_put C 287 q_287 pk_I_32 rfl rfl dX3_readKeyword_79 ?_
      obtain ⟨d6, hd6, h⟩ := bnd_1 h
      refine g_nmD hd6 ?_
      refine g_iconst C dX3_readKeyword_82 (v := 0) rfl ?_
      exact g_iret C hr hlk rfl (congrArg Prod.snd (Option.some.inj h)) (congrArg (fun z => some (Value.int z.1)) (Option.some.inj h)) dX3_readKeyword_83
    · replace h := it_f q h
      refine g_getsN (host := "LanternCourt") C (kK_Z C) (wO 1327 (by decide +kernel) (by decide +kernel)) dX3_readKeyword_12 ?_
      refine g_iload_n C dX3_readKeyword_15 2 rfl ?_
      have hg7 := gd_1 h
      replace h := gd_2 h
      refine g_aaldK C (kK_T C) hg7 rfl dX3_readKeyword_16 ?_
      refine g_getO C (kk_kw C hg7) (wA 1991 (by decide +kernel) (by decide +kernel)) dX3_readKeyword_17 ?_
      refine g_astore_n C (lv' := [(3, .ref (w_k w (kwS x2.toNatClampNeg))), (0, .ref (w_r w 287)), (1, .int x1), (2, .int x2)]) dX3_readKeyword_20 (by decide) rfl ?_
      refine g_aload_n C dX3_readKeyword_21 1 rfl ?_
      refine g_aload_n C dX3_readKeyword_22 0 rfl ?_
      obtain ⟨r8, hc9, h⟩ := ob1_1 h
      refine g_callVi C 287 q_287 vk_I_78 hR rfl (m_I_lettersInCommon C.2.2.2.2.2.2.1 (kwS_lt _) hc9) rfl rfl rfl dX3_readKeyword_23 rfl rfl ?_
      refine g_istore C (lv' := [(4, .int r8), (3, .ref (w_k w (kwS x2.toNatClampNeg))), (0, .ref (w_r w 287)), (1, .int x1), (2, .int x2)]) dX3_readKeyword_26 (by decide) rfl ?_
      refine g_iload_n C dX3_readKeyword_28 3 rfl ?_
      refine g_iload C dX3_readKeyword_29 0 rfl ?_
      refine g_mmax C mm_I_82 mm_sta_max mm_ini mm_cod_max hR rfl rfl dX3_readKeyword_31 rfl rfl ?_
      refine g_istore_n C (lv' := [(1, .int (mxI x1 r8)), (4, .int r8), (3, .ref (w_k w (kwS x2.toNatClampNeg))), (0, .ref (w_r w 287)), (2, .int x2)]) dX3_readKeyword_34 (by decide) rfl ?_
      refine g_iload C dX3_readKeyword_35 1 rfl ?_
      refine g_aload_n C dX3_readKeyword_37 2 rfl ?_
      obtain ⟨r10, hc11, h⟩ := ob1_1 h
      refine g_callO C _ (ks_obj C (kwS_lt _)) yk_J0_length_8abf5 rfl (wA 1333 (by decide +kernel) (by decide +kernel)) (wA 959 (by decide +kernel) (by decide +kernel)) (wA 960 (by decide +kernel) (by decide +kernel)) hR rfl (m_JS_length C.2.2.2.2.2.2.1 (kwS_lt _) hc11) rfl rfl rfl dX3_readKeyword_38 rfl rfl ?_
      refine g_icmp_ne C dX3_readKeyword_41 (tgt := 66) rfl (fun q => ?_) (fun q => ?_)
      · replace h := it_f q h
        refine g_iinc C (lv' := [(2, .int (x2 + 1)), (1, .int (mxI x1 r8)), (4, .int r8), (3, .ref (w_k w (kwS x2.toNatClampNeg))), (0, .ref (w_r w 287))]) (v := (x2 + 1)) dX3_readKeyword_66 4 rfl rfl (by decide) rfl ?_
        refine g_goto C dX3_readKeyword_69 (tgt := 4) rfl ?_
        refine g_sub [4, 1, 0] (lv' := [(0, .ref (w_r w 287)), (1, .int (mxI x1 r8)), (2, .int (x2 + 1))]) rfl ?_
        exact hl1 ((mxI x1 r8), (x2 + 1)) (Option.some.inj h).symm
      · replace h := it_t q h
        replace h := ir_2 h hx1
        refine g_aload_n C dX3_readKeyword_44 3 rfl ?_
        refine g_getsN (host := "LanternCourt") C (kK_Z C) (wO 1327 (by decide +kernel) (by decide +kernel)) dX3_readKeyword_45 ?_
        refine g_iload_n C dX3_readKeyword_48 4 rfl ?_
        have hg12 := gd_1 h
        replace h := gd_2 h
        refine g_aaldK C (kK_T C) hg12 rfl dX3_readKeyword_49 ?_
        refine g_putk C 287 q_287 pk_I_21 rfl rfl dX3_readKeyword_50 ?_
        obtain ⟨d13, hd13, h⟩ := bnd_1 h
        refine g_nmD hd13 ?_
        refine g_aload_n C dX3_readKeyword_53 3 rfl ?_
        refine g_dup C dX3_readKeyword_54 rfl ?_
        refine g_get C (.int (d13 287 2)) 287 q_287 fk_I_32 rfl dX3_readKeyword_55 ?_
        refine g_iload C dX3_readKeyword_58 1 rfl ?_
        refine g_iadd C dX3_readKeyword_60  ?_
        refine g_put C 287 q_287 pk_I_32 rfl rfl dX3_readKeyword_61 ?_
        obtain ⟨d14, hd14, h⟩ := bnd_1 h
        refine g_nmD hd14 ?_
        refine g_iconst C dX3_readKeyword_64 (v := 1) rfl ?_
        exact g_iret C hr hlk rfl (congrArg Prod.snd (Option.some.inj h)) (congrArg (fun z => some (Value.int z.1)) (Option.some.inj h)) dX3_readKeyword_65
  unfold f_I_readKeyword at h
  refine g_iconst C dX3_readKeyword_0 (v := 0) rfl ?_
  refine g_istore_n C (lv' := [(1, .int 0), (0, .ref (w_r w 287))]) dX3_readKeyword_1 (by decide) rfl ?_
  refine g_iconst C dX3_readKeyword_2 (v := 0) rfl ?_
  refine g_istore_n C (lv' := [(2, .int 0), (1, .int 0), (0, .ref (w_r w 287))]) dX3_readKeyword_3 (by decide) rfl ?_
  refine g_sub [2, 1, 0] (lv' := [(0, .ref (w_r w 287)), (1, .int 0), (2, .int 0)]) rfl ?_
  exact R4 0 0 d h
set_option maxHeartbeats 4000000 in
set_option maxRecDepth 100000 in
theorem m_I_readCommand {w : wT} {l : Launch} {d : Dt} {rE : Int32} {dE : Dt} (hO : okW w) (h : f_I_readCommand  d = some (rE, dE)) : gM w l yX3_readCommand cX3_readCommand 3 (Option.some Jvm.ClassFile.FieldType.boolean) 6 [.ref (w_r w 287)] d dE (some (.int rE)) := by
  refine gM_of (by decide) [(0, .ref (w_r w 287))] rfl rfl ?_ hO
  intro p e R s m args below meth c C hR hr hlk
  have R23 : ∀ (x1 : Int32) (d : Dt), f_I_readCommand_23 x1 d = some (rE, dE) → gG w p l e R s m args below meth c 3 0 0 (gE w below args s dE (some (.int rE))) d [(0, .ref (w_r w 287)), (1, .int x1)] 23 [] := by
    intro x1 d  h
    refine iter_ind (G := fun s_ : (Int32 × Dt) => gG w p l e R s m args below meth c 3 0 0 (gE w below args s dE (some (.int rE))) s_.2 [(0, .ref (w_r w 287)), (1, .int s_.1)] 23 []) ?_ fu _ h
    clear h
    intro s_ y1 h hl1 hx1
    obtain ⟨x1, d⟩ := s_
    show gG w p l e R s m args below meth c 3 0 0 (gE w below args s dE (some (.int rE))) d [(0, .ref (w_r w 287)), (1, .int x1)] 23 []
    dsimp only at h
    unfold st_I_readCommand_23 at h
    refine g_iload_n C dX3_readCommand_23 1 rfl ?_
    refine g_aload_n C dX3_readCommand_24 0 rfl ?_
    have hg11 := gd_1 h
    replace h := gd_2 h
    refine g_get C (.ref (w_k w (200 + (d 287 3).toNatClampNeg))) 287 q_287 fk_I_21 rfl dX3_readCommand_25 ?_
    refine g_getO C (kk_fm C hg11) (wA 1992 (by decide +kernel) (by decide +kernel)) dX3_readCommand_28 ?_
    obtain ⟨r12, hc13, h⟩ := ob1_1 h
    refine g_callO C _ (ks_obj C (fmS_lt _)) yk_J0_length_8abf5 rfl (wA 1333 (by decide +kernel) (by decide +kernel)) (wA 959 (by decide +kernel) (by decide +kernel)) (wA 960 (by decide +kernel) (by decide +kernel)) hR rfl (m_JS_length C.2.2.2.2.2.2.1 (fmS_lt _) hc13) rfl rfl rfl dX3_readCommand_31 rfl rfl ?_
    refine g_icmp_ge C dX3_readCommand_34 (tgt := 80) rfl (fun q => ?_) (fun q => ?_)
    · replace h := it_t q h
      replace h := ir_2 h hx1
      refine g_aload_n C dX3_readCommand_80 0 rfl ?_
      obtain ⟨r14, hc15, h⟩ := ob1_1 h
      refine g_callVi C 287 q_287 vk_I_64 hR rfl (m_I_isAtEnd C.2.2.2.2.2.2.1 hc15) rfl rfl rfl dX3_readCommand_81 rfl rfl ?_
      have hg16 := gd_1 h
      replace h := gd_2 h
      exact g_iret C hr hlk (nar_n hg16) (congrArg Prod.snd (Option.some.inj h)) (congrArg (fun z => some (Value.int z.1)) (Option.some.inj h)) dX3_readCommand_84
    · replace h := it_f q h
      refine g_aload_n C dX3_readCommand_37 0 rfl ?_
      have hg17 := gd_1 h
      replace h := gd_2 h
      refine g_get C (.ref (w_k w (200 + (d 287 3).toNatClampNeg))) 287 q_287 fk_I_21 rfl dX3_readCommand_38 ?_
      refine g_getO C (kk_fm C hg17) (wA 1992 (by decide +kernel) (by decide +kernel)) dX3_readCommand_41 ?_
      refine g_iload_n C dX3_readCommand_44 1 rfl ?_
      obtain ⟨r18, hc19, h⟩ := ob1_1 h
      refine g_callO C _ (ks_obj C (fmS_lt _)) yk_J0_charAt_5068e rfl (wA 1334 (by decide +kernel) (by decide +kernel)) (wA 1335 (by decide +kernel) (by decide +kernel)) (wA 1336 (by decide +kernel) (by decide +kernel)) hR rfl (m_JS_charAt C.2.2.2.2.2.2.1 (fmS_lt _) hc19) rfl rfl rfl dX3_readCommand_45 rfl rfl ?_
      refine g_istore_n C (lv' := [(2, .int r18), (0, .ref (w_r w 287)), (1, .int x1)]) dX3_readCommand_48 (by decide) rfl ?_
      refine g_iload_n C dX3_readCommand_49 0 rfl ?_
      refine g_bipush C dX3_readCommand_50 (v := 63) (by decide) ?_
      refine g_icmp_ne C dX3_readCommand_52 (tgt := 64) rfl (fun q => ?_) (fun q => ?_)
      · replace h := it_f q h
        refine g_aload_n C dX3_readCommand_64 1 rfl ?_
        refine g_iload_n C dX3_readCommand_65 0 rfl ?_
        obtain ⟨r20, d21, hc22, h⟩ := ob2_1 h
        refine g_callVi C 287 q_287 vk_I_67 hR rfl (m_I_readPart C.2.2.2.2.2.2.1 hc22) rfl rfl rfl dX3_readCommand_66 rfl rfl ?_
        refine g_if_ne C dX3_readCommand_69 (tgt := 74) rfl (fun q => ?_) (fun q => ?_)
        · replace h := it_f q h
          refine g_iinc C (lv' := [(1, .int (x1 + 1)), (2, .int r18), (0, .ref (w_r w 287))]) (v := (x1 + 1)) dX3_readCommand_74 2 rfl rfl (by decide) rfl ?_
          refine g_goto C dX3_readCommand_77 (tgt := 23) rfl ?_
          refine g_sub [2, 0] (lv' := [(0, .ref (w_r w 287)), (1, .int (x1 + 1))]) rfl ?_
          exact hl1 ((x1 + 1), d21) (Option.some.inj h).symm
        · replace h := it_t q h
          replace h := ir_2 h hx1
          refine g_iconst C dX3_readCommand_72 (v := 0) rfl ?_
          exact g_iret C hr hlk rfl (congrArg Prod.snd (Option.some.inj h)) (congrArg (fun z => some (Value.int z.1)) (Option.some.inj h)) dX3_readCommand_73
      · replace h := it_t q h
        refine g_aload_n C dX3_readCommand_55 1 rfl ?_
        obtain ⟨r23, hc24, h⟩ := ob1_1 h
        refine g_callVi C 287 q_287 vk_I_64 hR rfl (m_I_isAtEnd C.2.2.2.2.2.2.1 hc24) rfl rfl rfl dX3_readCommand_56 rfl rfl ?_
        refine g_if_eq C dX3_readCommand_59 (tgt := 74) rfl (fun q => ?_) (fun q => ?_)
        · replace h := it_t q h
          refine g_iinc C (lv' := [(1, .int (x1 + 1)), (2, .int r18), (0, .ref (w_r w 287))]) (v := (x1 + 1)) dX3_readCommand_74 2 rfl rfl (by decide) rfl ?_
          refine g_goto C dX3_readCommand_77 (tgt := 23) rfl ?_
          refine g_sub [2, 0] (lv' := [(0, .ref (w_r w 287)), (1, .int (x1 + 1))]) rfl ?_
          exact hl1 ((x1 + 1), d) (Option.some.inj h).symm
        · replace h := it_f q h
          replace h := ir_2 h hx1
          refine g_iconst C dX3_readCommand_62 (v := 1) rfl ?_
          exact g_iret C hr hlk rfl (congrArg Prod.snd (Option.some.inj h)) (congrArg (fun z => some (Value.int z.1)) (Option.some.inj h)) dX3_readCommand_63
  unfold f_I_readCommand at h
  refine g_aload_n C dX3_readCommand_0 0 rfl ?_
  obtain ⟨r25, d26, hc27, h⟩ := ob2_1 h
  refine g_callVi C 287 q_287 vk_I_45 hR rfl (m_I_readKeyword C.2.2.2.2.2.2.1 hc27) rfl rfl rfl dX3_readCommand_1 rfl rfl ?_
  refine g_if_ne C dX3_readCommand_4 (tgt := 9) rfl (fun q => ?_) (fun q => ?_)
  · replace h := it_f q h
    refine g_aload_n C dX3_readCommand_9 0 rfl ?_
    refine g_get C (.ref (w_r w 289)) 287 q_287 fk_I_24 rfl dX3_readCommand_10 ?_
    refine g_iconst C dX3_readCommand_13 (v := 0) rfl ?_
    refine g_iconst C dX3_readCommand_14 (v := 1) rfl ?_
    refine g_iast C 289 q_289 (by decide) 0 (by decide)  dX3_readCommand_15 ?_
    obtain ⟨d28, hd28, h⟩ := bnd_1 h
    refine g_nmD hd28 ?_
    refine g_aload_n C dX3_readCommand_16 0 rfl ?_
    refine g_iconst C dX3_readCommand_17 (v := 0) rfl ?_
    refine g_put C 287 q_287 pk_I_48 rfl rfl dX3_readCommand_18 ?_
    obtain ⟨d29, hd29, h⟩ := bnd_1 h
    refine g_nmD hd29 ?_
    refine g_iconst C dX3_readCommand_21 (v := 0) rfl ?_
    refine g_istore_n C (lv' := [(1, .int 0), (0, .ref (w_r w 287))]) dX3_readCommand_22 (by decide) rfl ?_
    refine g_sub [1, 0] (lv' := [(0, .ref (w_r w 287)), (1, .int 0)]) rfl ?_
    exact R23 0 d29 h
  · replace h := it_t q h
    refine g_iconst C dX3_readCommand_7 (v := 0) rfl ?_
    exact g_iret C hr hlk rfl (congrArg Prod.snd (Option.some.inj h)) (congrArg (fun z => some (Value.int z.1)) (Option.some.inj h)) dX3_readCommand_8
set_option maxHeartbeats 4000000 in
set_option maxRecDepth 100000 in
theorem m_B_isInRange {w : wT} {l : Launch} {x0 x1 x2 : Int32} {d : Dt} {rE : Int32} (hO : okW w) (h : f_B_isInRange x0 x1 x2 d = some rE) : gM w l yX1_isInRange cX1_isInRange 3 (Option.some Jvm.ClassFile.FieldType.boolean) 0 [.int x0, .int x1, .int x2] d d (some (.int rE)) := by
  refine gM_of (by decide) [(0, .int x0), (1, .int x1), (2, .int x2)] rfl rfl ?_ hO
  intro p e R s m args below meth c C hR hr hlk
  unfold f_B_isInRange at h
  refine g_iload_n C dX1_isInRange_0 0 rfl ?_
  refine g_iconst C dX1_isInRange_1 (v := 1) rfl ?_
  refine g_icmp_lt C dX1_isInRange_2 (tgt := 37) rfl (fun q => ?_) (fun q => ?_)
  · replace h := it_t q h
    refine g_iconst C dX1_isInRange_37 (v := 0) rfl ?_
    exact g_iret C hr hlk rfl rfl (congrArg (fun z => some (Value.int z)) (Option.some.inj h)) dX1_isInRange_38
  · replace h := it_f q h
    refine g_iload_n C dX1_isInRange_5 0 rfl ?_
    refine g_bipush C dX1_isInRange_6 (v := 12) (by decide) ?_
    refine g_icmp_gt C dX1_isInRange_8 (tgt := 37) rfl (fun q => ?_) (fun q => ?_)
    · replace h := it_t q h
      refine g_iconst C dX1_isInRange_37 (v := 0) rfl ?_
      exact g_iret C hr hlk rfl rfl (congrArg (fun z => some (Value.int z)) (Option.some.inj h)) dX1_isInRange_38
    · replace h := it_f q h
      refine g_iload_n C dX1_isInRange_11 1 rfl ?_
      refine g_iconst C dX1_isInRange_12 (v := 1) rfl ?_
      refine g_icmp_lt C dX1_isInRange_13 (tgt := 37) rfl (fun q => ?_) (fun q => ?_)
      · replace h := it_t q h
        refine g_iconst C dX1_isInRange_37 (v := 0) rfl ?_
        exact g_iret C hr hlk rfl rfl (congrArg (fun z => some (Value.int z)) (Option.some.inj h)) dX1_isInRange_38
      · replace h := it_f q h
        refine g_iload_n C dX1_isInRange_16 1 rfl ?_
        refine g_bipush C dX1_isInRange_17 (v := 50) (by decide) ?_
        refine g_icmp_gt C dX1_isInRange_19 (tgt := 37) rfl (fun q => ?_) (fun q => ?_)
        · replace h := it_t q h
          refine g_iconst C dX1_isInRange_37 (v := 0) rfl ?_
          exact g_iret C hr hlk rfl rfl (congrArg (fun z => some (Value.int z)) (Option.some.inj h)) dX1_isInRange_38
        · replace h := it_f q h
          refine g_iload_n C dX1_isInRange_22 2 rfl ?_
          refine g_iconst C dX1_isInRange_23 (v := 1) rfl ?_
          refine g_icmp_lt C dX1_isInRange_24 (tgt := 37) rfl (fun q => ?_) (fun q => ?_)
          · replace h := it_t q h
            refine g_iconst C dX1_isInRange_37 (v := 0) rfl ?_
            exact g_iret C hr hlk rfl rfl (congrArg (fun z => some (Value.int z)) (Option.some.inj h)) dX1_isInRange_38
          · replace h := it_f q h
            refine g_iload_n C dX1_isInRange_27 2 rfl ?_
            refine g_bipush C dX1_isInRange_28 (v := 9) (by decide) ?_
            refine g_icmp_gt C dX1_isInRange_30 (tgt := 37) rfl (fun q => ?_) (fun q => ?_)
            · replace h := it_t q h
              refine g_iconst C dX1_isInRange_37 (v := 0) rfl ?_
              exact g_iret C hr hlk rfl rfl (congrArg (fun z => some (Value.int z)) (Option.some.inj h)) dX1_isInRange_38
            · replace h := it_f q h
              refine g_iconst C dX1_isInRange_33 (v := 1) rfl ?_
              refine g_goto C dX1_isInRange_34 (tgt := 38) rfl ?_
              exact g_iret C hr hlk rfl rfl (congrArg (fun z => some (Value.int z)) (Option.some.inj h)) dX1_isInRange_38
set_option maxHeartbeats 4000000 in
set_option maxRecDepth 100000 in
theorem m_B_isFull {w : wT} {l : Launch} {d : Dt} {rE : Int32} (hO : okW w) (h : f_B_isFull  d = some rE) : gM w l yX1_isFull cX1_isFull 1 (Option.some Jvm.ClassFile.FieldType.boolean) 0 [.ref (w_r w 16)] d d (some (.int rE)) := by
  refine gM_of (by decide) [(0, .ref (w_r w 16))] rfl rfl ?_ hO
  intro p e R s m args below meth c C hR hr hlk
  unfold f_B_isFull at h
  refine g_aload_n C dX1_isFull_0 0 rfl ?_
  refine g_get C (.int (d 16 0)) 16 q_16 fk_B_27 rfl dX1_isFull_1 ?_
  refine g_bipush C dX1_isFull_4 (v := 10) (by decide) ?_
  refine g_icmp_lt C dX1_isFull_6 (tgt := 13) rfl (fun q => ?_) (fun q => ?_)
  · replace h := it_t q h
    refine g_iconst C dX1_isFull_13 (v := 0) rfl ?_
    exact g_iret C hr hlk rfl rfl (congrArg (fun z => some (Value.int z)) (Option.some.inj h)) dX1_isFull_14
  · replace h := it_f q h
    refine g_iconst C dX1_isFull_9 (v := 1) rfl ?_
    refine g_goto C dX1_isFull_10 (tgt := 14) rfl ?_
    exact g_iret C hr hlk rfl rfl (congrArg (fun z => some (Value.int z)) (Option.some.inj h)) dX1_isFull_14
set_option maxHeartbeats 4000000 in
set_option maxRecDepth 100000 in
theorem m_B_positionOf {w : wT} {l : Launch} {x1 : Int32} {d : Dt} {rE : Int32} (hO : okW w) (h : f_B_positionOf x1 d = some rE) : gM w l yX1_positionOf cX1_positionOf 3 (Option.some Jvm.ClassFile.FieldType.int) 0 [.ref (w_r w 16), .int x1] d d (some (.int rE)) := by
  refine gM_of (by decide) [(0, .ref (w_r w 16)), (1, .int x1)] rfl rfl ?_ hO
  intro p e R s m args below meth c C hR hr hlk
  have R2 : ∀ (x1 : Int32) (x2 : Int32), f_B_positionOf_2 x1 x2 d = some rE → gG w p l e R s m args below meth c 3 0 0 (gE w below args s d (some (.int rE))) d [(0, .ref (w_r w 16)), (1, .int x1), (2, .int x2)] 2 [] := by
    intro x1 x2   h
    refine iter_ind (G := fun s_ : (Int32) => gG w p l e R s m args below meth c 3 0 0 (gE w below args s d (some (.int rE))) d [(0, .ref (w_r w 16)), (1, .int x1), (2, .int s_)] 2 []) ?_ fu _ h
    clear h
    intro x2 y1 h hl1 hx1
    show gG w p l e R s m args below meth c 3 0 0 (gE w below args s d (some (.int rE))) d [(0, .ref (w_r w 16)), (1, .int x1), (2, .int x2)] 2 []
    unfold st_B_positionOf_2 at h
    refine g_iload_n C dX1_positionOf_2 2 rfl ?_
    refine g_aload_n C dX1_positionOf_3 0 rfl ?_
    refine g_get C (.int (d 16 0)) 16 q_16 fk_B_27 rfl dX1_positionOf_4 ?_
    refine g_icmp_ge C dX1_positionOf_7 (tgt := 28) rfl (fun q => ?_) (fun q => ?_)
    · replace h := it_t q h
      replace h := ir_2 h hx1
      refine g_iconst C dX1_positionOf_28 (v := (-1)) (by decide) ?_
      exact g_iret C hr hlk rfl rfl (congrArg (fun z => some (Value.int z)) (Option.some.inj h)) dX1_positionOf_29
    · replace h := it_f q h
      refine g_aload_n C dX1_positionOf_10 0 rfl ?_
      refine g_get C (.ref (w_r w 17)) 16 q_16 fk_B_9 rfl dX1_positionOf_11 ?_
      refine g_iload_n C dX1_positionOf_14 2 rfl ?_
      have hg1 := gd_1 h
      replace h := gd_2 h
      refine g_iald C 17 q_17 hg1 _ rfl dX1_positionOf_15 ?_
      refine g_iload_n C dX1_positionOf_16 1 rfl ?_
      refine g_icmp_ne C dX1_positionOf_17 (tgt := 22) rfl (fun q => ?_) (fun q => ?_)
      · replace h := it_f q h
        refine g_iinc C (lv' := [(2, .int (x2 + 1)), (0, .ref (w_r w 16)), (1, .int x1)]) (v := (x2 + 1)) dX1_positionOf_22 2 rfl rfl (by decide) rfl ?_
        refine g_goto C dX1_positionOf_25 (tgt := 2) rfl ?_
        refine g_sub [1, 2, 0] (lv' := [(0, .ref (w_r w 16)), (1, .int x1), (2, .int (x2 + 1))]) rfl ?_
        exact hl1 (x2 + 1) (Option.some.inj h).symm
      · replace h := it_t q h
        replace h := ir_2 h hx1
        refine g_iload_n C dX1_positionOf_20 2 rfl ?_
        exact g_iret C hr hlk rfl rfl (congrArg (fun z => some (Value.int z)) (Option.some.inj h)) dX1_positionOf_21
  unfold f_B_positionOf at h
  refine g_iconst C dX1_positionOf_0 (v := 0) rfl ?_
  refine g_istore_n C (lv' := [(2, .int 0), (0, .ref (w_r w 16)), (1, .int x1)]) dX1_positionOf_1 (by decide) rfl ?_
  refine g_sub [1, 2, 0] (lv' := [(0, .ref (w_r w 16)), (1, .int x1), (2, .int 0)]) rfl ?_
  exact R2 x1 0 h
set_option maxHeartbeats 4000000 in
set_option maxRecDepth 100000 in
theorem m_T_isFull {w : wT} {l : Launch} {d : Dt} {rE : Int32} (hO : okW w) (h : f_T_isFull  d = some rE) : gM w l yX9_isFull cX9_isFull 1 (Option.some Jvm.ClassFile.FieldType.boolean) 0 [.ref (w_r w 22)] d d (some (.int rE)) := by
  refine gM_of (by decide) [(0, .ref (w_r w 22))] rfl rfl ?_ hO
  intro p e R s m args below meth c C hR hr hlk
  unfold f_T_isFull at h
  refine g_aload_n C dX9_isFull_0 0 rfl ?_
  refine g_get C (.int (d 22 0)) 22 q_22 fk_T_22 rfl dX9_isFull_1 ?_
  refine g_bipush C dX9_isFull_4 (v := 12) (by decide) ?_
  refine g_icmp_lt C dX9_isFull_6 (tgt := 13) rfl (fun q => ?_) (fun q => ?_)
  · replace h := it_t q h
    refine g_iconst C dX9_isFull_13 (v := 0) rfl ?_
    exact g_iret C hr hlk rfl rfl (congrArg (fun z => some (Value.int z)) (Option.some.inj h)) dX9_isFull_14
  · replace h := it_f q h
    refine g_iconst C dX9_isFull_9 (v := 1) rfl ?_
    refine g_goto C dX9_isFull_10 (tgt := 14) rfl ?_
    exact g_iret C hr hlk rfl rfl (congrArg (fun z => some (Value.int z)) (Option.some.inj h)) dX9_isFull_14
set_option maxHeartbeats 4000000 in
set_option maxRecDepth 100000 in
theorem m_T_has {w : wT} {l : Launch} {x1 : Int32} {d : Dt} {rE : Int32} (hO : okW w) (h : f_T_has x1 d = some rE) : gM w l yX9_has cX9_has 2 (Option.some Jvm.ClassFile.FieldType.boolean) 0 [.ref (w_r w 22), .int x1] d d (some (.int rE)) := by
  refine gM_of (by decide) [(0, .ref (w_r w 22)), (1, .int x1)] rfl rfl ?_ hO
  intro p e R s m args below meth c C hR hr hlk
  unfold f_T_has at h
  refine g_iload_n C dX9_has_0 1 rfl ?_
  refine g_if_lt C dX9_has_1 (tgt := 16) rfl (fun q => ?_) (fun q => ?_)
  · replace h := it_t q h
    refine g_iconst C dX9_has_16 (v := 0) rfl ?_
    exact g_iret C hr hlk rfl rfl (congrArg (fun z => some (Value.int z)) (Option.some.inj h)) dX9_has_17
  · replace h := it_f q h
    refine g_iload_n C dX9_has_4 1 rfl ?_
    refine g_aload_n C dX9_has_5 0 rfl ?_
    refine g_get C (.int (d 22 0)) 22 q_22 fk_T_22 rfl dX9_has_6 ?_
    refine g_icmp_ge C dX9_has_9 (tgt := 16) rfl (fun q => ?_) (fun q => ?_)
    · replace h := it_t q h
      refine g_iconst C dX9_has_16 (v := 0) rfl ?_
      exact g_iret C hr hlk rfl rfl (congrArg (fun z => some (Value.int z)) (Option.some.inj h)) dX9_has_17
    · replace h := it_f q h
      refine g_iconst C dX9_has_12 (v := 1) rfl ?_
      refine g_goto C dX9_has_13 (tgt := 17) rfl ?_
      exact g_iret C hr hlk rfl rfl (congrArg (fun z => some (Value.int z)) (Option.some.inj h)) dX9_has_17
set_option maxHeartbeats 4000000 in
set_option maxRecDepth 100000 in
theorem m_L_serves {w : wT} {l : Launch} {x1 : Int32} {d : Dt} {rE : Int32} (hO : okW w) (h : f_L_serves x1 d = some rE) : gM w l yX5_serves cX5_serves 2 (Option.some Jvm.ClassFile.FieldType.boolean) 0 [.ref (w_r w 3), .int x1] d d (some (.int rE)) := by
  refine gM_of (by decide) [(0, .ref (w_r w 3)), (1, .int x1)] rfl rfl ?_ hO
  intro p e R s m args below meth c C hR hr hlk
  unfold f_L_serves at h
  refine g_aload_n C dX5_serves_0 0 rfl ?_
  refine g_get C (.ref (w_r w 6)) 3 q_3 fk_L_18 rfl dX5_serves_1 ?_
  refine g_iload_n C dX5_serves_4 1 rfl ?_
  have hg1 := gd_1 h
  replace h := gd_2 h
  refine g_iald C 6 q_6 hg1 _ rfl dX5_serves_5 ?_
  refine g_if_le C dX5_serves_6 (tgt := 13) rfl (fun q => ?_) (fun q => ?_)
  · replace h := it_t q h
    refine g_iconst C dX5_serves_13 (v := 0) rfl ?_
    exact g_iret C hr hlk rfl rfl (congrArg (fun z => some (Value.int z)) (Option.some.inj h)) dX5_serves_14
  · replace h := it_f q h
    refine g_iconst C dX5_serves_9 (v := 1) rfl ?_
    refine g_goto C dX5_serves_10 (tgt := 14) rfl ?_
    exact g_iret C hr hlk rfl rfl (congrArg (fun z => some (Value.int z)) (Option.some.inj h)) dX5_serves_14
set_option maxHeartbeats 4000000 in
set_option maxRecDepth 100000 in
theorem m_C_isPossible {w : wT} {l : Launch} {x1 : Int32} {x3 : Int32} {d : Dt} {rE : Int32} (hO : okW w) (hx1 : inb x1 8 = true) (h : f_C_isPossible x1 x3 d = some rE) : gM w l yX11_isPossible cX11_isPossible 5 (Option.some Jvm.ClassFile.FieldType.boolean) 1 [.ref (w_r w 0), .ref (w_k w (200 + x1.toNatClampNeg)), .ref (w_r w 289), .int x3] d d (some (.int rE)) := by
  refine gM_of (by decide) [(0, .ref (w_r w 0)), (1, .ref (w_k w (200 + x1.toNatClampNeg))), (2, .ref (w_r w 289)), (3, .int x3)] rfl rfl ?_ hO
  intro p e R s m args below meth c C hR hr hlk
  unfold f_C_isPossible at h
  refine g_aload_n C dX11_isPossible_0 2 rfl ?_
  refine g_iconst C dX11_isPossible_1 (v := 0) rfl ?_
  refine g_iald C 289 q_289 (by decide) 0 (by decide) dX11_isPossible_2 ?_
  refine g_istore C (lv' := [(4, .int (d 289 0)), (0, .ref (w_r w 0)), (1, .ref (w_k w (200 + x1.toNatClampNeg))), (2, .ref (w_r w 289)), (3, .int x3)]) dX11_isPossible_3 (by decide) rfl ?_
  refine g_gets C (kM_Z C) (wA 1397 (by decide +kernel) (by decide +kernel)) dX11_isPossible_5 ?_
  refine g_aload_n C dX11_isPossible_8 2 rfl ?_
  refine g_ord C hx1 hR rfl rfl dX11_isPossible_9 rfl rfl ?_
  have hg15 := gd_1 h
  replace h := gd_2 h
  refine g_ialdK C (kM_T C) hg15 rfl dX11_isPossible_12 ?_
  by_cases q0 : (smS x1.toNatClampNeg) = 1
  · replace h := it_t q0 h
    refine g_tabIn C dX11_isPossible_13 (v := 1) q0 (by decide) (by decide) (off := 43) (by rfl) (tgt := 56) rfl ?_
    refine g_aload_n C dX11_isPossible_56 1 rfl ?_
    refine g_get C (.ref (w_r w 2)) 0 q_0 fk_C_10 rfl dX11_isPossible_57 ?_
    refine g_get C (.ref (w_r w 3)) 2 q_2 fk_C_68 rfl dX11_isPossible_60 ?_
    obtain ⟨r16, hc17, h⟩ := ob1_1 h
    refine g_callVi C 3 q_3 vk_C_72 hR rfl (m_L_isFull C.2.2.2.2.2.2.1 hc17) rfl rfl rfl dX11_isPossible_63 rfl rfl ?_
    refine g_if_ne C dX11_isPossible_66 (tgt := 73) rfl (fun q => ?_) (fun q => ?_)
    · replace h := it_f q h
      refine g_iconst C dX11_isPossible_73 (v := 0) rfl ?_
      exact g_iret C hr hlk rfl rfl (congrArg (fun z => some (Value.int z)) (Option.some.inj h)) dX11_isPossible_74
    · replace h := it_t q h
      refine g_iconst C dX11_isPossible_69 (v := 1) rfl ?_
      refine g_goto C dX11_isPossible_70 (tgt := 74) rfl ?_
      exact g_iret C hr hlk rfl rfl (congrArg (fun z => some (Value.int z)) (Option.some.inj h)) dX11_isPossible_74
  replace h := it_f q0 h
  by_cases q1 : (smS x1.toNatClampNeg) = 2
  · replace h := it_t q1 h
    refine g_tabIn C dX11_isPossible_13 (v := 2) q1 (by decide) (by decide) (off := 62) (by rfl) (tgt := 75) rfl ?_
    refine g_aload_n C dX11_isPossible_75 1 rfl ?_
    refine g_get C (.ref (w_r w 2)) 0 q_0 fk_C_10 rfl dX11_isPossible_76 ?_
    refine g_get C (.ref (w_r w 3)) 2 q_2 fk_C_68 rfl dX11_isPossible_79 ?_
    refine g_iload C dX11_isPossible_82 0 rfl ?_
    obtain ⟨r18, hc19, h⟩ := ob1_1 h
    refine g_callVi C 3 q_3 vk_C_199 hR rfl (m_L_has C.2.2.2.2.2.2.1 hc19) rfl rfl rfl dX11_isPossible_84 rfl rfl ?_
    refine g_if_eq C dX11_isPossible_87 (tgt := 122) rfl (fun q => ?_) (fun q => ?_)
    · replace h := it_t q h
      refine g_iconst C dX11_isPossible_122 (v := 0) rfl ?_
      exact g_iret C hr hlk rfl rfl (congrArg (fun z => some (Value.int z)) (Option.some.inj h)) dX11_isPossible_123
    · replace h := it_f q h
      refine g_aload_n C dX11_isPossible_90 3 rfl ?_
      refine g_iconst C dX11_isPossible_91 (v := 1) rfl ?_
      refine g_iald C 289 q_289 (by decide) 1 (by decide) dX11_isPossible_92 ?_
      refine g_aload_n C dX11_isPossible_93 3 rfl ?_
      refine g_iconst C dX11_isPossible_94 (v := 2) rfl ?_
      refine g_iald C 289 q_289 (by decide) 2 (by decide) dX11_isPossible_95 ?_
      refine g_aload_n C dX11_isPossible_96 3 rfl ?_
      refine g_iconst C dX11_isPossible_97 (v := 3) rfl ?_
      refine g_iald C 289 q_289 (by decide) 3 (by decide) dX11_isPossible_98 ?_
      obtain ⟨r20, hc21, h⟩ := ob1_1 h
      refine g_callSi C sk_C_97 hR rfl (m_B_isInRange C.2.2.2.2.2.2.1 hc21) rfl rfl rfl dX11_isPossible_99 rfl rfl ?_
      refine g_if_eq C dX11_isPossible_102 (tgt := 122) rfl (fun q => ?_) (fun q => ?_)
      · replace h := it_t q h
        refine g_iconst C dX11_isPossible_122 (v := 0) rfl ?_
        exact g_iret C hr hlk rfl rfl (congrArg (fun z => some (Value.int z)) (Option.some.inj h)) dX11_isPossible_123
      · replace h := it_f q h
        refine g_aload_n C dX11_isPossible_105 1 rfl ?_
        refine g_get C (.ref (w_r w 2)) 0 q_0 fk_C_10 rfl dX11_isPossible_106 ?_
        refine g_get C (.ref (w_r w 16)) 2 q_2 fk_C_108 rfl dX11_isPossible_109 ?_
        obtain ⟨r22, hc23, h⟩ := ob1_1 h
        refine g_callVi C 16 q_16 vk_C_112 hR rfl (m_B_isFull C.2.2.2.2.2.2.1 hc23) rfl rfl rfl dX11_isPossible_112 rfl rfl ?_
        refine g_if_ne C dX11_isPossible_115 (tgt := 122) rfl (fun q => ?_) (fun q => ?_)
        · replace h := it_f q h
          refine g_iconst C dX11_isPossible_122 (v := 0) rfl ?_
          exact g_iret C hr hlk rfl rfl (congrArg (fun z => some (Value.int z)) (Option.some.inj h)) dX11_isPossible_123
        · replace h := it_t q h
          refine g_iconst C dX11_isPossible_118 (v := 1) rfl ?_
          refine g_goto C dX11_isPossible_119 (tgt := 123) rfl ?_
          exact g_iret C hr hlk rfl rfl (congrArg (fun z => some (Value.int z)) (Option.some.inj h)) dX11_isPossible_123
  replace h := it_f q1 h
  by_cases q2 : (smS x1.toNatClampNeg) = 3
  · replace h := it_t q2 h
    refine g_tabIn C dX11_isPossible_13 (v := 3) q2 (by decide) (by decide) (off := 111) (by rfl) (tgt := 124) rfl ?_
    refine g_aload_n C dX11_isPossible_124 1 rfl ?_
    refine g_get C (.ref (w_r w 2)) 0 q_0 fk_C_10 rfl dX11_isPossible_125 ?_
    refine g_get C (.ref (w_r w 16)) 2 q_2 fk_C_108 rfl dX11_isPossible_128 ?_
    refine g_iload C dX11_isPossible_131 0 rfl ?_
    obtain ⟨r24, hc25, h⟩ := ob1_1 h
    refine g_callVi C 16 q_16 vk_C_438 hR rfl (m_B_positionOf C.2.2.2.2.2.2.1 hc25) rfl rfl rfl dX11_isPossible_133 rfl rfl ?_
    refine g_iconst C dX11_isPossible_136 (v := (-1)) (by decide) ?_
    refine g_icmp_eq C dX11_isPossible_137 (tgt := 144) rfl (fun q => ?_) (fun q => ?_)
    · replace h := it_t q h
      refine g_iconst C dX11_isPossible_144 (v := 0) rfl ?_
      exact g_iret C hr hlk rfl rfl (congrArg (fun z => some (Value.int z)) (Option.some.inj h)) dX11_isPossible_145
    · replace h := it_f q h
      refine g_iconst C dX11_isPossible_140 (v := 1) rfl ?_
      refine g_goto C dX11_isPossible_141 (tgt := 145) rfl ?_
      exact g_iret C hr hlk rfl rfl (congrArg (fun z => some (Value.int z)) (Option.some.inj h)) dX11_isPossible_145
  replace h := it_f q2 h
  by_cases q3 : (smS x1.toNatClampNeg) = 4
  · replace h := it_t q3 h
    refine g_tabIn C dX11_isPossible_13 (v := 4) q3 (by decide) (by decide) (off := 133) (by rfl) (tgt := 146) rfl ?_
    refine g_aload_n C dX11_isPossible_146 1 rfl ?_
    refine g_get C (.ref (w_r w 2)) 0 q_0 fk_C_10 rfl dX11_isPossible_147 ?_
    refine g_get C (.ref (w_r w 3)) 2 q_2 fk_C_68 rfl dX11_isPossible_150 ?_
    refine g_iload C dX11_isPossible_153 0 rfl ?_
    obtain ⟨r26, hc27, h⟩ := ob1_1 h
    refine g_callVi C 3 q_3 vk_C_199 hR rfl (m_L_has C.2.2.2.2.2.2.1 hc27) rfl rfl rfl dX11_isPossible_155 rfl rfl ?_
    refine g_if_eq C dX11_isPossible_158 (tgt := 202) rfl (fun q => ?_) (fun q => ?_)
    · replace h := it_t q h
      refine g_iconst C dX11_isPossible_202 (v := 0) rfl ?_
      exact g_iret C hr hlk rfl rfl (congrArg (fun z => some (Value.int z)) (Option.some.inj h)) dX11_isPossible_203
    · replace h := it_f q h
      refine g_aload_n C dX11_isPossible_161 1 rfl ?_
      refine g_get C (.ref (w_r w 2)) 0 q_0 fk_C_10 rfl dX11_isPossible_162 ?_
      refine g_get C (.ref (w_r w 3)) 2 q_2 fk_C_68 rfl dX11_isPossible_165 ?_
      refine g_aload_n C dX11_isPossible_168 3 rfl ?_
      refine g_iconst C dX11_isPossible_169 (v := 1) rfl ?_
      refine g_iald C 289 q_289 (by decide) 1 (by decide) dX11_isPossible_170 ?_
      obtain ⟨r28, hc29, h⟩ := ob1_1 h
      refine g_callVi C 3 q_3 vk_C_199 hR rfl (m_L_has C.2.2.2.2.2.2.1 hc29) rfl rfl rfl dX11_isPossible_171 rfl rfl ?_
      refine g_if_eq C dX11_isPossible_174 (tgt := 202) rfl (fun q => ?_) (fun q => ?_)
      · replace h := it_t q h
        refine g_iconst C dX11_isPossible_202 (v := 0) rfl ?_
        exact g_iret C hr hlk rfl rfl (congrArg (fun z => some (Value.int z)) (Option.some.inj h)) dX11_isPossible_203
      · replace h := it_f q h
        refine g_iload C dX11_isPossible_177 0 rfl ?_
        refine g_aload_n C dX11_isPossible_179 3 rfl ?_
        refine g_iconst C dX11_isPossible_180 (v := 1) rfl ?_
        refine g_iald C 289 q_289 (by decide) 1 (by decide) dX11_isPossible_181 ?_
        refine g_icmp_eq C dX11_isPossible_182 (tgt := 202) rfl (fun q => ?_) (fun q => ?_)
        · replace h := it_t q h
          refine g_iconst C dX11_isPossible_202 (v := 0) rfl ?_
          exact g_iret C hr hlk rfl rfl (congrArg (fun z => some (Value.int z)) (Option.some.inj h)) dX11_isPossible_203
        · replace h := it_f q h
          refine g_aload_n C dX11_isPossible_185 1 rfl ?_
          refine g_get C (.ref (w_r w 2)) 0 q_0 fk_C_10 rfl dX11_isPossible_186 ?_
          refine g_get C (.ref (w_r w 22)) 2 q_2 fk_C_128 rfl dX11_isPossible_189 ?_
          obtain ⟨r30, hc31, h⟩ := ob1_1 h
          refine g_callVi C 22 q_22 vk_C_132 hR rfl (m_T_isFull C.2.2.2.2.2.2.1 hc31) rfl rfl rfl dX11_isPossible_192 rfl rfl ?_
          refine g_if_ne C dX11_isPossible_195 (tgt := 202) rfl (fun q => ?_) (fun q => ?_)
          · replace h := it_f q h
            refine g_iconst C dX11_isPossible_202 (v := 0) rfl ?_
            exact g_iret C hr hlk rfl rfl (congrArg (fun z => some (Value.int z)) (Option.some.inj h)) dX11_isPossible_203
          · replace h := it_t q h
            refine g_iconst C dX11_isPossible_198 (v := 1) rfl ?_
            refine g_goto C dX11_isPossible_199 (tgt := 203) rfl ?_
            exact g_iret C hr hlk rfl rfl (congrArg (fun z => some (Value.int z)) (Option.some.inj h)) dX11_isPossible_203
  replace h := it_f q3 h
  by_cases q4 : (smS x1.toNatClampNeg) = 5
  · replace h := it_t q4 h
    refine g_tabIn C dX11_isPossible_13 (v := 5) q4 (by decide) (by decide) (off := 191) (by rfl) (tgt := 204) rfl ?_
    refine g_aload_n C dX11_isPossible_204 1 rfl ?_
    refine g_get C (.ref (w_r w 2)) 0 q_0 fk_C_10 rfl dX11_isPossible_205 ?_
    refine g_get C (.ref (w_r w 22)) 2 q_2 fk_C_128 rfl dX11_isPossible_208 ?_
    refine g_iload C dX11_isPossible_211 0 rfl ?_
    obtain ⟨r32, hc33, h⟩ := ob1_1 h
    refine g_callVi C 22 q_22 vk_C_435 hR rfl (m_T_has C.2.2.2.2.2.2.1 hc33) rfl rfl rfl dX11_isPossible_213 rfl rfl ?_
    have hg34 := gd_1 h
    replace h := gd_2 h
    exact g_iret C hr hlk (nar_n hg34) rfl (congrArg (fun z => some (Value.int z)) (Option.some.inj h)) dX11_isPossible_216
  replace h := it_f q4 h
  by_cases q5 : (smS x1.toNatClampNeg) = 6
  · replace h := it_t q5 h
    refine g_tabIn C dX11_isPossible_13 (v := 6) q5 (by decide) (by decide) (off := 204) (by rfl) (tgt := 217) rfl ?_
    refine g_aload_n C dX11_isPossible_217 1 rfl ?_
    refine g_get C (.ref (w_r w 2)) 0 q_0 fk_C_10 rfl dX11_isPossible_218 ?_
    refine g_get C (.ref (w_r w 3)) 2 q_2 fk_C_68 rfl dX11_isPossible_221 ?_
    refine g_iload C dX11_isPossible_224 0 rfl ?_
    obtain ⟨r35, hc36, h⟩ := ob1_1 h
    refine g_callVi C 3 q_3 vk_C_199 hR rfl (m_L_has C.2.2.2.2.2.2.1 hc36) rfl rfl rfl dX11_isPossible_226 rfl rfl ?_
    refine g_if_eq C dX11_isPossible_229 (tgt := 252) rfl (fun q => ?_) (fun q => ?_)
    · replace h := it_t q h
      refine g_iconst C dX11_isPossible_252 (v := 0) rfl ?_
      exact g_iret C hr hlk rfl rfl (congrArg (fun z => some (Value.int z)) (Option.some.inj h)) dX11_isPossible_253
    · replace h := it_f q h
      refine g_aload_n C dX11_isPossible_232 1 rfl ?_
      refine g_get C (.ref (w_r w 2)) 0 q_0 fk_C_10 rfl dX11_isPossible_233 ?_
      refine g_get C (.ref (w_r w 3)) 2 q_2 fk_C_68 rfl dX11_isPossible_236 ?_
      refine g_iload C dX11_isPossible_239 0 rfl ?_
      refine g_iload_n C dX11_isPossible_241 4 rfl ?_
      obtain ⟨r37, hc38, h⟩ := ob1_1 h
      refine g_callVi C 3 q_3 vk_C_146 hR rfl (m_L_admits C.2.2.2.2.2.2.1 hc38) rfl rfl rfl dX11_isPossible_242 rfl rfl ?_
      refine g_if_ne C dX11_isPossible_245 (tgt := 252) rfl (fun q => ?_) (fun q => ?_)
      · replace h := it_f q h
        refine g_iconst C dX11_isPossible_252 (v := 0) rfl ?_
        exact g_iret C hr hlk rfl rfl (congrArg (fun z => some (Value.int z)) (Option.some.inj h)) dX11_isPossible_253
      · replace h := it_t q h
        refine g_iconst C dX11_isPossible_248 (v := 1) rfl ?_
        refine g_goto C dX11_isPossible_249 (tgt := 253) rfl ?_
        exact g_iret C hr hlk rfl rfl (congrArg (fun z => some (Value.int z)) (Option.some.inj h)) dX11_isPossible_253
  replace h := it_f q5 h
  by_cases q6 : (smS x1.toNatClampNeg) = 7
  · replace h := it_t q6 h
    refine g_tabIn C dX11_isPossible_13 (v := 7) q6 (by decide) (by decide) (off := 241) (by rfl) (tgt := 254) rfl ?_
    refine g_aload_n C dX11_isPossible_254 1 rfl ?_
    refine g_get C (.ref (w_r w 2)) 0 q_0 fk_C_10 rfl dX11_isPossible_255 ?_
    refine g_get C (.ref (w_r w 3)) 2 q_2 fk_C_68 rfl dX11_isPossible_258 ?_
    refine g_iload C dX11_isPossible_261 0 rfl ?_
    obtain ⟨r39, hc40, h⟩ := ob1_1 h
    refine g_callVi C 3 q_3 vk_C_199 hR rfl (m_L_has C.2.2.2.2.2.2.1 hc40) rfl rfl rfl dX11_isPossible_263 rfl rfl ?_
    refine g_if_eq C dX11_isPossible_266 (tgt := 288) rfl (fun q => ?_) (fun q => ?_)
    · replace h := it_t q h
      refine g_iconst C dX11_isPossible_288 (v := 0) rfl ?_
      exact g_iret C hr hlk rfl rfl (congrArg (fun z => some (Value.int z)) (Option.some.inj h)) dX11_isPossible_289
    · replace h := it_f q h
      refine g_aload_n C dX11_isPossible_269 1 rfl ?_
      refine g_get C (.ref (w_r w 2)) 0 q_0 fk_C_10 rfl dX11_isPossible_270 ?_
      refine g_get C (.ref (w_r w 3)) 2 q_2 fk_C_68 rfl dX11_isPossible_273 ?_
      refine g_iload C dX11_isPossible_276 0 rfl ?_
      obtain ⟨r41, hc42, h⟩ := ob1_1 h
      refine g_callVi C 3 q_3 vk_C_430 hR rfl (m_L_serves C.2.2.2.2.2.2.1 hc42) rfl rfl rfl dX11_isPossible_278 rfl rfl ?_
      refine g_if_eq C dX11_isPossible_281 (tgt := 288) rfl (fun q => ?_) (fun q => ?_)
      · replace h := it_t q h
        refine g_iconst C dX11_isPossible_288 (v := 0) rfl ?_
        exact g_iret C hr hlk rfl rfl (congrArg (fun z => some (Value.int z)) (Option.some.inj h)) dX11_isPossible_289
      · replace h := it_f q h
        refine g_iconst C dX11_isPossible_284 (v := 1) rfl ?_
        refine g_goto C dX11_isPossible_285 (tgt := 289) rfl ?_
        exact g_iret C hr hlk rfl rfl (congrArg (fun z => some (Value.int z)) (Option.some.inj h)) dX11_isPossible_289
  replace h := it_f q6 h
  have a0 : (smS x1.toNatClampNeg).toInt ≠ 1 := fun e => q0 (Int32.toInt_inj.mp (e.trans (by decide)))
  have a1 : (smS x1.toNatClampNeg).toInt ≠ 2 := fun e => q1 (Int32.toInt_inj.mp (e.trans (by decide)))
  have a2 : (smS x1.toNatClampNeg).toInt ≠ 3 := fun e => q2 (Int32.toInt_inj.mp (e.trans (by decide)))
  have a3 : (smS x1.toNatClampNeg).toInt ≠ 4 := fun e => q3 (Int32.toInt_inj.mp (e.trans (by decide)))
  have a4 : (smS x1.toNatClampNeg).toInt ≠ 5 := fun e => q4 (Int32.toInt_inj.mp (e.trans (by decide)))
  have a5 : (smS x1.toNatClampNeg).toInt ≠ 6 := fun e => q5 (Int32.toInt_inj.mp (e.trans (by decide)))
  have a6 : (smS x1.toNatClampNeg).toInt ≠ 7 := fun e => q6 (Int32.toInt_inj.mp (e.trans (by decide)))
  refine g_tabOut C dX11_isPossible_13 (by omega : (smS x1.toNatClampNeg).toInt < 1 ∨ 7 < (smS x1.toNatClampNeg).toInt) (tgt := 290) rfl ?_
  refine g_iload C dX11_isPossible_290 0 rfl ?_
  obtain ⟨r43, hc44, h⟩ := ob1_1 h
  refine g_callSi C sk_C_165 hR rfl (m_C_canPass C.2.2.2.2.2.2.1 hc44) rfl rfl rfl dX11_isPossible_292 rfl rfl ?_
  have hg45 := gd_1 h
  replace h := gd_2 h
  exact g_iret C hr hlk (nar_n hg45) rfl (congrArg (fun z => some (Value.int z)) (Option.some.inj h)) dX11_isPossible_295
set_option maxHeartbeats 4000000 in
set_option maxRecDepth 100000 in
theorem m_B_add {w : wT} {l : Launch} {x1 x2 x3 x4 : Int32} {d : Dt} {rE : Int32} {dE : Dt} (hO : okW w) (h : f_B_add x1 x2 x3 x4 d = some (rE, dE)) : gM w l yX1_add cX1_add 5 (Option.some Jvm.ClassFile.FieldType.int) 0 [.ref (w_r w 16), .int x1, .int x2, .int x3, .int x4] d dE (some (.int rE)) := by
  refine gM_of (by decide) [(0, .ref (w_r w 16)), (1, .int x1), (2, .int x2), (3, .int x3), (4, .int x4)] rfl rfl ?_ hO
  intro p e R s m args below meth c C hR hr hlk
  unfold f_B_add at h
  refine g_aload_n C dX1_add_0 0 rfl ?_
  refine g_get C (.ref (w_r w 17)) 16 q_16 fk_B_9 rfl dX1_add_1 ?_
  refine g_aload_n C dX1_add_4 0 rfl ?_
  refine g_get C (.int (d 16 0)) 16 q_16 fk_B_27 rfl dX1_add_5 ?_
  refine g_aload_n C dX1_add_8 0 rfl ?_
  refine g_get C (.int (d 16 1)) 16 q_16 fk_B_31 rfl dX1_add_9 ?_
  have hg8 := gd_1 h
  replace h := gd_2 h
  refine g_iast C 17 q_17 hg8 _ rfl  dX1_add_12 ?_
  obtain ⟨d9, hd9, h⟩ := bnd_1 h
  refine g_nmD hd9 ?_
  refine g_aload_n C dX1_add_13 0 rfl ?_
  refine g_get C (.ref (w_r w 18)) 16 q_16 fk_B_15 rfl dX1_add_14 ?_
  refine g_aload_n C dX1_add_17 0 rfl ?_
  refine g_get C (.int (d9 16 0)) 16 q_16 fk_B_27 rfl dX1_add_18 ?_
  refine g_iload_n C dX1_add_21 1 rfl ?_
  have hg10 := gd_1 h
  replace h := gd_2 h
  refine g_iast C 18 q_18 hg10 _ rfl  dX1_add_22 ?_
  obtain ⟨d11, hd11, h⟩ := bnd_1 h
  refine g_nmD hd11 ?_
  refine g_aload_n C dX1_add_23 0 rfl ?_
  refine g_get C (.ref (w_r w 19)) 16 q_16 fk_B_18 rfl dX1_add_24 ?_
  refine g_aload_n C dX1_add_27 0 rfl ?_
  refine g_get C (.int (d11 16 0)) 16 q_16 fk_B_27 rfl dX1_add_28 ?_
  refine g_iload_n C dX1_add_31 2 rfl ?_
  have hg12 := gd_1 h
  replace h := gd_2 h
  refine g_iast C 19 q_19 hg12 _ rfl  dX1_add_32 ?_
  obtain ⟨d13, hd13, h⟩ := bnd_1 h
  refine g_nmD hd13 ?_
  refine g_aload_n C dX1_add_33 0 rfl ?_
  refine g_get C (.ref (w_r w 20)) 16 q_16 fk_B_21 rfl dX1_add_34 ?_
  refine g_aload_n C dX1_add_37 0 rfl ?_
  refine g_get C (.int (d13 16 0)) 16 q_16 fk_B_27 rfl dX1_add_38 ?_
  refine g_iload_n C dX1_add_41 3 rfl ?_
  have hg14 := gd_1 h
  replace h := gd_2 h
  refine g_iast C 20 q_20 hg14 _ rfl  dX1_add_42 ?_
  obtain ⟨d15, hd15, h⟩ := bnd_1 h
  refine g_nmD hd15 ?_
  refine g_aload_n C dX1_add_43 0 rfl ?_
  refine g_get C (.ref (w_r w 21)) 16 q_16 fk_B_24 rfl dX1_add_44 ?_
  refine g_aload_n C dX1_add_47 0 rfl ?_
  refine g_get C (.int (d15 16 0)) 16 q_16 fk_B_27 rfl dX1_add_48 ?_
  refine g_iload C dX1_add_51 4 rfl ?_
  have hg16 := gd_1 h
  replace h := gd_2 h
  refine g_iast C 21 q_21 hg16 _ rfl  dX1_add_53 ?_
  obtain ⟨d17, hd17, h⟩ := bnd_1 h
  refine g_nmD hd17 ?_
  refine g_aload_n C dX1_add_54 0 rfl ?_
  refine g_dup C dX1_add_55 rfl ?_
  refine g_get C (.int (d17 16 0)) 16 q_16 fk_B_27 rfl dX1_add_56 ?_
  refine g_iconst C dX1_add_59 (v := 1) rfl ?_
  refine g_iadd C dX1_add_60  ?_
  refine g_put C 16 q_16 pk_B_27 rfl rfl dX1_add_61 ?_
  obtain ⟨d18, hd18, h⟩ := bnd_1 h
  refine g_nmD hd18 ?_
  refine g_aload_n C dX1_add_64 0 rfl ?_
  refine g_dup C dX1_add_65 rfl ?_
  refine g_get C (.int (d18 16 1)) 16 q_16 fk_B_31 rfl dX1_add_66 ?_
  refine g_iconst C dX1_add_69 (v := 1) rfl ?_
  refine g_iadd C dX1_add_70  ?_
  refine g_put C 16 q_16 pk_B_31 rfl rfl dX1_add_71 ?_
  obtain ⟨d19, hd19, h⟩ := bnd_1 h
  refine g_nmD hd19 ?_
  refine g_aload_n C dX1_add_74 0 rfl ?_
  refine g_get C (.int (d19 16 1)) 16 q_16 fk_B_31 rfl dX1_add_75 ?_
  refine g_iconst C dX1_add_78 (v := 1) rfl ?_
  refine g_isub C dX1_add_79  ?_
  exact g_iret C hr hlk rfl (congrArg Prod.snd (Option.some.inj h)) (congrArg (fun z => some (Value.int z.1)) (Option.some.inj h)) dX1_add_80
set_option maxHeartbeats 4000000 in
set_option maxRecDepth 100000 in
theorem m_S_takeBrief {w : wT} {l : Launch} {x1 x2 x3 x4 : Int32} {d : Dt} {rE : Int32} {dE : Dt} (hO : okW w) (h : f_S_takeBrief x1 x2 x3 x4 d = some (rE, dE)) : gM w l yX8_takeBrief cX8_takeBrief 5 (Option.some Jvm.ClassFile.FieldType.int) 1 [.ref (w_r w 2), .int x1, .int x2, .int x3, .int x4] d dE (some (.int rE)) := by
  refine gM_of (by decide) [(0, .ref (w_r w 2)), (1, .int x1), (2, .int x2), (3, .int x3), (4, .int x4)] rfl rfl ?_ hO
  intro p e R s m args below meth c C hR hr hlk
  unfold f_S_takeBrief at h
  refine g_aload_n C dX8_takeBrief_0 0 rfl ?_
  refine g_dup C dX8_takeBrief_1 rfl ?_
  refine g_get C (.int (d 2 4)) 2 q_2 fk_S_50 rfl dX8_takeBrief_2 ?_
  refine g_iload_n C dX8_takeBrief_5 3 rfl ?_
  refine g_iadd C dX8_takeBrief_6  ?_
  refine g_put C 2 q_2 pk_S_50 rfl rfl dX8_takeBrief_7 ?_
  obtain ⟨d4, hd4, h⟩ := bnd_1 h
  refine g_nmD hd4 ?_
  refine g_aload_n C dX8_takeBrief_10 0 rfl ?_
  refine g_get C (.ref (w_r w 16)) 2 q_2 fk_S_21 rfl dX8_takeBrief_11 ?_
  refine g_iload_n C dX8_takeBrief_14 1 rfl ?_
  refine g_aload_n C dX8_takeBrief_15 0 rfl ?_
  refine g_get C (.int (d4 2 0)) 2 q_2 fk_S_36 rfl dX8_takeBrief_16 ?_
  refine g_iload_n C dX8_takeBrief_19 2 rfl ?_
  refine g_iadd C dX8_takeBrief_20  ?_
  refine g_iload_n C dX8_takeBrief_21 3 rfl ?_
  refine g_iload C dX8_takeBrief_22 4 rfl ?_
  obtain ⟨r5, d6, hc7, h⟩ := ob2_1 h
  refine g_callVi C 16 q_16 vk_S_68 hR rfl (m_B_add C.2.2.2.2.2.2.1 hc7) rfl rfl rfl dX8_takeBrief_24 rfl rfl ?_
  exact g_iret C hr hlk rfl (congrArg Prod.snd (Option.some.inj h)) (congrArg (fun z => some (Value.int z.1)) (Option.some.inj h)) dX8_takeBrief_27
set_option maxHeartbeats 4000000 in
set_option maxRecDepth 100000 in
theorem m_B_remove {w : wT} {l : Launch} {x1 : Int32} {d : Dt} {dE : Dt} (hO : okW w) (h : f_B_remove x1 d = some dE) : gM w l yX1_remove cX1_remove 3 (Option.none : Option Jvm.ClassFile.FieldType) 0 [.ref (w_r w 16), .int x1] d dE none := by
  refine gM_of (by decide) [(0, .ref (w_r w 16)), (1, .int x1)] rfl rfl ?_ hO
  intro p e R s m args below meth c C hR hr hlk
  have R12 : ∀ (x2 : Int32) (d : Dt), f_B_remove_12 x2 d = some dE → gG w p l e R s m args below meth c 3 0 0 (gE w below args s dE none) d [(0, .ref (w_r w 16)), (2, .int x2)] 12 [] := by
    intro x2 d  h
    refine iter_ind (G := fun s_ : (Int32 × Dt) => gG w p l e R s m args below meth c 3 0 0 (gE w below args s dE none) s_.2 [(0, .ref (w_r w 16)), (2, .int s_.1)] 12 []) ?_ fu _ h
    clear h
    intro s_ y1 h hl1 hx1
    obtain ⟨x2, d⟩ := s_
    show gG w p l e R s m args below meth c 3 0 0 (gE w below args s dE none) d [(0, .ref (w_r w 16)), (2, .int x2)] 12 []
    dsimp only at h
    unfold st_B_remove_12 at h
    refine g_iload_n C dX1_remove_12 1 rfl ?_
    refine g_aload_n C dX1_remove_13 0 rfl ?_
    refine g_get C (.int (d 16 0)) 16 q_16 fk_B_27 rfl dX1_remove_14 ?_
    refine g_icmp_ge C dX1_remove_17 (tgt := 96) rfl (fun q => ?_) (fun q => ?_)
    · replace h := it_t q h
      replace h := ir_2 h hx1
      exact g_vret C hr hlk (Option.some.inj h) rfl dX1_remove_96
    · replace h := it_f q h
      refine g_aload_n C dX1_remove_20 0 rfl ?_
      refine g_get C (.ref (w_r w 17)) 16 q_16 fk_B_9 rfl dX1_remove_21 ?_
      refine g_iload_n C dX1_remove_24 1 rfl ?_
      refine g_aload_n C dX1_remove_25 0 rfl ?_
      refine g_get C (.ref (w_r w 17)) 16 q_16 fk_B_9 rfl dX1_remove_26 ?_
      refine g_iload_n C dX1_remove_29 1 rfl ?_
      refine g_iconst C dX1_remove_30 (v := 1) rfl ?_
      refine g_iadd C dX1_remove_31  ?_
      have hg7 := gd_1 h
      replace h := gd_2 h
      refine g_iald C 17 q_17 hg7 _ rfl dX1_remove_32 ?_
      have hg8 := gd_1 h
      replace h := gd_2 h
      refine g_iast C 17 q_17 hg8 _ rfl  dX1_remove_33 ?_
      obtain ⟨d9, hd9, h⟩ := bnd_1 h
      refine g_nmD hd9 ?_
      refine g_aload_n C dX1_remove_34 0 rfl ?_
      refine g_get C (.ref (w_r w 18)) 16 q_16 fk_B_15 rfl dX1_remove_35 ?_
      refine g_iload_n C dX1_remove_38 1 rfl ?_
      refine g_aload_n C dX1_remove_39 0 rfl ?_
      refine g_get C (.ref (w_r w 18)) 16 q_16 fk_B_15 rfl dX1_remove_40 ?_
      refine g_iload_n C dX1_remove_43 1 rfl ?_
      refine g_iconst C dX1_remove_44 (v := 1) rfl ?_
      refine g_iadd C dX1_remove_45  ?_
      have hg10 := gd_1 h
      replace h := gd_2 h
      refine g_iald C 18 q_18 hg10 _ rfl dX1_remove_46 ?_
      have hg11 := gd_1 h
      replace h := gd_2 h
      refine g_iast C 18 q_18 hg11 _ rfl  dX1_remove_47 ?_
      obtain ⟨d12, hd12, h⟩ := bnd_1 h
      refine g_nmD hd12 ?_
      refine g_aload_n C dX1_remove_48 0 rfl ?_
      refine g_get C (.ref (w_r w 19)) 16 q_16 fk_B_18 rfl dX1_remove_49 ?_
      refine g_iload_n C dX1_remove_52 1 rfl ?_
      refine g_aload_n C dX1_remove_53 0 rfl ?_
      refine g_get C (.ref (w_r w 19)) 16 q_16 fk_B_18 rfl dX1_remove_54 ?_
      refine g_iload_n C dX1_remove_57 1 rfl ?_
      refine g_iconst C dX1_remove_58 (v := 1) rfl ?_
      refine g_iadd C dX1_remove_59  ?_
      have hg13 := gd_1 h
      replace h := gd_2 h
      refine g_iald C 19 q_19 hg13 _ rfl dX1_remove_60 ?_
      have hg14 := gd_1 h
      replace h := gd_2 h
      refine g_iast C 19 q_19 hg14 _ rfl  dX1_remove_61 ?_
      obtain ⟨d15, hd15, h⟩ := bnd_1 h
      refine g_nmD hd15 ?_
      refine g_aload_n C dX1_remove_62 0 rfl ?_
      refine g_get C (.ref (w_r w 20)) 16 q_16 fk_B_21 rfl dX1_remove_63 ?_
      refine g_iload_n C dX1_remove_66 1 rfl ?_
      refine g_aload_n C dX1_remove_67 0 rfl ?_
      refine g_get C (.ref (w_r w 20)) 16 q_16 fk_B_21 rfl dX1_remove_68 ?_
      refine g_iload_n C dX1_remove_71 1 rfl ?_
      refine g_iconst C dX1_remove_72 (v := 1) rfl ?_
      refine g_iadd C dX1_remove_73  ?_
      have hg16 := gd_1 h
      replace h := gd_2 h
      refine g_iald C 20 q_20 hg16 _ rfl dX1_remove_74 ?_
      have hg17 := gd_1 h
      replace h := gd_2 h
      refine g_iast C 20 q_20 hg17 _ rfl  dX1_remove_75 ?_
      obtain ⟨d18, hd18, h⟩ := bnd_1 h
      refine g_nmD hd18 ?_
      refine g_aload_n C dX1_remove_76 0 rfl ?_
      refine g_get C (.ref (w_r w 21)) 16 q_16 fk_B_24 rfl dX1_remove_77 ?_
      refine g_iload_n C dX1_remove_80 1 rfl ?_
      refine g_aload_n C dX1_remove_81 0 rfl ?_
      refine g_get C (.ref (w_r w 21)) 16 q_16 fk_B_24 rfl dX1_remove_82 ?_
      refine g_iload_n C dX1_remove_85 1 rfl ?_
      refine g_iconst C dX1_remove_86 (v := 1) rfl ?_
      refine g_iadd C dX1_remove_87  ?_
      have hg19 := gd_1 h
      replace h := gd_2 h
      refine g_iald C 21 q_21 hg19 _ rfl dX1_remove_88 ?_
      have hg20 := gd_1 h
      replace h := gd_2 h
      refine g_iast C 21 q_21 hg20 _ rfl  dX1_remove_89 ?_
      obtain ⟨d21, hd21, h⟩ := bnd_1 h
      refine g_nmD hd21 ?_
      refine g_iinc C (lv' := [(2, .int (x2 + 1)), (0, .ref (w_r w 16))]) (v := (x2 + 1)) dX1_remove_90 1 rfl rfl (by decide) rfl ?_
      refine g_goto C dX1_remove_93 (tgt := 12) rfl ?_
      refine g_sub [1, 0] (lv' := [(0, .ref (w_r w 16)), (2, .int (x2 + 1))]) rfl ?_
      exact hl1 ((x2 + 1), d21) (Option.some.inj h).symm
  unfold f_B_remove at h
  refine g_aload_n C dX1_remove_0 0 rfl ?_
  refine g_dup C dX1_remove_1 rfl ?_
  refine g_get C (.int (d 16 0)) 16 q_16 fk_B_27 rfl dX1_remove_2 ?_
  refine g_iconst C dX1_remove_5 (v := 1) rfl ?_
  refine g_isub C dX1_remove_6  ?_
  refine g_put C 16 q_16 pk_B_27 rfl rfl dX1_remove_7 ?_
  obtain ⟨d22, hd22, h⟩ := bnd_1 h
  refine g_nmD hd22 ?_
  refine g_iload_n C dX1_remove_10 1 rfl ?_
  refine g_istore_n C (lv' := [(2, .int x1), (0, .ref (w_r w 16)), (1, .int x1)]) dX1_remove_11 (by decide) rfl ?_
  refine g_sub [1, 0] (lv' := [(0, .ref (w_r w 16)), (2, .int x1)]) rfl ?_
  exact R12 x1 d22 h
set_option maxHeartbeats 4000000 in
set_option maxRecDepth 100000 in
theorem m_S_giveBack {w : wT} {l : Launch} {x1 : Int32} {d : Dt} {rE : Int32} {dE : Dt} (hO : okW w) (h : f_S_giveBack x1 d = some (rE, dE)) : gM w l yX8_giveBack cX8_giveBack 3 (Option.some Jvm.ClassFile.FieldType.int) 1 [.ref (w_r w 2), .int x1] d dE (some (.int rE)) := by
  refine gM_of (by decide) [(0, .ref (w_r w 2)), (1, .int x1)] rfl rfl ?_ hO
  intro p e R s m args below meth c C hR hr hlk
  unfold f_S_giveBack at h
  refine g_aload_n C dX8_giveBack_0 0 rfl ?_
  refine g_get C (.ref (w_r w 16)) 2 q_2 fk_S_21 rfl dX8_giveBack_1 ?_
  refine g_get C (.ref (w_r w 20)) 16 q_16 fk_S_72 rfl dX8_giveBack_4 ?_
  refine g_iload_n C dX8_giveBack_7 1 rfl ?_
  have hg3 := gd_1 h
  replace h := gd_2 h
  refine g_iald C 20 q_20 hg3 _ rfl dX8_giveBack_8 ?_
  refine g_iconst C dX8_giveBack_9 (v := 2) rfl ?_
  refine g_idiv C dX8_giveBack_10 (by decide) ?_
  refine g_istore_n C (lv' := [(2, .int ((d 20 x1.toNatClampNeg) / 2)), (0, .ref (w_r w 2)), (1, .int x1)]) dX8_giveBack_11 (by decide) rfl ?_
  refine g_aload_n C dX8_giveBack_12 1 rfl ?_
  refine g_dup C dX8_giveBack_13 rfl ?_
  refine g_get C (.int (d 2 5)) 2 q_2 fk_S_53 rfl dX8_giveBack_14 ?_
  refine g_iload_n C dX8_giveBack_17 0 rfl ?_
  refine g_iadd C dX8_giveBack_18  ?_
  refine g_put C 2 q_2 pk_S_53 rfl rfl dX8_giveBack_19 ?_
  obtain ⟨d4, hd4, h⟩ := bnd_1 h
  refine g_nmD hd4 ?_
  refine g_aload_n C dX8_giveBack_22 1 rfl ?_
  refine g_get C (.ref (w_r w 16)) 2 q_2 fk_S_21 rfl dX8_giveBack_23 ?_
  refine g_iload_n C dX8_giveBack_26 2 rfl ?_
  obtain ⟨d5, hc6, h⟩ := ob1_1 h
  refine g_callVv C 16 q_16 vk_S_75 hR rfl (m_B_remove C.2.2.2.2.2.2.1 hc6) rfl rfl rfl dX8_giveBack_27 rfl rfl ?_
  refine g_iload_n C dX8_giveBack_30 0 rfl ?_
  exact g_iret C hr hlk rfl (congrArg Prod.snd (Option.some.inj h)) (congrArg (fun z => some (Value.int z.1)) (Option.some.inj h)) dX8_giveBack_31
set_option maxHeartbeats 4000000 in
set_option maxRecDepth 100000 in
theorem m_T_add {w : wT} {l : Launch} {x1 x2 x3 : Int32} {d : Dt} {rE : Int32} {dE : Dt} (hO : okW w) (h : f_T_add x1 x2 x3 d = some (rE, dE)) : gM w l yX9_add cX9_add 4 (Option.some Jvm.ClassFile.FieldType.int) 0 [.ref (w_r w 22), .int x1, .int x2, .int x3] d dE (some (.int rE)) := by
  refine gM_of (by decide) [(0, .ref (w_r w 22)), (1, .int x1), (2, .int x2), (3, .int x3)] rfl rfl ?_ hO
  intro p e R s m args below meth c C hR hr hlk
  unfold f_T_add at h
  refine g_aload_n C dX9_add_0 0 rfl ?_
  refine g_get C (.ref (w_r w 23)) 22 q_22 fk_T_9 rfl dX9_add_1 ?_
  refine g_aload_n C dX9_add_4 0 rfl ?_
  refine g_get C (.int (d 22 0)) 22 q_22 fk_T_22 rfl dX9_add_5 ?_
  refine g_iload_n C dX9_add_8 1 rfl ?_
  have hg5 := gd_1 h
  replace h := gd_2 h
  refine g_iast C 23 q_23 hg5 _ rfl  dX9_add_9 ?_
  obtain ⟨d6, hd6, h⟩ := bnd_1 h
  refine g_nmD hd6 ?_
  refine g_aload_n C dX9_add_10 0 rfl ?_
  refine g_get C (.ref (w_r w 24)) 22 q_22 fk_T_15 rfl dX9_add_11 ?_
  refine g_aload_n C dX9_add_14 0 rfl ?_
  refine g_get C (.int (d6 22 0)) 22 q_22 fk_T_22 rfl dX9_add_15 ?_
  refine g_iload_n C dX9_add_18 2 rfl ?_
  have hg7 := gd_1 h
  replace h := gd_2 h
  refine g_iast C 24 q_24 hg7 _ rfl  dX9_add_19 ?_
  obtain ⟨d8, hd8, h⟩ := bnd_1 h
  refine g_nmD hd8 ?_
  refine g_aload_n C dX9_add_20 0 rfl ?_
  refine g_get C (.ref (w_r w 25)) 22 q_22 fk_T_18 rfl dX9_add_21 ?_
  refine g_aload_n C dX9_add_24 0 rfl ?_
  refine g_get C (.int (d8 22 0)) 22 q_22 fk_T_22 rfl dX9_add_25 ?_
  refine g_iload_n C dX9_add_28 3 rfl ?_
  have hg9 := gd_1 h
  replace h := gd_2 h
  have hg10 := gd_1 h
  replace h := gd_2 h
  refine g_zast C 25 q_25 hg9 _ rfl (nar_v hg10) dX9_add_29 ?_
  obtain ⟨d11, hd11, h⟩ := bnd_1 h
  refine g_nmD hd11 ?_
  refine g_aload_n C dX9_add_30 0 rfl ?_
  refine g_dup C dX9_add_31 rfl ?_
  refine g_get C (.int (d11 22 0)) 22 q_22 fk_T_22 rfl dX9_add_32 ?_
  refine g_iconst C dX9_add_35 (v := 1) rfl ?_
  refine g_iadd C dX9_add_36  ?_
  refine g_put C 22 q_22 pk_T_22 rfl rfl dX9_add_37 ?_
  obtain ⟨d12, hd12, h⟩ := bnd_1 h
  refine g_nmD hd12 ?_
  refine g_aload_n C dX9_add_40 0 rfl ?_
  refine g_get C (.int (d12 22 0)) 22 q_22 fk_T_22 rfl dX9_add_41 ?_
  refine g_iconst C dX9_add_44 (v := 1) rfl ?_
  refine g_isub C dX9_add_45  ?_
  exact g_iret C hr hlk rfl (congrArg Prod.snd (Option.some.inj h)) (congrArg (fun z => some (Value.int z.1)) (Option.some.inj h)) dX9_add_46
