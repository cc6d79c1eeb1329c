/-! 08: walks -/
set_option maxHeartbeats 4000000 in
set_option maxRecDepth 100000 in
theorem m_C_carryOut {w : wT} {l : Launch} {x1 : Int32} {x3 : Int32} {d : Dt} {rE : Int32} {dE : Dt} (hO : okW w) (hx1 : inb x1 8 = true) (h : f_C_carryOut x1 x3 d = some (rE, dE)) : gM w l yX11_carryOut cX11_carryOut 4 (Option.some Jvm.ClassFile.FieldType.boolean) 7 [.ref (w_r w 0), .ref (w_k w (200 + x1.toNatClampNeg)), .ref (w_r w 289), .int x3] d dE (some (.int rE)) := by
  refine gM_of (by decide) [(0, .ref (w_r w 0)), (1, .ref (w_k w (200 + x1.toNatClampNeg))), (2, .ref (w_r w 289)), (3, .int x3)] rfl rfl ?_ hO
  intro p e R s m args below meth c C hR hr hlk
  have R182 : ∀ (v1 : Int32) (v2 : Int32) (d : Dt), f_C_carryOut_182 x1  v1 v2 d = some (rE, dE) → gG w p l e R s m args below meth c 4 0 0 (gE w below args s dE (some (.int rE))) d [] 182 [.int v2, .int v1, .ref (w_r w 3)] := by
    intro  v1 v2 d  h
    unfold f_C_carryOut_182 at h
    obtain ⟨r19, d20, hc21, h⟩ := ob2_1 h
    refine g_callVi C 3 q_3 vk_C_152 hR rfl (m_L_setAdmission C.2.2.2.2.2.2.1 hc21) rfl rfl rfl dX11_carryOut_182 rfl rfl ?_
    refine g_pop C dX11_carryOut_185 rfl ?_
    refine g_goto C dX11_carryOut_186 (tgt := 214) rfl ?_
    refine g_iconst C dX11_carryOut_214 (v := 1) rfl ?_
    exact g_iret C hr hlk rfl (congrArg Prod.snd (Option.some.inj h)) (congrArg (fun z => some (Value.int z.1)) (Option.some.inj h)) dX11_carryOut_215
  unfold f_C_carryOut at h
  refine g_aload_n C dX11_carryOut_0 0 rfl ?_
  refine g_aload_n C dX11_carryOut_1 1 rfl ?_
  refine g_aload_n C dX11_carryOut_2 2 rfl ?_
  refine g_iload_n C dX11_carryOut_3 3 rfl ?_
  obtain ⟨r22, hc23, h⟩ := ob1_1 h
  refine g_callVi C 0 q_0 vk_C_484 hR rfl (m_C_isPossible C.2.2.2.2.2.2.1 hx1 hc23) rfl rfl rfl dX11_carryOut_4 rfl rfl ?_
  refine g_if_ne C dX11_carryOut_7 (tgt := 12) rfl (fun q => ?_) (fun q => ?_)
  · replace h := it_f q h
    refine g_gets C (kM_Z C) (wA 1397 (by decide +kernel) (by decide +kernel)) dX11_carryOut_12 ?_
    refine g_aload_n C dX11_carryOut_15 1 rfl ?_
    refine g_ord C hx1 hR rfl rfl dX11_carryOut_16 rfl rfl ?_
    have hg24 := gd_1 h
    replace h := gd_2 h
    refine g_ialdK C (kM_T C) hg24 rfl dX11_carryOut_19 ?_
    by_cases q0 : (smS x1.toNatClampNeg) = 1
    · replace h := it_t q0 h
      refine g_tabIn C dX11_carryOut_20 (v := 1) q0 (by decide) (by decide) (off := 44) (by rfl) (tgt := 64) rfl ?_
      refine g_aload_n C dX11_carryOut_64 0 rfl ?_
      refine g_get C (.ref (w_r w 2)) 0 q_0 fk_C_10 rfl dX11_carryOut_65 ?_
      refine g_get C (.ref (w_r w 3)) 2 q_2 fk_C_68 rfl dX11_carryOut_68 ?_
      obtain ⟨r25, d26, hc27, h⟩ := ob2_1 h
      refine g_callVi C 3 q_3 vk_C_89 hR rfl (m_L_add C.2.2.2.2.2.2.1 hc27) rfl rfl rfl dX11_carryOut_71 rfl rfl ?_
      refine g_pop C dX11_carryOut_74 rfl ?_
      refine g_goto C dX11_carryOut_75 (tgt := 214) rfl ?_
      refine g_iconst C dX11_carryOut_214 (v := 1) rfl ?_
      exact g_iret C hr hlk rfl (congrArg Prod.snd (Option.some.inj h)) (congrArg (fun z => some (Value.int z.1)) (Option.some.inj h)) dX11_carryOut_215
    replace h := it_f q0 h
    by_cases q1 : (smS x1.toNatClampNeg) = 2
    · replace h := it_t q1 h
      refine g_tabIn C dX11_carryOut_20 (v := 2) q1 (by decide) (by decide) (off := 58) (by rfl) (tgt := 78) rfl ?_
      refine g_aload_n C dX11_carryOut_78 0 rfl ?_
      refine g_get C (.ref (w_r w 2)) 0 q_0 fk_C_10 rfl dX11_carryOut_79 ?_
      refine g_aload_n C dX11_carryOut_82 2 rfl ?_
      refine g_iconst C dX11_carryOut_83 (v := 0) rfl ?_
      refine g_iald C 289 q_289 (by decide) 0 (by decide) dX11_carryOut_84 ?_
      refine g_aload_n C dX11_carryOut_85 2 rfl ?_
      refine g_iconst C dX11_carryOut_86 (v := 1) rfl ?_
      refine g_iald C 289 q_289 (by decide) 1 (by decide) dX11_carryOut_87 ?_
      refine g_aload_n C dX11_carryOut_88 2 rfl ?_
      refine g_iconst C dX11_carryOut_89 (v := 2) rfl ?_
      refine g_iald C 289 q_289 (by decide) 2 (by decide) dX11_carryOut_90 ?_
      refine g_aload_n C dX11_carryOut_91 2 rfl ?_
      refine g_iconst C dX11_carryOut_92 (v := 3) rfl ?_
      refine g_iald C 289 q_289 (by decide) 3 (by decide) dX11_carryOut_93 ?_
      obtain ⟨r28, d29, hc30, h⟩ := ob2_1 h
      refine g_callVi C 2 q_2 vk_C_115 hR rfl (m_S_takeBrief C.2.2.2.2.2.2.1 hc30) rfl rfl rfl dX11_carryOut_94 rfl rfl ?_
      refine g_pop C dX11_carryOut_97 rfl ?_
      refine g_goto C dX11_carryOut_98 (tgt := 214) rfl ?_
      refine g_iconst C dX11_carryOut_214 (v := 1) rfl ?_
      exact g_iret C hr hlk rfl (congrArg Prod.snd (Option.some.inj h)) (congrArg (fun z => some (Value.int z.1)) (Option.some.inj h)) dX11_carryOut_215
    replace h := it_f q1 h
    by_cases q2 : (smS x1.toNatClampNeg) = 3
    · replace h := it_t q2 h
      refine g_tabIn C dX11_carryOut_20 (v := 3) q2 (by decide) (by decide) (off := 81) (by rfl) (tgt := 101) rfl ?_
      refine g_aload_n C dX11_carryOut_101 0 rfl ?_
      refine g_get C (.ref (w_r w 2)) 0 q_0 fk_C_10 rfl dX11_carryOut_102 ?_
      refine g_aload_n C dX11_carryOut_105 0 rfl ?_
      refine g_get C (.ref (w_r w 2)) 0 q_0 fk_C_10 rfl dX11_carryOut_106 ?_
      refine g_get C (.ref (w_r w 16)) 2 q_2 fk_C_108 rfl dX11_carryOut_109 ?_
      refine g_aload_n C dX11_carryOut_112 2 rfl ?_
      refine g_iconst C dX11_carryOut_113 (v := 0) rfl ?_
      refine g_iald C 289 q_289 (by decide) 0 (by decide) dX11_carryOut_114 ?_
      obtain ⟨r31, hc32, h⟩ := ob1_1 h
      refine g_callVi C 16 q_16 vk_C_438 hR rfl (m_B_positionOf C.2.2.2.2.2.2.1 hc32) rfl rfl rfl dX11_carryOut_115 rfl rfl ?_
      obtain ⟨r33, d34, hc35, h⟩ := ob2_1 h
      refine g_callVi C 2 q_2 vk_C_123 hR rfl (m_S_giveBack C.2.2.2.2.2.2.1 hc35) rfl rfl rfl dX11_carryOut_118 rfl rfl ?_
      refine g_pop C dX11_carryOut_121 rfl ?_
      refine g_goto C dX11_carryOut_122 (tgt := 214) rfl ?_
      refine g_iconst C dX11_carryOut_214 (v := 1) rfl ?_
      exact g_iret C hr hlk rfl (congrArg Prod.snd (Option.some.inj h)) (congrArg (fun z => some (Value.int z.1)) (Option.some.inj h)) dX11_carryOut_215
    replace h := it_f q2 h
    by_cases q3 : (smS x1.toNatClampNeg) = 4
    · replace h := it_t q3 h
      refine g_tabIn C dX11_carryOut_20 (v := 4) q3 (by decide) (by decide) (off := 105) (by rfl) (tgt := 125) rfl ?_
      refine g_aload_n C dX11_carryOut_125 0 rfl ?_
      refine g_get C (.ref (w_r w 2)) 0 q_0 fk_C_10 rfl dX11_carryOut_126 ?_
      refine g_get C (.ref (w_r w 22)) 2 q_2 fk_C_128 rfl dX11_carryOut_129 ?_
      refine g_aload_n C dX11_carryOut_132 2 rfl ?_
      refine g_iconst C dX11_carryOut_133 (v := 0) rfl ?_
      refine g_iald C 289 q_289 (by decide) 0 (by decide) dX11_carryOut_134 ?_
      refine g_aload_n C dX11_carryOut_135 2 rfl ?_
      refine g_iconst C dX11_carryOut_136 (v := 1) rfl ?_
      refine g_iald C 289 q_289 (by decide) 1 (by decide) dX11_carryOut_137 ?_
      refine g_iload_n C dX11_carryOut_138 3 rfl ?_
      obtain ⟨r36, d37, hc38, h⟩ := ob2_1 h
      refine g_callVi C 22 q_22 vk_C_137 hR rfl (m_T_add C.2.2.2.2.2.2.1 hc38) rfl rfl rfl dX11_carryOut_139 rfl rfl ?_
      refine g_pop C dX11_carryOut_142 rfl ?_
      refine g_goto C dX11_carryOut_143 (tgt := 214) rfl ?_
      refine g_iconst C dX11_carryOut_214 (v := 1) rfl ?_
      exact g_iret C hr hlk rfl (congrArg Prod.snd (Option.some.inj h)) (congrArg (fun z => some (Value.int z.1)) (Option.some.inj h)) dX11_carryOut_215
    replace h := it_f q3 h
    by_cases q4 : (smS x1.toNatClampNeg) = 5
    · replace h := it_t q4 h
      refine g_tabIn C dX11_carryOut_20 (v := 5) q4 (by decide) (by decide) (off := 126) (by rfl) (tgt := 146) rfl ?_
      refine g_aload_n C dX11_carryOut_146 0 rfl ?_
      refine g_get C (.ref (w_r w 2)) 0 q_0 fk_C_10 rfl dX11_carryOut_147 ?_
      refine g_get C (.ref (w_r w 22)) 2 q_2 fk_C_128 rfl dX11_carryOut_150 ?_
      refine g_aload_n C dX11_carryOut_153 2 rfl ?_
      refine g_iconst C dX11_carryOut_154 (v := 0) rfl ?_
      refine g_iald C 289 q_289 (by decide) 0 (by decide) dX11_carryOut_155 ?_
      obtain ⟨r39, d40, hc41, h⟩ := ob2_1 h
      refine g_callVi C 22 q_22 vk_C_143 hR rfl (m_T_remove C.2.2.2.2.2.2.1 hc41) rfl rfl rfl dX11_carryOut_156 rfl rfl ?_
      refine g_pop C dX11_carryOut_159 rfl ?_
      refine g_goto C dX11_carryOut_160 (tgt := 214) rfl ?_
      refine g_iconst C dX11_carryOut_214 (v := 1) rfl ?_
      exact g_iret C hr hlk rfl (congrArg Prod.snd (Option.some.inj h)) (congrArg (fun z => some (Value.int z.1)) (Option.some.inj h)) dX11_carryOut_215
    replace h := it_f q4 h
    by_cases q5 : (smS x1.toNatClampNeg) = 6
    · replace h := it_t q5 h
      refine g_tabIn C dX11_carryOut_20 (v := 6) q5 (by decide) (by decide) (off := 143) (by rfl) (tgt := 163) rfl ?_
      refine g_aload_n C dX11_carryOut_163 0 rfl ?_
      refine g_get C (.ref (w_r w 2)) 0 q_0 fk_C_10 rfl dX11_carryOut_164 ?_
      refine g_get C (.ref (w_r w 3)) 2 q_2 fk_C_68 rfl dX11_carryOut_167 ?_
      refine g_aload_n C dX11_carryOut_170 2 rfl ?_
      refine g_iconst C dX11_carryOut_171 (v := 0) rfl ?_
      refine g_iald C 289 q_289 (by decide) 0 (by decide) dX11_carryOut_172 ?_
      refine g_iload_n C dX11_carryOut_173 3 rfl ?_
      refine g_if_eq C dX11_carryOut_174 (tgt := 181) rfl (fun q => ?_) (fun q => ?_)
      · replace h := it_t q h
        refine g_iconst C dX11_carryOut_181 (v := 2) rfl ?_
        refine g_sub [] (lv' := []) rfl ?_
        exact R182 (d 289 0) 2 d h
      · replace h := it_f q h
        refine g_iconst C dX11_carryOut_177 (v := 1) rfl ?_
        refine g_goto C dX11_carryOut_178 (tgt := 182) rfl ?_
        refine g_sub [] (lv' := []) rfl ?_
        exact R182 (d 289 0) 1 d h
    replace h := it_f q5 h
    by_cases q6 : (smS x1.toNatClampNeg) = 7
    · replace h := it_t q6 h
      refine g_tabIn C dX11_carryOut_20 (v := 7) q6 (by decide) (by decide) (off := 169) (by rfl) (tgt := 189) rfl ?_
      refine g_aload_n C dX11_carryOut_189 0 rfl ?_
      refine g_get C (.ref (w_r w 2)) 0 q_0 fk_C_10 rfl dX11_carryOut_190 ?_
      refine g_get C (.ref (w_r w 3)) 2 q_2 fk_C_68 rfl dX11_carryOut_193 ?_
      refine g_aload_n C dX11_carryOut_196 2 rfl ?_
      refine g_iconst C dX11_carryOut_197 (v := 0) rfl ?_
      refine g_iald C 289 q_289 (by decide) 0 (by decide) dX11_carryOut_198 ?_
      obtain ⟨r42, d43, hc44, h⟩ := ob2_1 h
      refine g_callVi C 3 q_3 vk_C_177 hR rfl (m_L_endSentence C.2.2.2.2.2.2.1 hc44) rfl rfl rfl dX11_carryOut_199 rfl rfl ?_
      refine g_pop C dX11_carryOut_202 rfl ?_
      refine g_goto C dX11_carryOut_203 (tgt := 214) rfl ?_
      refine g_iconst C dX11_carryOut_214 (v := 1) rfl ?_
      exact g_iret C hr hlk rfl (congrArg Prod.snd (Option.some.inj h)) (congrArg (fun z => some (Value.int z.1)) (Option.some.inj h)) dX11_carryOut_215
    replace h := it_f q6 h
    have a0 : (smS x1.toNatClampNeg).toInt ≠ 1 := fun e => q0 (Int32.toInt_inj.mp (e.trans (by decide)))
    have a1 : (smS x1.toNatClampNeg).toInt ≠ 2 := fun e => q1 (Int32.toInt_inj.mp (e.trans (by decide)))
    have a2 : (smS x1.toNatClampNeg).toInt ≠ 3 := fun e => q2 (Int32.toInt_inj.mp (e.trans (by decide)))
    have a3 : (smS x1.toNatClampNeg).toInt ≠ 4 := fun e => q3 (Int32.toInt_inj.mp (e.trans (by decide)))
    have a4 : (smS x1.toNatClampNeg).toInt ≠ 5 := fun e => q4 (Int32.toInt_inj.mp (e.trans (by decide)))
    have a5 : (smS x1.toNatClampNeg).toInt ≠ 6 := fun e => q5 (Int32.toInt_inj.mp (e.trans (by decide)))
    have a6 : (smS x1.toNatClampNeg).toInt ≠ 7 := fun e => q6 (Int32.toInt_inj.mp (e.trans (by decide)))
    refine g_tabOut C dX11_carryOut_20 (by omega : (smS x1.toNatClampNeg).toInt < 1 ∨ 7 < (smS x1.toNatClampNeg).toInt) (tgt := 206) rfl ?_
    refine g_aload_n C dX11_carryOut_206 0 rfl ?_
    refine g_aload_n C dX11_carryOut_207 2 rfl ?_
    refine g_iconst C dX11_carryOut_208 (v := 0) rfl ?_
    refine g_iald C 289 q_289 (by decide) 0 (by decide) dX11_carryOut_209 ?_
    obtain ⟨r45, d46, hc47, h⟩ := ob2_1 h
    refine g_callVi C 0 q_0 vk_C_171 hR rfl (m_C_letPass C.2.2.2.2.2.2.1 hc47) rfl rfl rfl dX11_carryOut_210 rfl rfl ?_
    refine g_pop C dX11_carryOut_213 rfl ?_
    refine g_iconst C dX11_carryOut_214 (v := 1) rfl ?_
    exact g_iret C hr hlk rfl (congrArg Prod.snd (Option.some.inj h)) (congrArg (fun z => some (Value.int z.1)) (Option.some.inj h)) dX11_carryOut_215
  · replace h := it_t q h
    refine g_iconst C dX11_carryOut_10 (v := 0) rfl ?_
    exact g_iret C hr hlk rfl (congrArg Prod.snd (Option.some.inj h)) (congrArg (fun z => some (Value.int z.1)) (Option.some.inj h)) dX11_carryOut_11
set_option maxHeartbeats 4000000 in
set_option maxRecDepth 100000 in
theorem m_I_skipSemicolon {w : wT} {l : Launch} {d : Dt} {dE : Dt} (hO : okW w) (h : f_I_skipSemicolon  d = some dE) : gM w l yX3_skipSemicolon cX3_skipSemicolon 1 (Option.none : Option Jvm.ClassFile.FieldType) 0 [.ref (w_r w 287)] d dE none := by
  refine gM_of (by decide) [(0, .ref (w_r w 287))] rfl rfl ?_ hO
  intro p e R s m args below meth c C hR hr hlk
  unfold f_I_skipSemicolon at h
  refine g_aload_n C dX3_skipSemicolon_0 0 rfl ?_
  refine g_dup C dX3_skipSemicolon_1 rfl ?_
  refine g_get C (.int (d 287 2)) 287 q_287 fk_I_32 rfl dX3_skipSemicolon_2 ?_
  refine g_iconst C dX3_skipSemicolon_5 (v := 1) rfl ?_
  refine g_iadd C dX3_skipSemicolon_6  ?_
  refine g_put C 287 q_287 pk_I_32 rfl rfl dX3_skipSemicolon_7 ?_
  obtain ⟨d2, hd2, h⟩ := bnd_1 h
  refine g_nmD hd2 ?_
  exact g_vret C hr hlk (Option.some.inj h) rfl dX3_skipSemicolon_10
set_option maxHeartbeats 4000000 in
set_option maxRecDepth 100000 in
theorem m_I_rewind {w : wT} {l : Launch} {d : Dt} {dE : Dt} (hO : okW w) (h : f_I_rewind  d = some dE) : gM w l yX3_rewind cX3_rewind 1 (Option.none : Option Jvm.ClassFile.FieldType) 0 [.ref (w_r w 287)] d dE none := by
  refine gM_of (by decide) [(0, .ref (w_r w 287))] rfl rfl ?_ hO
  intro p e R s m args below meth c C hR hr hlk
  unfold f_I_rewind at h
  refine g_aload_n C dX3_rewind_0 0 rfl ?_
  refine g_iconst C dX3_rewind_1 (v := 0) rfl ?_
  refine g_put C 287 q_287 pk_I_32 rfl rfl dX3_rewind_2 ?_
  obtain ⟨d2, hd2, h⟩ := bnd_1 h
  refine g_nmD hd2 ?_
  exact g_vret C hr hlk (Option.some.inj h) rfl dX3_rewind_5
set_option maxHeartbeats 4000000 in
set_option maxRecDepth 100000 in
theorem m_C_carryOutAll {w : wT} {l : Launch} {x1 : Int32} {d : Dt} {rE : Int32} {dE : Dt} (hO : okW w) (h : f_C_carryOutAll x1 d = some (rE, dE)) : gM w l yX11_carryOutAll cX11_carryOutAll 3 (Option.some Jvm.ClassFile.FieldType.int) 8 [.ref (w_r w 0), .int x1] d dE (some (.int rE)) := by
  refine gM_of (by decide) [(0, .ref (w_r w 0)), (1, .int x1)] rfl rfl ?_ hO
  intro p e R s m args below meth c C hR hr hlk
  have R9 : ∀ (x1 : Int32) (x2 : Int32) (d : Dt), f_C_carryOutAll_9 x1 x2 d = some (rE, dE) → gG w p l e R s m args below meth c 3 0 0 (gE w below args s dE (some (.int rE))) d [(0, .ref (w_r w 0)), (1, .int x1), (2, .int x2)] 9 [] := by
    intro x1 x2 d  h
    refine iter_ind (G := fun s_ : (Int32 × Dt) => gG w p l e R s m args below meth c 3 0 0 (gE w below args s dE (some (.int rE))) s_.2 [(0, .ref (w_r w 0)), (1, .int x1), (2, .int s_.1)] 9 []) ?_ fu _ h
    clear h
    intro s_ y1 h hl1 hx1
    obtain ⟨x2, d⟩ := s_
    show gG w p l e R s m args below meth c 3 0 0 (gE w below args s dE (some (.int rE))) d [(0, .ref (w_r w 0)), (1, .int x1), (2, .int x2)] 9 []
    dsimp only at h
    unfold st_C_carryOutAll_9 at h
    refine g_iload_n C dX11_carryOutAll_9 2 rfl ?_
    refine g_iload_n C dX11_carryOutAll_10 1 rfl ?_
    refine g_icmp_ge C dX11_carryOutAll_11 (tgt := 67) rfl (fun q => ?_) (fun q => ?_)
    · replace h := it_t q h
      replace h := ir_2 h hx1
      refine g_iconst C dX11_carryOutAll_67 (v := (-1)) (by decide) ?_
      exact g_iret C hr hlk rfl (congrArg Prod.snd (Option.some.inj h)) (congrArg (fun z => some (Value.int z.1)) (Option.some.inj h)) dX11_carryOutAll_68
    · replace h := it_f q h
      refine g_aload_n C dX11_carryOutAll_14 0 rfl ?_
      refine g_get C (.ref (w_r w 287)) 0 q_0 fk_C_50 rfl dX11_carryOutAll_15 ?_
      obtain ⟨r7, d8, hc9, h⟩ := ob2_1 h
      refine g_callVi C 287 q_287 vk_C_464 hR rfl (m_I_readCommand C.2.2.2.2.2.2.1 hc9) rfl rfl rfl dX11_carryOutAll_18 rfl rfl ?_
      refine g_if_eq C dX11_carryOutAll_21 (tgt := 52) rfl (fun q => ?_) (fun q => ?_)
      · replace h := it_t q h
        replace h := ir_2 h hx1
        refine g_iload_n C dX11_carryOutAll_52 2 rfl ?_
        exact g_iret C hr hlk rfl (congrArg Prod.snd (Option.some.inj h)) (congrArg (fun z => some (Value.int z.1)) (Option.some.inj h)) dX11_carryOutAll_53
      · replace h := it_f q h
        refine g_aload_n C dX11_carryOutAll_24 0 rfl ?_
        refine g_aload_n C dX11_carryOutAll_25 0 rfl ?_
        refine g_get C (.ref (w_r w 287)) 0 q_0 fk_C_50 rfl dX11_carryOutAll_26 ?_
        have hg10 := gd_1 h
        replace h := gd_2 h
        refine g_get C (.ref (w_k w (200 + (d8 287 3).toNatClampNeg))) 287 q_287 fk_C_467 rfl dX11_carryOutAll_29 ?_
        refine g_aload_n C dX11_carryOutAll_32 0 rfl ?_
        refine g_get C (.ref (w_r w 287)) 0 q_0 fk_C_50 rfl dX11_carryOutAll_33 ?_
        refine g_get C (.ref (w_r w 289)) 287 q_287 fk_C_471 rfl dX11_carryOutAll_36 ?_
        refine g_aload_n C dX11_carryOutAll_39 0 rfl ?_
        refine g_get C (.ref (w_r w 287)) 0 q_0 fk_C_50 rfl dX11_carryOutAll_40 ?_
        refine g_get C (.int (d8 287 6)) 287 q_287 fk_C_474 rfl dX11_carryOutAll_43 ?_
        obtain ⟨r11, d12, hc13, h⟩ := ob2_1 h
        refine g_callVi C 0 q_0 vk_C_477 hR rfl (m_C_carryOut C.2.2.2.2.2.2.1 hg10 hc13) rfl rfl rfl dX11_carryOutAll_46 rfl rfl ?_
        refine g_if_ne C dX11_carryOutAll_49 (tgt := 54) rfl (fun q => ?_) (fun q => ?_)
        · replace h := it_f q h
          refine g_aload_n C dX11_carryOutAll_54 0 rfl ?_
          refine g_get C (.ref (w_r w 287)) 0 q_0 fk_C_50 rfl dX11_carryOutAll_55 ?_
          obtain ⟨d14, hc15, h⟩ := ob1_1 h
          refine g_callVv C 287 q_287 vk_C_481 hR rfl (m_I_skipSemicolon C.2.2.2.2.2.2.1 hc15) rfl rfl rfl dX11_carryOutAll_58 rfl rfl ?_
          refine g_iinc C (lv' := [(2, .int (x2 + 1)), (0, .ref (w_r w 0)), (1, .int x1)]) (v := (x2 + 1)) dX11_carryOutAll_61 2 rfl rfl (by decide) rfl ?_
          refine g_goto C dX11_carryOutAll_64 (tgt := 9) rfl ?_
          refine g_sub [1, 2, 0] (lv' := [(0, .ref (w_r w 0)), (1, .int x1), (2, .int (x2 + 1))]) rfl ?_
          exact hl1 ((x2 + 1), d14) (Option.some.inj h).symm
        · replace h := it_t q h
          replace h := ir_2 h hx1
          refine g_iload_n C dX11_carryOutAll_52 2 rfl ?_
          exact g_iret C hr hlk rfl (congrArg Prod.snd (Option.some.inj h)) (congrArg (fun z => some (Value.int z.1)) (Option.some.inj h)) dX11_carryOutAll_53
  unfold f_C_carryOutAll at h
  refine g_aload_n C dX11_carryOutAll_0 0 rfl ?_
  refine g_get C (.ref (w_r w 287)) 0 q_0 fk_C_50 rfl dX11_carryOutAll_1 ?_
  obtain ⟨d16, hc17, h⟩ := ob1_1 h
  refine g_callVv C 287 q_287 vk_C_461 hR rfl (m_I_rewind C.2.2.2.2.2.2.1 hc17) rfl rfl rfl dX11_carryOutAll_4 rfl rfl ?_
  refine g_iconst C dX11_carryOutAll_7 (v := 0) rfl ?_
  refine g_istore_n C (lv' := [(2, .int 0), (0, .ref (w_r w 0)), (1, .int x1)]) dX11_carryOutAll_8 (by decide) rfl ?_
  refine g_sub [1, 2, 0] (lv' := [(0, .ref (w_r w 0)), (1, .int x1), (2, .int 0)]) rfl ?_
  exact R9 x1 0 d16 h
set_option maxHeartbeats 4000000 in
set_option maxRecDepth 100000 in
theorem m_C_checkServing {w : wT} {l : Launch} {x1 : Int32} {d : Dt} {zE : (Unit ⊕ Nat)} (hO : okW w) (hl9 : l.stackTraces = false) (h : f_C_checkServing x1 d = some zE) : gMX w l yX11_checkServing cX11_checkServing 2 (Option.none : Option Jvm.ClassFile.FieldType) 7 2 12 [.ref (w_r w 0), .int x1] d (oU d zE) := by
  refine gMX_of (by decide) [(0, .ref (w_r w 0)), (1, .int x1)] rfl rfl ?_ hO
  intro p e R s m args below meth c C hR hr hlk hx
  unfold f_C_checkServing at h
  refine g_aload_n C dX11_checkServing_0 0 rfl ?_
  refine g_iload_n C dX11_checkServing_1 1 rfl ?_
  obtain ⟨z5, hc4, h⟩ := ocU_1 h
  refine g_callVU C 1 6 0 q_0 vk_C_93 hR rfl (m_C_checkLantern C.2.2.2.2.2.2.1 hl9 hc4) rfl rfl rfl dX11_checkServing_2 rfl rfl rfl rfl (fun e7 => ?_) (fun et2 e7 => ?_)
  · subst e7
    replace h := ocU_i h
    refine g_aload_n C dX11_checkServing_5 0 rfl ?_
    refine g_get C (.ref (w_r w 2)) 0 q_0 fk_C_10 rfl dX11_checkServing_6 ?_
    refine g_get C (.ref (w_r w 3)) 2 q_2 fk_C_68 rfl dX11_checkServing_9 ?_
    refine g_iload_n C dX11_checkServing_12 1 rfl ?_
    obtain ⟨r8, hc9, h⟩ := ob1_1 h
    refine g_callVi C 3 q_3 vk_C_430 hR rfl (m_L_serves C.2.2.2.2.2.2.1 hc9) rfl rfl rfl dX11_checkServing_13 rfl rfl ?_
    refine g_if_ne C dX11_checkServing_16 (tgt := 30) rfl (fun q => ?_) (fun q => ?_)
    · replace h := it_f q h
      exact g_vretX C hr hlk rfl rfl (oU_i h) dX11_checkServing_30
    · replace h := it_t q h
      exact g_throwSWy C hl9 th_C_160_164 (i := 12) (by decide) (by decide +kernel) (by decide +kernel) hx hlk hR rfl dX11_checkServing_19 dX11_checkServing_22 dX11_checkServing_23 dX11_checkServing_26 dX11_checkServing_29 rfl rfl rfl rfl rfl (oU_t h)
  · subst e7
    replace h := ocU_t h
    exact g_prop C hx hlk rfl rfl (oU_t h)
set_option maxHeartbeats 4000000 in
set_option maxRecDepth 100000 in
theorem m_C_checkStatement {w : wT} {l : Launch} {x1 : Int32} {d : Dt} {zE : (Unit ⊕ Nat)} (hO : okW w) (hl9 : l.stackTraces = false) (h : f_C_checkStatement x1 d = some zE) : gMX w l yX11_checkStatement cX11_checkStatement 2 (Option.none : Option Jvm.ClassFile.FieldType) 6 1 6 [.ref (w_r w 0), .int x1] d (oU d zE) := by
  refine gMX_of (by decide) [(0, .ref (w_r w 0)), (1, .int x1)] rfl rfl ?_ hO
  intro p e R s m args below meth c C hR hr hlk hx
  unfold f_C_checkStatement at h
  refine g_aload_n C dX11_checkStatement_0 0 rfl ?_
  refine g_get C (.ref (w_r w 2)) 0 q_0 fk_C_10 rfl dX11_checkStatement_1 ?_
  refine g_get C (.ref (w_r w 22)) 2 q_2 fk_C_128 rfl dX11_checkStatement_4 ?_
  refine g_iload_n C dX11_checkStatement_7 1 rfl ?_
  obtain ⟨r2, hc3, h⟩ := ob1_1 h
  refine g_callVi C 22 q_22 vk_C_435 hR rfl (m_T_has C.2.2.2.2.2.2.1 hc3) rfl rfl rfl dX11_checkStatement_8 rfl rfl ?_
  refine g_if_ne C dX11_checkStatement_11 (tgt := 25) rfl (fun q => ?_) (fun q => ?_)
  · replace h := it_f q h
    exact g_vretX C hr hlk rfl rfl (oU_i h) dX11_checkStatement_25
  · replace h := it_t q h
    exact g_throwSW C hl9 th_C_405_409 (i := 7) (by decide) (by decide +kernel) (by decide +kernel) hx hlk hR rfl dX11_checkStatement_14 dX11_checkStatement_17 dX11_checkStatement_18 dX11_checkStatement_21 dX11_checkStatement_24 rfl rfl rfl rfl rfl (oU_t h)
set_option maxHeartbeats 4000000 in
set_option maxRecDepth 100000 in
theorem m_C_checkedBrief {w : wT} {l : Launch} {x1 : Int32} {d : Dt} {zE : (Int32 ⊕ Nat)} (hO : okW w) (hl9 : l.stackTraces = false) (h : f_C_checkedBrief x1 d = some zE) : gMX w l yX11_checkedBrief cX11_checkedBrief 3 (Option.some Jvm.ClassFile.FieldType.int) 6 1 6 [.ref (w_r w 0), .int x1] d (oR d zE) := by
  refine gMX_of (by decide) [(0, .ref (w_r w 0)), (1, .int x1)] rfl rfl ?_ hO
  intro p e R s m args below meth c C hR hr hlk hx
  unfold f_C_checkedBrief at h
  refine g_aload_n C dX11_checkedBrief_0 0 rfl ?_
  refine g_get C (.ref (w_r w 2)) 0 q_0 fk_C_10 rfl dX11_checkedBrief_1 ?_
  refine g_get C (.ref (w_r w 16)) 2 q_2 fk_C_108 rfl dX11_checkedBrief_4 ?_
  refine g_iload_n C dX11_checkedBrief_7 1 rfl ?_
  obtain ⟨r2, hc3, h⟩ := ob1_1 h
  refine g_callVi C 16 q_16 vk_C_438 hR rfl (m_B_positionOf C.2.2.2.2.2.2.1 hc3) rfl rfl rfl dX11_checkedBrief_8 rfl rfl ?_
  refine g_istore_n C (lv' := [(2, .int r2), (0, .ref (w_r w 0)), (1, .int x1)]) dX11_checkedBrief_11 (by decide) rfl ?_
  refine g_iload_n C dX11_checkedBrief_12 0 rfl ?_
  refine g_iconst C dX11_checkedBrief_13 (v := (-1)) (by decide) ?_
  refine g_icmp_ne C dX11_checkedBrief_14 (tgt := 28) rfl (fun q => ?_) (fun q => ?_)
  · replace h := it_f q h
    refine g_iload_n C dX11_checkedBrief_28 0 rfl ?_
    exact g_iretX C hr hlk rfl rfl rfl (oR_i h) dX11_checkedBrief_29
  · replace h := it_t q h
    exact g_throwSWy C hl9 th_C_160_164 (i := 4) (by decide) (by decide +kernel) (by decide +kernel) hx hlk hR rfl dX11_checkedBrief_17 dX11_checkedBrief_20 dX11_checkedBrief_21 dX11_checkedBrief_24 dX11_checkedBrief_27 rfl rfl rfl rfl rfl (oR_t h)
set_option maxHeartbeats 4000000 in
set_option maxRecDepth 100000 in
theorem m_C_courtCoins {w : wT} {l : Launch} {d : Dt} {rE : Int32} (hO : okW w) (h : f_C_courtCoins  d = some rE) : gM w l yX11_courtCoins cX11_courtCoins 1 (Option.some Jvm.ClassFile.FieldType.int) 0 [.ref (w_r w 0)] d d (some (.int rE)) := by
  refine gM_of (by decide) [(0, .ref (w_r w 0))] rfl rfl ?_ hO
  intro p e R s m args below meth c C hR hr hlk
  unfold f_C_courtCoins at h
  refine g_aload_n C dX11_courtCoins_0 0 rfl ?_
  refine g_get C (.ref (w_r w 2)) 0 q_0 fk_C_10 rfl dX11_courtCoins_1 ?_
  refine g_get C (.int (d 2 4)) 2 q_2 fk_C_306 rfl dX11_courtCoins_4 ?_
  refine g_aload_n C dX11_courtCoins_7 0 rfl ?_
  refine g_get C (.ref (w_r w 2)) 0 q_0 fk_C_10 rfl dX11_courtCoins_8 ?_
  refine g_get C (.int (d 2 5)) 2 q_2 fk_C_309 rfl dX11_courtCoins_11 ?_
  refine g_isub C dX11_courtCoins_14  ?_
  exact g_iret C hr hlk rfl rfl (congrArg (fun z => some (Value.int z)) (Option.some.inj h)) dX11_courtCoins_15
set_option maxHeartbeats 4000000 in
set_option maxRecDepth 100000 in
theorem m_C_day {w : wT} {l : Launch} {d : Dt} {rE : Int32} (hO : okW w) (h : f_C_day  d = some rE) : gM w l yX11_day cX11_day 1 (Option.some Jvm.ClassFile.FieldType.int) 0 [.ref (w_r w 0)] d d (some (.int rE)) := by
  refine gM_of (by decide) [(0, .ref (w_r w 0))] rfl rfl ?_ hO
  intro p e R s m args below meth c C hR hr hlk
  unfold f_C_day at h
  refine g_aload_n C dX11_day_0 0 rfl ?_
  refine g_get C (.ref (w_r w 2)) 0 q_0 fk_C_10 rfl dX11_day_1 ?_
  refine g_get C (.int (d 2 0)) 2 q_2 fk_C_180 rfl dX11_day_4 ?_
  exact g_iret C hr hlk rfl rfl (congrArg (fun z => some (Value.int z)) (Option.some.inj h)) dX11_day_7
set_option maxHeartbeats 4000000 in
set_option maxRecDepth 100000 in
theorem m_C_daysLeft {w : wT} {l : Launch} {x1 : Int32} {d : Dt} {zE : (Int32 ⊕ Nat)} (hO : okW w) (hl9 : l.stackTraces = false) (h : f_C_daysLeft x1 d = some zE) : gMX w l yX11_daysLeft cX11_daysLeft 2 (Option.some Jvm.ClassFile.FieldType.int) 8 2 12 [.ref (w_r w 0), .int x1] d (oR d zE) := by
  refine gMX_of (by decide) [(0, .ref (w_r w 0)), (1, .int x1)] rfl rfl ?_ hO
  intro p e R s m args below meth c C hR hr hlk hx
  unfold f_C_daysLeft at h
  refine g_aload_n C dX11_daysLeft_0 0 rfl ?_
  refine g_iload_n C dX11_daysLeft_1 1 rfl ?_
  obtain ⟨z4, hc3, h⟩ := ocU_1 h
  refine g_callVU C 2 12 0 q_0 vk_C_174 hR rfl (m_C_checkServing C.2.2.2.2.2.2.1 hl9 hc3) rfl rfl rfl dX11_daysLeft_2 rfl rfl rfl rfl (fun e6 => ?_) (fun et1 e6 => ?_)
  · subst e6
    replace h := ocU_i h
    refine g_aload_n C dX11_daysLeft_5 0 rfl ?_
    refine g_get C (.ref (w_r w 2)) 0 q_0 fk_C_10 rfl dX11_daysLeft_6 ?_
    refine g_get C (.ref (w_r w 3)) 2 q_2 fk_C_68 rfl dX11_daysLeft_9 ?_
    refine g_get C (.ref (w_r w 7)) 3 q_3 fk_C_192 rfl dX11_daysLeft_12 ?_
    refine g_iload_n C dX11_daysLeft_15 1 rfl ?_
    have hg7 := gd_1 h
    replace h := gd_2 h
    refine g_aald C 7 q_7 hg7 dX11_daysLeft_16 ?_
    refine g_iconst C dX11_daysLeft_17 (v := 0) rfl ?_
    refine g_iald C (8 + x1.toNatClampNeg) (isC_row8 hg7) (by decide) 0 (by decide) dX11_daysLeft_18 ?_
    exact g_iretX C hr hlk rfl rfl rfl (oR_i h) dX11_daysLeft_19
  · subst e6
    replace h := ocU_t h
    exact g_prop C hx hlk rfl rfl (oR_t h)
set_option maxHeartbeats 4000000 in
set_option maxRecDepth 100000 in
theorem m_L_daysToServe {w : wT} {l : Launch} {x1 : Int32} {d : Dt} {rE : Int32} (hO : okW w) (h : f_L_daysToServe x1 d = some rE) : gM w l yX5_daysToServe cX5_daysToServe 4 (Option.some Jvm.ClassFile.FieldType.int) 0 [.ref (w_r w 3), .int x1] d d (some (.int rE)) := by
  refine gM_of (by decide) [(0, .ref (w_r w 3)), (1, .int x1)] rfl rfl ?_ hO
  intro p e R s m args below meth c C hR hr hlk
  have R4 : ∀ (x1 : Int32) (x2 : Int32) (x3 : Int32), f_L_daysToServe_4 x1 x2 x3 d = some rE → gG w p l e R s m args below meth c 4 0 0 (gE w below args s d (some (.int rE))) d [(0, .ref (w_r w 3)), (1, .int x1), (2, .int x2), (3, .int x3)] 4 [] := by
    intro x1 x2 x3   h
    refine iter_ind (G := fun s_ : (Int32 × Int32) => gG w p l e R s m args below meth c 4 0 0 (gE w below args s d (some (.int rE))) d [(0, .ref (w_r w 3)), (1, .int x1), (2, .int s_.1), (3, .int s_.2)] 4 []) ?_ fu _ h
    clear h
    intro s_ y1 h hl1 hx1
    obtain ⟨x2, x3⟩ := s_
    show gG w p l e R s m args below meth c 4 0 0 (gE w below args s d (some (.int rE))) d [(0, .ref (w_r w 3)), (1, .int x1), (2, .int x2), (3, .int x3)] 4 []
    dsimp only at h
    unfold st_L_daysToServe_4 at h
    refine g_iload_n C dX5_daysToServe_4 3 rfl ?_
    refine g_aload_n C dX5_daysToServe_5 0 rfl ?_
    refine g_get C (.ref (w_r w 6)) 3 q_3 fk_L_18 rfl dX5_daysToServe_6 ?_
    refine g_iload_n C dX5_daysToServe_9 1 rfl ?_
    have hg1 := gd_1 h
    replace h := gd_2 h
    refine g_iald C 6 q_6 hg1 _ rfl dX5_daysToServe_10 ?_
    refine g_icmp_ge C dX5_daysToServe_11 (tgt := 31) rfl (fun q => ?_) (fun q => ?_)
    · replace h := it_t q h
      replace h := ir_2 h hx1
      refine g_iload_n C dX5_daysToServe_31 2 rfl ?_
      exact g_iret C hr hlk rfl rfl (congrArg (fun z => some (Value.int z)) (Option.some.inj h)) dX5_daysToServe_32
    · replace h := it_f q h
      refine g_iload_n C dX5_daysToServe_14 2 rfl ?_
      refine g_aload_n C dX5_daysToServe_15 0 rfl ?_
      refine g_get C (.ref (w_r w 7)) 3 q_3 fk_L_23 rfl dX5_daysToServe_16 ?_
      refine g_iload_n C dX5_daysToServe_19 1 rfl ?_
      have hg2 := gd_1 h
      replace h := gd_2 h
      refine g_aald C 7 q_7 hg2 dX5_daysToServe_20 ?_
      refine g_iload_n C dX5_daysToServe_21 3 rfl ?_
      have hg3 := gd_1 h
      replace h := gd_2 h
      refine g_iald C (8 + x1.toNatClampNeg) (isC_row8 hg2) hg3 _ rfl dX5_daysToServe_22 ?_
      refine g_iadd C dX5_daysToServe_23  ?_
      refine g_istore_n C (lv' := [(2, .int (x2 + (d (8 + x1.toNatClampNeg) x3.toNatClampNeg))), (0, .ref (w_r w 3)), (1, .int x1), (3, .int x3)]) dX5_daysToServe_24 (by decide) rfl ?_
      refine g_iinc C (lv' := [(3, .int (x3 + 1)), (2, .int (x2 + (d (8 + x1.toNatClampNeg) x3.toNatClampNeg))), (0, .ref (w_r w 3)), (1, .int x1)]) (v := (x3 + 1)) dX5_daysToServe_25 3 rfl rfl (by decide) rfl ?_
      refine g_goto C dX5_daysToServe_28 (tgt := 4) rfl ?_
      refine g_sub [2, 3, 1, 0] (lv' := [(0, .ref (w_r w 3)), (1, .int x1), (2, .int (x2 + (d (8 + x1.toNatClampNeg) x3.toNatClampNeg))), (3, .int (x3 + 1))]) rfl ?_
      exact hl1 ((x2 + (d (8 + x1.toNatClampNeg) x3.toNatClampNeg)), (x3 + 1)) (Option.some.inj h).symm
  unfold f_L_daysToServe at h
  refine g_iconst C dX5_daysToServe_0 (v := 0) rfl ?_
  refine g_istore_n C (lv' := [(2, .int 0), (0, .ref (w_r w 3)), (1, .int x1)]) dX5_daysToServe_1 (by decide) rfl ?_
  refine g_iconst C dX5_daysToServe_2 (v := 0) rfl ?_
  refine g_istore_n C (lv' := [(3, .int 0), (2, .int 0), (0, .ref (w_r w 3)), (1, .int x1)]) dX5_daysToServe_3 (by decide) rfl ?_
  refine g_sub [2, 3, 1, 0] (lv' := [(0, .ref (w_r w 3)), (1, .int x1), (2, .int 0), (3, .int 0)]) rfl ?_
  exact R4 x1 0 0 h
set_option maxHeartbeats 4000000 in
set_option maxRecDepth 100000 in
theorem m_C_daysUntilFree {w : wT} {l : Launch} {x1 : Int32} {d : Dt} {zE : (Int32 ⊕ Nat)} (hO : okW w) (hl9 : l.stackTraces = false) (h : f_C_daysUntilFree x1 d = some zE) : gMX w l yX11_daysUntilFree cX11_daysUntilFree 2 (Option.some Jvm.ClassFile.FieldType.int) 7 1 6 [.ref (w_r w 0), .int x1] d (oR d zE) := by
  refine gMX_of (by decide) [(0, .ref (w_r w 0)), (1, .int x1)] rfl rfl ?_ hO
  intro p e R s m args below meth c C hR hr hlk hx
  unfold f_C_daysUntilFree at h
  refine g_aload_n C dX11_daysUntilFree_0 0 rfl ?_
  refine g_iload_n C dX11_daysUntilFree_1 1 rfl ?_
  obtain ⟨z5, hc4, h⟩ := ocU_1 h
  refine g_callVU C 1 6 0 q_0 vk_C_93 hR rfl (m_C_checkLantern C.2.2.2.2.2.2.1 hl9 hc4) rfl rfl rfl dX11_daysUntilFree_2 rfl rfl rfl rfl (fun e7 => ?_) (fun et2 e7 => ?_)
  · subst e7
    replace h := ocU_i h
    refine g_aload_n C dX11_daysUntilFree_5 0 rfl ?_
    refine g_get C (.ref (w_r w 2)) 0 q_0 fk_C_10 rfl dX11_daysUntilFree_6 ?_
    refine g_get C (.ref (w_r w 3)) 2 q_2 fk_C_68 rfl dX11_daysUntilFree_9 ?_
    refine g_iload_n C dX11_daysUntilFree_12 1 rfl ?_
    obtain ⟨r8, hc9, h⟩ := ob1_1 h
    refine g_callVi C 3 q_3 vk_C_196 hR rfl (m_L_daysToServe C.2.2.2.2.2.2.1 hc9) rfl rfl rfl dX11_daysUntilFree_13 rfl rfl ?_
    exact g_iretX C hr hlk rfl rfl rfl (oR_i h) dX11_daysUntilFree_16
  · subst e7
    replace h := ocU_t h
    exact g_prop C hx hlk rfl rfl (oR_t h)
set_option maxHeartbeats 4000000 in
set_option maxRecDepth 100000 in
theorem m_R_keepsAdmissions {w : wT} {l : Launch} {x1 x2 : Int32} {d : Dt} {rE : Int32} (hO : okW w) (h : f_R_keepsAdmissions x1 x2 d = some rE) : gM w l yX10_keepsAdmissions cX10_keepsAdmissions 3 (Option.some Jvm.ClassFile.FieldType.boolean) 0 [.ref (w_r w 286), .int x1, .int x2] d d (some (.int rE)) := by
  refine gM_of (by decide) [(0, .ref (w_r w 286)), (1, .int x1), (2, .int x2)] rfl rfl ?_ hO
  intro p e R s m args below meth c C hR hr hlk
  unfold f_R_keepsAdmissions at h
  refine g_aload_n C dX10_keepsAdmissions_0 0 rfl ?_
  refine g_get C (.int (d 286 0)) 286 q_286 fk_R_15 rfl dX10_keepsAdmissions_1 ?_
  refine g_iload_n C dX10_keepsAdmissions_4 1 rfl ?_
  refine g_iand C dX10_keepsAdmissions_5  ?_
  refine g_iload_n C dX10_keepsAdmissions_6 2 rfl ?_
  refine g_iconst C dX10_keepsAdmissions_7 (v := (-1)) (by decide) ?_
  refine g_ixor C dX10_keepsAdmissions_8  ?_
  refine g_iand C dX10_keepsAdmissions_9  ?_
  refine g_if_ne C dX10_keepsAdmissions_10 (tgt := 28) rfl (fun q => ?_) (fun q => ?_)
  · replace h := it_f q h
    refine g_iconst C dX10_keepsAdmissions_28 (v := 0) rfl ?_
    exact g_iret C hr hlk rfl rfl (congrArg (fun z => some (Value.int z)) (Option.some.inj h)) dX10_keepsAdmissions_29
  · replace h := it_t q h
    refine g_aload_n C dX10_keepsAdmissions_13 0 rfl ?_
    refine g_get C (.int (d 286 1)) 286 q_286 fk_R_21 rfl dX10_keepsAdmissions_14 ?_
    refine g_iload_n C dX10_keepsAdmissions_17 1 rfl ?_
    refine g_iand C dX10_keepsAdmissions_18  ?_
    refine g_iload_n C dX10_keepsAdmissions_19 2 rfl ?_
    refine g_iand C dX10_keepsAdmissions_20  ?_
    refine g_if_ne C dX10_keepsAdmissions_21 (tgt := 28) rfl (fun q => ?_) (fun q => ?_)
    · replace h := it_f q h
      refine g_iconst C dX10_keepsAdmissions_28 (v := 0) rfl ?_
      exact g_iret C hr hlk rfl rfl (congrArg (fun z => some (Value.int z)) (Option.some.inj h)) dX10_keepsAdmissions_29
    · replace h := it_t q h
      refine g_iconst C dX10_keepsAdmissions_24 (v := 1) rfl ?_
      refine g_goto C dX10_keepsAdmissions_25 (tgt := 29) rfl ?_
      exact g_iret C hr hlk rfl rfl (congrArg (fun z => some (Value.int z)) (Option.some.inj h)) dX10_keepsAdmissions_29
set_option maxHeartbeats 4000000 in
set_option maxRecDepth 100000 in
theorem m_T_isTrue {w : wT} {l : Launch} {x1 x2 : Int32} {d : Dt} {rE : Int32} (hO : okW w) (h : f_T_isTrue x1 x2 d = some rE) : gM w l yX9_isTrue cX9_isTrue 4 (Option.some Jvm.ClassFile.FieldType.boolean) 0 [.ref (w_r w 22), .int x1, .int x2] d d (some (.int rE)) := by
  refine gM_of (by decide) [(0, .ref (w_r w 22)), (1, .int x1), (2, .int x2)] rfl rfl ?_ hO
  intro p e R s m args below meth c C hR hr hlk
  have R29 : ∀ (x1 : Int32) (v0 : Int32), f_T_isTrue_29 x1 v0 d = some rE → gG w p l e R s m args below meth c 4 0 0 (gE w below args s d (some (.int rE))) d [(0, .ref (w_r w 22)), (1, .int x1)] 29 [.int v0] := by
    intro x1 v0   h
    unfold f_T_isTrue_29 at h
    refine g_aload_n C dX9_isTrue_29 0 rfl ?_
    refine g_get C (.ref (w_r w 25)) 22 q_22 fk_T_18 rfl dX9_isTrue_30 ?_
    refine g_iload_n C dX9_isTrue_33 1 rfl ?_
    have hg2 := gd_1 h
    replace h := gd_2 h
    refine g_zald C 25 q_25 hg2 _ rfl dX9_isTrue_34 ?_
    refine g_icmp_ne C dX9_isTrue_35 (tgt := 42) rfl (fun q => ?_) (fun q => ?_)
    · replace h := it_f q h
      refine g_iconst C dX9_isTrue_42 (v := 0) rfl ?_
      exact g_iret C hr hlk rfl rfl (congrArg (fun z => some (Value.int z)) (Option.some.inj h)) dX9_isTrue_43
    · replace h := it_t q h
      refine g_iconst C dX9_isTrue_38 (v := 1) rfl ?_
      refine g_goto C dX9_isTrue_39 (tgt := 43) rfl ?_
      exact g_iret C hr hlk rfl rfl (congrArg (fun z => some (Value.int z)) (Option.some.inj h)) dX9_isTrue_43
  unfold f_T_isTrue at h
  refine g_iload_n C dX9_isTrue_0 2 rfl ?_
  refine g_aload_n C dX9_isTrue_1 0 rfl ?_
  refine g_get C (.ref (w_r w 23)) 22 q_22 fk_T_9 rfl dX9_isTrue_2 ?_
  refine g_iload_n C dX9_isTrue_5 1 rfl ?_
  have hg3 := gd_1 h
  replace h := gd_2 h
  refine g_iald C 23 q_23 hg3 _ rfl dX9_isTrue_6 ?_
  refine g_ishr C dX9_isTrue_7  ?_
  refine g_iload_n C dX9_isTrue_8 2 rfl ?_
  refine g_aload_n C dX9_isTrue_9 0 rfl ?_
  refine g_get C (.ref (w_r w 24)) 22 q_22 fk_T_15 rfl dX9_isTrue_10 ?_
  refine g_iload_n C dX9_isTrue_13 1 rfl ?_
  have hg4 := gd_1 h
  replace h := gd_2 h
  refine g_iald C 24 q_24 hg4 _ rfl dX9_isTrue_14 ?_
  refine g_ishr C dX9_isTrue_15  ?_
  refine g_ixor C dX9_isTrue_16  ?_
  refine g_iconst C dX9_isTrue_17 (v := 1) rfl ?_
  refine g_iand C dX9_isTrue_18  ?_
  obtain ⟨t5, ht5, h⟩ := bnd_1 h
  refine g_nm ht5 ?_
  refine g_istore_n C (lv' := [(3, .int t5), (0, .ref (w_r w 22)), (1, .int x1), (2, .int x2)]) dX9_isTrue_19 (by decide) rfl ?_
  refine g_iload_n C dX9_isTrue_20 0 rfl ?_
  refine g_if_ne C dX9_isTrue_21 (tgt := 28) rfl (fun q => ?_) (fun q => ?_)
  · replace h := it_f q h
    refine g_iconst C dX9_isTrue_28 (v := 0) rfl ?_
    refine g_sub [1, 2] (lv' := [(0, .ref (w_r w 22)), (1, .int x1)]) rfl ?_
    exact R29 x1 0 h
  · replace h := it_t q h
    refine g_iconst C dX9_isTrue_24 (v := 1) rfl ?_
    refine g_goto C dX9_isTrue_25 (tgt := 29) rfl ?_
    refine g_sub [1, 2] (lv' := [(0, .ref (w_r w 22)), (1, .int x1)]) rfl ?_
    exact R29 x1 1 h
set_option maxHeartbeats 4000000 in
set_option maxRecDepth 100000 in
theorem m_T_countFalse {w : wT} {l : Launch} {x1 x2 : Int32} {d : Dt} {rE : Int32} (hO : okW w) (h : f_T_countFalse x1 x2 d = some rE) : gM w l yX9_countFalse cX9_countFalse 5 (Option.some Jvm.ClassFile.FieldType.int) 1 [.ref (w_r w 22), .int x1, .int x2] d d (some (.int rE)) := by
  refine gM_of (by decide) [(0, .ref (w_r w 22)), (1, .int x1), (2, .int x2)] rfl rfl ?_ hO
  intro p e R s m args below meth c C hR hr hlk
  have R5 : ∀ (x1 : Int32) (x2 : Int32) (x3 : Int32) (x4 : Int32), f_T_countFalse_5 x1 x2 x3 x4 d = some rE → gG w p l e R s m args below meth c 5 0 0 (gE w below args s d (some (.int rE))) d [(0, .ref (w_r w 22)), (1, .int x1), (2, .int x2), (3, .int x3), (4, .int x4)] 5 [] := by
    intro x1 x2 x3 x4   h
    refine iter_ind (G := fun s_ : (Int32 × Int32) => gG w p l e R s m args below meth c 5 0 0 (gE w below args s d (some (.int rE))) d [(0, .ref (w_r w 22)), (1, .int x1), (2, .int x2), (3, .int s_.1), (4, .int s_.2)] 5 []) ?_ fu _ h
    clear h
    intro s_ y1 h hl1 hx1
    obtain ⟨x3, x4⟩ := s_
    show gG w p l e R s m args below meth c 5 0 0 (gE w below args s d (some (.int rE))) d [(0, .ref (w_r w 22)), (1, .int x1), (2, .int x2), (3, .int x3), (4, .int x4)] 5 []
    dsimp only at h
    unfold st_T_countFalse_5 at h
    refine g_iload C dX9_countFalse_5 4 rfl ?_
    refine g_aload_n C dX9_countFalse_7 0 rfl ?_
    refine g_get C (.int (d 22 0)) 22 q_22 fk_T_22 rfl dX9_countFalse_8 ?_
    refine g_icmp_ge C dX9_countFalse_11 (tgt := 48) rfl (fun q => ?_) (fun q => ?_)
    · replace h := it_t q h
      replace h := ir_2 h hx1
      refine g_iload_n C dX9_countFalse_48 3 rfl ?_
      exact g_iret C hr hlk rfl rfl (congrArg (fun z => some (Value.int z)) (Option.some.inj h)) dX9_countFalse_49
    · replace h := it_f q h
      refine g_iload_n C dX9_countFalse_14 1 rfl ?_
      refine g_aload_n C dX9_countFalse_15 0 rfl ?_
      refine g_get C (.ref (w_r w 23)) 22 q_22 fk_T_9 rfl dX9_countFalse_16 ?_
      refine g_iload C dX9_countFalse_19 4 rfl ?_
      have hg2 := gd_1 h
      replace h := gd_2 h
      refine g_iald C 23 q_23 hg2 _ rfl dX9_countFalse_21 ?_
      refine g_ishr C dX9_countFalse_22  ?_
      refine g_iconst C dX9_countFalse_23 (v := 1) rfl ?_
      refine g_iand C dX9_countFalse_24  ?_
      refine g_iconst C dX9_countFalse_25 (v := 1) rfl ?_
      refine g_icmp_ne C dX9_countFalse_26 (tgt := 42) rfl (fun q => ?_) (fun q => ?_)
      · replace h := it_f q h
        refine g_iinc C (lv' := [(4, .int (x4 + 1)), (0, .ref (w_r w 22)), (1, .int x1), (2, .int x2), (3, .int x3)]) (v := (x4 + 1)) dX9_countFalse_42 4 rfl rfl (by decide) rfl ?_
        refine g_goto C dX9_countFalse_45 (tgt := 5) rfl ?_
        refine g_sub [1, 2, 3, 4, 0] (lv' := [(0, .ref (w_r w 22)), (1, .int x1), (2, .int x2), (3, .int x3), (4, .int (x4 + 1))]) rfl ?_
        exact hl1 (x3, (x4 + 1)) (Option.some.inj h).symm
      · replace h := it_t q h
        refine g_aload_n C dX9_countFalse_29 0 rfl ?_
        refine g_iload C dX9_countFalse_30 4 rfl ?_
        refine g_iload_n C dX9_countFalse_32 2 rfl ?_
        obtain ⟨r3, hc4, h⟩ := ob1_1 h
        refine g_callVi C 22 q_22 vk_T_32 hR rfl (m_T_isTrue C.2.2.2.2.2.2.1 hc4) rfl rfl rfl dX9_countFalse_33 rfl rfl ?_
        refine g_if_ne C dX9_countFalse_36 (tgt := 42) rfl (fun q => ?_) (fun q => ?_)
        · replace h := it_f q h
          refine g_iinc C (lv' := [(4, .int (x4 + 1)), (0, .ref (w_r w 22)), (1, .int x1), (2, .int x2), (3, .int x3)]) (v := (x4 + 1)) dX9_countFalse_42 4 rfl rfl (by decide) rfl ?_
          refine g_goto C dX9_countFalse_45 (tgt := 5) rfl ?_
          refine g_sub [1, 2, 3, 4, 0] (lv' := [(0, .ref (w_r w 22)), (1, .int x1), (2, .int x2), (3, .int x3), (4, .int (x4 + 1))]) rfl ?_
          exact hl1 (x3, (x4 + 1)) (Option.some.inj h).symm
        · replace h := it_t q h
          refine g_iinc C (lv' := [(3, .int (x3 + 1)), (0, .ref (w_r w 22)), (1, .int x1), (2, .int x2), (4, .int x4)]) (v := (x3 + 1)) dX9_countFalse_39 3 rfl rfl (by decide) rfl ?_
          refine g_iinc C (lv' := [(4, .int (x4 + 1)), (3, .int (x3 + 1)), (0, .ref (w_r w 22)), (1, .int x1), (2, .int x2)]) (v := (x4 + 1)) dX9_countFalse_42 4 rfl rfl (by decide) rfl ?_
          refine g_goto C dX9_countFalse_45 (tgt := 5) rfl ?_
          refine g_sub [2, 3, 4, 1, 0] (lv' := [(0, .ref (w_r w 22)), (1, .int x1), (2, .int x2), (3, .int (x3 + 1)), (4, .int (x4 + 1))]) rfl ?_
          exact hl1 ((x3 + 1), (x4 + 1)) (Option.some.inj h).symm
  unfold f_T_countFalse at h
  refine g_iconst C dX9_countFalse_0 (v := 0) rfl ?_
  refine g_istore_n C (lv' := [(3, .int 0), (0, .ref (w_r w 22)), (1, .int x1), (2, .int x2)]) dX9_countFalse_1 (by decide) rfl ?_
  refine g_iconst C dX9_countFalse_2 (v := 0) rfl ?_
  refine g_istore C (lv' := [(4, .int 0), (3, .int 0), (0, .ref (w_r w 22)), (1, .int x1), (2, .int x2)]) dX9_countFalse_3 (by decide) rfl ?_
  refine g_sub [2, 3, 4, 1, 0] (lv' := [(0, .ref (w_r w 22)), (1, .int x1), (2, .int x2), (3, .int 0), (4, .int 0)]) rfl ?_
  exact R5 x1 x2 0 0 h
set_option maxHeartbeats 4000000 in
set_option maxRecDepth 100000 in
theorem m_L_admitting {w : wT} {l : Launch} {x1 : Int32} {d : Dt} {rE : Int32} (hO : okW w) (h : f_L_admitting x1 d = some rE) : gM w l yX5_admitting cX5_admitting 4 (Option.some Jvm.ClassFile.FieldType.int) 0 [.ref (w_r w 3), .int x1] d d (some (.int rE)) := by
  refine gM_of (by decide) [(0, .ref (w_r w 3)), (1, .int x1)] rfl rfl ?_ hO
  intro p e R s m args below meth c C hR hr hlk
  have R4 : ∀ (x1 : Int32) (x2 : Int32) (x3 : Int32), f_L_admitting_4 x1 x2 x3 d = some rE → gG w p l e R s m args below meth c 4 0 0 (gE w below args s d (some (.int rE))) d [(0, .ref (w_r w 3)), (1, .int x1), (2, .int x2), (3, .int x3)] 4 [] := by
    intro x1 x2 x3   h
    refine iter_ind (G := fun s_ : (Int32 × Int32) => gG w p l e R s m args below meth c 4 0 0 (gE w below args s d (some (.int rE))) d [(0, .ref (w_r w 3)), (1, .int x1), (2, .int s_.1), (3, .int s_.2)] 4 []) ?_ fu _ h
    clear h
    intro s_ y1 h hl1 hx1
    obtain ⟨x2, x3⟩ := s_
    show gG w p l e R s m args below meth c 4 0 0 (gE w below args s d (some (.int rE))) d [(0, .ref (w_r w 3)), (1, .int x1), (2, .int x2), (3, .int x3)] 4 []
    dsimp only at h
    unfold st_L_admitting_4 at h
    refine g_iload_n C dX5_admitting_4 3 rfl ?_
    refine g_aload_n C dX5_admitting_5 0 rfl ?_
    refine g_get C (.int (d 3 0)) 3 q_3 fk_L_26 rfl dX5_admitting_6 ?_
    refine g_icmp_ge C dX5_admitting_9 (tgt := 34) rfl (fun q => ?_) (fun q => ?_)
    · replace h := it_t q h
      replace h := ir_2 h hx1
      refine g_iload_n C dX5_admitting_34 2 rfl ?_
      exact g_iret C hr hlk rfl rfl (congrArg (fun z => some (Value.int z)) (Option.some.inj h)) dX5_admitting_35
    · replace h := it_f q h
      refine g_aload_n C dX5_admitting_12 0 rfl ?_
      refine g_get C (.ref (w_r w 5)) 3 q_3 fk_L_15 rfl dX5_admitting_13 ?_
      refine g_iload_n C dX5_admitting_16 3 rfl ?_
      have hg1 := gd_1 h
      replace h := gd_2 h
      refine g_iald C 5 q_5 hg1 _ rfl dX5_admitting_17 ?_
      refine g_iload_n C dX5_admitting_18 1 rfl ?_
      refine g_icmp_ne C dX5_admitting_19 (tgt := 28) rfl (fun q => ?_) (fun q => ?_)
      · replace h := it_f q h
        refine g_iinc C (lv' := [(3, .int (x3 + 1)), (0, .ref (w_r w 3)), (1, .int x1), (2, .int x2)]) (v := (x3 + 1)) dX5_admitting_28 3 rfl rfl (by decide) rfl ?_
        refine g_goto C dX5_admitting_31 (tgt := 4) rfl ?_
        refine g_sub [1, 2, 3, 0] (lv' := [(0, .ref (w_r w 3)), (1, .int x1), (2, .int x2), (3, .int (x3 + 1))]) rfl ?_
        exact hl1 (x2, (x3 + 1)) (Option.some.inj h).symm
      · replace h := it_t q h
        refine g_iload_n C dX5_admitting_22 2 rfl ?_
        refine g_iconst C dX5_admitting_23 (v := 1) rfl ?_
        refine g_iload_n C dX5_admitting_24 3 rfl ?_
        refine g_ishl C dX5_admitting_25  ?_
        refine g_ior C dX5_admitting_26  ?_
        refine g_istore_n C (lv' := [(2, .int (x2 ||| (1 <<< (x3 &&& 31)))), (0, .ref (w_r w 3)), (1, .int x1), (3, .int x3)]) dX5_admitting_27 (by decide) rfl ?_
        refine g_iinc C (lv' := [(3, .int (x3 + 1)), (2, .int (x2 ||| (1 <<< (x3 &&& 31)))), (0, .ref (w_r w 3)), (1, .int x1)]) (v := (x3 + 1)) dX5_admitting_28 3 rfl rfl (by decide) rfl ?_
        refine g_goto C dX5_admitting_31 (tgt := 4) rfl ?_
        refine g_sub [2, 3, 1, 0] (lv' := [(0, .ref (w_r w 3)), (1, .int x1), (2, .int (x2 ||| (1 <<< (x3 &&& 31)))), (3, .int (x3 + 1))]) rfl ?_
        exact hl1 ((x2 ||| (1 <<< (x3 &&& 31))), (x3 + 1)) (Option.some.inj h).symm
  unfold f_L_admitting at h
  refine g_iconst C dX5_admitting_0 (v := 0) rfl ?_
  refine g_istore_n C (lv' := [(2, .int 0), (0, .ref (w_r w 3)), (1, .int x1)]) dX5_admitting_1 (by decide) rfl ?_
  refine g_iconst C dX5_admitting_2 (v := 0) rfl ?_
  refine g_istore_n C (lv' := [(3, .int 0), (2, .int 0), (0, .ref (w_r w 3)), (1, .int x1)]) dX5_admitting_3 (by decide) rfl ?_
  refine g_sub [2, 3, 1, 0] (lv' := [(0, .ref (w_r w 3)), (1, .int x1), (2, .int 0), (3, .int 0)]) rfl ?_
  exact R4 x1 0 0 h
set_option maxHeartbeats 4000000 in
set_option maxRecDepth 100000 in
theorem m_R_readAdmissions {w : wT} {l : Launch} {d : Dt} {dE : Dt} (hO : okW w) (h : f_R_readAdmissions  d = some dE) : gM w l yX10_readAdmissions cX10_readAdmissions 2 (Option.none : Option Jvm.ClassFile.FieldType) 1 [.ref (w_r w 286), .ref (w_r w 3)] d dE none := by
  refine gM_of (by decide) [(0, .ref (w_r w 286)), (1, .ref (w_r w 3))] rfl rfl ?_ hO
  intro p e R s m args below meth c C hR hr hlk
  unfold f_R_readAdmissions at h
  refine g_aload_n C dX10_readAdmissions_0 0 rfl ?_
  refine g_aload_n C dX10_readAdmissions_1 1 rfl ?_
  refine g_iconst C dX10_readAdmissions_2 (v := 1) rfl ?_
  obtain ⟨r5, hc6, h⟩ := ob1_1 h
  refine g_callVi C 3 q_3 vk_R_9 hR rfl (m_L_admitting C.2.2.2.2.2.2.1 hc6) rfl rfl rfl dX10_readAdmissions_3 rfl rfl ?_
  refine g_put C 286 q_286 pk_R_15 rfl rfl dX10_readAdmissions_6 ?_
  obtain ⟨d7, hd7, h⟩ := bnd_1 h
  refine g_nmD hd7 ?_
  refine g_aload_n C dX10_readAdmissions_9 0 rfl ?_
  refine g_aload_n C dX10_readAdmissions_10 1 rfl ?_
  refine g_iconst C dX10_readAdmissions_11 (v := 2) rfl ?_
  obtain ⟨r8, hc9, h⟩ := ob1_1 h
  refine g_callVi C 3 q_3 vk_R_9 hR rfl (m_L_admitting C.2.2.2.2.2.2.1 hc9) rfl rfl rfl dX10_readAdmissions_12 rfl rfl ?_
  refine g_put C 286 q_286 pk_R_21 rfl rfl dX10_readAdmissions_15 ?_
  obtain ⟨d10, hd10, h⟩ := bnd_1 h
  refine g_nmD hd10 ?_
  exact g_vret C hr hlk (Option.some.inj h) rfl dX10_readAdmissions_18
set_option maxHeartbeats 4000000 in
set_option maxRecDepth 100000 in
theorem m_T_connectedWith {w : wT} {l : Launch} {x1 : Int32} {d : Dt} {rE : Int32} (hO : okW w) (h : f_T_connectedWith x1 d = some rE) : gM w l yX9_connectedWith cX9_connectedWith 6 (Option.some Jvm.ClassFile.FieldType.int) 0 [.ref (w_r w 22), .int x1] d d (some (.int rE)) := by
  refine gM_of (by decide) [(0, .ref (w_r w 22)), (1, .int x1)] rfl rfl ?_ hO
  intro p e R s m args below meth c C hR hr hlk
  have R6 : ∀ (x2 : Int32) (x3 : Int32), f_T_connectedWith_6 x2 x3 d = some rE → gG w p l e R s m args below meth c 6 0 0 (gE w below args s d (some (.int rE))) d [(0, .ref (w_r w 22)), (2, .int x2), (3, .int x3)] 6 [] := by
    intro x2 x3   h
    refine iter_ind (G := fun s_ : (Int32 × Int32) => gG w p l e R s m args below meth c 6 0 0 (gE w below args s d (some (.int rE))) d [(0, .ref (w_r w 22)), (2, .int s_.1), (3, .int s_.2)] 6 []) ?_ fu _ h
    clear h
    intro s_ y1 h hl1 hx1
    obtain ⟨x2, x3⟩ := s_
    show gG w p l e R s m args below meth c 6 0 0 (gE w below args s d (some (.int rE))) d [(0, .ref (w_r w 22)), (2, .int x2), (3, .int x3)] 6 []
    dsimp only at h
    unfold st_T_connectedWith_6 at h
    have R15 : ∀ (x3 : Int32) (x2 : Int32) (x4 : Int32), f_T_connectedWith_15 x3 x2 x4 d = some y1 → gG w p l e R s m args below meth c 6 0 0 (gE w below args s d (some (.int rE))) d [(0, .ref (w_r w 22)), (2, .int x2), (3, .int x3), (4, .int x4)] 15 [] := by
      intro x3 x2 x4   h
      refine iter_ind (G := fun s_ : (Int32 × Int32) => gG w p l e R s m args below meth c 6 0 0 (gE w below args s d (some (.int rE))) d [(0, .ref (w_r w 22)), (2, .int s_.1), (3, .int x3), (4, .int s_.2)] 15 []) ?_ fu _ h
      clear h
      intro s_ y2 h hl2 hx2
      obtain ⟨x2, x4⟩ := s_
      show gG w p l e R s m args below meth c 6 0 0 (gE w below args s d (some (.int rE))) d [(0, .ref (w_r w 22)), (2, .int x2), (3, .int x3), (4, .int x4)] 15 []
      dsimp only at h
      unfold st_T_connectedWith_15 at h
      refine g_iload C dX9_connectedWith_15 3 rfl ?_
      refine g_aload_n C dX9_connectedWith_17 0 rfl ?_
      refine g_get C (.int (d 22 0)) 22 q_22 fk_T_22 rfl dX9_connectedWith_18 ?_
      refine g_icmp_ge C dX9_connectedWith_21 (tgt := 63) rfl (fun q => ?_) (fun q => ?_)
      · replace h := it_t q h
        replace h := ir_2 h hx2
        refine g_iinc C (lv' := [(3, .int (x3 + 1)), (0, .ref (w_r w 22)), (2, .int x2), (4, .int x4)]) (v := (x3 + 1)) dX9_connectedWith_63 2 rfl rfl (by decide) rfl ?_
        refine g_goto C dX9_connectedWith_66 (tgt := 6) rfl ?_
        refine g_sub [1, 2, 0] (lv' := [(0, .ref (w_r w 22)), (2, .int x2), (3, .int (x3 + 1))]) rfl ?_
        exact hl1 (x2, (x3 + 1)) (Option.some.inj h).symm
      · replace h := it_f q h
        refine g_iconst C dX9_connectedWith_24 (v := 1) rfl ?_
        refine g_aload_n C dX9_connectedWith_25 0 rfl ?_
        refine g_get C (.ref (w_r w 23)) 22 q_22 fk_T_9 rfl dX9_connectedWith_26 ?_
        refine g_iload C dX9_connectedWith_29 3 rfl ?_
        have hg2 := gd_1 h
        replace h := gd_2 h
        refine g_iald C 23 q_23 hg2 _ rfl dX9_connectedWith_31 ?_
        refine g_ishl C dX9_connectedWith_32  ?_
        refine g_iconst C dX9_connectedWith_33 (v := 1) rfl ?_
        refine g_aload_n C dX9_connectedWith_34 0 rfl ?_
        refine g_get C (.ref (w_r w 24)) 22 q_22 fk_T_15 rfl dX9_connectedWith_35 ?_
        refine g_iload C dX9_connectedWith_38 3 rfl ?_
        have hg3 := gd_1 h
        replace h := gd_2 h
        refine g_iald C 24 q_24 hg3 _ rfl dX9_connectedWith_40 ?_
        refine g_ishl C dX9_connectedWith_41  ?_
        refine g_ior C dX9_connectedWith_42  ?_
        obtain ⟨t4, ht4, h⟩ := bnd_1 h
        refine g_nm ht4 ?_
        refine g_istore C (lv' := [(5, .int t4), (0, .ref (w_r w 22)), (2, .int x2), (3, .int x3), (4, .int x4)]) dX9_connectedWith_43 (by decide) rfl ?_
        refine g_iload_n C dX9_connectedWith_45 2 rfl ?_
        refine g_iload C dX9_connectedWith_46 0 rfl ?_
        refine g_iand C dX9_connectedWith_48  ?_
        refine g_if_eq C dX9_connectedWith_49 (tgt := 57) rfl (fun q => ?_) (fun q => ?_)
        · replace h := it_t q h
          refine g_iinc C (lv' := [(4, .int (x4 + 1)), (5, .int t4), (0, .ref (w_r w 22)), (2, .int x2), (3, .int x3)]) (v := (x4 + 1)) dX9_connectedWith_57 4 rfl rfl (by decide) rfl ?_
          refine g_goto C dX9_connectedWith_60 (tgt := 15) rfl ?_
          refine g_sub [2, 3, 4, 0] (lv' := [(0, .ref (w_r w 22)), (2, .int x2), (3, .int x3), (4, .int (x4 + 1))]) rfl ?_
          exact hl2 (x2, (x4 + 1)) (Option.some.inj h).symm
        · replace h := it_f q h
          refine g_iload_n C dX9_connectedWith_52 2 rfl ?_
          refine g_iload C dX9_connectedWith_53 0 rfl ?_
          refine g_ior C dX9_connectedWith_55  ?_
          refine g_istore_n C (lv' := [(2, .int (x2 ||| t4)), (5, .int t4), (0, .ref (w_r w 22)), (3, .int x3), (4, .int x4)]) dX9_connectedWith_56 (by decide) rfl ?_
          refine g_iinc C (lv' := [(4, .int (x4 + 1)), (2, .int (x2 ||| t4)), (5, .int t4), (0, .ref (w_r w 22)), (3, .int x3)]) (v := (x4 + 1)) dX9_connectedWith_57 4 rfl rfl (by decide) rfl ?_
          refine g_goto C dX9_connectedWith_60 (tgt := 15) rfl ?_
          refine g_sub [3, 1, 4, 0] (lv' := [(0, .ref (w_r w 22)), (2, .int (x2 ||| t4)), (3, .int x3), (4, .int (x4 + 1))]) rfl ?_
          exact hl2 ((x2 ||| t4), (x4 + 1)) (Option.some.inj h).symm
    refine g_iload_n C dX9_connectedWith_6 2 rfl ?_
    refine g_bipush C dX9_connectedWith_7 (v := 8) (by decide) ?_
    refine g_icmp_ge C dX9_connectedWith_9 (tgt := 69) rfl (fun q => ?_) (fun q => ?_)
    · replace h := it_t q h
      replace h := ir_2 h hx1
      refine g_iload_n C dX9_connectedWith_69 1 rfl ?_
      exact g_iret C hr hlk rfl rfl (congrArg (fun z => some (Value.int z)) (Option.some.inj h)) dX9_connectedWith_70
    · replace h := it_f q h
      refine g_iconst C dX9_connectedWith_12 (v := 0) rfl ?_
      refine g_istore C (lv' := [(4, .int 0), (0, .ref (w_r w 22)), (2, .int x2), (3, .int x3)]) dX9_connectedWith_13 (by decide) rfl ?_
      refine g_sub [1, 2, 3, 0] (lv' := [(0, .ref (w_r w 22)), (2, .int x2), (3, .int x3), (4, .int 0)]) rfl ?_
      exact R15 x3 x2 0 h
  unfold f_T_connectedWith at h
  refine g_iconst C dX9_connectedWith_0 (v := 1) rfl ?_
  refine g_iload_n C dX9_connectedWith_1 1 rfl ?_
  refine g_ishl C dX9_connectedWith_2  ?_
  refine g_istore_n C (lv' := [(2, .int (1 <<< (x1 &&& 31))), (0, .ref (w_r w 22)), (1, .int x1)]) dX9_connectedWith_3 (by decide) rfl ?_
  refine g_iconst C dX9_connectedWith_4 (v := 0) rfl ?_
  refine g_istore_n C (lv' := [(3, .int 0), (2, .int (1 <<< (x1 &&& 31))), (0, .ref (w_r w 22)), (1, .int x1)]) dX9_connectedWith_5 (by decide) rfl ?_
  refine g_sub [2, 1, 0] (lv' := [(0, .ref (w_r w 22)), (2, .int (1 <<< (x1 &&& 31))), (3, .int 0)]) rfl ?_
  exact R6 (1 <<< (x1 &&& 31)) 0 h
set_option maxHeartbeats 4000000 in
set_option maxRecDepth 100000 in
theorem m_R_verdictOn {w : wT} {l : Launch} {x1 : Int32} {d : Dt} {rE : Int32} {dE : Dt} (hO : okW w) (h : f_R_verdictOn x1 d = some (rE, dE)) : gM w l yX10_verdictOn cX10_verdictOn 8 (Option.some Jvm.ClassFile.FieldType.char) 2 [.ref (w_r w 286), .int x1, .ref (w_r w 3), .ref (w_r w 22)] d dE (some (.int rE)) := by
  refine gM_of (by decide) [(0, .ref (w_r w 286)), (1, .int x1), (2, .ref (w_r w 3)), (3, .ref (w_r w 22))] rfl rfl ?_ hO
  intro p e R s m args below meth c C hR hr hlk
  have R21 : ∀ (x1 : Int32) (x4 : Int32) (x5 : Int32) (x6 : Int32) (x7 : Int32) (d : Dt), f_R_verdictOn_21 x1 x4 x5 x6 x7 d = some (rE, dE) → gG w p l e R s m args below meth c 8 0 0 (gE w below args s dE (some (.int rE))) d [(0, .ref (w_r w 286)), (1, .int x1), (2, .ref (w_r w 3)), (3, .ref (w_r w 22)), (4, .int x4), (5, .int x5), (6, .int x6), (7, .int x7)] 21 [] := by
    intro x1 x4 x5 x6 x7 d  h
    refine iter_ind (G := fun s_ : (Int32 × Int32 × Int32) => gG w p l e R s m args below meth c 8 0 0 (gE w below args s dE (some (.int rE))) d [(0, .ref (w_r w 286)), (1, .int x1), (2, .ref (w_r w 3)), (3, .ref (w_r w 22)), (4, .int x4), (5, .int s_.1), (6, .int s_.2.1), (7, .int s_.2.2)] 21 []) ?_ fu _ h
    clear h
    intro s_ y1 h hl1 hx1
    obtain ⟨x5, x6, x7⟩ := s_
    show gG w p l e R s m args below meth c 8 0 0 (gE w below args s dE (some (.int rE))) d [(0, .ref (w_r w 286)), (1, .int x1), (2, .ref (w_r w 3)), (3, .ref (w_r w 22)), (4, .int x4), (5, .int x5), (6, .int x6), (7, .int x7)] 21 []
    dsimp only at h
    unfold st_R_verdictOn_21 at h
    refine g_iload C dX10_verdictOn_21 7 rfl ?_
    refine g_iconst C dX10_verdictOn_23 (v := 1) rfl ?_
    refine g_aload_n C dX10_verdictOn_24 2 rfl ?_
    refine g_get C (.int (d 3 0)) 3 q_3 fk_R_33 rfl dX10_verdictOn_25 ?_
    refine g_ishl C dX10_verdictOn_28  ?_
    refine g_icmp_ge C dX10_verdictOn_29 (tgt := 79) rfl (fun q => ?_) (fun q => ?_)
    · replace h := it_t q h
      replace h := ir_2 h hx1
      refine g_iload C dX10_verdictOn_79 5 rfl ?_
      refine g_if_eq C dX10_verdictOn_81 (tgt := 97) rfl (fun q => ?_) (fun q => ?_)
      · replace h := it_t q h
        refine g_iload C dX10_verdictOn_97 6 rfl ?_
        refine g_if_eq C dX10_verdictOn_99 (tgt := 107) rfl (fun q => ?_) (fun q => ?_)
        · replace h := it_t q h
          refine g_bipush C dX10_verdictOn_107 (v := 109) (by decide) ?_
          exact g_iret C hr hlk rfl (congrArg Prod.snd (Option.some.inj h)) (congrArg (fun z => some (Value.int z.1)) (Option.some.inj h)) dX10_verdictOn_109
        · replace h := it_f q h
          refine g_bipush C dX10_verdictOn_102 (v := 105) (by decide) ?_
          refine g_goto C dX10_verdictOn_104 (tgt := 109) rfl ?_
          exact g_iret C hr hlk rfl (congrArg Prod.snd (Option.some.inj h)) (congrArg (fun z => some (Value.int z.1)) (Option.some.inj h)) dX10_verdictOn_109
      · replace h := it_f q h
        refine g_iload C dX10_verdictOn_84 6 rfl ?_
        refine g_if_eq C dX10_verdictOn_86 (tgt := 94) rfl (fun q => ?_) (fun q => ?_)
        · replace h := it_t q h
          refine g_bipush C dX10_verdictOn_94 (v := 103) (by decide) ?_
          exact g_iret C hr hlk rfl (congrArg Prod.snd (Option.some.inj h)) (congrArg (fun z => some (Value.int z.1)) (Option.some.inj h)) dX10_verdictOn_96
        · replace h := it_f q h
          refine g_bipush C dX10_verdictOn_89 (v := 117) (by decide) ?_
          refine g_goto C dX10_verdictOn_91 (tgt := 96) rfl ?_
          exact g_iret C hr hlk rfl (congrArg Prod.snd (Option.some.inj h)) (congrArg (fun z => some (Value.int z.1)) (Option.some.inj h)) dX10_verdictOn_96
    · replace h := it_f q h
      refine g_aload_n C dX10_verdictOn_32 0 rfl ?_
      refine g_iload C dX10_verdictOn_33 4 rfl ?_
      refine g_iload C dX10_verdictOn_35 7 rfl ?_
      obtain ⟨r5, hc6, h⟩ := ob1_1 h
      refine g_callVi C 286 q_286 vk_R_36 hR rfl (m_R_keepsAdmissions C.2.2.2.2.2.2.1 hc6) rfl rfl rfl dX10_verdictOn_37 rfl rfl ?_
      refine g_if_eq C dX10_verdictOn_40 (tgt := 73) rfl (fun q => ?_) (fun q => ?_)
      · replace h := it_t q h
        refine g_iinc C (lv' := [(7, .int (x7 + 1)), (0, .ref (w_r w 286)), (1, .int x1), (2, .ref (w_r w 3)), (3, .ref (w_r w 22)), (4, .int x4), (5, .int x5), (6, .int x6)]) (v := (x7 + 1)) dX10_verdictOn_73 7 rfl rfl (by decide) rfl ?_
        refine g_goto C dX10_verdictOn_76 (tgt := 21) rfl ?_
        refine g_sub [1, 2, 3, 4, 5, 6, 7, 0] (lv' := [(0, .ref (w_r w 286)), (1, .int x1), (2, .ref (w_r w 3)), (3, .ref (w_r w 22)), (4, .int x4), (5, .int x5), (6, .int x6), (7, .int (x7 + 1))]) rfl ?_
        exact hl1 (x5, x6, (x7 + 1)) (Option.some.inj h).symm
      · replace h := it_f q h
        refine g_aload_n C dX10_verdictOn_43 3 rfl ?_
        refine g_iload C dX10_verdictOn_44 4 rfl ?_
        refine g_iload C dX10_verdictOn_46 7 rfl ?_
        obtain ⟨r7, hc8, h⟩ := ob1_1 h
        refine g_callVi C 22 q_22 vk_R_40 hR rfl (m_T_countFalse C.2.2.2.2.2.2.1 hc8) rfl rfl rfl dX10_verdictOn_48 rfl rfl ?_
        refine g_if_ne C dX10_verdictOn_51 (tgt := 73) rfl (fun q => ?_) (fun q => ?_)
        · replace h := it_f q h
          refine g_iinc C (lv' := [(7, .int (x7 + 1)), (0, .ref (w_r w 286)), (1, .int x1), (2, .ref (w_r w 3)), (3, .ref (w_r w 22)), (4, .int x4), (5, .int x5), (6, .int x6)]) (v := (x7 + 1)) dX10_verdictOn_73 7 rfl rfl (by decide) rfl ?_
          refine g_goto C dX10_verdictOn_76 (tgt := 21) rfl ?_
          refine g_sub [1, 2, 3, 4, 5, 6, 7, 0] (lv' := [(0, .ref (w_r w 286)), (1, .int x1), (2, .ref (w_r w 3)), (3, .ref (w_r w 22)), (4, .int x4), (5, .int x5), (6, .int x6), (7, .int (x7 + 1))]) rfl ?_
          exact hl1 (x5, x6, (x7 + 1)) (Option.some.inj h).symm
        · replace h := it_t q h
          refine g_iload C dX10_verdictOn_54 7 rfl ?_
          refine g_iload_n C dX10_verdictOn_56 1 rfl ?_
          refine g_ishr C dX10_verdictOn_57  ?_
          refine g_iconst C dX10_verdictOn_58 (v := 1) rfl ?_
          refine g_iand C dX10_verdictOn_59  ?_
          refine g_iconst C dX10_verdictOn_60 (v := 1) rfl ?_
          refine g_icmp_ne C dX10_verdictOn_61 (tgt := 70) rfl (fun q => ?_) (fun q => ?_)
          · replace h := it_f q h
            refine g_iconst C dX10_verdictOn_70 (v := 1) rfl ?_
            refine g_istore C (lv' := [(6, .int 1), (0, .ref (w_r w 286)), (1, .int x1), (2, .ref (w_r w 3)), (3, .ref (w_r w 22)), (4, .int x4), (5, .int x5), (7, .int x7)]) dX10_verdictOn_71 (by decide) rfl ?_
            refine g_iinc C (lv' := [(7, .int (x7 + 1)), (6, .int 1), (0, .ref (w_r w 286)), (1, .int x1), (2, .ref (w_r w 3)), (3, .ref (w_r w 22)), (4, .int x4), (5, .int x5)]) (v := (x7 + 1)) dX10_verdictOn_73 7 rfl rfl (by decide) rfl ?_
            refine g_goto C dX10_verdictOn_76 (tgt := 21) rfl ?_
            refine g_sub [2, 3, 4, 5, 6, 7, 1, 0] (lv' := [(0, .ref (w_r w 286)), (1, .int x1), (2, .ref (w_r w 3)), (3, .ref (w_r w 22)), (4, .int x4), (5, .int x5), (6, .int 1), (7, .int (x7 + 1))]) rfl ?_
            exact hl1 (x5, 1, (x7 + 1)) (Option.some.inj h).symm
          · replace h := it_t q h
            refine g_iconst C dX10_verdictOn_64 (v := 1) rfl ?_
            refine g_istore C (lv' := [(5, .int 1), (0, .ref (w_r w 286)), (1, .int x1), (2, .ref (w_r w 3)), (3, .ref (w_r w 22)), (4, .int x4), (6, .int x6), (7, .int x7)]) dX10_verdictOn_65 (by decide) rfl ?_
            refine g_goto C dX10_verdictOn_67 (tgt := 73) rfl ?_
            refine g_iinc C (lv' := [(7, .int (x7 + 1)), (5, .int 1), (0, .ref (w_r w 286)), (1, .int x1), (2, .ref (w_r w 3)), (3, .ref (w_r w 22)), (4, .int x4), (6, .int x6)]) (v := (x7 + 1)) dX10_verdictOn_73 7 rfl rfl (by decide) rfl ?_
            refine g_goto C dX10_verdictOn_76 (tgt := 21) rfl ?_
            refine g_sub [2, 3, 4, 5, 6, 1, 7, 0] (lv' := [(0, .ref (w_r w 286)), (1, .int x1), (2, .ref (w_r w 3)), (3, .ref (w_r w 22)), (4, .int x4), (5, .int 1), (6, .int x6), (7, .int (x7 + 1))]) rfl ?_
            exact hl1 (1, x6, (x7 + 1)) (Option.some.inj h).symm
  unfold f_R_verdictOn at h
  refine g_aload_n C dX10_verdictOn_0 0 rfl ?_
  refine g_aload_n C dX10_verdictOn_1 2 rfl ?_
  obtain ⟨d9, hc10, h⟩ := ob1_1 h
  refine g_callVv C 286 q_286 vk_R_24 hR rfl (m_R_readAdmissions C.2.2.2.2.2.2.1 hc10) rfl rfl rfl dX10_verdictOn_2 rfl rfl ?_
  refine g_aload_n C dX10_verdictOn_5 3 rfl ?_
  refine g_iload_n C dX10_verdictOn_6 1 rfl ?_
  obtain ⟨r11, hc12, h⟩ := ob1_1 h
  refine g_callVi C 22 q_22 vk_R_28 hR rfl (m_T_connectedWith C.2.2.2.2.2.2.1 hc12) rfl rfl rfl dX10_verdictOn_7 rfl rfl ?_
  refine g_istore C (lv' := [(4, .int r11), (0, .ref (w_r w 286)), (1, .int x1), (2, .ref (w_r w 3)), (3, .ref (w_r w 22))]) dX10_verdictOn_10 (by decide) rfl ?_
  refine g_iconst C dX10_verdictOn_12 (v := 0) rfl ?_
  refine g_istore C (lv' := [(5, .int 0), (4, .int r11), (0, .ref (w_r w 286)), (1, .int x1), (2, .ref (w_r w 3)), (3, .ref (w_r w 22))]) dX10_verdictOn_13 (by decide) rfl ?_
  refine g_iconst C dX10_verdictOn_15 (v := 0) rfl ?_
  refine g_istore C (lv' := [(6, .int 0), (5, .int 0), (4, .int r11), (0, .ref (w_r w 286)), (1, .int x1), (2, .ref (w_r w 3)), (3, .ref (w_r w 22))]) dX10_verdictOn_16 (by decide) rfl ?_
  refine g_iconst C dX10_verdictOn_18 (v := 0) rfl ?_
  refine g_istore C (lv' := [(7, .int 0), (6, .int 0), (5, .int 0), (4, .int r11), (0, .ref (w_r w 286)), (1, .int x1), (2, .ref (w_r w 3)), (3, .ref (w_r w 22))]) dX10_verdictOn_19 (by decide) rfl ?_
  refine g_sub [4, 5, 6, 7, 3, 2, 1, 0] (lv' := [(0, .ref (w_r w 286)), (1, .int x1), (2, .ref (w_r w 3)), (3, .ref (w_r w 22)), (4, .int r11), (5, .int 0), (6, .int 0), (7, .int 0)]) rfl ?_
  exact R21 x1 r11 0 0 0 d9 h
set_option maxHeartbeats 4000000 in
set_option maxRecDepth 100000 in
theorem m_C_doVerdictsAgree {w : wT} {l : Launch} {d : Dt} {rE : Int32} {dE : Dt} (hO : okW w) (h : f_C_doVerdictsAgree  d = some (rE, dE)) : gM w l yX11_doVerdictsAgree cX11_doVerdictsAgree 2 (Option.some Jvm.ClassFile.FieldType.boolean) 3 [.ref (w_r w 0)] d dE (some (.int rE)) := by
  refine gM_of (by decide) [(0, .ref (w_r w 0))] rfl rfl ?_ hO
  intro p e R s m args below meth c C hR hr hlk
  have R24 : ∀ (x1 : Int32) (d : Dt), f_C_doVerdictsAgree_24 x1 d = some (rE, dE) → gG w p l e R s m args below meth c 2 0 0 (gE w below args s dE (some (.int rE))) d [(0, .ref (w_r w 0)), (1, .int x1)] 24 [] := by
    intro x1 d  h
    refine iter_ind (G := fun s_ : (Int32 × Dt) => gG w p l e R s m args below meth c 2 0 0 (gE w below args s dE (some (.int rE))) s_.2 [(0, .ref (w_r w 0)), (1, .int s_.1)] 24 []) ?_ fu _ h
    clear h
    intro s_ y1 h hl1 hx1
    obtain ⟨x1, d⟩ := s_
    show gG w p l e R s m args below meth c 2 0 0 (gE w below args s dE (some (.int rE))) d [(0, .ref (w_r w 0)), (1, .int x1)] 24 []
    dsimp only at h
    unfold st_C_doVerdictsAgree_24 at h
    refine g_iload_n C dX11_doVerdictsAgree_24 1 rfl ?_
    refine g_aload_n C dX11_doVerdictsAgree_25 0 rfl ?_
    refine g_get C (.ref (w_r w 2)) 0 q_0 fk_C_10 rfl dX11_doVerdictsAgree_26 ?_
    refine g_get C (.ref (w_r w 3)) 2 q_2 fk_C_68 rfl dX11_doVerdictsAgree_29 ?_
    refine g_get C (.int (d 3 0)) 3 q_3 fk_C_183 rfl dX11_doVerdictsAgree_32 ?_
    refine g_icmp_ge C dX11_doVerdictsAgree_35 (tgt := 79) rfl (fun q => ?_) (fun q => ?_)
    · replace h := it_t q h
      replace h := ir_2 h hx1
      refine g_iconst C dX11_doVerdictsAgree_79 (v := 1) rfl ?_
      exact g_iret C hr hlk rfl (congrArg Prod.snd (Option.some.inj h)) (congrArg (fun z => some (Value.int z.1)) (Option.some.inj h)) dX11_doVerdictsAgree_80
    · replace h := it_f q h
      refine g_aload_n C dX11_doVerdictsAgree_38 0 rfl ?_
      refine g_get C (.ref (w_r w 281)) 0 q_0 fk_C_36 rfl dX11_doVerdictsAgree_39 ?_
      refine g_iload_n C dX11_doVerdictsAgree_42 1 rfl ?_
      obtain ⟨r5, hc6, h⟩ := ob1_1 h
      refine g_callVi C 281 q_281 vk_C_284 hR rfl (m_G_verdictOn C.2.2.2.2.2.2.1 hc6) rfl rfl rfl dX11_doVerdictsAgree_43 rfl rfl ?_
      refine g_aload_n C dX11_doVerdictsAgree_46 0 rfl ?_
      refine g_get C (.ref (w_r w 286)) 0 q_0 fk_C_43 rfl dX11_doVerdictsAgree_47 ?_
      refine g_iload_n C dX11_doVerdictsAgree_50 1 rfl ?_
      refine g_aload_n C dX11_doVerdictsAgree_51 0 rfl ?_
      refine g_get C (.ref (w_r w 2)) 0 q_0 fk_C_10 rfl dX11_doVerdictsAgree_52 ?_
      refine g_get C (.ref (w_r w 3)) 2 q_2 fk_C_68 rfl dX11_doVerdictsAgree_55 ?_
      refine g_aload_n C dX11_doVerdictsAgree_58 0 rfl ?_
      refine g_get C (.ref (w_r w 2)) 0 q_0 fk_C_10 rfl dX11_doVerdictsAgree_59 ?_
      refine g_get C (.ref (w_r w 22)) 2 q_2 fk_C_128 rfl dX11_doVerdictsAgree_62 ?_
      obtain ⟨r7, d8, hc9, h⟩ := ob2_1 h
      refine g_callVi C 286 q_286 vk_C_288 hR rfl (m_R_verdictOn C.2.2.2.2.2.2.1 hc9) rfl rfl rfl dX11_doVerdictsAgree_65 rfl rfl ?_
      refine g_icmp_eq C dX11_doVerdictsAgree_68 (tgt := 73) rfl (fun q => ?_) (fun q => ?_)
      · replace h := it_t q h
        refine g_iinc C (lv' := [(1, .int (x1 + 1)), (0, .ref (w_r w 0))]) (v := (x1 + 1)) dX11_doVerdictsAgree_73 1 rfl rfl (by decide) rfl ?_
        refine g_goto C dX11_doVerdictsAgree_76 (tgt := 24) rfl ?_
        refine g_sub [1, 0] (lv' := [(0, .ref (w_r w 0)), (1, .int (x1 + 1))]) rfl ?_
        exact hl1 ((x1 + 1), d8) (Option.some.inj h).symm
      · replace h := it_f q h
        replace h := ir_2 h hx1
        refine g_iconst C dX11_doVerdictsAgree_71 (v := 0) rfl ?_
        exact g_iret C hr hlk rfl (congrArg Prod.snd (Option.some.inj h)) (congrArg (fun z => some (Value.int z.1)) (Option.some.inj h)) dX11_doVerdictsAgree_72
  unfold f_C_doVerdictsAgree at h
  refine g_aload_n C dX11_doVerdictsAgree_0 0 rfl ?_
  refine g_get C (.ref (w_r w 281)) 0 q_0 fk_C_36 rfl dX11_doVerdictsAgree_1 ?_
  refine g_aload_n C dX11_doVerdictsAgree_4 0 rfl ?_
  refine g_get C (.ref (w_r w 2)) 0 q_0 fk_C_10 rfl dX11_doVerdictsAgree_5 ?_
  refine g_get C (.ref (w_r w 3)) 2 q_2 fk_C_68 rfl dX11_doVerdictsAgree_8 ?_
  refine g_aload_n C dX11_doVerdictsAgree_11 0 rfl ?_
  refine g_get C (.ref (w_r w 2)) 0 q_0 fk_C_10 rfl dX11_doVerdictsAgree_12 ?_
  refine g_get C (.ref (w_r w 22)) 2 q_2 fk_C_128 rfl dX11_doVerdictsAgree_15 ?_
  refine g_iconst C dX11_doVerdictsAgree_18 (v := (-1)) (by decide) ?_
  obtain ⟨d10, hc11, h⟩ := ob1_1 h
  refine g_callVv C 281 q_281 vk_C_262 hR rfl (m_G_find C.2.2.2.2.2.2.1 hc11) rfl rfl rfl dX11_doVerdictsAgree_19 rfl rfl ?_
  refine g_iconst C dX11_doVerdictsAgree_22 (v := 0) rfl ?_
  refine g_istore_n C (lv' := [(1, .int 0), (0, .ref (w_r w 0))]) dX11_doVerdictsAgree_23 (by decide) rfl ?_
  refine g_sub [1, 0] (lv' := [(0, .ref (w_r w 0)), (1, .int 0)]) rfl ?_
  exact R24 0 d10 h
set_option maxHeartbeats 4000000 in
set_option maxRecDepth 100000 in
theorem m_C_dropStatement {w : wT} {l : Launch} {x1 : Int32} {d : Dt} {zE : ((Int32 × Dt) ⊕ (Nat × Dt))} (hO : okW w) (hl9 : l.stackTraces = false) (h : f_C_dropStatement x1 d = some zE) : gMX w l yX11_dropStatement cX11_dropStatement 2 (Option.some Jvm.ClassFile.FieldType.int) 7 1 6 [.ref (w_r w 0), .int x1] d (oW zE) := by
  refine gMX_of (by decide) [(0, .ref (w_r w 0)), (1, .int x1)] rfl rfl ?_ hO
  intro p e R s m args below meth c C hR hr hlk hx
  unfold f_C_dropStatement at h
  refine g_aload_n C dX11_dropStatement_0 0 rfl ?_
  refine g_iload_n C dX11_dropStatement_1 1 rfl ?_
  obtain ⟨z7, hc6, h⟩ := ocU_1 h
  refine g_callVU C 1 6 0 q_0 vk_C_140 hR rfl (m_C_checkStatement C.2.2.2.2.2.2.1 hl9 hc6) rfl rfl rfl dX11_dropStatement_2 rfl rfl rfl rfl (fun e9 => ?_) (fun et4 e9 => ?_)
  · subst e9
    replace h := ocU_i h
    refine g_aload_n C dX11_dropStatement_5 0 rfl ?_
    refine g_aload_n C dX11_dropStatement_6 0 rfl ?_
    refine g_get C (.ref (w_r w 2)) 0 q_0 fk_C_10 rfl dX11_dropStatement_7 ?_
    obtain ⟨d10, hc11, h⟩ := ob1_1 h
    refine g_callVv C 0 q_0 vk_C_85 hR rfl (m_C_remember C.2.2.2.2.2.2.1 hc11) rfl rfl rfl dX11_dropStatement_10 rfl rfl ?_
    refine g_aload_n C dX11_dropStatement_13 0 rfl ?_
    refine g_get C (.ref (w_r w 2)) 0 q_0 fk_C_10 rfl dX11_dropStatement_14 ?_
    refine g_get C (.ref (w_r w 22)) 2 q_2 fk_C_128 rfl dX11_dropStatement_17 ?_
    refine g_iload_n C dX11_dropStatement_20 1 rfl ?_
    obtain ⟨r12, d13, hc14, h⟩ := ob2_1 h
    refine g_callVi C 22 q_22 vk_C_143 hR rfl (m_T_remove C.2.2.2.2.2.2.1 hc14) rfl rfl rfl dX11_dropStatement_21 rfl rfl ?_
    exact g_iretX C hr hlk rfl rfl rfl (oW_i h) dX11_dropStatement_24
  · subst e9
    replace h := ocU_t h
    exact g_prop C hx hlk rfl rfl (oW_t h)
set_option maxHeartbeats 4000000 in
set_option maxRecDepth 100000 in
theorem m_C_errorPosition {w : wT} {l : Launch} {d : Dt} {zE : (Int32 ⊕ Nat)} (hO : okW w) (hl9 : l.stackTraces = false) (h : f_C_errorPosition  d = some zE) : gMX w l yX11_errorPosition cX11_errorPosition 1 (Option.some Jvm.ClassFile.FieldType.int) 6 1 6 [.ref (w_r w 0)] d (oR d zE) := by
  refine gMX_of (by decide) [(0, .ref (w_r w 0))] rfl rfl ?_ hO
  intro p e R s m args below meth c C hR hr hlk hx
  unfold f_C_errorPosition at h
  refine g_aload_n C dX11_errorPosition_0 0 rfl ?_
  refine g_get C (.int (d 0 12)) 0 q_0 fk_C_61 rfl dX11_errorPosition_1 ?_
  refine g_iconst C dX11_errorPosition_4 (v := (-1)) (by decide) ?_
  refine g_icmp_ne C dX11_errorPosition_5 (tgt := 19) rfl (fun q => ?_) (fun q => ?_)
  · replace h := it_f q h
    refine g_aload_n C dX11_errorPosition_19 0 rfl ?_
    refine g_get C (.int (d 0 12)) 0 q_0 fk_C_61 rfl dX11_errorPosition_20 ?_
    exact g_iretX C hr hlk rfl rfl rfl (oR_i h) dX11_errorPosition_23
  · replace h := it_t q h
    exact g_throwSWy C hl9 th_C_160_164 (i := 24) (by decide) (by decide +kernel) (by decide +kernel) hx hlk hR rfl dX11_errorPosition_8 dX11_errorPosition_11 dX11_errorPosition_12 dX11_errorPosition_15 dX11_errorPosition_18 rfl rfl rfl rfl rfl (oR_t h)
set_option maxHeartbeats 4000000 in
set_option maxRecDepth 100000 in
theorem m_G_waysToExplain {w : wT} {l : Launch} {d : Dt} {rE : Int32} (hO : okW w) (h : f_G_waysToExplain  d = some rE) : gM w l yX2_waysToExplain cX2_waysToExplain 3 (Option.some Jvm.ClassFile.FieldType.int) 1 [.ref (w_r w 281)] d d (some (.int rE)) := by
  refine gM_of (by decide) [(0, .ref (w_r w 281))] rfl rfl ?_ hO
  intro p e R s m args below meth c C hR hr hlk
  have R4 : ∀ (x1 : Int32) (x2 : Int32), f_G_waysToExplain_4 x1 x2 d = some rE → gG w p l e R s m args below meth c 3 0 0 (gE w below args s d (some (.int rE))) d [(0, .ref (w_r w 281)), (1, .int x1), (2, .int x2)] 4 [] := by
    intro x1 x2   h
    refine iter_ind (G := fun s_ : (Int32 × Int32) => gG w p l e R s m args below meth c 3 0 0 (gE w below args s d (some (.int rE))) d [(0, .ref (w_r w 281)), (1, .int s_.1), (2, .int s_.2)] 4 []) ?_ fu _ h
    clear h
    intro s_ y1 h hl1 hx1
    obtain ⟨x1, x2⟩ := s_
    show gG w p l e R s m args below meth c 3 0 0 (gE w below args s d (some (.int rE))) d [(0, .ref (w_r w 281)), (1, .int x1), (2, .int x2)] 4 []
    dsimp only at h
    unfold st_G_waysToExplain_4 at h
    refine g_iload_n C dX2_waysToExplain_4 2 rfl ?_
    refine g_aload_n C dX2_waysToExplain_5 0 rfl ?_
    refine g_get C (.int (d 281 0)) 281 q_281 fk_G_31 rfl dX2_waysToExplain_6 ?_
    refine g_icmp_ge C dX2_waysToExplain_9 (tgt := 51) rfl (fun q => ?_) (fun q => ?_)
    · replace h := it_t q h
      replace h := ir_2 h hx1
      refine g_iload_n C dX2_waysToExplain_51 1 rfl ?_
      exact g_iret C hr hlk rfl rfl (congrArg (fun z => some (Value.int z)) (Option.some.inj h)) dX2_waysToExplain_52
    · replace h := it_f q h
      refine g_aload_n C dX2_waysToExplain_12 0 rfl ?_
      refine g_iload_n C dX2_waysToExplain_13 2 rfl ?_
      obtain ⟨r2, hc3, h⟩ := ob1_1 h
      refine g_callVi C 281 q_281 vk_G_55 hR rfl (m_G_isBroken C.2.2.2.2.2.2.1 hc3) rfl rfl rfl dX2_waysToExplain_14 rfl rfl ?_
      refine g_if_eq C dX2_waysToExplain_17 (tgt := 22) rfl (fun q => ?_) (fun q => ?_)
      · replace h := it_t q h
        refine g_aload_n C dX2_waysToExplain_22 0 rfl ?_
        refine g_get C (.ref (w_r w 282)) 281 q_281 fk_G_9 rfl dX2_waysToExplain_23 ?_
        refine g_iload_n C dX2_waysToExplain_26 2 rfl ?_
        have hg4 := gd_1 h
        replace h := gd_2 h
        refine g_iald C 282 q_282 hg4 _ rfl dX2_waysToExplain_27 ?_
        refine g_iload_n C dX2_waysToExplain_28 2 rfl ?_
        refine g_icmp_ne C dX2_waysToExplain_29 (tgt := 45) rfl (fun q => ?_) (fun q => ?_)
        · replace h := it_f q h
          refine g_iinc C (lv' := [(2, .int (x2 + 1)), (0, .ref (w_r w 281)), (1, .int x1)]) (v := (x2 + 1)) dX2_waysToExplain_45 2 rfl rfl (by decide) rfl ?_
          refine g_goto C dX2_waysToExplain_48 (tgt := 4) rfl ?_
          refine g_sub [1, 2, 0] (lv' := [(0, .ref (w_r w 281)), (1, .int x1), (2, .int (x2 + 1))]) rfl ?_
          exact hl1 (x1, (x2 + 1)) (Option.some.inj h).symm
        · replace h := it_t q h
          refine g_aload_n C dX2_waysToExplain_32 0 rfl ?_
          refine g_get C (.ref (w_r w 285)) 281 q_281 fk_G_22 rfl dX2_waysToExplain_33 ?_
          refine g_iload_n C dX2_waysToExplain_36 2 rfl ?_
          have hg5 := gd_1 h
          replace h := gd_2 h
          refine g_iald C 285 q_285 hg5 _ rfl dX2_waysToExplain_37 ?_
          refine g_if_ne C dX2_waysToExplain_38 (tgt := 45) rfl (fun q => ?_) (fun q => ?_)
          · replace h := it_f q h
            refine g_iinc C (lv' := [(2, .int (x2 + 1)), (0, .ref (w_r w 281)), (1, .int x1)]) (v := (x2 + 1)) dX2_waysToExplain_45 2 rfl rfl (by decide) rfl ?_
            refine g_goto C dX2_waysToExplain_48 (tgt := 4) rfl ?_
            refine g_sub [1, 2, 0] (lv' := [(0, .ref (w_r w 281)), (1, .int x1), (2, .int (x2 + 1))]) rfl ?_
            exact hl1 (x1, (x2 + 1)) (Option.some.inj h).symm
          · replace h := it_t q h
            refine g_iload_n C dX2_waysToExplain_41 1 rfl ?_
            refine g_iconst C dX2_waysToExplain_42 (v := 2) rfl ?_
            refine g_imul C dX2_waysToExplain_43  ?_
            refine g_istore_n C (lv' := [(1, .int (x1 * 2)), (0, .ref (w_r w 281)), (2, .int x2)]) dX2_waysToExplain_44 (by decide) rfl ?_
            refine g_iinc C (lv' := [(2, .int (x2 + 1)), (1, .int (x1 * 2)), (0, .ref (w_r w 281))]) (v := (x2 + 1)) dX2_waysToExplain_45 2 rfl rfl (by decide) rfl ?_
            refine g_goto C dX2_waysToExplain_48 (tgt := 4) rfl ?_
            refine g_sub [2, 1, 0] (lv' := [(0, .ref (w_r w 281)), (1, .int (x1 * 2)), (2, .int (x2 + 1))]) rfl ?_
            exact hl1 ((x1 * 2), (x2 + 1)) (Option.some.inj h).symm
      · replace h := it_f q h
        replace h := ir_2 h hx1
        refine g_iconst C dX2_waysToExplain_20 (v := 0) rfl ?_
        exact g_iret C hr hlk rfl rfl (congrArg (fun z => some (Value.int z)) (Option.some.inj h)) dX2_waysToExplain_21
  unfold f_G_waysToExplain at h
  refine g_iconst C dX2_waysToExplain_0 (v := 1) rfl ?_
  refine g_istore_n C (lv' := [(1, .int 1), (0, .ref (w_r w 281))]) dX2_waysToExplain_1 (by decide) rfl ?_
  refine g_iconst C dX2_waysToExplain_2 (v := 0) rfl ?_
  refine g_istore_n C (lv' := [(2, .int 0), (1, .int 1), (0, .ref (w_r w 281))]) dX2_waysToExplain_3 (by decide) rfl ?_
  refine g_sub [2, 1, 0] (lv' := [(0, .ref (w_r w 281)), (1, .int 1), (2, .int 0)]) rfl ?_
  exact R4 1 0 h
set_option maxHeartbeats 4000000 in
set_option maxRecDepth 100000 in
theorem m_C_explanations {w : wT} {l : Launch} {d : Dt} {rE : Int32} {dE : Dt} (hO : okW w) (h : f_C_explanations  d = some (rE, dE)) : gM w l yX11_explanations cX11_explanations 1 (Option.some Jvm.ClassFile.FieldType.int) 2 [.ref (w_r w 0)] d dE (some (.int rE)) := by
  refine gM_of (by decide) [(0, .ref (w_r w 0))] rfl rfl ?_ hO
  intro p e R s m args below meth c C hR hr hlk
  unfold f_C_explanations at h
  refine g_aload_n C dX11_explanations_0 0 rfl ?_
  refine g_get C (.ref (w_r w 281)) 0 q_0 fk_C_36 rfl dX11_explanations_1 ?_
  refine g_aload_n C dX11_explanations_4 0 rfl ?_
  refine g_get C (.ref (w_r w 2)) 0 q_0 fk_C_10 rfl dX11_explanations_5 ?_
  refine g_get C (.ref (w_r w 3)) 2 q_2 fk_C_68 rfl dX11_explanations_8 ?_
  refine g_aload_n C dX11_explanations_11 0 rfl ?_
  refine g_get C (.ref (w_r w 2)) 0 q_0 fk_C_10 rfl dX11_explanations_12 ?_
  refine g_get C (.ref (w_r w 22)) 2 q_2 fk_C_128 rfl dX11_explanations_15 ?_
  refine g_iconst C dX11_explanations_18 (v := (-1)) (by decide) ?_
  obtain ⟨d3, hc4, h⟩ := ob1_1 h
  refine g_callVv C 281 q_281 vk_C_262 hR rfl (m_G_find C.2.2.2.2.2.2.1 hc4) rfl rfl rfl dX11_explanations_19 rfl rfl ?_
  refine g_aload_n C dX11_explanations_22 0 rfl ?_
  refine g_get C (.ref (w_r w 281)) 0 q_0 fk_C_36 rfl dX11_explanations_23 ?_
  obtain ⟨r5, hc6, h⟩ := ob1_1 h
  refine g_callVi C 281 q_281 vk_C_291 hR rfl (m_G_waysToExplain C.2.2.2.2.2.2.1 hc6) rfl rfl rfl dX11_explanations_26 rfl rfl ?_
  exact g_iret C hr hlk rfl (congrArg Prod.snd (Option.some.inj h)) (congrArg (fun z => some (Value.int z.1)) (Option.some.inj h)) dX11_explanations_29
set_option maxHeartbeats 4000000 in
set_option maxRecDepth 100000 in
theorem m_R_countPossible {w : wT} {l : Launch} {d : Dt} {rE : Int32} {dE : Dt} (hO : okW w) (h : f_R_countPossible  d = some (rE, dE)) : gM w l yX10_countPossible cX10_countPossible 5 (Option.some Jvm.ClassFile.FieldType.int) 2 [.ref (w_r w 286), .ref (w_r w 3), .ref (w_r w 22)] d dE (some (.int rE)) := by
  refine gM_of (by decide) [(0, .ref (w_r w 286)), (1, .ref (w_r w 3)), (2, .ref (w_r w 22))] rfl rfl ?_ hO
  intro p e R s m args below meth c C hR hr hlk
  have R10 : ∀ (x3 : Int32) (x4 : Int32) (d : Dt), f_R_countPossible_10 x3 x4 d = some (rE, dE) → gG w p l e R s m args below meth c 5 0 0 (gE w below args s dE (some (.int rE))) d [(0, .ref (w_r w 286)), (1, .ref (w_r w 3)), (2, .ref (w_r w 22)), (3, .int x3), (4, .int x4)] 10 [] := by
    intro x3 x4 d  h
    refine iter_ind (G := fun s_ : (Int32 × Int32) => gG w p l e R s m args below meth c 5 0 0 (gE w below args s dE (some (.int rE))) d [(0, .ref (w_r w 286)), (1, .ref (w_r w 3)), (2, .ref (w_r w 22)), (3, .int s_.1), (4, .int s_.2)] 10 []) ?_ fu _ h
    clear h
    intro s_ y1 h hl1 hx1
    obtain ⟨x3, x4⟩ := s_
    show gG w p l e R s m args below meth c 5 0 0 (gE w below args s dE (some (.int rE))) d [(0, .ref (w_r w 286)), (1, .ref (w_r w 3)), (2, .ref (w_r w 22)), (3, .int x3), (4, .int x4)] 10 []
    dsimp only at h
    unfold st_R_countPossible_10 at h
    refine g_iload C dX10_countPossible_10 4 rfl ?_
    refine g_iconst C dX10_countPossible_12 (v := 1) rfl ?_
    refine g_aload_n C dX10_countPossible_13 1 rfl ?_
    refine g_get C (.int (d 3 0)) 3 q_3 fk_R_33 rfl dX10_countPossible_14 ?_
    refine g_ishl C dX10_countPossible_17  ?_
    refine g_icmp_ge C dX10_countPossible_18 (tgt := 50) rfl (fun q => ?_) (fun q => ?_)
    · replace h := it_t q h
      replace h := ir_2 h hx1
      refine g_iload_n C dX10_countPossible_50 3 rfl ?_
      exact g_iret C hr hlk rfl (congrArg Prod.snd (Option.some.inj h)) (congrArg (fun z => some (Value.int z.1)) (Option.some.inj h)) dX10_countPossible_51
    · replace h := it_f q h
      refine g_aload_n C dX10_countPossible_21 0 rfl ?_
      refine g_iconst C dX10_countPossible_22 (v := (-1)) (by decide) ?_
      refine g_iload C dX10_countPossible_23 4 rfl ?_
      obtain ⟨r4, hc5, h⟩ := ob1_1 h
      refine g_callVi C 286 q_286 vk_R_36 hR rfl (m_R_keepsAdmissions C.2.2.2.2.2.2.1 hc5) rfl rfl rfl dX10_countPossible_25 rfl rfl ?_
      refine g_if_eq C dX10_countPossible_28 (tgt := 44) rfl (fun q => ?_) (fun q => ?_)
      · replace h := it_t q h
        refine g_iinc C (lv' := [(4, .int (x4 + 1)), (0, .ref (w_r w 286)), (1, .ref (w_r w 3)), (2, .ref (w_r w 22)), (3, .int x3)]) (v := (x4 + 1)) dX10_countPossible_44 4 rfl rfl (by decide) rfl ?_
        refine g_goto C dX10_countPossible_47 (tgt := 10) rfl ?_
        refine g_sub [1, 2, 3, 4, 0] (lv' := [(0, .ref (w_r w 286)), (1, .ref (w_r w 3)), (2, .ref (w_r w 22)), (3, .int x3), (4, .int (x4 + 1))]) rfl ?_
        exact hl1 (x3, (x4 + 1)) (Option.some.inj h).symm
      · replace h := it_f q h
        refine g_aload_n C dX10_countPossible_31 2 rfl ?_
        refine g_iconst C dX10_countPossible_32 (v := (-1)) (by decide) ?_
        refine g_iload C dX10_countPossible_33 4 rfl ?_
        obtain ⟨r6, hc7, h⟩ := ob1_1 h
        refine g_callVi C 22 q_22 vk_R_40 hR rfl (m_T_countFalse C.2.2.2.2.2.2.1 hc7) rfl rfl rfl dX10_countPossible_35 rfl rfl ?_
        refine g_if_ne C dX10_countPossible_38 (tgt := 44) rfl (fun q => ?_) (fun q => ?_)
        · replace h := it_f q h
          refine g_iinc C (lv' := [(4, .int (x4 + 1)), (0, .ref (w_r w 286)), (1, .ref (w_r w 3)), (2, .ref (w_r w 22)), (3, .int x3)]) (v := (x4 + 1)) dX10_countPossible_44 4 rfl rfl (by decide) rfl ?_
          refine g_goto C dX10_countPossible_47 (tgt := 10) rfl ?_
          refine g_sub [1, 2, 3, 4, 0] (lv' := [(0, .ref (w_r w 286)), (1, .ref (w_r w 3)), (2, .ref (w_r w 22)), (3, .int x3), (4, .int (x4 + 1))]) rfl ?_
          exact hl1 (x3, (x4 + 1)) (Option.some.inj h).symm
        · replace h := it_t q h
          refine g_iinc C (lv' := [(3, .int (x3 + 1)), (0, .ref (w_r w 286)), (1, .ref (w_r w 3)), (2, .ref (w_r w 22)), (4, .int x4)]) (v := (x3 + 1)) dX10_countPossible_41 3 rfl rfl (by decide) rfl ?_
          refine g_iinc C (lv' := [(4, .int (x4 + 1)), (3, .int (x3 + 1)), (0, .ref (w_r w 286)), (1, .ref (w_r w 3)), (2, .ref (w_r w 22))]) (v := (x4 + 1)) dX10_countPossible_44 4 rfl rfl (by decide) rfl ?_
          refine g_goto C dX10_countPossible_47 (tgt := 10) rfl ?_
          refine g_sub [2, 3, 4, 1, 0] (lv' := [(0, .ref (w_r w 286)), (1, .ref (w_r w 3)), (2, .ref (w_r w 22)), (3, .int (x3 + 1)), (4, .int (x4 + 1))]) rfl ?_
          exact hl1 ((x3 + 1), (x4 + 1)) (Option.some.inj h).symm
  unfold f_R_countPossible at h
  refine g_aload_n C dX10_countPossible_0 0 rfl ?_
  refine g_aload_n C dX10_countPossible_1 1 rfl ?_
  obtain ⟨d8, hc9, h⟩ := ob1_1 h
  refine g_callVv C 286 q_286 vk_R_24 hR rfl (m_R_readAdmissions C.2.2.2.2.2.2.1 hc9) rfl rfl rfl dX10_countPossible_2 rfl rfl ?_
  refine g_iconst C dX10_countPossible_5 (v := 0) rfl ?_
  refine g_istore_n C (lv' := [(3, .int 0), (0, .ref (w_r w 286)), (1, .ref (w_r w 3)), (2, .ref (w_r w 22))]) dX10_countPossible_6 (by decide) rfl ?_
  refine g_iconst C dX10_countPossible_7 (v := 0) rfl ?_
  refine g_istore C (lv' := [(4, .int 0), (3, .int 0), (0, .ref (w_r w 286)), (1, .ref (w_r w 3)), (2, .ref (w_r w 22))]) dX10_countPossible_8 (by decide) rfl ?_
  refine g_sub [2, 3, 4, 1, 0] (lv' := [(0, .ref (w_r w 286)), (1, .ref (w_r w 3)), (2, .ref (w_r w 22)), (3, .int 0), (4, .int 0)]) rfl ?_
  exact R10 0 0 d8 h
set_option maxHeartbeats 4000000 in
set_option maxRecDepth 100000 in
theorem m_C_explanationsByTrial {w : wT} {l : Launch} {d : Dt} {rE : Int32} {dE : Dt} (hO : okW w) (h : f_C_explanationsByTrial  d = some (rE, dE)) : gM w l yX11_explanationsByTrial cX11_explanationsByTrial 1 (Option.some Jvm.ClassFile.FieldType.int) 3 [.ref (w_r w 0)] d dE (some (.int rE)) := by
  refine gM_of (by decide) [(0, .ref (w_r w 0))] rfl rfl ?_ hO
  intro p e R s m args below meth c C hR hr hlk
  unfold f_C_explanationsByTrial at h
  refine g_aload_n C dX11_explanationsByTrial_0 0 rfl ?_
  refine g_get C (.ref (w_r w 286)) 0 q_0 fk_C_43 rfl dX11_explanationsByTrial_1 ?_
  refine g_aload_n C dX11_explanationsByTrial_4 0 rfl ?_
  refine g_get C (.ref (w_r w 2)) 0 q_0 fk_C_10 rfl dX11_explanationsByTrial_5 ?_
  refine g_get C (.ref (w_r w 3)) 2 q_2 fk_C_68 rfl dX11_explanationsByTrial_8 ?_
  refine g_aload_n C dX11_explanationsByTrial_11 0 rfl ?_
  refine g_get C (.ref (w_r w 2)) 0 q_0 fk_C_10 rfl dX11_explanationsByTrial_12 ?_
  refine g_get C (.ref (w_r w 22)) 2 q_2 fk_C_128 rfl dX11_explanationsByTrial_15 ?_
  obtain ⟨r3, d4, hc5, h⟩ := ob2_1 h
  refine g_callVi C 286 q_286 vk_C_294 hR rfl (m_R_countPossible C.2.2.2.2.2.2.1 hc5) rfl rfl rfl dX11_explanationsByTrial_18 rfl rfl ?_
  exact g_iret C hr hlk rfl (congrArg Prod.snd (Option.some.inj h)) (congrArg (fun z => some (Value.int z.1)) (Option.some.inj h)) dX11_explanationsByTrial_21
set_option maxHeartbeats 4000000 in
set_option maxRecDepth 100000 in
theorem m_C_failedCommand {w : wT} {l : Launch} {d : Dt} {zE : (Int32 ⊕ Nat)} (hO : okW w) (hl9 : l.stackTraces = false) (h : f_C_failedCommand  d = some zE) : gMX w l yX11_failedCommand cX11_failedCommand 1 (Option.some Jvm.ClassFile.FieldType.int) 6 1 6 [.ref (w_r w 0)] d (oR d zE) := by
  refine gMX_of (by decide) [(0, .ref (w_r w 0))] rfl rfl ?_ hO
  intro p e R s m args below meth c C hR hr hlk hx
  unfold f_C_failedCommand at h
  refine g_aload_n C dX11_failedCommand_0 0 rfl ?_
  refine g_get C (.int (d 0 13)) 0 q_0 fk_C_65 rfl dX11_failedCommand_1 ?_
  refine g_iconst C dX11_failedCommand_4 (v := (-1)) (by decide) ?_
  refine g_icmp_ne C dX11_failedCommand_5 (tgt := 19) rfl (fun q => ?_) (fun q => ?_)
  · replace h := it_f q h
    refine g_aload_n C dX11_failedCommand_19 0 rfl ?_
    refine g_get C (.int (d 0 13)) 0 q_0 fk_C_65 rfl dX11_failedCommand_20 ?_
    exact g_iretX C hr hlk rfl rfl rfl (oR_i h) dX11_failedCommand_23
  · replace h := it_t q h
    exact g_throwSWy C hl9 th_C_160_164 (i := 25) (by decide) (by decide +kernel) (by decide +kernel) hx hlk hR rfl dX11_failedCommand_8 dX11_failedCommand_11 dX11_failedCommand_12 dX11_failedCommand_15 dX11_failedCommand_18 rfl rfl rfl rfl rfl (oR_t h)
set_option maxHeartbeats 4000000 in
set_option maxRecDepth 100000 in
theorem m_C_fee {w : wT} {l : Launch} {x1 : Int32} {d : Dt} {zE : (Int32 ⊕ Nat)} (hO : okW w) (hl9 : l.stackTraces = false) (h : f_C_fee x1 d = some zE) : gMX w l yX11_fee cX11_fee 2 (Option.some Jvm.ClassFile.FieldType.int) 7 1 6 [.ref (w_r w 0), .int x1] d (oR d zE) := by
  refine gMX_of (by decide) [(0, .ref (w_r w 0)), (1, .int x1)] rfl rfl ?_ hO
  intro p e R s m args below meth c C hR hr hlk hx
  unfold f_C_fee at h
  refine g_aload_n C dX11_fee_0 0 rfl ?_
  refine g_get C (.ref (w_r w 2)) 0 q_0 fk_C_10 rfl dX11_fee_1 ?_
  refine g_get C (.ref (w_r w 16)) 2 q_2 fk_C_108 rfl dX11_fee_4 ?_
  refine g_get C (.ref (w_r w 20)) 16 q_16 fk_C_226 rfl dX11_fee_7 ?_
  refine g_aload_n C dX11_fee_10 0 rfl ?_
  refine g_iload_n C dX11_fee_11 1 rfl ?_
  obtain ⟨z6, hc5, h⟩ := ocR_1 h
  refine g_callVR C 1 6 0 q_0 vk_C_119 hR rfl (m_C_checkedBrief C.2.2.2.2.2.2.1 hl9 hc5) rfl rfl rfl dX11_fee_12 rfl rfl rfl rfl (fun r3 e8 => ?_) (fun et3 e8 => ?_)
  · subst e8
    replace h := ocR_i h
    have hg9 := gd_1 h
    replace h := gd_2 h
    refine g_iald C 20 q_20 hg9 _ rfl dX11_fee_15 ?_
    exact g_iretX C hr hlk rfl rfl rfl (oR_i h) dX11_fee_16
  · subst e8
    replace h := ocR_t h
    exact g_prop C hx hlk rfl rfl (oR_t h)
set_option maxHeartbeats 4000000 in
set_option maxRecDepth 100000 in
theorem m_I_isFull {w : wT} {l : Launch} {d : Dt} {rE : Int32} (hO : okW w) (h : f_I_isFull  d = some rE) : gM w l yX3_isFull cX3_isFull 1 (Option.some Jvm.ClassFile.FieldType.boolean) 0 [.ref (w_r w 287)] d d (some (.int rE)) := by
  refine gM_of (by decide) [(0, .ref (w_r w 287))] rfl rfl ?_ hO
  intro p e R s m args below meth c C hR hr hlk
  unfold f_I_isFull at h
  refine g_aload_n C dX3_isFull_0 0 rfl ?_
  refine g_get C (.int (d 287 1)) 287 q_287 fk_I_28 rfl dX3_isFull_1 ?_
  refine g_bipush C dX3_isFull_4 (v := 60) (by decide) ?_
  refine g_icmp_lt C dX3_isFull_6 (tgt := 13) rfl (fun q => ?_) (fun q => ?_)
  · replace h := it_t q h
    refine g_iconst C dX3_isFull_13 (v := 0) rfl ?_
    exact g_iret C hr hlk rfl rfl (congrArg (fun z => some (Value.int z)) (Option.some.inj h)) dX3_isFull_14
  · replace h := it_f q h
    refine g_iconst C dX3_isFull_9 (v := 1) rfl ?_
    refine g_goto C dX3_isFull_10 (tgt := 14) rfl ?_
    exact g_iret C hr hlk rfl rfl (congrArg (fun z => some (Value.int z)) (Option.some.inj h)) dX3_isFull_14
set_option maxHeartbeats 4000000 in
set_option maxRecDepth 100000 in
theorem m_I_append {w : wT} {l : Launch} {x1 : Int32} {d : Dt} {rE : Int32} {dE : Dt} (hO : okW w) (h : f_I_append x1 d = some (rE, dE)) : gM w l yX3_append cX3_append 2 (Option.some Jvm.ClassFile.FieldType.int) 0 [.ref (w_r w 287), .int x1] d dE (some (.int rE)) := by
  refine gM_of (by decide) [(0, .ref (w_r w 287)), (1, .int x1)] rfl rfl ?_ hO
  intro p e R s m args below meth c C hR hr hlk
  unfold f_I_append at h
  refine g_aload_n C dX3_append_0 0 rfl ?_
  refine g_get C (.ref (w_r w 288)) 287 q_287 fk_I_9 rfl dX3_append_1 ?_
  refine g_aload_n C dX3_append_4 0 rfl ?_
  refine g_get C (.int (d 287 1)) 287 q_287 fk_I_28 rfl dX3_append_5 ?_
  refine g_iload_n C dX3_append_8 1 rfl ?_
  have hg3 := gd_1 h
  replace h := gd_2 h
  have hg4 := gd_1 h
  replace h := gd_2 h
  refine g_cast C 288 q_288 hg3 _ rfl (nar_v hg4) dX3_append_9 ?_
  obtain ⟨d5, hd5, h⟩ := bnd_1 h
  refine g_nmD hd5 ?_
  refine g_aload_n C dX3_append_10 0 rfl ?_
  refine g_dup C dX3_append_11 rfl ?_
  refine g_get C (.int (d5 287 1)) 287 q_287 fk_I_28 rfl dX3_append_12 ?_
  refine g_iconst C dX3_append_15 (v := 1) rfl ?_
  refine g_iadd C dX3_append_16  ?_
  refine g_put C 287 q_287 pk_I_28 rfl rfl dX3_append_17 ?_
  obtain ⟨d6, hd6, h⟩ := bnd_1 h
  refine g_nmD hd6 ?_
  refine g_aload_n C dX3_append_20 0 rfl ?_
  refine g_get C (.int (d6 287 1)) 287 q_287 fk_I_28 rfl dX3_append_21 ?_
  exact g_iret C hr hlk rfl (congrArg Prod.snd (Option.some.inj h)) (congrArg (fun z => some (Value.int z.1)) (Option.some.inj h)) dX3_append_24
set_option maxHeartbeats 4000000 in
set_option maxRecDepth 100000 in
theorem m_C_feed {w : wT} {l : Launch} {x1 : Int32} {d : Dt} {zE : ((Int32 × Dt) ⊕ (Nat × Dt))} (hO : okW w) (hl9 : l.stackTraces = false) (h : f_C_feed x1 d = some zE) : gMX w l yX11_feed cX11_feed 2 (Option.some Jvm.ClassFile.FieldType.int) 6 1 6 [.ref (w_r w 0), .int x1] d (oW zE) := by
  refine gMX_of (by decide) [(0, .ref (w_r w 0)), (1, .int x1)] rfl rfl ?_ hO
  intro p e R s m args below meth c C hR hr hlk hx
  unfold f_C_feed at h
  refine g_aload_n C dX11_feed_0 0 rfl ?_
  refine g_get C (.ref (w_r w 287)) 0 q_0 fk_C_50 rfl dX11_feed_1 ?_
  obtain ⟨r4, hc5, h⟩ := ob1_1 h
  refine g_callVi C 287 q_287 vk_C_360 hR rfl (m_I_isFull C.2.2.2.2.2.2.1 hc5) rfl rfl rfl dX11_feed_4 rfl rfl ?_
  refine g_if_eq C dX11_feed_7 (tgt := 21) rfl (fun q => ?_) (fun q => ?_)
  · replace h := it_t q h
    refine g_aload_n C dX11_feed_21 0 rfl ?_
    refine g_get C (.ref (w_r w 287)) 0 q_0 fk_C_50 rfl dX11_feed_22 ?_
    refine g_iload_n C dX11_feed_25 1 rfl ?_
    obtain ⟨r6, d7, hc8, h⟩ := ob2_1 h
    refine g_callVi C 287 q_287 vk_C_363 hR rfl (m_I_append C.2.2.2.2.2.2.1 hc8) rfl rfl rfl dX11_feed_26 rfl rfl ?_
    exact g_iretX C hr hlk rfl rfl rfl (oW_i h) dX11_feed_29
  · replace h := it_f q h
    exact g_throwSW C hl9 th_C_78_82 (i := 21) (by decide) (by decide +kernel) (by decide +kernel) hx hlk hR rfl dX11_feed_10 dX11_feed_13 dX11_feed_14 dX11_feed_17 dX11_feed_20 rfl rfl rfl rfl rfl (oW_t h)
set_option maxHeartbeats 4000000 in
set_option maxRecDepth 100000 in
theorem m_C_file {w : wT} {l : Launch} {x1 x2 x3 x4 : Int32} {d : Dt} {zE : ((Int32 × Dt) ⊕ (Nat × Dt))} (hO : okW w) (hl9 : l.stackTraces = false) (h : f_C_file x1 x2 x3 x4 d = some zE) : gMX w l yX11_file cX11_file 5 (Option.some Jvm.ClassFile.FieldType.int) 7 2 12 [.ref (w_r w 0), .int x1, .int x2, .int x3, .int x4] d (oW zE) := by
  refine gMX_of (by decide) [(0, .ref (w_r w 0)), (1, .int x1), (2, .int x2), (3, .int x3), (4, .int x4)] rfl rfl ?_ hO
  intro p e R s m args below meth c C hR hr hlk hx
  unfold f_C_file at h
  refine g_aload_n C dX11_file_0 0 rfl ?_
  refine g_iload_n C dX11_file_1 1 rfl ?_
  obtain ⟨z9, hc8, h⟩ := ocU_1 h
  refine g_callVU C 1 6 0 q_0 vk_C_93 hR rfl (m_C_checkLantern C.2.2.2.2.2.2.1 hl9 hc8) rfl rfl rfl dX11_file_2 rfl rfl rfl rfl (fun e11 => ?_) (fun et6 e11 => ?_)
  · subst e11
    replace h := ocU_i h
    refine g_iload_n C dX11_file_5 2 rfl ?_
    refine g_iload_n C dX11_file_6 3 rfl ?_
    refine g_iload C dX11_file_7 4 rfl ?_
    obtain ⟨r12, hc13, h⟩ := ob1_1 h
    refine g_callSi C sk_C_97 hR rfl (m_B_isInRange C.2.2.2.2.2.2.1 hc13) rfl rfl rfl dX11_file_9 rfl rfl ?_
    refine g_if_ne C dX11_file_12 (tgt := 25) rfl (fun q => ?_) (fun q => ?_)
    · replace h := it_f q h
      refine g_aload_n C dX11_file_25 0 rfl ?_
      refine g_get C (.ref (w_r w 2)) 0 q_0 fk_C_10 rfl dX11_file_26 ?_
      refine g_get C (.ref (w_r w 16)) 2 q_2 fk_C_108 rfl dX11_file_29 ?_
      obtain ⟨r14, hc15, h⟩ := ob1_1 h
      refine g_callVi C 16 q_16 vk_C_112 hR rfl (m_B_isFull C.2.2.2.2.2.2.1 hc15) rfl rfl rfl dX11_file_32 rfl rfl ?_
      refine g_if_eq C dX11_file_35 (tgt := 48) rfl (fun q => ?_) (fun q => ?_)
      · replace h := it_t q h
        refine g_aload_n C dX11_file_48 0 rfl ?_
        refine g_aload_n C dX11_file_49 0 rfl ?_
        refine g_get C (.ref (w_r w 2)) 0 q_0 fk_C_10 rfl dX11_file_50 ?_
        obtain ⟨d16, hc17, h⟩ := ob1_1 h
        refine g_callVv C 0 q_0 vk_C_85 hR rfl (m_C_remember C.2.2.2.2.2.2.1 hc17) rfl rfl rfl dX11_file_53 rfl rfl ?_
        refine g_aload_n C dX11_file_56 0 rfl ?_
        refine g_get C (.ref (w_r w 2)) 0 q_0 fk_C_10 rfl dX11_file_57 ?_
        refine g_iload_n C dX11_file_60 1 rfl ?_
        refine g_iload_n C dX11_file_61 2 rfl ?_
        refine g_iload_n C dX11_file_62 3 rfl ?_
        refine g_iload C dX11_file_63 4 rfl ?_
        obtain ⟨r18, d19, hc20, h⟩ := ob2_1 h
        refine g_callVi C 2 q_2 vk_C_115 hR rfl (m_S_takeBrief C.2.2.2.2.2.2.1 hc20) rfl rfl rfl dX11_file_65 rfl rfl ?_
        exact g_iretX C hr hlk rfl rfl rfl (oW_i h) dX11_file_68
      · replace h := it_f q h
        exact g_throwS C hl9 th_C_78_82 (i := 3) (by decide) (by decide +kernel) (by decide +kernel) hx hlk hR rfl dX11_file_38 dX11_file_41 dX11_file_42 dX11_file_44 dX11_file_47 rfl rfl rfl rfl rfl (oW_t h)
    · replace h := it_t q h
      exact g_throwS C hl9 th_C_103_107 (i := 2) (by decide) (by decide +kernel) (by decide +kernel) hx hlk hR rfl dX11_file_15 dX11_file_18 dX11_file_19 dX11_file_21 dX11_file_24 rfl rfl rfl rfl rfl (oW_t h)
  · subst e11
    replace h := ocU_t h
    exact g_prop C hx hlk rfl rfl (oW_t h)
set_option maxHeartbeats 4000000 in
set_option maxRecDepth 100000 in
theorem m_C_firstOf {w : wT} {l : Launch} {x1 : Int32} {d : Dt} {zE : (Int32 ⊕ Nat)} (hO : okW w) (hl9 : l.stackTraces = false) (h : f_C_firstOf x1 d = some zE) : gMX w l yX11_firstOf cX11_firstOf 2 (Option.some Jvm.ClassFile.FieldType.int) 7 1 6 [.ref (w_r w 0), .int x1] d (oR d zE) := by
  refine gMX_of (by decide) [(0, .ref (w_r w 0)), (1, .int x1)] rfl rfl ?_ hO
  intro p e R s m args below meth c C hR hr hlk hx
  unfold f_C_firstOf at h
  refine g_aload_n C dX11_firstOf_0 0 rfl ?_
  refine g_iload_n C dX11_firstOf_1 1 rfl ?_
  obtain ⟨z4, hc3, h⟩ := ocU_1 h
  refine g_callVU C 1 6 0 q_0 vk_C_140 hR rfl (m_C_checkStatement C.2.2.2.2.2.2.1 hl9 hc3) rfl rfl rfl dX11_firstOf_2 rfl rfl rfl rfl (fun e6 => ?_) (fun et1 e6 => ?_)
  · subst e6
    replace h := ocU_i h
    refine g_aload_n C dX11_firstOf_5 0 rfl ?_
    refine g_get C (.ref (w_r w 2)) 0 q_0 fk_C_10 rfl dX11_firstOf_6 ?_
    refine g_get C (.ref (w_r w 22)) 2 q_2 fk_C_128 rfl dX11_firstOf_9 ?_
    refine g_get C (.ref (w_r w 23)) 22 q_22 fk_C_252 rfl dX11_firstOf_12 ?_
    refine g_iload_n C dX11_firstOf_15 1 rfl ?_
    have hg7 := gd_1 h
    replace h := gd_2 h
    refine g_iald C 23 q_23 hg7 _ rfl dX11_firstOf_16 ?_
    exact g_iretX C hr hlk rfl rfl rfl (oR_i h) dX11_firstOf_17
  · subst e6
    replace h := ocU_t h
    exact g_prop C hx hlk rfl rfl (oR_t h)
set_option maxHeartbeats 4000000 in
set_option maxRecDepth 100000 in
theorem m_G_countGroups {w : wT} {l : Launch} {d : Dt} {rE : Int32} (hO : okW w) (h : f_G_countGroups  d = some rE) : gM w l yX2_countGroups cX2_countGroups 3 (Option.some Jvm.ClassFile.FieldType.int) 0 [.ref (w_r w 281)] d d (some (.int rE)) := by
  refine gM_of (by decide) [(0, .ref (w_r w 281))] rfl rfl ?_ hO
  intro p e R s m args below meth c C hR hr hlk
  have R4 : ∀ (x1 : Int32) (x2 : Int32), f_G_countGroups_4 x1 x2 d = some rE → gG w p l e R s m args below meth c 3 0 0 (gE w below args s d (some (.int rE))) d [(0, .ref (w_r w 281)), (1, .int x1), (2, .int x2)] 4 [] := by
    intro x1 x2   h
    refine iter_ind (G := fun s_ : (Int32 × Int32) => gG w p l e R s m args below meth c 3 0 0 (gE w below args s d (some (.int rE))) d [(0, .ref (w_r w 281)), (1, .int s_.1), (2, .int s_.2)] 4 []) ?_ fu _ h
    clear h
    intro s_ y1 h hl1 hx1
    obtain ⟨x1, x2⟩ := s_
    show gG w p l e R s m args below meth c 3 0 0 (gE w below args s d (some (.int rE))) d [(0, .ref (w_r w 281)), (1, .int x1), (2, .int x2)] 4 []
    dsimp only at h
    unfold st_G_countGroups_4 at h
    refine g_iload_n C dX2_countGroups_4 2 rfl ?_
    refine g_aload_n C dX2_countGroups_5 0 rfl ?_
    refine g_get C (.int (d 281 0)) 281 q_281 fk_G_31 rfl dX2_countGroups_6 ?_
    refine g_icmp_ge C dX2_countGroups_9 (tgt := 31) rfl (fun q => ?_) (fun q => ?_)
    · replace h := it_t q h
      replace h := ir_2 h hx1
      refine g_iload_n C dX2_countGroups_31 1 rfl ?_
      exact g_iret C hr hlk rfl rfl (congrArg (fun z => some (Value.int z)) (Option.some.inj h)) dX2_countGroups_32
    · replace h := it_f q h
      refine g_aload_n C dX2_countGroups_12 0 rfl ?_
      refine g_get C (.ref (w_r w 282)) 281 q_281 fk_G_9 rfl dX2_countGroups_13 ?_
      refine g_iload_n C dX2_countGroups_16 2 rfl ?_
      have hg1 := gd_1 h
      replace h := gd_2 h
      refine g_iald C 282 q_282 hg1 _ rfl dX2_countGroups_17 ?_
      refine g_iload_n C dX2_countGroups_18 2 rfl ?_
      refine g_icmp_ne C dX2_countGroups_19 (tgt := 25) rfl (fun q => ?_) (fun q => ?_)
      · replace h := it_f q h
        refine g_iinc C (lv' := [(2, .int (x2 + 1)), (0, .ref (w_r w 281)), (1, .int x1)]) (v := (x2 + 1)) dX2_countGroups_25 2 rfl rfl (by decide) rfl ?_
        refine g_goto C dX2_countGroups_28 (tgt := 4) rfl ?_
        refine g_sub [1, 2, 0] (lv' := [(0, .ref (w_r w 281)), (1, .int x1), (2, .int (x2 + 1))]) rfl ?_
        exact hl1 (x1, (x2 + 1)) (Option.some.inj h).symm
      · replace h := it_t q h
        refine g_iinc C (lv' := [(1, .int (x1 + 1)), (0, .ref (w_r w 281)), (2, .int x2)]) (v := (x1 + 1)) dX2_countGroups_22 1 rfl rfl (by decide) rfl ?_
        refine g_iinc C (lv' := [(2, .int (x2 + 1)), (1, .int (x1 + 1)), (0, .ref (w_r w 281))]) (v := (x2 + 1)) dX2_countGroups_25 2 rfl rfl (by decide) rfl ?_
        refine g_goto C dX2_countGroups_28 (tgt := 4) rfl ?_
        refine g_sub [2, 1, 0] (lv' := [(0, .ref (w_r w 281)), (1, .int (x1 + 1)), (2, .int (x2 + 1))]) rfl ?_
        exact hl1 ((x1 + 1), (x2 + 1)) (Option.some.inj h).symm
  unfold f_G_countGroups at h
  refine g_iconst C dX2_countGroups_0 (v := 0) rfl ?_
  refine g_istore_n C (lv' := [(1, .int 0), (0, .ref (w_r w 281))]) dX2_countGroups_1 (by decide) rfl ?_
  refine g_iconst C dX2_countGroups_2 (v := 0) rfl ?_
  refine g_istore_n C (lv' := [(2, .int 0), (1, .int 0), (0, .ref (w_r w 281))]) dX2_countGroups_3 (by decide) rfl ?_
  refine g_sub [2, 1, 0] (lv' := [(0, .ref (w_r w 281)), (1, .int 0), (2, .int 0)]) rfl ?_
  exact R4 0 0 h
set_option maxHeartbeats 4000000 in
set_option maxRecDepth 100000 in
theorem m_C_groupCount {w : wT} {l : Launch} {d : Dt} {rE : Int32} {dE : Dt} (hO : okW w) (h : f_C_groupCount  d = some (rE, dE)) : gM w l yX11_groupCount cX11_groupCount 1 (Option.some Jvm.ClassFile.FieldType.int) 2 [.ref (w_r w 0)] d dE (some (.int rE)) := by
  refine gM_of (by decide) [(0, .ref (w_r w 0))] rfl rfl ?_ hO
  intro p e R s m args below meth c C hR hr hlk
  unfold f_C_groupCount at h
  refine g_aload_n C dX11_groupCount_0 0 rfl ?_
  refine g_get C (.ref (w_r w 281)) 0 q_0 fk_C_36 rfl dX11_groupCount_1 ?_
  refine g_aload_n C dX11_groupCount_4 0 rfl ?_
  refine g_get C (.ref (w_r w 2)) 0 q_0 fk_C_10 rfl dX11_groupCount_5 ?_
  refine g_get C (.ref (w_r w 3)) 2 q_2 fk_C_68 rfl dX11_groupCount_8 ?_
  refine g_aload_n C dX11_groupCount_11 0 rfl ?_
  refine g_get C (.ref (w_r w 2)) 0 q_0 fk_C_10 rfl dX11_groupCount_12 ?_
  refine g_get C (.ref (w_r w 22)) 2 q_2 fk_C_128 rfl dX11_groupCount_15 ?_
  refine g_iconst C dX11_groupCount_18 (v := (-1)) (by decide) ?_
  obtain ⟨d3, hc4, h⟩ := ob1_1 h
  refine g_callVv C 281 q_281 vk_C_262 hR rfl (m_G_find C.2.2.2.2.2.2.1 hc4) rfl rfl rfl dX11_groupCount_19 rfl rfl ?_
  refine g_aload_n C dX11_groupCount_22 0 rfl ?_
  refine g_get C (.ref (w_r w 281)) 0 q_0 fk_C_36 rfl dX11_groupCount_23 ?_
  obtain ⟨r5, hc6, h⟩ := ob1_1 h
  refine g_callVi C 281 q_281 vk_C_266 hR rfl (m_G_countGroups C.2.2.2.2.2.2.1 hc6) rfl rfl rfl dX11_groupCount_26 rfl rfl ?_
  exact g_iret C hr hlk rfl (congrArg Prod.snd (Option.some.inj h)) (congrArg (fun z => some (Value.int z.1)) (Option.some.inj h)) dX11_groupCount_29
set_option maxHeartbeats 4000000 in
set_option maxRecDepth 100000 in
theorem m_S_allHearings {w : wT} {l : Launch} {d : Dt} {rE : Int32} (hO : okW w) (h : f_S_allHearings  d = some rE) : gM w l yX8_allHearings cX8_allHearings 3 (Option.some Jvm.ClassFile.FieldType.int) 0 [.ref (w_r w 2)] d d (some (.int rE)) := by
  refine gM_of (by decide) [(0, .ref (w_r w 2))] rfl rfl ?_ hO
  intro p e R s m args below meth c C hR hr hlk
  have R4 : ∀ (x1 : Int32) (x2 : Int32), f_S_allHearings_4 x1 x2 d = some rE → gG w p l e R s m args below meth c 3 0 0 (gE w below args s d (some (.int rE))) d [(0, .ref (w_r w 2)), (1, .int x1), (2, .int x2)] 4 [] := by
    intro x1 x2   h
    refine iter_ind (G := fun s_ : (Int32 × Int32) => gG w p l e R s m args below meth c 3 0 0 (gE w below args s d (some (.int rE))) d [(0, .ref (w_r w 2)), (1, .int s_.1), (2, .int s_.2)] 4 []) ?_ fu _ h
    clear h
    intro s_ y1 h hl1 hx1
    obtain ⟨x1, x2⟩ := s_
    show gG w p l e R s m args below meth c 3 0 0 (gE w below args s d (some (.int rE))) d [(0, .ref (w_r w 2)), (1, .int x1), (2, .int x2)] 4 []
    dsimp only at h
    unfold st_S_allHearings_4 at h
    refine g_iload_n C dX8_allHearings_4 2 rfl ?_
    refine g_aload_n C dX8_allHearings_5 0 rfl ?_
    refine g_get C (.ref (w_r w 26)) 2 q_2 fk_S_32 rfl dX8_allHearings_6 ?_
    refine g_alen C 4 26 q_26 rfl 0 rfl (by decide) dX8_allHearings_9 ?_
    refine g_icmp_ge C dX8_allHearings_10 (tgt := 28) rfl (fun q => ?_) (fun q => ?_)
    · replace h := it_t q h
      replace h := ir_2 h hx1
      refine g_iload_n C dX8_allHearings_28 1 rfl ?_
      exact g_iret C hr hlk rfl rfl (congrArg (fun z => some (Value.int z)) (Option.some.inj h)) dX8_allHearings_29
    · replace h := it_f q h
      refine g_iload_n C dX8_allHearings_13 1 rfl ?_
      refine g_aload_n C dX8_allHearings_14 0 rfl ?_
      refine g_get C (.ref (w_r w 26)) 2 q_2 fk_S_32 rfl dX8_allHearings_15 ?_
      refine g_iload_n C dX8_allHearings_18 2 rfl ?_
      have hg1 := gd_1 h
      replace h := gd_2 h
      refine g_iald C 26 q_26 hg1 _ rfl dX8_allHearings_19 ?_
      refine g_iadd C dX8_allHearings_20  ?_
      refine g_istore_n C (lv' := [(1, .int (x1 + (d 26 x2.toNatClampNeg))), (0, .ref (w_r w 2)), (2, .int x2)]) dX8_allHearings_21 (by decide) rfl ?_
      refine g_iinc C (lv' := [(2, .int (x2 + 1)), (1, .int (x1 + (d 26 x2.toNatClampNeg))), (0, .ref (w_r w 2))]) (v := (x2 + 1)) dX8_allHearings_22 2 rfl rfl (by decide) rfl ?_
      refine g_goto C dX8_allHearings_25 (tgt := 4) rfl ?_
      refine g_sub [2, 1, 0] (lv' := [(0, .ref (w_r w 2)), (1, .int (x1 + (d 26 x2.toNatClampNeg))), (2, .int (x2 + 1))]) rfl ?_
      exact hl1 ((x1 + (d 26 x2.toNatClampNeg)), (x2 + 1)) (Option.some.inj h).symm
  unfold f_S_allHearings at h
  refine g_iconst C dX8_allHearings_0 (v := 0) rfl ?_
  refine g_istore_n C (lv' := [(1, .int 0), (0, .ref (w_r w 2))]) dX8_allHearings_1 (by decide) rfl ?_
  refine g_iconst C dX8_allHearings_2 (v := 0) rfl ?_
  refine g_istore_n C (lv' := [(2, .int 0), (1, .int 0), (0, .ref (w_r w 2))]) dX8_allHearings_3 (by decide) rfl ?_
  refine g_sub [2, 1, 0] (lv' := [(0, .ref (w_r w 2)), (1, .int 0), (2, .int 0)]) rfl ?_
  exact R4 0 0 h
set_option maxHeartbeats 4000000 in
set_option maxRecDepth 100000 in
theorem m_C_hearingCount {w : wT} {l : Launch} {x1 : Int32} {d : Dt} {zE : (Int32 ⊕ Nat)} (hO : okW w) (hl9 : l.stackTraces = false) (h : f_C_hearingCount x1 d = some zE) : gMX w l yX11_hearingCount cX11_hearingCount 3 (Option.some Jvm.ClassFile.FieldType.int) 6 1 6 [.ref (w_r w 0), .int x1] d (oR d zE) := by
  refine gMX_of (by decide) [(0, .ref (w_r w 0)), (1, .int x1)] rfl rfl ?_ hO
  intro p e R s m args below meth c C hR hr hlk hx
  have R24 : f_C_hearingCount_24   d = some zE → gG w p l e R s m args below meth c 3 0 0 (gEX w below args s 1 6 (oR d zE)) d [] 24 [] := by
    intro     h
    unfold f_C_hearingCount_24 at h
    exact g_throwSW C hl9 th_C_103_107 (i := 18) (by decide) (by decide +kernel) (by decide +kernel) hx hlk hR rfl dX11_hearingCount_24 dX11_hearingCount_27 dX11_hearingCount_28 dX11_hearingCount_31 dX11_hearingCount_34 rfl rfl rfl rfl rfl (oR_t h)
  unfold f_C_hearingCount at h
  refine g_ldcwS C 17 (by decide) (by decide +kernel) (by decide +kernel) dX11_hearingCount_0 ?_
  refine g_iload_n C dX11_hearingCount_3 1 rfl ?_
  obtain ⟨r2, hc3, h⟩ := ob1_1 h
  refine g_callO C _ (ks_obj C (by decide)) yk_J0_indexOf_0f7a4 rfl (wA 1244 (by decide +kernel) (by decide +kernel)) (wA 945 (by decide +kernel) (by decide +kernel)) (wA 946 (by decide +kernel) (by decide +kernel)) hR rfl (m_JS_indexOf1 C.2.2.2.2.2.2.1 (by decide) hc3) rfl rfl rfl dX11_hearingCount_4 rfl rfl ?_
  refine g_istore_n C (lv' := [(2, .int r2), (0, .ref (w_r w 0)), (1, .int x1)]) dX11_hearingCount_7 (by decide) rfl ?_
  refine g_iload_n C dX11_hearingCount_8 0 rfl ?_
  refine g_if_lt C dX11_hearingCount_9 (tgt := 24) rfl (fun q => ?_) (fun q => ?_)
  · replace h := it_t q h
    refine g_sub [] (lv' := []) rfl ?_
    exact R24  h
  · replace h := it_f q h
    refine g_iload_n C dX11_hearingCount_12 0 rfl ?_
    refine g_aload_n C dX11_hearingCount_13 1 rfl ?_
    refine g_get C (.ref (w_r w 2)) 0 q_0 fk_C_10 rfl dX11_hearingCount_14 ?_
    refine g_get C (.ref (w_r w 26)) 2 q_2 fk_C_319 rfl dX11_hearingCount_17 ?_
    refine g_alen C 4 26 q_26 rfl 0 rfl (by decide) dX11_hearingCount_20 ?_
    refine g_icmp_lt C dX11_hearingCount_21 (tgt := 35) rfl (fun q => ?_) (fun q => ?_)
    · replace h := it_t q h
      refine g_aload_n C dX11_hearingCount_35 1 rfl ?_
      refine g_get C (.ref (w_r w 2)) 0 q_0 fk_C_10 rfl dX11_hearingCount_36 ?_
      refine g_get C (.ref (w_r w 26)) 2 q_2 fk_C_319 rfl dX11_hearingCount_39 ?_
      refine g_iload_n C dX11_hearingCount_42 0 rfl ?_
      have hg4 := gd_1 h
      replace h := gd_2 h
      refine g_iald C 26 q_26 hg4 _ rfl dX11_hearingCount_43 ?_
      exact g_iretX C hr hlk rfl rfl rfl (oR_i h) dX11_hearingCount_44
    · replace h := it_f q h
      refine g_sub [] (lv' := []) rfl ?_
      exact R24  h
set_option maxHeartbeats 4000000 in
set_option maxRecDepth 100000 in
theorem m_C_guiltyShare {w : wT} {l : Launch} {d : Dt} {zE : (UInt32 ⊕ Nat)} (hO : okW w) (hl9 : l.stackTraces = false) (h : f_C_guiltyShare  d = some zE) : gMX w l yX11_guiltyShare cX11_guiltyShare 2 (Option.some Jvm.ClassFile.FieldType.float) 7 1 6 [.ref (w_r w 0)] d (oRF d zE) := by
  refine gMX_of (by decide) [(0, .ref (w_r w 0))] rfl rfl ?_ hO
  intro p e R s m args below meth c C hR hr hlk hx
  unfold f_C_guiltyShare at h
  refine g_aload_n C dX11_guiltyShare_0 0 rfl ?_
  refine g_get C (.ref (w_r w 2)) 0 q_0 fk_C_10 rfl dX11_guiltyShare_1 ?_
  obtain ⟨r4, hc5, h⟩ := ob1_1 h
  refine g_callVi C 2 q_2 vk_C_330 hR rfl (m_S_allHearings C.2.2.2.2.2.2.1 hc5) rfl rfl rfl dX11_guiltyShare_4 rfl rfl ?_
  refine g_istore_n C (lv' := [(1, .int r4), (0, .ref (w_r w 0))]) dX11_guiltyShare_7 (by decide) rfl ?_
  refine g_iload_n C dX11_guiltyShare_8 0 rfl ?_
  refine g_if_ne C dX11_guiltyShare_9 (tgt := 23) rfl (fun q => ?_) (fun q => ?_)
  · replace h := it_f q h
    refine g_aload_n C dX11_guiltyShare_23 1 rfl ?_
    refine g_bipush C dX11_guiltyShare_24 (v := 103) (by decide) ?_
    obtain ⟨z9, hc8, h⟩ := ocR_1 h
    refine g_callVR C 1 6 0 q_0 vk_C_335 hR rfl (m_C_hearingCount C.2.2.2.2.2.2.1 hl9 hc8) rfl rfl rfl dX11_guiltyShare_26 rfl rfl rfl rfl (fun r6 e11 => ?_) (fun et6 e11 => ?_)
    · subst e11
      replace h := ocR_i h
      refine g_i2f C dX11_guiltyShare_29  ?_
      refine g_iload_n C dX11_guiltyShare_30 0 rfl ?_
      refine g_i2f C dX11_guiltyShare_31  ?_
      have hg12 := gd_1 h
      replace h := gd_2 h
      refine g_fdiv C dX11_guiltyShare_32 (vn32_1 hg12) ?_
      exact g_fretX C hr hlk rfl rfl (oRF_i h) dX11_guiltyShare_33
    · subst e11
      replace h := ocR_t h
      exact g_prop C hx hlk rfl rfl (oRF_t h)
  · replace h := it_t q h
    exact g_throwSW C hl9 th_C_207_211 (i := 20) (by decide) (by decide +kernel) (by decide +kernel) hx hlk hR rfl dX11_guiltyShare_12 dX11_guiltyShare_15 dX11_guiltyShare_16 dX11_guiltyShare_19 dX11_guiltyShare_22 rfl rfl rfl rfl rfl (oRF_t h)
set_option maxHeartbeats 4000000 in
set_option maxRecDepth 100000 in
theorem m_C_hasAdmitted {w : wT} {l : Launch} {x1 x2 : Int32} {d : Dt} {zE : (Int32 ⊕ Nat)} (hO : okW w) (hl9 : l.stackTraces = false) (h : f_C_hasAdmitted x1 x2 d = some zE) : gMX w l yX11_hasAdmitted cX11_hasAdmitted 3 (Option.some Jvm.ClassFile.FieldType.boolean) 7 1 6 [.ref (w_r w 0), .int x1, .int x2] d (oR d zE) := by
  refine gMX_of (by decide) [(0, .ref (w_r w 0)), (1, .int x1), (2, .int x2)] rfl rfl ?_ hO
  intro p e R s m args below meth c C hR hr hlk hx
  unfold f_C_hasAdmitted at h
  refine g_aload_n C dX11_hasAdmitted_0 0 rfl ?_
  refine g_iload_n C dX11_hasAdmitted_1 1 rfl ?_
  obtain ⟨z5, hc4, h⟩ := ocU_1 h
  refine g_callVU C 1 6 0 q_0 vk_C_93 hR rfl (m_C_checkLantern C.2.2.2.2.2.2.1 hl9 hc4) rfl rfl rfl dX11_hasAdmitted_2 rfl rfl rfl rfl (fun e7 => ?_) (fun et2 e7 => ?_)
  · subst e7
    replace h := ocU_i h
    refine g_aload_n C dX11_hasAdmitted_5 0 rfl ?_
    refine g_get C (.ref (w_r w 2)) 0 q_0 fk_C_10 rfl dX11_hasAdmitted_6 ?_
    refine g_get C (.ref (w_r w 3)) 2 q_2 fk_C_68 rfl dX11_hasAdmitted_9 ?_
    refine g_iload_n C dX11_hasAdmitted_12 1 rfl ?_
    refine g_iload_n C dX11_hasAdmitted_13 2 rfl ?_
    obtain ⟨r8, hc9, h⟩ := ob1_1 h
    refine g_callVi C 3 q_3 vk_C_146 hR rfl (m_L_admits C.2.2.2.2.2.2.1 hc9) rfl rfl rfl dX11_hasAdmitted_14 rfl rfl ?_
    have hg10 := gd_1 h
    replace h := gd_2 h
    exact g_iretX C hr hlk (nar_n hg10) rfl rfl (oR_i h) dX11_hasAdmitted_17
  · subst e7
    replace h := ocU_t h
    exact g_prop C hx hlk rfl rfl (oR_t h)
set_option maxHeartbeats 4000000 in
set_option maxRecDepth 100000 in
theorem m_P_placeOf {w : wT} {l : Launch} {x1 : Int32} {d : Dt} {rE : Int32} (hO : okW w) (h : f_P_placeOf x1 d = some rE) : gM w l yX7_placeOf cX7_placeOf 3 (Option.some Jvm.ClassFile.FieldType.int) 0 [.ref (w_r w 277), .int x1] d d (some (.int rE)) := by
  refine gM_of (by decide) [(0, .ref (w_r w 277)), (1, .int x1)] rfl rfl ?_ hO
  intro p e R s m args below meth c C hR hr hlk
  have R2 : ∀ (x1 : Int32) (x2 : Int32), f_P_placeOf_2 x1 x2 d = some rE → gG w p l e R s m args below meth c 3 0 0 (gE w below args s d (some (.int rE))) d [(0, .ref (w_r w 277)), (1, .int x1), (2, .int x2)] 2 [] := by
    intro x1 x2   h
    refine iter_ind (G := fun s_ : (Int32) => gG w p l e R s m args below meth c 3 0 0 (gE w below args s d (some (.int rE))) d [(0, .ref (w_r w 277)), (1, .int x1), (2, .int s_)] 2 []) ?_ fu _ h
    clear h
    intro x2 y1 h hl1 hx1
    show gG w p l e R s m args below meth c 3 0 0 (gE w below args s d (some (.int rE))) d [(0, .ref (w_r w 277)), (1, .int x1), (2, .int x2)] 2 []
    unfold st_P_placeOf_2 at h
    refine g_iload_n C dX7_placeOf_2 2 rfl ?_
    refine g_aload_n C dX7_placeOf_3 0 rfl ?_
    refine g_get C (.int (d 277 0)) 277 q_277 fk_P_33 rfl dX7_placeOf_4 ?_
    refine g_icmp_ge C dX7_placeOf_7 (tgt := 28) rfl (fun q => ?_) (fun q => ?_)
    · replace h := it_t q h
      replace h := ir_2 h hx1
      refine g_iconst C dX7_placeOf_28 (v := (-1)) (by decide) ?_
      exact g_iret C hr hlk rfl rfl (congrArg (fun z => some (Value.int z)) (Option.some.inj h)) dX7_placeOf_29
    · replace h := it_f q h
      refine g_aload_n C dX7_placeOf_10 0 rfl ?_
      refine g_get C (.ref (w_r w 278)) 277 q_277 fk_P_9 rfl dX7_placeOf_11 ?_
      refine g_iload_n C dX7_placeOf_14 2 rfl ?_
      have hg1 := gd_1 h
      replace h := gd_2 h
      refine g_iald C 278 q_278 hg1 _ rfl dX7_placeOf_15 ?_
      refine g_iload_n C dX7_placeOf_16 1 rfl ?_
      refine g_icmp_ne C dX7_placeOf_17 (tgt := 22) rfl (fun q => ?_) (fun q => ?_)
      · replace h := it_f q h
        refine g_iinc C (lv' := [(2, .int (x2 + 1)), (0, .ref (w_r w 277)), (1, .int x1)]) (v := (x2 + 1)) dX7_placeOf_22 2 rfl rfl (by decide) rfl ?_
        refine g_goto C dX7_placeOf_25 (tgt := 2) rfl ?_
        refine g_sub [1, 2, 0] (lv' := [(0, .ref (w_r w 277)), (1, .int x1), (2, .int (x2 + 1))]) rfl ?_
        exact hl1 (x2 + 1) (Option.some.inj h).symm
      · replace h := it_t q h
        replace h := ir_2 h hx1
        refine g_iload_n C dX7_placeOf_20 2 rfl ?_
        exact g_iret C hr hlk rfl rfl (congrArg (fun z => some (Value.int z)) (Option.some.inj h)) dX7_placeOf_21
  unfold f_P_placeOf at h
  refine g_iconst C dX7_placeOf_0 (v := 0) rfl ?_
  refine g_istore_n C (lv' := [(2, .int 0), (0, .ref (w_r w 277)), (1, .int x1)]) dX7_placeOf_1 (by decide) rfl ?_
  refine g_sub [1, 2, 0] (lv' := [(0, .ref (w_r w 277)), (1, .int x1), (2, .int 0)]) rfl ?_
  exact R2 x1 0 h
set_option maxHeartbeats 4000000 in
set_option maxRecDepth 100000 in
theorem m_C_hearingDay {w : wT} {l : Launch} {x1 : Int32} {d : Dt} {zE : ((Int32 × Dt) ⊕ (Nat × Dt))} (hO : okW w) (hl9 : l.stackTraces = false) (h : f_C_hearingDay x1 d = some zE) : gMX w l yX11_hearingDay cX11_hearingDay 4 (Option.some Jvm.ClassFile.FieldType.int) 7 2 12 [.ref (w_r w 0), .int x1] d (oW zE) := by
  refine gMX_of (by decide) [(0, .ref (w_r w 0)), (1, .int x1)] rfl rfl ?_ hO
  intro p e R s m args below meth c C hR hr hlk hx
  unfold f_C_hearingDay at h
  refine g_aload_n C dX11_hearingDay_0 0 rfl ?_
  refine g_iload_n C dX11_hearingDay_1 1 rfl ?_
  obtain ⟨z8, hc7, h⟩ := ocR_1 h
  refine g_callVR C 1 6 0 q_0 vk_C_119 hR rfl (m_C_checkedBrief C.2.2.2.2.2.2.1 hl9 hc7) rfl rfl rfl dX11_hearingDay_2 rfl rfl rfl rfl (fun r5 e10 => ?_) (fun et5 e10 => ?_)
  · subst e10
    replace h := ocR_i h
    refine g_istore_n C (lv' := [(2, .int r5), (0, .ref (w_r w 0)), (1, .int x1)]) dX11_hearingDay_5 (by decide) rfl ?_
    refine g_aload_n C dX11_hearingDay_6 1 rfl ?_
    refine g_get C (.ref (w_r w 277)) 0 q_0 fk_C_29 rfl dX11_hearingDay_7 ?_
    refine g_aload_n C dX11_hearingDay_10 1 rfl ?_
    refine g_get C (.ref (w_r w 2)) 0 q_0 fk_C_10 rfl dX11_hearingDay_11 ?_
    refine g_get C (.ref (w_r w 16)) 2 q_2 fk_C_108 rfl dX11_hearingDay_14 ?_
    refine g_aload_n C dX11_hearingDay_17 1 rfl ?_
    refine g_get C (.ref (w_r w 2)) 0 q_0 fk_C_10 rfl dX11_hearingDay_18 ?_
    refine g_get C (.int (d 2 0)) 2 q_2 fk_C_180 rfl dX11_hearingDay_21 ?_
    obtain ⟨d11, hc12, h⟩ := ob1_1 h
    refine g_callVv C 277 q_277 vk_C_232 hR rfl (m_P_make C.2.2.2.2.2.2.1 hc12) rfl rfl rfl dX11_hearingDay_24 rfl rfl ?_
    refine g_aload_n C dX11_hearingDay_27 1 rfl ?_
    refine g_get C (.ref (w_r w 277)) 0 q_0 fk_C_29 rfl dX11_hearingDay_28 ?_
    refine g_iload_n C dX11_hearingDay_31 0 rfl ?_
    obtain ⟨r13, hc14, h⟩ := ob1_1 h
    refine g_callVi C 277 q_277 vk_C_236 hR rfl (m_P_placeOf C.2.2.2.2.2.2.1 hc14) rfl rfl rfl dX11_hearingDay_32 rfl rfl ?_
    refine g_istore_n C (lv' := [(3, .int r13), (2, .int r5), (0, .ref (w_r w 0)), (1, .int x1)]) dX11_hearingDay_35 (by decide) rfl ?_
    refine g_iload_n C dX11_hearingDay_36 0 rfl ?_
    refine g_iconst C dX11_hearingDay_37 (v := (-1)) (by decide) ?_
    refine g_icmp_ne C dX11_hearingDay_38 (tgt := 51) rfl (fun q => ?_) (fun q => ?_)
    · replace h := it_f q h
      refine g_aload_n C dX11_hearingDay_51 2 rfl ?_
      refine g_get C (.ref (w_r w 2)) 0 q_0 fk_C_10 rfl dX11_hearingDay_52 ?_
      refine g_get C (.int (d11 2 0)) 2 q_2 fk_C_180 rfl dX11_hearingDay_55 ?_
      refine g_iconst C dX11_hearingDay_58 (v := 1) rfl ?_
      refine g_iadd C dX11_hearingDay_59  ?_
      refine g_iload_n C dX11_hearingDay_60 0 rfl ?_
      refine g_iadd C dX11_hearingDay_61  ?_
      exact g_iretX C hr hlk rfl rfl rfl (oW_i h) dX11_hearingDay_62
    · replace h := it_t q h
      exact g_throwSy C hl9 th_C_160_164 (i := 14) (by decide) (by decide +kernel) (by decide +kernel) hx hlk hR rfl dX11_hearingDay_41 dX11_hearingDay_44 dX11_hearingDay_45 dX11_hearingDay_47 dX11_hearingDay_50 rfl rfl rfl rfl rfl (oW_t h)
  · subst e10
    replace h := ocR_t h
    exact g_prop C hx hlk rfl rfl (oW_t h)
set_option maxHeartbeats 4000000 in
set_option maxRecDepth 100000 in
theorem m_B_feesOf {w : wT} {l : Launch} {x1 : Int32} {d : Dt} {rE : Int32} (hO : okW w) (h : f_B_feesOf x1 d = some rE) : gM w l yX1_feesOf cX1_feesOf 4 (Option.some Jvm.ClassFile.FieldType.int) 0 [.ref (w_r w 16), .int x1] d d (some (.int rE)) := by
  refine gM_of (by decide) [(0, .ref (w_r w 16)), (1, .int x1)] rfl rfl ?_ hO
  intro p e R s m args below meth c C hR hr hlk
  have R4 : ∀ (x1 : Int32) (x2 : Int32) (x3 : Int32), f_B_feesOf_4 x1 x2 x3 d = some rE → gG w p l e R s m args below meth c 4 0 0 (gE w below args s d (some (.int rE))) d [(0, .ref (w_r w 16)), (1, .int x1), (2, .int x2), (3, .int x3)] 4 [] := by
    intro x1 x2 x3   h
    refine iter_ind (G := fun s_ : (Int32 × Int32) => gG w p l e R s m args below meth c 4 0 0 (gE w below args s d (some (.int rE))) d [(0, .ref (w_r w 16)), (1, .int x1), (2, .int s_.1), (3, .int s_.2)] 4 []) ?_ fu _ h
    clear h
    intro s_ y1 h hl1 hx1
    obtain ⟨x2, x3⟩ := s_
    show gG w p l e R s m args below meth c 4 0 0 (gE w below args s d (some (.int rE))) d [(0, .ref (w_r w 16)), (1, .int x1), (2, .int x2), (3, .int x3)] 4 []
    dsimp only at h
    unfold st_B_feesOf_4 at h
    refine g_iload_n C dX1_feesOf_4 3 rfl ?_
    refine g_aload_n C dX1_feesOf_5 0 rfl ?_
    refine g_get C (.int (d 16 0)) 16 q_16 fk_B_27 rfl dX1_feesOf_6 ?_
    refine g_icmp_ge C dX1_feesOf_9 (tgt := 36) rfl (fun q => ?_) (fun q => ?_)
    · replace h := it_t q h
      replace h := ir_2 h hx1
      refine g_iload_n C dX1_feesOf_36 2 rfl ?_
      exact g_iret C hr hlk rfl rfl (congrArg (fun z => some (Value.int z)) (Option.some.inj h)) dX1_feesOf_37
    · replace h := it_f q h
      refine g_iload_n C dX1_feesOf_12 1 rfl ?_
      refine g_iload_n C dX1_feesOf_13 3 rfl ?_
      refine g_ishr C dX1_feesOf_14  ?_
      refine g_iconst C dX1_feesOf_15 (v := 1) rfl ?_
      refine g_iand C dX1_feesOf_16  ?_
      refine g_iconst C dX1_feesOf_17 (v := 1) rfl ?_
      refine g_icmp_ne C dX1_feesOf_18 (tgt := 30) rfl (fun q => ?_) (fun q => ?_)
      · replace h := it_f q h
        refine g_iinc C (lv' := [(3, .int (x3 + 1)), (0, .ref (w_r w 16)), (1, .int x1), (2, .int x2)]) (v := (x3 + 1)) dX1_feesOf_30 3 rfl rfl (by decide) rfl ?_
        refine g_goto C dX1_feesOf_33 (tgt := 4) rfl ?_
        refine g_sub [1, 2, 3, 0] (lv' := [(0, .ref (w_r w 16)), (1, .int x1), (2, .int x2), (3, .int (x3 + 1))]) rfl ?_
        exact hl1 (x2, (x3 + 1)) (Option.some.inj h).symm
      · replace h := it_t q h
        refine g_iload_n C dX1_feesOf_21 2 rfl ?_
        refine g_aload_n C dX1_feesOf_22 0 rfl ?_
        refine g_get C (.ref (w_r w 20)) 16 q_16 fk_B_21 rfl dX1_feesOf_23 ?_
        refine g_iload_n C dX1_feesOf_26 3 rfl ?_
        have hg1 := gd_1 h
        replace h := gd_2 h
        refine g_iald C 20 q_20 hg1 _ rfl dX1_feesOf_27 ?_
        refine g_iadd C dX1_feesOf_28  ?_
        refine g_istore_n C (lv' := [(2, .int (x2 + (d 20 x3.toNatClampNeg))), (0, .ref (w_r w 16)), (1, .int x1), (3, .int x3)]) dX1_feesOf_29 (by decide) rfl ?_
        refine g_iinc C (lv' := [(3, .int (x3 + 1)), (2, .int (x2 + (d 20 x3.toNatClampNeg))), (0, .ref (w_r w 16)), (1, .int x1)]) (v := (x3 + 1)) dX1_feesOf_30 3 rfl rfl (by decide) rfl ?_
        refine g_goto C dX1_feesOf_33 (tgt := 4) rfl ?_
        refine g_sub [2, 3, 1, 0] (lv' := [(0, .ref (w_r w 16)), (1, .int x1), (2, .int (x2 + (d 20 x3.toNatClampNeg))), (3, .int (x3 + 1))]) rfl ?_
        exact hl1 ((x2 + (d 20 x3.toNatClampNeg)), (x3 + 1)) (Option.some.inj h).symm
  unfold f_B_feesOf at h
  refine g_iconst C dX1_feesOf_0 (v := 0) rfl ?_
  refine g_istore_n C (lv' := [(2, .int 0), (0, .ref (w_r w 16)), (1, .int x1)]) dX1_feesOf_1 (by decide) rfl ?_
  refine g_iconst C dX1_feesOf_2 (v := 0) rfl ?_
  refine g_istore_n C (lv' := [(3, .int 0), (2, .int 0), (0, .ref (w_r w 16)), (1, .int x1)]) dX1_feesOf_3 (by decide) rfl ?_
  refine g_sub [2, 3, 1, 0] (lv' := [(0, .ref (w_r w 16)), (1, .int x1), (2, .int 0), (3, .int 0)]) rfl ?_
  exact R4 x1 0 0 h
set_option maxHeartbeats 4000000 in
set_option maxRecDepth 100000 in
theorem m_C_planFee {w : wT} {l : Launch} {d : Dt} {rE : Int32} {dE : Dt} (hO : okW w) (h : f_C_planFee  d = some (rE, dE)) : gM w l yX11_planFee cX11_planFee 1 (Option.some Jvm.ClassFile.FieldType.int) 3 [.ref (w_r w 0)] d dE (some (.int rE)) := by
  refine gM_of (by decide) [(0, .ref (w_r w 0))] rfl rfl ?_ hO
  intro p e R s m args below meth c C hR hr hlk
  unfold f_C_planFee at h
  refine g_aload_n C dX11_planFee_0 0 rfl ?_
  refine g_get C (.ref (w_r w 277)) 0 q_0 fk_C_29 rfl dX11_planFee_1 ?_
  refine g_aload_n C dX11_planFee_4 0 rfl ?_
  refine g_get C (.ref (w_r w 2)) 0 q_0 fk_C_10 rfl dX11_planFee_5 ?_
  refine g_get C (.ref (w_r w 16)) 2 q_2 fk_C_108 rfl dX11_planFee_8 ?_
  refine g_aload_n C dX11_planFee_11 0 rfl ?_
  refine g_get C (.ref (w_r w 2)) 0 q_0 fk_C_10 rfl dX11_planFee_12 ?_
  refine g_get C (.int (d 2 0)) 2 q_2 fk_C_180 rfl dX11_planFee_15 ?_
  obtain ⟨d3, hc4, h⟩ := ob1_1 h
  refine g_callVv C 277 q_277 vk_C_232 hR rfl (m_P_make C.2.2.2.2.2.2.1 hc4) rfl rfl rfl dX11_planFee_18 rfl rfl ?_
  refine g_aload_n C dX11_planFee_21 0 rfl ?_
  refine g_get C (.ref (w_r w 2)) 0 q_0 fk_C_10 rfl dX11_planFee_22 ?_
  refine g_get C (.ref (w_r w 16)) 2 q_2 fk_C_108 rfl dX11_planFee_25 ?_
  refine g_aload_n C dX11_planFee_28 0 rfl ?_
  refine g_get C (.ref (w_r w 277)) 0 q_0 fk_C_29 rfl dX11_planFee_29 ?_
  refine g_get C (.int (d3 277 1)) 277 q_277 fk_C_241 rfl dX11_planFee_32 ?_
  obtain ⟨r5, hc6, h⟩ := ob1_1 h
  refine g_callVi C 16 q_16 vk_C_244 hR rfl (m_B_feesOf C.2.2.2.2.2.2.1 hc6) rfl rfl rfl dX11_planFee_35 rfl rfl ?_
  exact g_iret C hr hlk rfl (congrArg Prod.snd (Option.some.inj h)) (congrArg (fun z => some (Value.int z.1)) (Option.some.inj h)) dX11_planFee_38
set_option maxHeartbeats 4000000 in
set_option maxRecDepth 100000 in
theorem m_P_greatestFeeOfSets {w : wT} {l : Launch} {x2 : Int32} {d : Dt} {rE : Int32} {dE : Dt} (hO : okW w) (h : f_P_greatestFeeOfSets x2 d = some (rE, dE)) : gM w l yX7_greatestFeeOfSets cX7_greatestFeeOfSets 5 (Option.some Jvm.ClassFile.FieldType.int) 2 [.ref (w_r w 277), .ref (w_r w 16), .int x2] d dE (some (.int rE)) := by
  refine gM_of (by decide) [(0, .ref (w_r w 277)), (1, .ref (w_r w 16)), (2, .int x2)] rfl rfl ?_ hO
  intro p e R s m args below meth c C hR hr hlk
  have R11 : ∀ (x3 : Int32) (x4 : Int32) (d : Dt), f_P_greatestFeeOfSets_11 x3 x4 d = some (rE, dE) → gG w p l e R s m args below meth c 5 0 0 (gE w below args s dE (some (.int rE))) d [(0, .ref (w_r w 277)), (1, .ref (w_r w 16)), (3, .int x3), (4, .int x4)] 11 [] := by
    intro x3 x4 d  h
    refine iter_ind (G := fun s_ : (Int32 × Int32) => gG w p l e R s m args below meth c 5 0 0 (gE w below args s dE (some (.int rE))) d [(0, .ref (w_r w 277)), (1, .ref (w_r w 16)), (3, .int s_.1), (4, .int s_.2)] 11 []) ?_ fu _ h
    clear h
    intro s_ y1 h hl1 hx1
    obtain ⟨x3, x4⟩ := s_
    show gG w p l e R s m args below meth c 5 0 0 (gE w below args s dE (some (.int rE))) d [(0, .ref (w_r w 277)), (1, .ref (w_r w 16)), (3, .int x3), (4, .int x4)] 11 []
    dsimp only at h
    unfold st_P_greatestFeeOfSets_11 at h
    refine g_iload C dX7_greatestFeeOfSets_11 3 rfl ?_
    refine g_iconst C dX7_greatestFeeOfSets_13 (v := 1) rfl ?_
    refine g_aload_n C dX7_greatestFeeOfSets_14 1 rfl ?_
    refine g_get C (.int (d 16 0)) 16 q_16 fk_P_36 rfl dX7_greatestFeeOfSets_15 ?_
    refine g_ishl C dX7_greatestFeeOfSets_18  ?_
    refine g_icmp_ge C dX7_greatestFeeOfSets_19 (tgt := 48) rfl (fun q => ?_) (fun q => ?_)
    · replace h := it_t q h
      replace h := ir_2 h hx1
      refine g_iload_n C dX7_greatestFeeOfSets_48 2 rfl ?_
      exact g_iret C hr hlk rfl (congrArg Prod.snd (Option.some.inj h)) (congrArg (fun z => some (Value.int z.1)) (Option.some.inj h)) dX7_greatestFeeOfSets_49
    · replace h := it_f q h
      refine g_aload_n C dX7_greatestFeeOfSets_22 0 rfl ?_
      refine g_iload C dX7_greatestFeeOfSets_23 3 rfl ?_
      obtain ⟨r4, hc5, h⟩ := ob1_1 h
      refine g_callVi C 277 q_277 vk_P_39 hR rfl (m_P_isPossible C.2.2.2.2.2.2.1 hc5) rfl rfl rfl dX7_greatestFeeOfSets_25 rfl rfl ?_
      refine g_if_eq C dX7_greatestFeeOfSets_28 (tgt := 42) rfl (fun q => ?_) (fun q => ?_)
      · replace h := it_t q h
        refine g_iinc C (lv' := [(4, .int (x4 + 1)), (0, .ref (w_r w 277)), (1, .ref (w_r w 16)), (3, .int x3)]) (v := (x4 + 1)) dX7_greatestFeeOfSets_42 3 rfl rfl (by decide) rfl ?_
        refine g_goto C dX7_greatestFeeOfSets_45 (tgt := 11) rfl ?_
        refine g_sub [1, 2, 3, 0] (lv' := [(0, .ref (w_r w 277)), (1, .ref (w_r w 16)), (3, .int x3), (4, .int (x4 + 1))]) rfl ?_
        exact hl1 (x3, (x4 + 1)) (Option.some.inj h).symm
      · replace h := it_f q h
        refine g_iload_n C dX7_greatestFeeOfSets_31 2 rfl ?_
        refine g_aload_n C dX7_greatestFeeOfSets_32 1 rfl ?_
        refine g_iload C dX7_greatestFeeOfSets_33 3 rfl ?_
        obtain ⟨r6, hc7, h⟩ := ob1_1 h
        refine g_callVi C 16 q_16 vk_P_46 hR rfl (m_B_feesOf C.2.2.2.2.2.2.1 hc7) rfl rfl rfl dX7_greatestFeeOfSets_35 rfl rfl ?_
        refine g_mmax C mm_P_50 mm_sta_max mm_ini mm_cod_max hR rfl rfl dX7_greatestFeeOfSets_38 rfl rfl ?_
        refine g_istore_n C (lv' := [(3, .int (mxI x3 r6)), (0, .ref (w_r w 277)), (1, .ref (w_r w 16)), (4, .int x4)]) dX7_greatestFeeOfSets_41 (by decide) rfl ?_
        refine g_iinc C (lv' := [(4, .int (x4 + 1)), (3, .int (mxI x3 r6)), (0, .ref (w_r w 277)), (1, .ref (w_r w 16))]) (v := (x4 + 1)) dX7_greatestFeeOfSets_42 3 rfl rfl (by decide) rfl ?_
        refine g_goto C dX7_greatestFeeOfSets_45 (tgt := 11) rfl ?_
        refine g_sub [2, 3, 1, 0] (lv' := [(0, .ref (w_r w 277)), (1, .ref (w_r w 16)), (3, .int (mxI x3 r6)), (4, .int (x4 + 1))]) rfl ?_
        exact hl1 ((mxI x3 r6), (x4 + 1)) (Option.some.inj h).symm
  unfold f_P_greatestFeeOfSets at h
  refine g_aload_n C dX7_greatestFeeOfSets_0 0 rfl ?_
  refine g_aload_n C dX7_greatestFeeOfSets_1 1 rfl ?_
  refine g_iload_n C dX7_greatestFeeOfSets_2 2 rfl ?_
  obtain ⟨d8, hc9, h⟩ := ob1_1 h
  refine g_callVv C 277 q_277 vk_P_21 hR rfl (m_P_findDueSets C.2.2.2.2.2.2.1 hc9) rfl rfl rfl dX7_greatestFeeOfSets_3 rfl rfl ?_
  refine g_iconst C dX7_greatestFeeOfSets_6 (v := 0) rfl ?_
  refine g_istore_n C (lv' := [(3, .int 0), (0, .ref (w_r w 277)), (1, .ref (w_r w 16)), (2, .int x2)]) dX7_greatestFeeOfSets_7 (by decide) rfl ?_
  refine g_iconst C dX7_greatestFeeOfSets_8 (v := 0) rfl ?_
  refine g_istore C (lv' := [(4, .int 0), (3, .int 0), (0, .ref (w_r w 277)), (1, .ref (w_r w 16)), (2, .int x2)]) dX7_greatestFeeOfSets_9 (by decide) rfl ?_
  refine g_sub [2, 3, 1, 0] (lv' := [(0, .ref (w_r w 277)), (1, .ref (w_r w 16)), (3, .int 0), (4, .int 0)]) rfl ?_
  exact R11 0 0 d8 h
set_option maxHeartbeats 4000000 in
set_option maxRecDepth 100000 in
theorem m_C_planFeeBySets {w : wT} {l : Launch} {d : Dt} {rE : Int32} {dE : Dt} (hO : okW w) (h : f_C_planFeeBySets  d = some (rE, dE)) : gM w l yX11_planFeeBySets cX11_planFeeBySets 1 (Option.some Jvm.ClassFile.FieldType.int) 3 [.ref (w_r w 0)] d dE (some (.int rE)) := by
  refine gM_of (by decide) [(0, .ref (w_r w 0))] rfl rfl ?_ hO
  intro p e R s m args below meth c C hR hr hlk
  unfold f_C_planFeeBySets at h
  refine g_aload_n C dX11_planFeeBySets_0 0 rfl ?_
  refine g_get C (.ref (w_r w 277)) 0 q_0 fk_C_29 rfl dX11_planFeeBySets_1 ?_
  refine g_aload_n C dX11_planFeeBySets_4 0 rfl ?_
  refine g_get C (.ref (w_r w 2)) 0 q_0 fk_C_10 rfl dX11_planFeeBySets_5 ?_
  refine g_get C (.ref (w_r w 16)) 2 q_2 fk_C_108 rfl dX11_planFeeBySets_8 ?_
  refine g_aload_n C dX11_planFeeBySets_11 0 rfl ?_
  refine g_get C (.ref (w_r w 2)) 0 q_0 fk_C_10 rfl dX11_planFeeBySets_12 ?_
  refine g_get C (.int (d 2 0)) 2 q_2 fk_C_180 rfl dX11_planFeeBySets_15 ?_
  obtain ⟨r3, d4, hc5, h⟩ := ob2_1 h
  refine g_callVi C 277 q_277 vk_C_247 hR rfl (m_P_greatestFeeOfSets C.2.2.2.2.2.2.1 hc5) rfl rfl rfl dX11_planFeeBySets_18 rfl rfl ?_
  exact g_iret C hr hlk rfl (congrArg Prod.snd (Option.some.inj h)) (congrArg (fun z => some (Value.int z.1)) (Option.some.inj h)) dX11_planFeeBySets_21
