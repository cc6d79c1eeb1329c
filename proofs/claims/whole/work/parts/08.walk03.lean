/-! 08: walks -/
set_option maxHeartbeats 4000000 in
set_option maxRecDepth 100000 in
theorem m_M_commandHere {w : wT} {l : Launch} {d : Dt} {rE : Int32} {dE : Dt} (hO : okW w) (h : f_M_commandHere  d = some (rE, dE)) : gM w l yX12_commandHere cX12_commandHere 2 (Option.some Jvm.ClassFile.FieldType.boolean) 5 [.ref (w_r w 292)] d dE (some (.int rE)) := by
  refine gM_of (by decide) [(0, .ref (w_r w 292))] rfl rfl ?_ hO
  intro p e R s m args below meth c C hR hr hlk
  unfold f_M_commandHere at h
  refine g_iconst C dX12_commandHere_0 (v := 5) rfl ?_
  refine g_aload_n C dX12_commandHere_1 0 rfl ?_
  refine g_get C (.int (d 292 16)) 292 q_292 fk_M_178 rfl dX12_commandHere_2 ?_
  refine g_imul C dX12_commandHere_5  ?_
  refine g_iconst C dX12_commandHere_6 (v := 1) rfl ?_
  refine g_iadd C dX12_commandHere_7  ?_
  refine g_istore_n C (lv' := [(1, .int ((5 * (d 292 16)) + 1)), (0, .ref (w_r w 292))]) dX12_commandHere_8 (by decide) rfl ?_
  refine g_aload_n C dX12_commandHere_9 1 rfl ?_
  refine g_bipush C dX12_commandHere_10 (v := 108) (by decide) ?_
  obtain ⟨r63, d64, hc65, h⟩ := ob2_1 h
  refine g_callVi C 292 q_292 vk_M_183 hR rfl (m_M_skips C.2.2.2.2.2.2.1 hc65) rfl rfl rfl dX12_commandHere_12 rfl rfl ?_
  refine g_if_eq C dX12_commandHere_15 (tgt := 26) rfl (fun q => ?_) (fun q => ?_)
  · replace h := it_t q h
    refine g_aload_n C dX12_commandHere_26 1 rfl ?_
    refine g_bipush C dX12_commandHere_27 (v := 99) (by decide) ?_
    obtain ⟨r66, d67, hc68, h⟩ := ob2_1 h
    refine g_callVi C 292 q_292 vk_M_183 hR rfl (m_M_skips C.2.2.2.2.2.2.1 hc68) rfl rfl rfl dX12_commandHere_29 rfl rfl ?_
    refine g_if_eq C dX12_commandHere_32 (tgt := 60) rfl (fun q => ?_) (fun q => ?_)
    · replace h := it_t q h
      refine g_aload_n C dX12_commandHere_60 1 rfl ?_
      refine g_bipush C dX12_commandHere_61 (v := 115) (by decide) ?_
      obtain ⟨r69, d70, hc71, h⟩ := ob2_1 h
      refine g_callVi C 292 q_292 vk_M_183 hR rfl (m_M_skips C.2.2.2.2.2.2.1 hc71) rfl rfl rfl dX12_commandHere_63 rfl rfl ?_
      refine g_if_eq C dX12_commandHere_66 (tgt := 119) rfl (fun q => ?_) (fun q => ?_)
      · replace h := it_t q h
        refine g_aload_n C dX12_commandHere_119 1 rfl ?_
        refine g_bipush C dX12_commandHere_120 (v := 100) (by decide) ?_
        obtain ⟨r72, d73, hc74, h⟩ := ob2_1 h
        refine g_callVi C 292 q_292 vk_M_183 hR rfl (m_M_skips C.2.2.2.2.2.2.1 hc74) rfl rfl rfl dX12_commandHere_122 rfl rfl ?_
        refine g_if_eq C dX12_commandHere_125 (tgt := 153) rfl (fun q => ?_) (fun q => ?_)
        · replace h := it_t q h
          refine g_aload_n C dX12_commandHere_153 1 rfl ?_
          refine g_bipush C dX12_commandHere_154 (v := 97) (by decide) ?_
          obtain ⟨r75, d76, hc77, h⟩ := ob2_1 h
          refine g_callVi C 292 q_292 vk_M_183 hR rfl (m_M_skips C.2.2.2.2.2.2.1 hc77) rfl rfl rfl dX12_commandHere_156 rfl rfl ?_
          refine g_if_eq C dX12_commandHere_159 (tgt := 210) rfl (fun q => ?_) (fun q => ?_)
          · replace h := it_t q h
            refine g_aload_n C dX12_commandHere_210 1 rfl ?_
            refine g_bipush C dX12_commandHere_211 (v := 119) (by decide) ?_
            obtain ⟨r78, d79, hc80, h⟩ := ob2_1 h
            refine g_callVi C 292 q_292 vk_M_183 hR rfl (m_M_skips C.2.2.2.2.2.2.1 hc80) rfl rfl rfl dX12_commandHere_213 rfl rfl ?_
            refine g_if_eq C dX12_commandHere_216 (tgt := 263) rfl (fun q => ?_) (fun q => ?_)
            · replace h := it_t q h
              refine g_aload_n C dX12_commandHere_263 1 rfl ?_
              refine g_bipush C dX12_commandHere_264 (v := 102) (by decide) ?_
              obtain ⟨r81, d82, hc83, h⟩ := ob2_1 h
              refine g_callVi C 292 q_292 vk_M_183 hR rfl (m_M_skips C.2.2.2.2.2.2.1 hc83) rfl rfl rfl dX12_commandHere_266 rfl rfl ?_
              refine g_if_ne C dX12_commandHere_269 (tgt := 274) rfl (fun q => ?_) (fun q => ?_)
              · replace h := it_f q h
                refine g_aload_n C dX12_commandHere_274 1 rfl ?_
                refine g_bipush C dX12_commandHere_275 (v := 114) (by decide) ?_
                obtain ⟨r84, d85, hc86, h⟩ := ob2_1 h
                refine g_callVi C 292 q_292 vk_M_183 hR rfl (m_M_skips C.2.2.2.2.2.2.1 hc86) rfl rfl rfl dX12_commandHere_277 rfl rfl ?_
                refine g_if_eq C dX12_commandHere_280 (tgt := 309) rfl (fun q => ?_) (fun q => ?_)
                · replace h := it_t q h
                  refine g_aload_n C dX12_commandHere_309 1 rfl ?_
                  refine g_iconst C dX12_commandHere_310 (v := 1) rfl ?_
                  refine g_ldcS C 37 (by decide) (by decide +kernel) (by decide +kernel) dX12_commandHere_311 ?_
                  obtain ⟨r87, d88, hc89, h⟩ := ob2_1 h
                  refine g_callVi C 292 q_292 vk_M_191 hR rfl (m_M_isWord C.2.2.2.2.2.2.1 (by decide) hc89) rfl rfl rfl dX12_commandHere_313 rfl rfl ?_
                  refine g_if_eq C dX12_commandHere_316 (tgt := 365) rfl (fun q => ?_) (fun q => ?_)
                  · replace h := it_t q h
                    refine g_iconst C dX12_commandHere_365 (v := 0) rfl ?_
                    exact g_iret C hr hlk rfl (congrArg Prod.snd (Option.some.inj h)) (congrArg (fun z => some (Value.int z.1)) (Option.some.inj h)) dX12_commandHere_366
                  · replace h := it_f q h
                    refine g_aload_n C dX12_commandHere_319 1 rfl ?_
                    refine g_iload_n C dX12_commandHere_320 0 rfl ?_
                    refine g_iconst C dX12_commandHere_321 (v := 1) rfl ?_
                    obtain ⟨r90, d91, hc92, h⟩ := ob2_1 h
                    refine g_callVi C 292 q_292 vk_M_197 hR rfl (m_M_figures C.2.2.2.2.2.2.1 hc92) rfl rfl rfl dX12_commandHere_322 rfl rfl ?_
                    refine g_if_eq C dX12_commandHere_325 (tgt := 365) rfl (fun q => ?_) (fun q => ?_)
                    · replace h := it_t q h
                      refine g_iconst C dX12_commandHere_365 (v := 0) rfl ?_
                      exact g_iret C hr hlk rfl (congrArg Prod.snd (Option.some.inj h)) (congrArg (fun z => some (Value.int z.1)) (Option.some.inj h)) dX12_commandHere_366
                    · replace h := it_f q h
                      refine g_aload_n C dX12_commandHere_328 1 rfl ?_
                      refine g_iload_n C dX12_commandHere_329 0 rfl ?_
                      refine g_iconst C dX12_commandHere_330 (v := 1) rfl ?_
                      refine g_iadd C dX12_commandHere_331  ?_
                      refine g_iconst C dX12_commandHere_332 (v := 2) rfl ?_
                      obtain ⟨r93, d94, hc95, h⟩ := ob2_1 h
                      refine g_callVi C 292 q_292 vk_M_197 hR rfl (m_M_figures C.2.2.2.2.2.2.1 hc95) rfl rfl rfl dX12_commandHere_333 rfl rfl ?_
                      refine g_if_eq C dX12_commandHere_336 (tgt := 365) rfl (fun q => ?_) (fun q => ?_)
                      · replace h := it_t q h
                        refine g_iconst C dX12_commandHere_365 (v := 0) rfl ?_
                        exact g_iret C hr hlk rfl (congrArg Prod.snd (Option.some.inj h)) (congrArg (fun z => some (Value.int z.1)) (Option.some.inj h)) dX12_commandHere_366
                      · replace h := it_f q h
                        refine g_aload_n C dX12_commandHere_339 1 rfl ?_
                        refine g_iload_n C dX12_commandHere_340 0 rfl ?_
                        refine g_iconst C dX12_commandHere_341 (v := 2) rfl ?_
                        refine g_iadd C dX12_commandHere_342  ?_
                        refine g_iconst C dX12_commandHere_343 (v := 2) rfl ?_
                        obtain ⟨r96, d97, hc98, h⟩ := ob2_1 h
                        refine g_callVi C 292 q_292 vk_M_197 hR rfl (m_M_figures C.2.2.2.2.2.2.1 hc98) rfl rfl rfl dX12_commandHere_344 rfl rfl ?_
                        refine g_if_eq C dX12_commandHere_347 (tgt := 365) rfl (fun q => ?_) (fun q => ?_)
                        · replace h := it_t q h
                          refine g_iconst C dX12_commandHere_365 (v := 0) rfl ?_
                          exact g_iret C hr hlk rfl (congrArg Prod.snd (Option.some.inj h)) (congrArg (fun z => some (Value.int z.1)) (Option.some.inj h)) dX12_commandHere_366
                        · replace h := it_f q h
                          refine g_aload_n C dX12_commandHere_350 1 rfl ?_
                          refine g_iload_n C dX12_commandHere_351 0 rfl ?_
                          refine g_iconst C dX12_commandHere_352 (v := 3) rfl ?_
                          refine g_iadd C dX12_commandHere_353  ?_
                          refine g_iconst C dX12_commandHere_354 (v := 1) rfl ?_
                          obtain ⟨r99, d100, hc101, h⟩ := ob2_1 h
                          refine g_callVi C 292 q_292 vk_M_197 hR rfl (m_M_figures C.2.2.2.2.2.2.1 hc101) rfl rfl rfl dX12_commandHere_355 rfl rfl ?_
                          refine g_if_eq C dX12_commandHere_358 (tgt := 365) rfl (fun q => ?_) (fun q => ?_)
                          · replace h := it_t q h
                            refine g_iconst C dX12_commandHere_365 (v := 0) rfl ?_
                            exact g_iret C hr hlk rfl (congrArg Prod.snd (Option.some.inj h)) (congrArg (fun z => some (Value.int z.1)) (Option.some.inj h)) dX12_commandHere_366
                          · replace h := it_f q h
                            refine g_iconst C dX12_commandHere_361 (v := 1) rfl ?_
                            refine g_goto C dX12_commandHere_362 (tgt := 366) rfl ?_
                            exact g_iret C hr hlk rfl (congrArg Prod.snd (Option.some.inj h)) (congrArg (fun z => some (Value.int z.1)) (Option.some.inj h)) dX12_commandHere_366
                · replace h := it_f q h
                  refine g_aload_n C dX12_commandHere_283 1 rfl ?_
                  refine g_bipush C dX12_commandHere_284 (v := 6) (by decide) ?_
                  refine g_ldcS C 36 (by decide) (by decide +kernel) (by decide +kernel) dX12_commandHere_286 ?_
                  obtain ⟨r102, d103, hc104, h⟩ := ob2_1 h
                  refine g_callVi C 292 q_292 vk_M_191 hR rfl (m_M_isWord C.2.2.2.2.2.2.1 (by decide) hc104) rfl rfl rfl dX12_commandHere_288 rfl rfl ?_
                  refine g_if_eq C dX12_commandHere_291 (tgt := 307) rfl (fun q => ?_) (fun q => ?_)
                  · replace h := it_t q h
                    refine g_iconst C dX12_commandHere_307 (v := 0) rfl ?_
                    exact g_iret C hr hlk rfl (congrArg Prod.snd (Option.some.inj h)) (congrArg (fun z => some (Value.int z.1)) (Option.some.inj h)) dX12_commandHere_308
                  · replace h := it_f q h
                    refine g_aload_n C dX12_commandHere_294 1 rfl ?_
                    refine g_iload_n C dX12_commandHere_295 0 rfl ?_
                    refine g_iconst C dX12_commandHere_296 (v := 1) rfl ?_
                    obtain ⟨r105, d106, hc107, h⟩ := ob2_1 h
                    refine g_callVi C 292 q_292 vk_M_197 hR rfl (m_M_figures C.2.2.2.2.2.2.1 hc107) rfl rfl rfl dX12_commandHere_297 rfl rfl ?_
                    refine g_if_eq C dX12_commandHere_300 (tgt := 307) rfl (fun q => ?_) (fun q => ?_)
                    · replace h := it_t q h
                      refine g_iconst C dX12_commandHere_307 (v := 0) rfl ?_
                      exact g_iret C hr hlk rfl (congrArg Prod.snd (Option.some.inj h)) (congrArg (fun z => some (Value.int z.1)) (Option.some.inj h)) dX12_commandHere_308
                    · replace h := it_f q h
                      refine g_iconst C dX12_commandHere_303 (v := 1) rfl ?_
                      refine g_goto C dX12_commandHere_304 (tgt := 308) rfl ?_
                      exact g_iret C hr hlk rfl (congrArg Prod.snd (Option.some.inj h)) (congrArg (fun z => some (Value.int z.1)) (Option.some.inj h)) dX12_commandHere_308
              · replace h := it_t q h
                refine g_iconst C dX12_commandHere_272 (v := 0) rfl ?_
                exact g_iret C hr hlk rfl (congrArg Prod.snd (Option.some.inj h)) (congrArg (fun z => some (Value.int z.1)) (Option.some.inj h)) dX12_commandHere_273
            · replace h := it_f q h
              refine g_aload_n C dX12_commandHere_219 1 rfl ?_
              refine g_bipush C dX12_commandHere_220 (v := 7) (by decide) ?_
              refine g_ldcS C 35 (by decide) (by decide +kernel) (by decide +kernel) dX12_commandHere_222 ?_
              obtain ⟨r108, d109, hc110, h⟩ := ob2_1 h
              refine g_callVi C 292 q_292 vk_M_191 hR rfl (m_M_isWord C.2.2.2.2.2.2.1 (by decide) hc110) rfl rfl rfl dX12_commandHere_224 rfl rfl ?_
              refine g_if_ne C dX12_commandHere_227 (tgt := 232) rfl (fun q => ?_) (fun q => ?_)
              · replace h := it_f q h
                refine g_aload_n C dX12_commandHere_232 1 rfl ?_
                refine g_get C (.ref (w_r w 299)) 292 q_292 fk_M_36 rfl dX12_commandHere_233 ?_
                refine g_iload_n C dX12_commandHere_236 0 rfl ?_
                refine g_iconst C dX12_commandHere_237 (v := 1) rfl ?_
                have hg111 := gd_1 h
                replace h := gd_2 h
                refine g_iast C 299 q_299 hg111 _ rfl  dX12_commandHere_238 ?_
                obtain ⟨d112, hd112, h⟩ := bnd_1 h
                refine g_nmD hd112 ?_
                refine g_aload_n C dX12_commandHere_239 1 rfl ?_
                obtain ⟨r113, hc114, h⟩ := ob1_1 h
                refine g_callVi C 292 q_292 vk_M_175 hR rfl (m_M_here C.2.2.2.2.2.2.1 hc114) rfl rfl rfl dX12_commandHere_240 rfl rfl ?_
                refine g_bipush C dX12_commandHere_243 (v := 32) (by decide) ?_
                refine g_icmp_ne C dX12_commandHere_245 (tgt := 257) rfl (fun q => ?_) (fun q => ?_)
                · replace h := it_f q h
                  refine g_iconst C dX12_commandHere_257 (v := 1) rfl ?_
                  refine g_goto C dX12_commandHere_258 (tgt := 262) rfl ?_
                  exact g_iret C hr hlk rfl (congrArg Prod.snd (Option.some.inj h)) (congrArg (fun z => some (Value.int z.1)) (Option.some.inj h)) dX12_commandHere_262
                · replace h := it_t q h
                  refine g_aload_n C dX12_commandHere_248 1 rfl ?_
                  refine g_iload_n C dX12_commandHere_249 0 rfl ?_
                  refine g_iconst C dX12_commandHere_250 (v := 1) rfl ?_
                  obtain ⟨r115, d116, hc117, h⟩ := ob2_1 h
                  refine g_callVi C 292 q_292 vk_M_197 hR rfl (m_M_figures C.2.2.2.2.2.2.1 hc117) rfl rfl rfl dX12_commandHere_251 rfl rfl ?_
                  refine g_if_eq C dX12_commandHere_254 (tgt := 261) rfl (fun q => ?_) (fun q => ?_)
                  · replace h := it_t q h
                    refine g_iconst C dX12_commandHere_261 (v := 0) rfl ?_
                    exact g_iret C hr hlk rfl (congrArg Prod.snd (Option.some.inj h)) (congrArg (fun z => some (Value.int z.1)) (Option.some.inj h)) dX12_commandHere_262
                  · replace h := it_f q h
                    refine g_iconst C dX12_commandHere_257 (v := 1) rfl ?_
                    refine g_goto C dX12_commandHere_258 (tgt := 262) rfl ?_
                    exact g_iret C hr hlk rfl (congrArg Prod.snd (Option.some.inj h)) (congrArg (fun z => some (Value.int z.1)) (Option.some.inj h)) dX12_commandHere_262
              · replace h := it_t q h
                refine g_iconst C dX12_commandHere_230 (v := 0) rfl ?_
                exact g_iret C hr hlk rfl (congrArg Prod.snd (Option.some.inj h)) (congrArg (fun z => some (Value.int z.1)) (Option.some.inj h)) dX12_commandHere_231
          · replace h := it_f q h
            refine g_aload_n C dX12_commandHere_162 1 rfl ?_
            refine g_iconst C dX12_commandHere_163 (v := 5) rfl ?_
            refine g_ldcS C 34 (by decide) (by decide +kernel) (by decide +kernel) dX12_commandHere_164 ?_
            obtain ⟨r118, d119, hc120, h⟩ := ob2_1 h
            refine g_callVi C 292 q_292 vk_M_191 hR rfl (m_M_isWord C.2.2.2.2.2.2.1 (by decide) hc120) rfl rfl rfl dX12_commandHere_166 rfl rfl ?_
            refine g_if_eq C dX12_commandHere_169 (tgt := 208) rfl (fun q => ?_) (fun q => ?_)
            · replace h := it_t q h
              refine g_iconst C dX12_commandHere_208 (v := 0) rfl ?_
              exact g_iret C hr hlk rfl (congrArg Prod.snd (Option.some.inj h)) (congrArg (fun z => some (Value.int z.1)) (Option.some.inj h)) dX12_commandHere_209
            · replace h := it_f q h
              refine g_aload_n C dX12_commandHere_172 1 rfl ?_
              refine g_iload_n C dX12_commandHere_173 0 rfl ?_
              refine g_iconst C dX12_commandHere_174 (v := 1) rfl ?_
              obtain ⟨r121, d122, hc123, h⟩ := ob2_1 h
              refine g_callVi C 292 q_292 vk_M_197 hR rfl (m_M_figures C.2.2.2.2.2.2.1 hc123) rfl rfl rfl dX12_commandHere_175 rfl rfl ?_
              refine g_if_eq C dX12_commandHere_178 (tgt := 208) rfl (fun q => ?_) (fun q => ?_)
              · replace h := it_t q h
                refine g_iconst C dX12_commandHere_208 (v := 0) rfl ?_
                exact g_iret C hr hlk rfl (congrArg Prod.snd (Option.some.inj h)) (congrArg (fun z => some (Value.int z.1)) (Option.some.inj h)) dX12_commandHere_209
              · replace h := it_f q h
                refine g_aload_n C dX12_commandHere_181 1 rfl ?_
                refine g_bipush C dX12_commandHere_182 (v := 32) (by decide) ?_
                obtain ⟨r124, d125, hc126, h⟩ := ob2_1 h
                refine g_callVi C 292 q_292 vk_M_183 hR rfl (m_M_skips C.2.2.2.2.2.2.1 hc126) rfl rfl rfl dX12_commandHere_184 rfl rfl ?_
                refine g_if_eq C dX12_commandHere_187 (tgt := 208) rfl (fun q => ?_) (fun q => ?_)
                · replace h := it_t q h
                  refine g_iconst C dX12_commandHere_208 (v := 0) rfl ?_
                  exact g_iret C hr hlk rfl (congrArg Prod.snd (Option.some.inj h)) (congrArg (fun z => some (Value.int z.1)) (Option.some.inj h)) dX12_commandHere_209
                · replace h := it_f q h
                  refine g_aload_n C dX12_commandHere_190 1 rfl ?_
                  refine g_iload_n C dX12_commandHere_191 0 rfl ?_
                  refine g_iconst C dX12_commandHere_192 (v := 1) rfl ?_
                  refine g_iadd C dX12_commandHere_193  ?_
                  refine g_bipush C dX12_commandHere_194 (v := 103) (by decide) ?_
                  refine g_bipush C dX12_commandHere_196 (v := 105) (by decide) ?_
                  obtain ⟨r127, d128, hc129, h⟩ := ob2_1 h
                  refine g_callVi C 292 q_292 vk_M_202 hR rfl (m_M_isOneOf C.2.2.2.2.2.2.1 hc129) rfl rfl rfl dX12_commandHere_198 rfl rfl ?_
                  refine g_if_eq C dX12_commandHere_201 (tgt := 208) rfl (fun q => ?_) (fun q => ?_)
                  · replace h := it_t q h
                    refine g_iconst C dX12_commandHere_208 (v := 0) rfl ?_
                    exact g_iret C hr hlk rfl (congrArg Prod.snd (Option.some.inj h)) (congrArg (fun z => some (Value.int z.1)) (Option.some.inj h)) dX12_commandHere_209
                  · replace h := it_f q h
                    refine g_iconst C dX12_commandHere_204 (v := 1) rfl ?_
                    refine g_goto C dX12_commandHere_205 (tgt := 209) rfl ?_
                    exact g_iret C hr hlk rfl (congrArg Prod.snd (Option.some.inj h)) (congrArg (fun z => some (Value.int z.1)) (Option.some.inj h)) dX12_commandHere_209
        · replace h := it_f q h
          refine g_aload_n C dX12_commandHere_128 1 rfl ?_
          refine g_iconst C dX12_commandHere_129 (v := 4) rfl ?_
          refine g_ldcS C 33 (by decide) (by decide +kernel) (by decide +kernel) dX12_commandHere_130 ?_
          obtain ⟨r130, d131, hc132, h⟩ := ob2_1 h
          refine g_callVi C 292 q_292 vk_M_191 hR rfl (m_M_isWord C.2.2.2.2.2.2.1 (by decide) hc132) rfl rfl rfl dX12_commandHere_132 rfl rfl ?_
          refine g_if_eq C dX12_commandHere_135 (tgt := 151) rfl (fun q => ?_) (fun q => ?_)
          · replace h := it_t q h
            refine g_iconst C dX12_commandHere_151 (v := 0) rfl ?_
            exact g_iret C hr hlk rfl (congrArg Prod.snd (Option.some.inj h)) (congrArg (fun z => some (Value.int z.1)) (Option.some.inj h)) dX12_commandHere_152
          · replace h := it_f q h
            refine g_aload_n C dX12_commandHere_138 1 rfl ?_
            refine g_iload_n C dX12_commandHere_139 0 rfl ?_
            refine g_iconst C dX12_commandHere_140 (v := 2) rfl ?_
            obtain ⟨r133, d134, hc135, h⟩ := ob2_1 h
            refine g_callVi C 292 q_292 vk_M_197 hR rfl (m_M_figures C.2.2.2.2.2.2.1 hc135) rfl rfl rfl dX12_commandHere_141 rfl rfl ?_
            refine g_if_eq C dX12_commandHere_144 (tgt := 151) rfl (fun q => ?_) (fun q => ?_)
            · replace h := it_t q h
              refine g_iconst C dX12_commandHere_151 (v := 0) rfl ?_
              exact g_iret C hr hlk rfl (congrArg Prod.snd (Option.some.inj h)) (congrArg (fun z => some (Value.int z.1)) (Option.some.inj h)) dX12_commandHere_152
            · replace h := it_f q h
              refine g_iconst C dX12_commandHere_147 (v := 1) rfl ?_
              refine g_goto C dX12_commandHere_148 (tgt := 152) rfl ?_
              exact g_iret C hr hlk rfl (congrArg Prod.snd (Option.some.inj h)) (congrArg (fun z => some (Value.int z.1)) (Option.some.inj h)) dX12_commandHere_152
      · replace h := it_f q h
        refine g_aload_n C dX12_commandHere_69 1 rfl ?_
        refine g_iconst C dX12_commandHere_70 (v := 3) rfl ?_
        refine g_ldcS C 32 (by decide) (by decide +kernel) (by decide +kernel) dX12_commandHere_71 ?_
        obtain ⟨r136, d137, hc138, h⟩ := ob2_1 h
        refine g_callVi C 292 q_292 vk_M_191 hR rfl (m_M_isWord C.2.2.2.2.2.2.1 (by decide) hc138) rfl rfl rfl dX12_commandHere_73 rfl rfl ?_
        refine g_if_eq C dX12_commandHere_76 (tgt := 117) rfl (fun q => ?_) (fun q => ?_)
        · replace h := it_t q h
          refine g_iconst C dX12_commandHere_117 (v := 0) rfl ?_
          exact g_iret C hr hlk rfl (congrArg Prod.snd (Option.some.inj h)) (congrArg (fun z => some (Value.int z.1)) (Option.some.inj h)) dX12_commandHere_118
        · replace h := it_f q h
          refine g_aload_n C dX12_commandHere_79 1 rfl ?_
          refine g_iload_n C dX12_commandHere_80 0 rfl ?_
          refine g_iconst C dX12_commandHere_81 (v := 1) rfl ?_
          obtain ⟨r139, d140, hc141, h⟩ := ob2_1 h
          refine g_callVi C 292 q_292 vk_M_197 hR rfl (m_M_figures C.2.2.2.2.2.2.1 hc141) rfl rfl rfl dX12_commandHere_82 rfl rfl ?_
          refine g_if_eq C dX12_commandHere_85 (tgt := 117) rfl (fun q => ?_) (fun q => ?_)
          · replace h := it_t q h
            refine g_iconst C dX12_commandHere_117 (v := 0) rfl ?_
            exact g_iret C hr hlk rfl (congrArg Prod.snd (Option.some.inj h)) (congrArg (fun z => some (Value.int z.1)) (Option.some.inj h)) dX12_commandHere_118
          · replace h := it_f q h
            refine g_aload_n C dX12_commandHere_88 1 rfl ?_
            refine g_iload_n C dX12_commandHere_89 0 rfl ?_
            refine g_iconst C dX12_commandHere_90 (v := 1) rfl ?_
            refine g_iadd C dX12_commandHere_91  ?_
            refine g_iconst C dX12_commandHere_92 (v := 1) rfl ?_
            obtain ⟨r142, d143, hc144, h⟩ := ob2_1 h
            refine g_callVi C 292 q_292 vk_M_186 hR rfl (m_M_digits C.2.2.2.2.2.2.1 hc144) rfl rfl rfl dX12_commandHere_93 rfl rfl ?_
            refine g_if_eq C dX12_commandHere_96 (tgt := 117) rfl (fun q => ?_) (fun q => ?_)
            · replace h := it_t q h
              refine g_iconst C dX12_commandHere_117 (v := 0) rfl ?_
              exact g_iret C hr hlk rfl (congrArg Prod.snd (Option.some.inj h)) (congrArg (fun z => some (Value.int z.1)) (Option.some.inj h)) dX12_commandHere_118
            · replace h := it_f q h
              refine g_aload_n C dX12_commandHere_99 1 rfl ?_
              refine g_iload_n C dX12_commandHere_100 0 rfl ?_
              refine g_iconst C dX12_commandHere_101 (v := 2) rfl ?_
              refine g_iadd C dX12_commandHere_102  ?_
              refine g_bipush C dX12_commandHere_103 (v := 43) (by decide) ?_
              refine g_bipush C dX12_commandHere_105 (v := 45) (by decide) ?_
              obtain ⟨r145, d146, hc147, h⟩ := ob2_1 h
              refine g_callVi C 292 q_292 vk_M_202 hR rfl (m_M_isOneOf C.2.2.2.2.2.2.1 hc147) rfl rfl rfl dX12_commandHere_107 rfl rfl ?_
              refine g_if_eq C dX12_commandHere_110 (tgt := 117) rfl (fun q => ?_) (fun q => ?_)
              · replace h := it_t q h
                refine g_iconst C dX12_commandHere_117 (v := 0) rfl ?_
                exact g_iret C hr hlk rfl (congrArg Prod.snd (Option.some.inj h)) (congrArg (fun z => some (Value.int z.1)) (Option.some.inj h)) dX12_commandHere_118
              · replace h := it_f q h
                refine g_iconst C dX12_commandHere_113 (v := 1) rfl ?_
                refine g_goto C dX12_commandHere_114 (tgt := 118) rfl ?_
                exact g_iret C hr hlk rfl (congrArg Prod.snd (Option.some.inj h)) (congrArg (fun z => some (Value.int z.1)) (Option.some.inj h)) dX12_commandHere_118
    · replace h := it_f q h
      refine g_aload_n C dX12_commandHere_35 1 rfl ?_
      refine g_iconst C dX12_commandHere_36 (v := 2) rfl ?_
      refine g_ldcS C 31 (by decide) (by decide +kernel) (by decide +kernel) dX12_commandHere_37 ?_
      obtain ⟨r148, d149, hc150, h⟩ := ob2_1 h
      refine g_callVi C 292 q_292 vk_M_191 hR rfl (m_M_isWord C.2.2.2.2.2.2.1 (by decide) hc150) rfl rfl rfl dX12_commandHere_39 rfl rfl ?_
      refine g_if_eq C dX12_commandHere_42 (tgt := 58) rfl (fun q => ?_) (fun q => ?_)
      · replace h := it_t q h
        refine g_iconst C dX12_commandHere_58 (v := 0) rfl ?_
        exact g_iret C hr hlk rfl (congrArg Prod.snd (Option.some.inj h)) (congrArg (fun z => some (Value.int z.1)) (Option.some.inj h)) dX12_commandHere_59
      · replace h := it_f q h
        refine g_aload_n C dX12_commandHere_45 1 rfl ?_
        refine g_iload_n C dX12_commandHere_46 0 rfl ?_
        refine g_iconst C dX12_commandHere_47 (v := 3) rfl ?_
        obtain ⟨r151, d152, hc153, h⟩ := ob2_1 h
        refine g_callVi C 292 q_292 vk_M_197 hR rfl (m_M_figures C.2.2.2.2.2.2.1 hc153) rfl rfl rfl dX12_commandHere_48 rfl rfl ?_
        refine g_if_eq C dX12_commandHere_51 (tgt := 58) rfl (fun q => ?_) (fun q => ?_)
        · replace h := it_t q h
          refine g_iconst C dX12_commandHere_58 (v := 0) rfl ?_
          exact g_iret C hr hlk rfl (congrArg Prod.snd (Option.some.inj h)) (congrArg (fun z => some (Value.int z.1)) (Option.some.inj h)) dX12_commandHere_59
        · replace h := it_f q h
          refine g_iconst C dX12_commandHere_54 (v := 1) rfl ?_
          refine g_goto C dX12_commandHere_55 (tgt := 59) rfl ?_
          exact g_iret C hr hlk rfl (congrArg Prod.snd (Option.some.inj h)) (congrArg (fun z => some (Value.int z.1)) (Option.some.inj h)) dX12_commandHere_59
  · replace h := it_f q h
    refine g_aload_n C dX12_commandHere_18 1 rfl ?_
    refine g_iconst C dX12_commandHere_19 (v := 0) rfl ?_
    refine g_ldcS C 30 (by decide) (by decide +kernel) (by decide +kernel) dX12_commandHere_20 ?_
    obtain ⟨r154, d155, hc156, h⟩ := ob2_1 h
    refine g_callVi C 292 q_292 vk_M_191 hR rfl (m_M_isWord C.2.2.2.2.2.2.1 (by decide) hc156) rfl rfl rfl dX12_commandHere_22 rfl rfl ?_
    have hg157 := gd_1 h
    replace h := gd_2 h
    exact g_iret C hr hlk (nar_n hg157) (congrArg Prod.snd (Option.some.inj h)) (congrArg (fun z => some (Value.int z.1)) (Option.some.inj h)) dX12_commandHere_25
set_option maxHeartbeats 4000000 in
set_option maxRecDepth 100000 in
theorem m_M_courtCoins {w : wT} {l : Launch} {d : Dt} {rE : Int32} {dE : Dt} (hO : okW w) (h : f_M_courtCoins  d = some (rE, dE)) : gM w l yX12_courtCoins cX12_courtCoins 1 (Option.some Jvm.ClassFile.FieldType.int) 0 [.ref (w_r w 292)] d dE (some (.int rE)) := by
  refine gM_of (by decide) [(0, .ref (w_r w 292))] rfl rfl ?_ hO
  intro p e R s m args below meth c C hR hr hlk
  unfold f_M_courtCoins at h
  refine g_aload_n C dX12_courtCoins_0 0 rfl ?_
  refine g_iconst C dX12_courtCoins_1 (v := 0) rfl ?_
  refine g_put C 292 q_292 pk_M_39 rfl rfl dX12_courtCoins_2 ?_
  obtain ⟨d2, hd2, h⟩ := bnd_1 h
  refine g_nmD hd2 ?_
  refine g_aload_n C dX12_courtCoins_5 0 rfl ?_
  refine g_get C (.ref (w_r w 293)) 292 q_292 fk_M_7 rfl dX12_courtCoins_6 ?_
  refine g_bipush C dX12_courtCoins_9 (v := 6) (by decide) ?_
  refine g_iald C 293 q_293 (by decide) 6 (by decide) dX12_courtCoins_11 ?_
  refine g_aload_n C dX12_courtCoins_12 0 rfl ?_
  refine g_get C (.ref (w_r w 293)) 292 q_292 fk_M_7 rfl dX12_courtCoins_13 ?_
  refine g_iconst C dX12_courtCoins_16 (v := 5) rfl ?_
  refine g_iald C 293 q_293 (by decide) 5 (by decide) dX12_courtCoins_17 ?_
  refine g_isub C dX12_courtCoins_18  ?_
  exact g_iret C hr hlk rfl (congrArg Prod.snd (Option.some.inj h)) (congrArg (fun z => some (Value.int z.1)) (Option.some.inj h)) dX12_courtCoins_19
set_option maxHeartbeats 4000000 in
set_option maxRecDepth 100000 in
theorem m_M_day {w : wT} {l : Launch} {d : Dt} {rE : Int32} {dE : Dt} (hO : okW w) (h : f_M_day  d = some (rE, dE)) : gM w l yX12_day cX12_day 1 (Option.some Jvm.ClassFile.FieldType.int) 0 [.ref (w_r w 292)] d dE (some (.int rE)) := by
  refine gM_of (by decide) [(0, .ref (w_r w 292))] rfl rfl ?_ hO
  intro p e R s m args below meth c C hR hr hlk
  unfold f_M_day at h
  refine g_aload_n C dX12_day_0 0 rfl ?_
  refine g_iconst C dX12_day_1 (v := 0) rfl ?_
  refine g_put C 292 q_292 pk_M_39 rfl rfl dX12_day_2 ?_
  obtain ⟨d2, hd2, h⟩ := bnd_1 h
  refine g_nmD hd2 ?_
  refine g_aload_n C dX12_day_5 0 rfl ?_
  refine g_get C (.ref (w_r w 293)) 292 q_292 fk_M_7 rfl dX12_day_6 ?_
  refine g_iconst C dX12_day_9 (v := 1) rfl ?_
  refine g_iald C 293 q_293 (by decide) 1 (by decide) dX12_day_10 ?_
  exact g_iret C hr hlk rfl (congrArg Prod.snd (Option.some.inj h)) (congrArg (fun z => some (Value.int z.1)) (Option.some.inj h)) dX12_day_11
set_option maxHeartbeats 4000000 in
set_option maxRecDepth 100000 in
theorem m_M_daysLeft {w : wT} {l : Launch} {x1 : Int32} {d : Dt} {rE : Int32} {dE : Dt} (hO : okW w) (h : f_M_daysLeft x1 d = some (rE, dE)) : gM w l yX12_daysLeft cX12_daysLeft 2 (Option.some Jvm.ClassFile.FieldType.int) 2 [.ref (w_r w 292), .int x1] d dE (some (.int rE)) := by
  refine gM_of (by decide) [(0, .ref (w_r w 292)), (1, .int x1)] rfl rfl ?_ hO
  intro p e R s m args below meth c C hR hr hlk
  have R27 : ∀ (x1 : Int32) (v1 : Int32) (d : Dt), f_M_daysLeft_27 x1 v1 d = some (rE, dE) → gG w p l e R s m args below meth c 2 0 0 (gE w below args s dE (some (.int rE))) d [(0, .ref (w_r w 292)), (1, .int x1)] 27 [.int v1, .ref (w_r w 292)] := by
    intro x1 v1 d  h
    unfold f_M_daysLeft_27 at h
    obtain ⟨r6, d7, hc8, h⟩ := ob2_1 h
    refine g_callVi C 292 q_292 vk_M_61 hR rfl (m_M_fails C.2.2.2.2.2.2.1 hc8) rfl rfl rfl dX12_daysLeft_27 rfl rfl ?_
    refine g_if_eq C dX12_daysLeft_30 (tgt := 37) rfl (fun q => ?_) (fun q => ?_)
    · replace h := it_t q h
      refine g_aload_n C dX12_daysLeft_37 0 rfl ?_
      refine g_iload_n C dX12_daysLeft_38 1 rfl ?_
      refine g_iconst C dX12_daysLeft_39 (v := 3) rfl ?_
      obtain ⟨r9, hc10, h⟩ := ob1_1 h
      refine g_callVi C 292 q_292 vk_M_87 hR rfl (m_M_of C.2.2.2.2.2.2.1 hc10) rfl rfl rfl dX12_daysLeft_40 rfl rfl ?_
      exact g_iret C hr hlk rfl (congrArg Prod.snd (Option.some.inj h)) (congrArg (fun z => some (Value.int z.1)) (Option.some.inj h)) dX12_daysLeft_43
    · replace h := it_f q h
      refine g_iconst C dX12_daysLeft_33 (v := 0) rfl ?_
      refine g_goto C dX12_daysLeft_34 (tgt := 43) rfl ?_
      exact g_iret C hr hlk rfl (congrArg Prod.snd (Option.some.inj h)) (congrArg (fun z => some (Value.int z.1)) (Option.some.inj h)) dX12_daysLeft_43
  unfold f_M_daysLeft at h
  refine g_aload_n C dX12_daysLeft_0 0 rfl ?_
  refine g_aload_n C dX12_daysLeft_1 0 rfl ?_
  refine g_iload_n C dX12_daysLeft_2 1 rfl ?_
  obtain ⟨r11, hc12, h⟩ := ob1_1 h
  refine g_callVi C 292 q_292 vk_M_57 hR rfl (m_M_isLantern C.2.2.2.2.2.2.1 hc12) rfl rfl rfl dX12_daysLeft_3 rfl rfl ?_
  refine g_if_ne C dX12_daysLeft_6 (tgt := 13) rfl (fun q => ?_) (fun q => ?_)
  · replace h := it_f q h
    refine g_aload_n C dX12_daysLeft_13 0 rfl ?_
    refine g_iload_n C dX12_daysLeft_14 1 rfl ?_
    refine g_iconst C dX12_daysLeft_15 (v := 2) rfl ?_
    obtain ⟨r13, hc14, h⟩ := ob1_1 h
    refine g_callVi C 292 q_292 vk_M_87 hR rfl (m_M_of C.2.2.2.2.2.2.1 hc14) rfl rfl rfl dX12_daysLeft_16 rfl rfl ?_
    refine g_if_ne C dX12_daysLeft_19 (tgt := 26) rfl (fun q => ?_) (fun q => ?_)
    · replace h := it_f q h
      refine g_iconst C dX12_daysLeft_26 (v := 0) rfl ?_
      exact R27 x1 0 d h
    · replace h := it_t q h
      refine g_iconst C dX12_daysLeft_22 (v := 2) rfl ?_
      refine g_goto C dX12_daysLeft_23 (tgt := 27) rfl ?_
      exact R27 x1 2 d h
  · replace h := it_t q h
    refine g_iconst C dX12_daysLeft_9 (v := 1) rfl ?_
    refine g_goto C dX12_daysLeft_10 (tgt := 27) rfl ?_
    exact R27 x1 1 d h
set_option maxHeartbeats 4000000 in
set_option maxRecDepth 100000 in
theorem m_M_toServe {w : wT} {l : Launch} {x1 : Int32} {d : Dt} {rE : Int32} (hO : okW w) (h : f_M_toServe x1 d = some rE) : gM w l yX12_toServe cX12_toServe 4 (Option.some Jvm.ClassFile.FieldType.int) 1 [.ref (w_r w 292), .int x1] d d (some (.int rE)) := by
  refine gM_of (by decide) [(0, .ref (w_r w 292)), (1, .int x1)] rfl rfl ?_ hO
  intro p e R s m args below meth c C hR hr hlk
  have R4 : ∀ (x1 : Int32) (x2 : Int32) (x3 : Int32), f_M_toServe_4 x1 x2 x3 d = some rE → gG w p l e R s m args below meth c 4 0 0 (gE w below args s d (some (.int rE))) d [(0, .ref (w_r w 292)), (1, .int x1), (2, .int x2), (3, .int x3)] 4 [] := by
    intro x1 x2 x3   h
    refine iter_ind (G := fun s_ : (Int32 × Int32) => gG w p l e R s m args below meth c 4 0 0 (gE w below args s d (some (.int rE))) d [(0, .ref (w_r w 292)), (1, .int x1), (2, .int s_.1), (3, .int s_.2)] 4 []) ?_ fu _ h
    clear h
    intro s_ y1 h hl1 hx1
    obtain ⟨x2, x3⟩ := s_
    show gG w p l e R s m args below meth c 4 0 0 (gE w below args s d (some (.int rE))) d [(0, .ref (w_r w 292)), (1, .int x1), (2, .int x2), (3, .int x3)] 4 []
    dsimp only at h
    unfold st_M_toServe_4 at h
    refine g_iload_n C dX12_toServe_4 3 rfl ?_
    refine g_aload_n C dX12_toServe_5 0 rfl ?_
    refine g_iload_n C dX12_toServe_6 1 rfl ?_
    refine g_iconst C dX12_toServe_7 (v := 2) rfl ?_
    obtain ⟨r3, hc4, h⟩ := ob1_1 h
    refine g_callVi C 292 q_292 vk_M_87 hR rfl (m_M_of C.2.2.2.2.2.2.1 hc4) rfl rfl rfl dX12_toServe_8 rfl rfl ?_
    refine g_icmp_ge C dX12_toServe_11 (tgt := 31) rfl (fun q => ?_) (fun q => ?_)
    · replace h := it_t q h
      replace h := ir_2 h hx1
      refine g_iload_n C dX12_toServe_31 2 rfl ?_
      exact g_iret C hr hlk rfl rfl (congrArg (fun z => some (Value.int z)) (Option.some.inj h)) dX12_toServe_32
    · replace h := it_f q h
      refine g_iload_n C dX12_toServe_14 2 rfl ?_
      refine g_aload_n C dX12_toServe_15 0 rfl ?_
      refine g_iload_n C dX12_toServe_16 1 rfl ?_
      refine g_iconst C dX12_toServe_17 (v := 3) rfl ?_
      refine g_iload_n C dX12_toServe_18 3 rfl ?_
      refine g_iadd C dX12_toServe_19  ?_
      obtain ⟨r5, hc6, h⟩ := ob1_1 h
      refine g_callVi C 292 q_292 vk_M_87 hR rfl (m_M_of C.2.2.2.2.2.2.1 hc6) rfl rfl rfl dX12_toServe_20 rfl rfl ?_
      refine g_iadd C dX12_toServe_23  ?_
      refine g_istore_n C (lv' := [(2, .int (x2 + r5)), (0, .ref (w_r w 292)), (1, .int x1), (3, .int x3)]) dX12_toServe_24 (by decide) rfl ?_
      refine g_iinc C (lv' := [(3, .int (x3 + 1)), (2, .int (x2 + r5)), (0, .ref (w_r w 292)), (1, .int x1)]) (v := (x3 + 1)) dX12_toServe_25 3 rfl rfl (by decide) rfl ?_
      refine g_goto C dX12_toServe_28 (tgt := 4) rfl ?_
      refine g_sub [2, 3, 1, 0] (lv' := [(0, .ref (w_r w 292)), (1, .int x1), (2, .int (x2 + r5)), (3, .int (x3 + 1))]) rfl ?_
      exact hl1 ((x2 + r5), (x3 + 1)) (Option.some.inj h).symm
  unfold f_M_toServe at h
  refine g_iconst C dX12_toServe_0 (v := 0) rfl ?_
  refine g_istore_n C (lv' := [(2, .int 0), (0, .ref (w_r w 292)), (1, .int x1)]) dX12_toServe_1 (by decide) rfl ?_
  refine g_iconst C dX12_toServe_2 (v := 0) rfl ?_
  refine g_istore_n C (lv' := [(3, .int 0), (2, .int 0), (0, .ref (w_r w 292)), (1, .int x1)]) dX12_toServe_3 (by decide) rfl ?_
  refine g_sub [2, 3, 1, 0] (lv' := [(0, .ref (w_r w 292)), (1, .int x1), (2, .int 0), (3, .int 0)]) rfl ?_
  exact R4 x1 0 0 h
set_option maxHeartbeats 4000000 in
set_option maxRecDepth 100000 in
theorem m_M_daysUntilFree {w : wT} {l : Launch} {x1 : Int32} {d : Dt} {rE : Int32} {dE : Dt} (hO : okW w) (h : f_M_daysUntilFree x1 d = some (rE, dE)) : gM w l yX12_daysUntilFree cX12_daysUntilFree 2 (Option.some Jvm.ClassFile.FieldType.int) 3 [.ref (w_r w 292), .int x1] d dE (some (.int rE)) := by
  refine gM_of (by decide) [(0, .ref (w_r w 292)), (1, .int x1)] rfl rfl ?_ hO
  intro p e R s m args below meth c C hR hr hlk
  unfold f_M_daysUntilFree at h
  refine g_aload_n C dX12_daysUntilFree_0 0 rfl ?_
  refine g_iload_n C dX12_daysUntilFree_1 1 rfl ?_
  obtain ⟨r4, d5, hc6, h⟩ := ob2_1 h
  refine g_callVi C 292 q_292 vk_M_134 hR rfl (m_M_isNone C.2.2.2.2.2.2.1 hc6) rfl rfl rfl dX12_daysUntilFree_2 rfl rfl ?_
  refine g_if_eq C dX12_daysUntilFree_5 (tgt := 12) rfl (fun q => ?_) (fun q => ?_)
  · replace h := it_t q h
    refine g_aload_n C dX12_daysUntilFree_12 0 rfl ?_
    refine g_iload_n C dX12_daysUntilFree_13 1 rfl ?_
    obtain ⟨r7, hc8, h⟩ := ob1_1 h
    refine g_callVi C 292 q_292 vk_M_137 hR rfl (m_M_toServe C.2.2.2.2.2.2.1 hc8) rfl rfl rfl dX12_daysUntilFree_14 rfl rfl ?_
    exact g_iret C hr hlk rfl (congrArg Prod.snd (Option.some.inj h)) (congrArg (fun z => some (Value.int z.1)) (Option.some.inj h)) dX12_daysUntilFree_17
  · replace h := it_f q h
    refine g_iconst C dX12_daysUntilFree_8 (v := 0) rfl ?_
    refine g_goto C dX12_daysUntilFree_9 (tgt := 17) rfl ?_
    exact g_iret C hr hlk rfl (congrArg Prod.snd (Option.some.inj h)) (congrArg (fun z => some (Value.int z.1)) (Option.some.inj h)) dX12_daysUntilFree_17
set_option maxHeartbeats 4000000 in
set_option maxRecDepth 100000 in
theorem m_M_errorPosition {w : wT} {l : Launch} {d : Dt} {rE : Int32} {dE : Dt} (hO : okW w) (h : f_M_errorPosition  d = some (rE, dE)) : gM w l yX12_errorPosition cX12_errorPosition 1 (Option.some Jvm.ClassFile.FieldType.int) 1 [.ref (w_r w 292)] d dE (some (.int rE)) := by
  refine gM_of (by decide) [(0, .ref (w_r w 292))] rfl rfl ?_ hO
  intro p e R s m args below meth c C hR hr hlk
  have R13 : ∀ (v1 : Int32) (d : Dt), f_M_errorPosition_13  v1 d = some (rE, dE) → gG w p l e R s m args below meth c 1 0 0 (gE w below args s dE (some (.int rE))) d [(0, .ref (w_r w 292))] 13 [.int v1, .ref (w_r w 292)] := by
    intro  v1 d  h
    unfold f_M_errorPosition_13 at h
    obtain ⟨r3, d4, hc5, h⟩ := ob2_1 h
    refine g_callVi C 292 q_292 vk_M_61 hR rfl (m_M_fails C.2.2.2.2.2.2.1 hc5) rfl rfl rfl dX12_errorPosition_13 rfl rfl ?_
    refine g_if_eq C dX12_errorPosition_16 (tgt := 23) rfl (fun q => ?_) (fun q => ?_)
    · replace h := it_t q h
      refine g_aload_n C dX12_errorPosition_23 0 rfl ?_
      refine g_get C (.int (d4 292 10)) 292 q_292 fk_M_25 rfl dX12_errorPosition_24 ?_
      exact g_iret C hr hlk rfl (congrArg Prod.snd (Option.some.inj h)) (congrArg (fun z => some (Value.int z.1)) (Option.some.inj h)) dX12_errorPosition_27
    · replace h := it_f q h
      refine g_iconst C dX12_errorPosition_19 (v := 0) rfl ?_
      refine g_goto C dX12_errorPosition_20 (tgt := 27) rfl ?_
      exact g_iret C hr hlk rfl (congrArg Prod.snd (Option.some.inj h)) (congrArg (fun z => some (Value.int z.1)) (Option.some.inj h)) dX12_errorPosition_27
  unfold f_M_errorPosition at h
  refine g_aload_n C dX12_errorPosition_0 0 rfl ?_
  refine g_aload_n C dX12_errorPosition_1 0 rfl ?_
  refine g_get C (.int (d 292 10)) 292 q_292 fk_M_25 rfl dX12_errorPosition_2 ?_
  refine g_if_ge C dX12_errorPosition_5 (tgt := 12) rfl (fun q => ?_) (fun q => ?_)
  · replace h := it_t q h
    refine g_iconst C dX12_errorPosition_12 (v := 0) rfl ?_
    exact R13 0 d h
  · replace h := it_f q h
    refine g_iconst C dX12_errorPosition_8 (v := 1) rfl ?_
    refine g_goto C dX12_errorPosition_9 (tgt := 13) rfl ?_
    exact R13 1 d h
set_option maxHeartbeats 4000000 in
set_option maxRecDepth 100000 in
theorem m_M_ways {w : wT} {l : Launch} {d : Dt} {rE : Int32} (hO : okW w) (h : f_M_ways  d = some rE) : gM w l yX12_ways cX12_ways 4 (Option.some Jvm.ClassFile.FieldType.int) 3 [.ref (w_r w 292)] d d (some (.int rE)) := by
  refine gM_of (by decide) [(0, .ref (w_r w 292))] rfl rfl ?_ hO
  intro p e R s m args below meth c C hR hr hlk
  have R15 : ∀ (x1 : Int32) (x2 : Int32) (x3 : Int32), f_M_ways_15 x1 x2 x3 d = some rE → gG w p l e R s m args below meth c 4 0 0 (gE w below args s d (some (.int rE))) d [(0, .ref (w_r w 292)), (1, .int x1), (2, .int x2), (3, .int x3)] 15 [] := by
    intro x1 x2 x3   h
    refine iter_ind (G := fun s_ : (Int32 × Int32) => gG w p l e R s m args below meth c 4 0 0 (gE w below args s d (some (.int rE))) d [(0, .ref (w_r w 292)), (1, .int x1), (2, .int s_.1), (3, .int s_.2)] 15 []) ?_ fu _ h
    clear h
    intro s_ y1 h hl1 hx1
    obtain ⟨x2, x3⟩ := s_
    show gG w p l e R s m args below meth c 4 0 0 (gE w below args s d (some (.int rE))) d [(0, .ref (w_r w 292)), (1, .int x1), (2, .int x2), (3, .int x3)] 15 []
    dsimp only at h
    unfold st_M_ways_15 at h
    refine g_iload_n C dX12_ways_15 3 rfl ?_
    refine g_iload_n C dX12_ways_16 1 rfl ?_
    refine g_icmp_gt C dX12_ways_17 (tgt := 52) rfl (fun q => ?_) (fun q => ?_)
    · replace h := it_t q h
      replace h := ir_2 h hx1
      refine g_iload_n C dX12_ways_52 2 rfl ?_
      exact g_iret C hr hlk rfl rfl (congrArg (fun z => some (Value.int z)) (Option.some.inj h)) dX12_ways_53
    · replace h := it_f q h
      refine g_iload_n C dX12_ways_20 2 rfl ?_
      refine g_aload_n C dX12_ways_21 0 rfl ?_
      refine g_iload_n C dX12_ways_22 1 rfl ?_
      refine g_iload_n C dX12_ways_23 3 rfl ?_
      obtain ⟨r3, hc4, h⟩ := ob1_1 h
      refine g_callVi C 292 q_292 vk_M_106 hR rfl (m_M_areTrue C.2.2.2.2.2.2.1 hc4) rfl rfl rfl dX12_ways_24 rfl rfl ?_
      refine g_if_eq C dX12_ways_27 (tgt := 43) rfl (fun q => ?_) (fun q => ?_)
      · replace h := it_t q h
        refine g_iconst C dX12_ways_43 (v := 0) rfl ?_
        refine g_iadd C dX12_ways_44  ?_
        refine g_istore_n C (lv' := [(2, .int (x2 + 0)), (0, .ref (w_r w 292)), (1, .int x1), (3, .int x3)]) dX12_ways_45 (by decide) rfl ?_
        refine g_iinc C (lv' := [(3, .int (x3 + 1)), (2, .int (x2 + 0)), (0, .ref (w_r w 292)), (1, .int x1)]) (v := (x3 + 1)) dX12_ways_46 3 rfl rfl (by decide) rfl ?_
        refine g_goto C dX12_ways_49 (tgt := 15) rfl ?_
        refine g_sub [2, 3, 1, 0] (lv' := [(0, .ref (w_r w 292)), (1, .int x1), (2, .int (x2 + 0)), (3, .int (x3 + 1))]) rfl ?_
        exact hl1 ((x2 + 0), (x3 + 1)) (Option.some.inj h).symm
      · replace h := it_f q h
        refine g_aload_n C dX12_ways_30 0 rfl ?_
        refine g_iload_n C dX12_ways_31 1 rfl ?_
        refine g_iload_n C dX12_ways_32 3 rfl ?_
        obtain ⟨r5, hc6, h⟩ := ob1_1 h
        refine g_callVi C 292 q_292 vk_M_109 hR rfl (m_M_isAdmitted C.2.2.2.2.2.2.1 hc6) rfl rfl rfl dX12_ways_33 rfl rfl ?_
        refine g_if_eq C dX12_ways_36 (tgt := 43) rfl (fun q => ?_) (fun q => ?_)
        · replace h := it_t q h
          refine g_iconst C dX12_ways_43 (v := 0) rfl ?_
          refine g_iadd C dX12_ways_44  ?_
          refine g_istore_n C (lv' := [(2, .int (x2 + 0)), (0, .ref (w_r w 292)), (1, .int x1), (3, .int x3)]) dX12_ways_45 (by decide) rfl ?_
          refine g_iinc C (lv' := [(3, .int (x3 + 1)), (2, .int (x2 + 0)), (0, .ref (w_r w 292)), (1, .int x1)]) (v := (x3 + 1)) dX12_ways_46 3 rfl rfl (by decide) rfl ?_
          refine g_goto C dX12_ways_49 (tgt := 15) rfl ?_
          refine g_sub [2, 3, 1, 0] (lv' := [(0, .ref (w_r w 292)), (1, .int x1), (2, .int (x2 + 0)), (3, .int (x3 + 1))]) rfl ?_
          exact hl1 ((x2 + 0), (x3 + 1)) (Option.some.inj h).symm
        · replace h := it_f q h
          refine g_iconst C dX12_ways_39 (v := 1) rfl ?_
          refine g_goto C dX12_ways_40 (tgt := 44) rfl ?_
          refine g_iadd C dX12_ways_44  ?_
          refine g_istore_n C (lv' := [(2, .int (x2 + 1)), (0, .ref (w_r w 292)), (1, .int x1), (3, .int x3)]) dX12_ways_45 (by decide) rfl ?_
          refine g_iinc C (lv' := [(3, .int (x3 + 1)), (2, .int (x2 + 1)), (0, .ref (w_r w 292)), (1, .int x1)]) (v := (x3 + 1)) dX12_ways_46 3 rfl rfl (by decide) rfl ?_
          refine g_goto C dX12_ways_49 (tgt := 15) rfl ?_
          refine g_sub [2, 3, 1, 0] (lv' := [(0, .ref (w_r w 292)), (1, .int x1), (2, .int (x2 + 1)), (3, .int (x3 + 1))]) rfl ?_
          exact hl1 ((x2 + 1), (x3 + 1)) (Option.some.inj h).symm
  unfold f_M_ways at h
  refine g_iconst C dX12_ways_0 (v := 1) rfl ?_
  refine g_aload_n C dX12_ways_1 0 rfl ?_
  refine g_get C (.ref (w_r w 293)) 292 q_292 fk_M_7 rfl dX12_ways_2 ?_
  refine g_iconst C dX12_ways_5 (v := 0) rfl ?_
  refine g_iald C 293 q_293 (by decide) 0 (by decide) dX12_ways_6 ?_
  refine g_ishl C dX12_ways_7  ?_
  refine g_iconst C dX12_ways_8 (v := 1) rfl ?_
  refine g_isub C dX12_ways_9  ?_
  refine g_istore_n C (lv' := [(1, .int ((1 <<< ((d 293 0) &&& 31)) - 1)), (0, .ref (w_r w 292))]) dX12_ways_10 (by decide) rfl ?_
  refine g_iconst C dX12_ways_11 (v := 0) rfl ?_
  refine g_istore_n C (lv' := [(2, .int 0), (1, .int ((1 <<< ((d 293 0) &&& 31)) - 1)), (0, .ref (w_r w 292))]) dX12_ways_12 (by decide) rfl ?_
  refine g_iconst C dX12_ways_13 (v := 0) rfl ?_
  refine g_istore_n C (lv' := [(3, .int 0), (2, .int 0), (1, .int ((1 <<< ((d 293 0) &&& 31)) - 1)), (0, .ref (w_r w 292))]) dX12_ways_14 (by decide) rfl ?_
  refine g_sub [3, 2, 1, 0] (lv' := [(0, .ref (w_r w 292)), (1, .int ((1 <<< ((d 293 0) &&& 31)) - 1)), (2, .int 0), (3, .int 0)]) rfl ?_
  exact R15 ((1 <<< ((d 293 0) &&& 31)) - 1) 0 0 h
set_option maxHeartbeats 4000000 in
set_option maxRecDepth 100000 in
theorem m_M_explanations {w : wT} {l : Launch} {d : Dt} {rE : Int32} {dE : Dt} (hO : okW w) (h : f_M_explanations  d = some (rE, dE)) : gM w l yX12_explanations cX12_explanations 1 (Option.some Jvm.ClassFile.FieldType.int) 4 [.ref (w_r w 292)] d dE (some (.int rE)) := by
  refine gM_of (by decide) [(0, .ref (w_r w 292))] rfl rfl ?_ hO
  intro p e R s m args below meth c C hR hr hlk
  unfold f_M_explanations at h
  refine g_aload_n C dX12_explanations_0 0 rfl ?_
  refine g_iconst C dX12_explanations_1 (v := 0) rfl ?_
  refine g_put C 292 q_292 pk_M_39 rfl rfl dX12_explanations_2 ?_
  obtain ⟨d3, hd3, h⟩ := bnd_1 h
  refine g_nmD hd3 ?_
  refine g_aload_n C dX12_explanations_5 0 rfl ?_
  obtain ⟨r4, hc5, h⟩ := ob1_1 h
  refine g_callVi C 292 q_292 vk_M_157 hR rfl (m_M_ways C.2.2.2.2.2.2.1 hc5) rfl rfl rfl dX12_explanations_6 rfl rfl ?_
  exact g_iret C hr hlk rfl (congrArg Prod.snd (Option.some.inj h)) (congrArg (fun z => some (Value.int z.1)) (Option.some.inj h)) dX12_explanations_9
set_option maxHeartbeats 4000000 in
set_option maxRecDepth 100000 in
theorem m_M_explanationsByTrial {w : wT} {l : Launch} {d : Dt} {rE : Int32} {dE : Dt} (hO : okW w) (h : f_M_explanationsByTrial  d = some (rE, dE)) : gM w l yX12_explanationsByTrial cX12_explanationsByTrial 1 (Option.some Jvm.ClassFile.FieldType.int) 4 [.ref (w_r w 292)] d dE (some (.int rE)) := by
  refine gM_of (by decide) [(0, .ref (w_r w 292))] rfl rfl ?_ hO
  intro p e R s m args below meth c C hR hr hlk
  unfold f_M_explanationsByTrial at h
  refine g_aload_n C dX12_explanationsByTrial_0 0 rfl ?_
  refine g_iconst C dX12_explanationsByTrial_1 (v := 0) rfl ?_
  refine g_put C 292 q_292 pk_M_39 rfl rfl dX12_explanationsByTrial_2 ?_
  obtain ⟨d3, hd3, h⟩ := bnd_1 h
  refine g_nmD hd3 ?_
  refine g_aload_n C dX12_explanationsByTrial_5 0 rfl ?_
  obtain ⟨r4, hc5, h⟩ := ob1_1 h
  refine g_callVi C 292 q_292 vk_M_157 hR rfl (m_M_ways C.2.2.2.2.2.2.1 hc5) rfl rfl rfl dX12_explanationsByTrial_6 rfl rfl ?_
  exact g_iret C hr hlk rfl (congrArg Prod.snd (Option.some.inj h)) (congrArg (fun z => some (Value.int z.1)) (Option.some.inj h)) dX12_explanationsByTrial_9
set_option maxHeartbeats 4000000 in
set_option maxRecDepth 100000 in
theorem m_M_failedCommand {w : wT} {l : Launch} {d : Dt} {rE : Int32} {dE : Dt} (hO : okW w) (h : f_M_failedCommand  d = some (rE, dE)) : gM w l yX12_failedCommand cX12_failedCommand 1 (Option.some Jvm.ClassFile.FieldType.int) 1 [.ref (w_r w 292)] d dE (some (.int rE)) := by
  refine gM_of (by decide) [(0, .ref (w_r w 292))] rfl rfl ?_ hO
  intro p e R s m args below meth c C hR hr hlk
  have R13 : ∀ (v1 : Int32) (d : Dt), f_M_failedCommand_13  v1 d = some (rE, dE) → gG w p l e R s m args below meth c 1 0 0 (gE w below args s dE (some (.int rE))) d [(0, .ref (w_r w 292))] 13 [.int v1, .ref (w_r w 292)] := by
    intro  v1 d  h
    unfold f_M_failedCommand_13 at h
    obtain ⟨r3, d4, hc5, h⟩ := ob2_1 h
    refine g_callVi C 292 q_292 vk_M_61 hR rfl (m_M_fails C.2.2.2.2.2.2.1 hc5) rfl rfl rfl dX12_failedCommand_13 rfl rfl ?_
    refine g_if_eq C dX12_failedCommand_16 (tgt := 23) rfl (fun q => ?_) (fun q => ?_)
    · replace h := it_t q h
      refine g_aload_n C dX12_failedCommand_23 0 rfl ?_
      refine g_get C (.int (d4 292 11)) 292 q_292 fk_M_29 rfl dX12_failedCommand_24 ?_
      exact g_iret C hr hlk rfl (congrArg Prod.snd (Option.some.inj h)) (congrArg (fun z => some (Value.int z.1)) (Option.some.inj h)) dX12_failedCommand_27
    · replace h := it_f q h
      refine g_iconst C dX12_failedCommand_19 (v := 0) rfl ?_
      refine g_goto C dX12_failedCommand_20 (tgt := 27) rfl ?_
      exact g_iret C hr hlk rfl (congrArg Prod.snd (Option.some.inj h)) (congrArg (fun z => some (Value.int z.1)) (Option.some.inj h)) dX12_failedCommand_27
  unfold f_M_failedCommand at h
  refine g_aload_n C dX12_failedCommand_0 0 rfl ?_
  refine g_aload_n C dX12_failedCommand_1 0 rfl ?_
  refine g_get C (.int (d 292 11)) 292 q_292 fk_M_29 rfl dX12_failedCommand_2 ?_
  refine g_if_ge C dX12_failedCommand_5 (tgt := 12) rfl (fun q => ?_) (fun q => ?_)
  · replace h := it_t q h
    refine g_iconst C dX12_failedCommand_12 (v := 0) rfl ?_
    exact R13 0 d h
  · replace h := it_f q h
    refine g_iconst C dX12_failedCommand_8 (v := 1) rfl ?_
    refine g_goto C dX12_failedCommand_9 (tgt := 13) rfl ?_
    exact R13 1 d h
set_option maxHeartbeats 4000000 in
set_option maxRecDepth 100000 in
theorem m_M_ofBrief {w : wT} {l : Launch} {x1 x2 : Int32} {d : Dt} {rE : Int32} {dE : Dt} (hO : okW w) (h : f_M_ofBrief x1 x2 d = some (rE, dE)) : gM w l yX12_ofBrief cX12_ofBrief 3 (Option.some Jvm.ClassFile.FieldType.int) 2 [.ref (w_r w 292), .int x1, .int x2] d dE (some (.int rE)) := by
  refine gM_of (by decide) [(0, .ref (w_r w 292)), (1, .int x1), (2, .int x2)] rfl rfl ?_ hO
  intro p e R s m args below meth c C hR hr hlk
  have R14 : ∀ (x1 : Int32) (x2 : Int32) (v1 : Int32) (d : Dt), f_M_ofBrief_14 x1 x2 v1 d = some (rE, dE) → gG w p l e R s m args below meth c 3 0 0 (gE w below args s dE (some (.int rE))) d [(0, .ref (w_r w 292)), (1, .int x1), (2, .int x2)] 14 [.int v1, .ref (w_r w 292)] := by
    intro x1 x2 v1 d  h
    unfold f_M_ofBrief_14 at h
    obtain ⟨r6, d7, hc8, h⟩ := ob2_1 h
    refine g_callVi C 292 q_292 vk_M_61 hR rfl (m_M_fails C.2.2.2.2.2.2.1 hc8) rfl rfl rfl dX12_ofBrief_14 rfl rfl ?_
    refine g_if_eq C dX12_ofBrief_17 (tgt := 24) rfl (fun q => ?_) (fun q => ?_)
    · replace h := it_t q h
      refine g_aload_n C dX12_ofBrief_24 0 rfl ?_
      refine g_aload_n C dX12_ofBrief_25 0 rfl ?_
      refine g_iload_n C dX12_ofBrief_26 1 rfl ?_
      obtain ⟨r9, hc10, h⟩ := ob1_1 h
      refine g_callVi C 292 q_292 vk_M_76 hR rfl (m_M_placeOf C.2.2.2.2.2.2.1 hc10) rfl rfl rfl dX12_ofBrief_27 rfl rfl ?_
      refine g_iload_n C dX12_ofBrief_30 2 rfl ?_
      obtain ⟨r11, hc12, h⟩ := ob1_1 h
      refine g_callVi C 292 q_292 vk_M_72 hR rfl (m_M_brief C.2.2.2.2.2.2.1 hc12) rfl rfl rfl dX12_ofBrief_31 rfl rfl ?_
      exact g_iret C hr hlk rfl (congrArg Prod.snd (Option.some.inj h)) (congrArg (fun z => some (Value.int z.1)) (Option.some.inj h)) dX12_ofBrief_34
    · replace h := it_f q h
      refine g_iconst C dX12_ofBrief_20 (v := 0) rfl ?_
      refine g_goto C dX12_ofBrief_21 (tgt := 34) rfl ?_
      exact g_iret C hr hlk rfl (congrArg Prod.snd (Option.some.inj h)) (congrArg (fun z => some (Value.int z.1)) (Option.some.inj h)) dX12_ofBrief_34
  unfold f_M_ofBrief at h
  refine g_aload_n C dX12_ofBrief_0 0 rfl ?_
  refine g_aload_n C dX12_ofBrief_1 0 rfl ?_
  refine g_iload_n C dX12_ofBrief_2 1 rfl ?_
  obtain ⟨r13, hc14, h⟩ := ob1_1 h
  refine g_callVi C 292 q_292 vk_M_76 hR rfl (m_M_placeOf C.2.2.2.2.2.2.1 hc14) rfl rfl rfl dX12_ofBrief_3 rfl rfl ?_
  refine g_if_ge C dX12_ofBrief_6 (tgt := 13) rfl (fun q => ?_) (fun q => ?_)
  · replace h := it_t q h
    refine g_iconst C dX12_ofBrief_13 (v := 0) rfl ?_
    exact R14 x1 x2 0 d h
  · replace h := it_f q h
    refine g_iconst C dX12_ofBrief_9 (v := 1) rfl ?_
    refine g_goto C dX12_ofBrief_10 (tgt := 14) rfl ?_
    exact R14 x1 x2 1 d h
set_option maxHeartbeats 4000000 in
set_option maxRecDepth 100000 in
theorem m_M_fee {w : wT} {l : Launch} {x1 : Int32} {d : Dt} {rE : Int32} {dE : Dt} (hO : okW w) (h : f_M_fee x1 d = some (rE, dE)) : gM w l yX12_fee cX12_fee 2 (Option.some Jvm.ClassFile.FieldType.int) 3 [.ref (w_r w 292), .int x1] d dE (some (.int rE)) := by
  refine gM_of (by decide) [(0, .ref (w_r w 292)), (1, .int x1)] rfl rfl ?_ hO
  intro p e R s m args below meth c C hR hr hlk
  unfold f_M_fee at h
  refine g_aload_n C dX12_fee_0 0 rfl ?_
  refine g_iload_n C dX12_fee_1 1 rfl ?_
  refine g_iconst C dX12_fee_2 (v := 3) rfl ?_
  obtain ⟨r3, d4, hc5, h⟩ := ob2_1 h
  refine g_callVi C 292 q_292 vk_M_140 hR rfl (m_M_ofBrief C.2.2.2.2.2.2.1 hc5) rfl rfl rfl dX12_fee_3 rfl rfl ?_
  exact g_iret C hr hlk rfl (congrArg Prod.snd (Option.some.inj h)) (congrArg (fun z => some (Value.int z.1)) (Option.some.inj h)) dX12_fee_6
set_option maxHeartbeats 4000000 in
set_option maxRecDepth 100000 in
theorem m_M_feed {w : wT} {l : Launch} {x1 : Int32} {d : Dt} {rE : Int32} {dE : Dt} (hO : okW w) (h : f_M_feed x1 d = some (rE, dE)) : gM w l yX12_feed cX12_feed 2 (Option.some Jvm.ClassFile.FieldType.int) 1 [.ref (w_r w 292), .int x1] d dE (some (.int rE)) := by
  refine gM_of (by decide) [(0, .ref (w_r w 292)), (1, .int x1)] rfl rfl ?_ hO
  intro p e R s m args below meth c C hR hr hlk
  have R15 : ∀ (x1 : Int32) (v1 : Int32) (d : Dt), f_M_feed_15 x1 v1 d = some (rE, dE) → gG w p l e R s m args below meth c 2 0 0 (gE w below args s dE (some (.int rE))) d [(0, .ref (w_r w 292)), (1, .int x1)] 15 [.int v1, .ref (w_r w 292)] := by
    intro x1 v1 d  h
    unfold f_M_feed_15 at h
    obtain ⟨r5, d6, hc7, h⟩ := ob2_1 h
    refine g_callVi C 292 q_292 vk_M_61 hR rfl (m_M_fails C.2.2.2.2.2.2.1 hc7) rfl rfl rfl dX12_feed_15 rfl rfl ?_
    refine g_if_eq C dX12_feed_18 (tgt := 23) rfl (fun q => ?_) (fun q => ?_)
    · replace h := it_t q h
      refine g_aload_n C dX12_feed_23 0 rfl ?_
      refine g_get C (.ref (w_r w 297)) 292 q_292 fk_M_22 rfl dX12_feed_24 ?_
      refine g_aload_n C dX12_feed_27 0 rfl ?_
      refine g_get C (.int (d6 292 9)) 292 q_292 fk_M_169 rfl dX12_feed_28 ?_
      refine g_iload_n C dX12_feed_31 1 rfl ?_
      have hg8 := gd_1 h
      replace h := gd_2 h
      refine g_iast C 297 q_297 hg8 _ rfl  dX12_feed_32 ?_
      obtain ⟨d9, hd9, h⟩ := bnd_1 h
      refine g_nmD hd9 ?_
      refine g_aload_n C dX12_feed_33 0 rfl ?_
      refine g_dup C dX12_feed_34 rfl ?_
      refine g_get C (.int (d9 292 9)) 292 q_292 fk_M_169 rfl dX12_feed_35 ?_
      refine g_iconst C dX12_feed_38 (v := 1) rfl ?_
      refine g_iadd C dX12_feed_39  ?_
      refine g_put C 292 q_292 pk_M_169 rfl rfl dX12_feed_40 ?_
      obtain ⟨d10, hd10, h⟩ := bnd_1 h
      refine g_nmD hd10 ?_
      refine g_aload_n C dX12_feed_43 0 rfl ?_
      refine g_get C (.int (d10 292 9)) 292 q_292 fk_M_169 rfl dX12_feed_44 ?_
      exact g_iret C hr hlk rfl (congrArg Prod.snd (Option.some.inj h)) (congrArg (fun z => some (Value.int z.1)) (Option.some.inj h)) dX12_feed_47
    · replace h := it_f q h
      refine g_iconst C dX12_feed_21 (v := 0) rfl ?_
      exact g_iret C hr hlk rfl (congrArg Prod.snd (Option.some.inj h)) (congrArg (fun z => some (Value.int z.1)) (Option.some.inj h)) dX12_feed_22
  unfold f_M_feed at h
  refine g_aload_n C dX12_feed_0 0 rfl ?_
  refine g_aload_n C dX12_feed_1 0 rfl ?_
  refine g_get C (.int (d 292 9)) 292 q_292 fk_M_169 rfl dX12_feed_2 ?_
  refine g_bipush C dX12_feed_5 (v := 60) (by decide) ?_
  refine g_icmp_ne C dX12_feed_7 (tgt := 14) rfl (fun q => ?_) (fun q => ?_)
  · replace h := it_f q h
    refine g_iconst C dX12_feed_14 (v := 0) rfl ?_
    exact R15 x1 0 d h
  · replace h := it_t q h
    refine g_iconst C dX12_feed_10 (v := 1) rfl ?_
    refine g_goto C dX12_feed_11 (tgt := 15) rfl ?_
    exact R15 x1 1 d h
set_option maxHeartbeats 4000000 in
set_option maxRecDepth 100000 in
theorem m_M_feesOf {w : wT} {l : Launch} {x1 : Int32} {d : Dt} {rE : Int32} (hO : okW w) (h : f_M_feesOf x1 d = some rE) : gM w l yX12_feesOf cX12_feesOf 4 (Option.some Jvm.ClassFile.FieldType.int) 1 [.ref (w_r w 292), .int x1] d d (some (.int rE)) := by
  refine gM_of (by decide) [(0, .ref (w_r w 292)), (1, .int x1)] rfl rfl ?_ hO
  intro p e R s m args below meth c C hR hr hlk
  have R4 : ∀ (x1 : Int32) (x2 : Int32) (x3 : Int32), f_M_feesOf_4 x1 x2 x3 d = some rE → gG w p l e R s m args below meth c 4 0 0 (gE w below args s d (some (.int rE))) d [(0, .ref (w_r w 292)), (1, .int x1), (2, .int x2), (3, .int x3)] 4 [] := by
    intro x1 x2 x3   h
    refine iter_ind (G := fun s_ : (Int32 × Int32) => gG w p l e R s m args below meth c 4 0 0 (gE w below args s d (some (.int rE))) d [(0, .ref (w_r w 292)), (1, .int x1), (2, .int s_.1), (3, .int s_.2)] 4 []) ?_ fu _ h
    clear h
    intro s_ y1 h hl1 hx1
    obtain ⟨x2, x3⟩ := s_
    show gG w p l e R s m args below meth c 4 0 0 (gE w below args s d (some (.int rE))) d [(0, .ref (w_r w 292)), (1, .int x1), (2, .int x2), (3, .int x3)] 4 []
    dsimp only at h
    unfold st_M_feesOf_4 at h
    refine g_iload_n C dX12_feesOf_4 3 rfl ?_
    refine g_aload_n C dX12_feesOf_5 0 rfl ?_
    refine g_get C (.ref (w_r w 293)) 292 q_292 fk_M_7 rfl dX12_feesOf_6 ?_
    refine g_iconst C dX12_feesOf_9 (v := 3) rfl ?_
    refine g_iald C 293 q_293 (by decide) 3 (by decide) dX12_feesOf_10 ?_
    refine g_icmp_ge C dX12_feesOf_11 (tgt := 35) rfl (fun q => ?_) (fun q => ?_)
    · replace h := it_t q h
      replace h := ir_2 h hx1
      refine g_iload_n C dX12_feesOf_35 2 rfl ?_
      exact g_iret C hr hlk rfl rfl (congrArg (fun z => some (Value.int z)) (Option.some.inj h)) dX12_feesOf_36
    · replace h := it_f q h
      refine g_iload_n C dX12_feesOf_14 2 rfl ?_
      refine g_iload_n C dX12_feesOf_15 1 rfl ?_
      refine g_iload_n C dX12_feesOf_16 3 rfl ?_
      refine g_ishr C dX12_feesOf_17  ?_
      refine g_iconst C dX12_feesOf_18 (v := 1) rfl ?_
      refine g_iand C dX12_feesOf_19  ?_
      refine g_aload_n C dX12_feesOf_20 0 rfl ?_
      refine g_iload_n C dX12_feesOf_21 3 rfl ?_
      refine g_iconst C dX12_feesOf_22 (v := 3) rfl ?_
      obtain ⟨r2, hc3, h⟩ := ob1_1 h
      refine g_callVi C 292 q_292 vk_M_72 hR rfl (m_M_brief C.2.2.2.2.2.2.1 hc3) rfl rfl rfl dX12_feesOf_23 rfl rfl ?_
      refine g_imul C dX12_feesOf_26  ?_
      refine g_iadd C dX12_feesOf_27  ?_
      refine g_istore_n C (lv' := [(2, .int (x2 + (((x1 >>> (x3 &&& 31)) &&& 1) * r2))), (0, .ref (w_r w 292)), (1, .int x1), (3, .int x3)]) dX12_feesOf_28 (by decide) rfl ?_
      refine g_iinc C (lv' := [(3, .int (x3 + 1)), (2, .int (x2 + (((x1 >>> (x3 &&& 31)) &&& 1) * r2))), (0, .ref (w_r w 292)), (1, .int x1)]) (v := (x3 + 1)) dX12_feesOf_29 3 rfl rfl (by decide) rfl ?_
      refine g_goto C dX12_feesOf_32 (tgt := 4) rfl ?_
      refine g_sub [2, 3, 1, 0] (lv' := [(0, .ref (w_r w 292)), (1, .int x1), (2, .int (x2 + (((x1 >>> (x3 &&& 31)) &&& 1) * r2))), (3, .int (x3 + 1))]) rfl ?_
      exact hl1 ((x2 + (((x1 >>> (x3 &&& 31)) &&& 1) * r2)), (x3 + 1)) (Option.some.inj h).symm
  unfold f_M_feesOf at h
  refine g_iconst C dX12_feesOf_0 (v := 0) rfl ?_
  refine g_istore_n C (lv' := [(2, .int 0), (0, .ref (w_r w 292)), (1, .int x1)]) dX12_feesOf_1 (by decide) rfl ?_
  refine g_iconst C dX12_feesOf_2 (v := 0) rfl ?_
  refine g_istore_n C (lv' := [(3, .int 0), (2, .int 0), (0, .ref (w_r w 292)), (1, .int x1)]) dX12_feesOf_3 (by decide) rfl ?_
  refine g_sub [2, 3, 1, 0] (lv' := [(0, .ref (w_r w 292)), (1, .int x1), (2, .int 0), (3, .int 0)]) rfl ?_
  exact R4 x1 0 0 h
set_option maxHeartbeats 4000000 in
set_option maxRecDepth 100000 in
theorem m_M_fewestFalse {w : wT} {l : Launch} {d : Dt} {rE : Int32} (hO : okW w) (h : f_M_fewestFalse  d = some rE) : gM w l yX12_fewestFalse cX12_fewestFalse 6 (Option.some Jvm.ClassFile.FieldType.int) 2 [.ref (w_r w 292)] d d (some (.int rE)) := by
  refine gM_of (by decide) [(0, .ref (w_r w 292))] rfl rfl ?_ hO
  intro p e R s m args below meth c C hR hr hlk
  have R16 : ∀ (x1 : Int32) (x2 : Int32) (x3 : Int32), f_M_fewestFalse_16 x1 x2 x3 d = some rE → gG w p l e R s m args below meth c 6 0 0 (gE w below args s d (some (.int rE))) d [(0, .ref (w_r w 292)), (1, .int x1), (2, .int x2), (3, .int x3)] 16 [] := by
    intro x1 x2 x3   h
    refine iter_ind (G := fun s_ : (Int32 × Int32) => gG w p l e R s m args below meth c 6 0 0 (gE w below args s d (some (.int rE))) d [(0, .ref (w_r w 292)), (1, .int x1), (2, .int s_.1), (3, .int s_.2)] 16 []) ?_ fu _ h
    clear h
    intro s_ y1 h hl1 hx1
    obtain ⟨x2, x3⟩ := s_
    show gG w p l e R s m args below meth c 6 0 0 (gE w below args s d (some (.int rE))) d [(0, .ref (w_r w 292)), (1, .int x1), (2, .int x2), (3, .int x3)] 16 []
    dsimp only at h
    unfold st_M_fewestFalse_16 at h
    have R39 : ∀ (x2 : Int32) (x3 : Int32) (x4 : Int32) (x5 : Int32), f_M_fewestFalse_39 x1 x2 x3 x4 x5 d = some y1 → gG w p l e R s m args below meth c 6 0 0 (gE w below args s d (some (.int rE))) d [(0, .ref (w_r w 292)), (1, .int x1), (2, .int x2), (3, .int x3), (4, .int x4), (5, .int x5)] 39 [] := by
      intro x2 x3 x4 x5   h
      refine iter_ind (G := fun s_ : (Int32 × Int32) => gG w p l e R s m args below meth c 6 0 0 (gE w below args s d (some (.int rE))) d [(0, .ref (w_r w 292)), (1, .int x1), (2, .int x2), (3, .int x3), (4, .int s_.1), (5, .int s_.2)] 39 []) ?_ fu _ h
      clear h
      intro s_ y2 h hl2 hx2
      obtain ⟨x4, x5⟩ := s_
      show gG w p l e R s m args below meth c 6 0 0 (gE w below args s d (some (.int rE))) d [(0, .ref (w_r w 292)), (1, .int x1), (2, .int x2), (3, .int x3), (4, .int x4), (5, .int x5)] 39 []
      dsimp only at h
      unfold st_M_fewestFalse_39 at h
      refine g_iload C dX12_fewestFalse_39 5 rfl ?_
      refine g_aload_n C dX12_fewestFalse_41 0 rfl ?_
      refine g_get C (.ref (w_r w 293)) 292 q_292 fk_M_7 rfl dX12_fewestFalse_42 ?_
      refine g_iconst C dX12_fewestFalse_45 (v := 4) rfl ?_
      refine g_iald C 293 q_293 (by decide) 4 (by decide) dX12_fewestFalse_46 ?_
      refine g_icmp_ge C dX12_fewestFalse_47 (tgt := 76) rfl (fun q => ?_) (fun q => ?_)
      · replace h := it_t q h
        replace h := ir_2 h hx2
        refine g_iload C dX12_fewestFalse_76 4 rfl ?_
        refine g_iload_n C dX12_fewestFalse_78 2 rfl ?_
        refine g_icmp_ge C dX12_fewestFalse_79 (tgt := 85) rfl (fun q => ?_) (fun q => ?_)
        · replace h := it_t q h
          refine g_iinc C (lv' := [(3, .int (x3 + 1)), (0, .ref (w_r w 292)), (1, .int x1), (2, .int x2), (4, .int x4), (5, .int x5)]) (v := (x3 + 1)) dX12_fewestFalse_85 3 rfl rfl (by decide) rfl ?_
          refine g_goto C dX12_fewestFalse_88 (tgt := 16) rfl ?_
          refine g_sub [1, 2, 3, 0] (lv' := [(0, .ref (w_r w 292)), (1, .int x1), (2, .int x2), (3, .int (x3 + 1))]) rfl ?_
          exact hl1 (x2, (x3 + 1)) (Option.some.inj h).symm
        · replace h := it_f q h
          refine g_iload C dX12_fewestFalse_82 4 rfl ?_
          refine g_istore_n C (lv' := [(2, .int x4), (0, .ref (w_r w 292)), (1, .int x1), (3, .int x3), (4, .int x4), (5, .int x5)]) dX12_fewestFalse_84 (by decide) rfl ?_
          refine g_iinc C (lv' := [(3, .int (x3 + 1)), (2, .int x4), (0, .ref (w_r w 292)), (1, .int x1), (4, .int x4), (5, .int x5)]) (v := (x3 + 1)) dX12_fewestFalse_85 3 rfl rfl (by decide) rfl ?_
          refine g_goto C dX12_fewestFalse_88 (tgt := 16) rfl ?_
          refine g_sub [2, 3, 1, 0] (lv' := [(0, .ref (w_r w 292)), (1, .int x1), (2, .int x4), (3, .int (x3 + 1))]) rfl ?_
          exact hl1 (x4, (x3 + 1)) (Option.some.inj h).symm
      · replace h := it_f q h
        refine g_iload C dX12_fewestFalse_50 4 rfl ?_
        refine g_aload_n C dX12_fewestFalse_52 0 rfl ?_
        refine g_iload C dX12_fewestFalse_53 5 rfl ?_
        refine g_iload_n C dX12_fewestFalse_55 3 rfl ?_
        obtain ⟨r3, hc4, h⟩ := ob1_1 h
        refine g_callVi C 292 q_292 vk_M_100 hR rfl (m_M_isTrue C.2.2.2.2.2.2.1 hc4) rfl rfl rfl dX12_fewestFalse_56 rfl rfl ?_
        refine g_if_eq C dX12_fewestFalse_59 (tgt := 66) rfl (fun q => ?_) (fun q => ?_)
        · replace h := it_t q h
          refine g_iconst C dX12_fewestFalse_66 (v := 1) rfl ?_
          refine g_iadd C dX12_fewestFalse_67  ?_
          refine g_istore C (lv' := [(4, .int (x4 + 1)), (0, .ref (w_r w 292)), (1, .int x1), (2, .int x2), (3, .int x3), (5, .int x5)]) dX12_fewestFalse_68 (by decide) rfl ?_
          refine g_iinc C (lv' := [(5, .int (x5 + 1)), (4, .int (x4 + 1)), (0, .ref (w_r w 292)), (1, .int x1), (2, .int x2), (3, .int x3)]) (v := (x5 + 1)) dX12_fewestFalse_70 5 rfl rfl (by decide) rfl ?_
          refine g_goto C dX12_fewestFalse_73 (tgt := 39) rfl ?_
          refine g_sub [2, 3, 4, 5, 1, 0] (lv' := [(0, .ref (w_r w 292)), (1, .int x1), (2, .int x2), (3, .int x3), (4, .int (x4 + 1)), (5, .int (x5 + 1))]) rfl ?_
          exact hl2 ((x4 + 1), (x5 + 1)) (Option.some.inj h).symm
        · replace h := it_f q h
          refine g_iconst C dX12_fewestFalse_62 (v := 0) rfl ?_
          refine g_goto C dX12_fewestFalse_63 (tgt := 67) rfl ?_
          refine g_iadd C dX12_fewestFalse_67  ?_
          refine g_istore C (lv' := [(4, .int (x4 + 0)), (0, .ref (w_r w 292)), (1, .int x1), (2, .int x2), (3, .int x3), (5, .int x5)]) dX12_fewestFalse_68 (by decide) rfl ?_
          refine g_iinc C (lv' := [(5, .int (x5 + 1)), (4, .int (x4 + 0)), (0, .ref (w_r w 292)), (1, .int x1), (2, .int x2), (3, .int x3)]) (v := (x5 + 1)) dX12_fewestFalse_70 5 rfl rfl (by decide) rfl ?_
          refine g_goto C dX12_fewestFalse_73 (tgt := 39) rfl ?_
          refine g_sub [2, 3, 4, 5, 1, 0] (lv' := [(0, .ref (w_r w 292)), (1, .int x1), (2, .int x2), (3, .int x3), (4, .int (x4 + 0)), (5, .int (x5 + 1))]) rfl ?_
          exact hl2 ((x4 + 0), (x5 + 1)) (Option.some.inj h).symm
    refine g_iload_n C dX12_fewestFalse_16 3 rfl ?_
    refine g_iload_n C dX12_fewestFalse_17 1 rfl ?_
    refine g_icmp_gt C dX12_fewestFalse_18 (tgt := 91) rfl (fun q => ?_) (fun q => ?_)
    · replace h := it_t q h
      replace h := ir_2 h hx1
      refine g_iload_n C dX12_fewestFalse_91 2 rfl ?_
      exact g_iret C hr hlk rfl rfl (congrArg (fun z => some (Value.int z)) (Option.some.inj h)) dX12_fewestFalse_92
    · replace h := it_f q h
      refine g_aload_n C dX12_fewestFalse_21 0 rfl ?_
      refine g_iload_n C dX12_fewestFalse_22 1 rfl ?_
      refine g_iload_n C dX12_fewestFalse_23 3 rfl ?_
      obtain ⟨r5, hc6, h⟩ := ob1_1 h
      refine g_callVi C 292 q_292 vk_M_109 hR rfl (m_M_isAdmitted C.2.2.2.2.2.2.1 hc6) rfl rfl rfl dX12_fewestFalse_24 rfl rfl ?_
      refine g_if_ne C dX12_fewestFalse_27 (tgt := 33) rfl (fun q => ?_) (fun q => ?_)
      · replace h := it_f q h
        refine g_iconst C dX12_fewestFalse_33 (v := 0) rfl ?_
        refine g_istore C (lv' := [(4, .int 0), (0, .ref (w_r w 292)), (1, .int x1), (2, .int x2), (3, .int x3)]) dX12_fewestFalse_34 (by decide) rfl ?_
        refine g_iconst C dX12_fewestFalse_36 (v := 0) rfl ?_
        refine g_istore C (lv' := [(5, .int 0), (4, .int 0), (0, .ref (w_r w 292)), (1, .int x1), (2, .int x2), (3, .int x3)]) dX12_fewestFalse_37 (by decide) rfl ?_
        refine g_sub [2, 3, 4, 5, 1, 0] (lv' := [(0, .ref (w_r w 292)), (1, .int x1), (2, .int x2), (3, .int x3), (4, .int 0), (5, .int 0)]) rfl ?_
        exact R39 x2 x3 0 0 h
      · replace h := it_t q h
        refine g_goto C dX12_fewestFalse_30 (tgt := 85) rfl ?_
        refine g_iinc C (lv' := [(3, .int (x3 + 1)), (0, .ref (w_r w 292)), (1, .int x1), (2, .int x2)]) (v := (x3 + 1)) dX12_fewestFalse_85 3 rfl rfl (by decide) rfl ?_
        refine g_goto C dX12_fewestFalse_88 (tgt := 16) rfl ?_
        refine g_sub [1, 2, 3, 0] (lv' := [(0, .ref (w_r w 292)), (1, .int x1), (2, .int x2), (3, .int (x3 + 1))]) rfl ?_
        exact hl1 (x2, (x3 + 1)) (Option.some.inj h).symm
  unfold f_M_fewestFalse at h
  refine g_iconst C dX12_fewestFalse_0 (v := 1) rfl ?_
  refine g_aload_n C dX12_fewestFalse_1 0 rfl ?_
  refine g_get C (.ref (w_r w 293)) 292 q_292 fk_M_7 rfl dX12_fewestFalse_2 ?_
  refine g_iconst C dX12_fewestFalse_5 (v := 0) rfl ?_
  refine g_iald C 293 q_293 (by decide) 0 (by decide) dX12_fewestFalse_6 ?_
  refine g_ishl C dX12_fewestFalse_7  ?_
  refine g_iconst C dX12_fewestFalse_8 (v := 1) rfl ?_
  refine g_isub C dX12_fewestFalse_9  ?_
  refine g_istore_n C (lv' := [(1, .int ((1 <<< ((d 293 0) &&& 31)) - 1)), (0, .ref (w_r w 292))]) dX12_fewestFalse_10 (by decide) rfl ?_
  refine g_bipush C dX12_fewestFalse_11 (v := 12) (by decide) ?_
  refine g_istore_n C (lv' := [(2, .int 12), (1, .int ((1 <<< ((d 293 0) &&& 31)) - 1)), (0, .ref (w_r w 292))]) dX12_fewestFalse_13 (by decide) rfl ?_
  refine g_iconst C dX12_fewestFalse_14 (v := 0) rfl ?_
  refine g_istore_n C (lv' := [(3, .int 0), (2, .int 12), (1, .int ((1 <<< ((d 293 0) &&& 31)) - 1)), (0, .ref (w_r w 292))]) dX12_fewestFalse_15 (by decide) rfl ?_
  refine g_sub [3, 2, 1, 0] (lv' := [(0, .ref (w_r w 292)), (1, .int ((1 <<< ((d 293 0) &&& 31)) - 1)), (2, .int 12), (3, .int 0)]) rfl ?_
  exact R16 ((1 <<< ((d 293 0) &&& 31)) - 1) 12 0 h
set_option maxHeartbeats 4000000 in
set_option maxRecDepth 100000 in
theorem m_M_firstOf {w : wT} {l : Launch} {x1 : Int32} {d : Dt} {rE : Int32} {dE : Dt} (hO : okW w) (h : f_M_firstOf x1 d = some (rE, dE)) : gM w l yX12_firstOf cX12_firstOf 2 (Option.some Jvm.ClassFile.FieldType.int) 2 [.ref (w_r w 292), .int x1] d dE (some (.int rE)) := by
  refine gM_of (by decide) [(0, .ref (w_r w 292)), (1, .int x1)] rfl rfl ?_ hO
  intro p e R s m args below meth c C hR hr hlk
  have R14 : ∀ (x1 : Int32) (v1 : Int32) (d : Dt), f_M_firstOf_14 x1 v1 d = some (rE, dE) → gG w p l e R s m args below meth c 2 0 0 (gE w below args s dE (some (.int rE))) d [(0, .ref (w_r w 292)), (1, .int x1)] 14 [.int v1, .ref (w_r w 292)] := by
    intro x1 v1 d  h
    unfold f_M_firstOf_14 at h
    obtain ⟨r5, d6, hc7, h⟩ := ob2_1 h
    refine g_callVi C 292 q_292 vk_M_61 hR rfl (m_M_fails C.2.2.2.2.2.2.1 hc7) rfl rfl rfl dX12_firstOf_14 rfl rfl ?_
    refine g_if_eq C dX12_firstOf_17 (tgt := 24) rfl (fun q => ?_) (fun q => ?_)
    · replace h := it_t q h
      refine g_aload_n C dX12_firstOf_24 0 rfl ?_
      refine g_iload_n C dX12_firstOf_25 1 rfl ?_
      refine g_iconst C dX12_firstOf_26 (v := 0) rfl ?_
      obtain ⟨r8, hc9, h⟩ := ob1_1 h
      refine g_callVi C 292 q_292 vk_M_97 hR rfl (m_M_says C.2.2.2.2.2.2.1 hc9) rfl rfl rfl dX12_firstOf_27 rfl rfl ?_
      exact g_iret C hr hlk rfl (congrArg Prod.snd (Option.some.inj h)) (congrArg (fun z => some (Value.int z.1)) (Option.some.inj h)) dX12_firstOf_30
    · replace h := it_f q h
      refine g_iconst C dX12_firstOf_20 (v := 0) rfl ?_
      refine g_goto C dX12_firstOf_21 (tgt := 30) rfl ?_
      exact g_iret C hr hlk rfl (congrArg Prod.snd (Option.some.inj h)) (congrArg (fun z => some (Value.int z.1)) (Option.some.inj h)) dX12_firstOf_30
  unfold f_M_firstOf at h
  refine g_aload_n C dX12_firstOf_0 0 rfl ?_
  refine g_aload_n C dX12_firstOf_1 0 rfl ?_
  refine g_iload_n C dX12_firstOf_2 1 rfl ?_
  obtain ⟨r10, hc11, h⟩ := ob1_1 h
  refine g_callVi C 292 q_292 vk_M_84 hR rfl (m_M_isStatement C.2.2.2.2.2.2.1 hc11) rfl rfl rfl dX12_firstOf_3 rfl rfl ?_
  refine g_if_eq C dX12_firstOf_6 (tgt := 13) rfl (fun q => ?_) (fun q => ?_)
  · replace h := it_t q h
    refine g_iconst C dX12_firstOf_13 (v := 1) rfl ?_
    exact R14 x1 1 d h
  · replace h := it_f q h
    refine g_iconst C dX12_firstOf_9 (v := 0) rfl ?_
    refine g_goto C dX12_firstOf_10 (tgt := 14) rfl ?_
    exact R14 x1 0 d h
set_option maxHeartbeats 4000000 in
set_option maxRecDepth 100000 in
theorem m_M_groupCount {w : wT} {l : Launch} {d : Dt} {rE : Int32} {dE : Dt} (hO : okW w) (h : f_M_groupCount  d = some (rE, dE)) : gM w l yX12_groupCount cX12_groupCount 3 (Option.some Jvm.ClassFile.FieldType.int) 2 [.ref (w_r w 292)] d dE (some (.int rE)) := by
  refine gM_of (by decide) [(0, .ref (w_r w 292))] rfl rfl ?_ hO
  intro p e R s m args below meth c C hR hr hlk
  have R9 : ∀ (x1 : Int32) (x2 : Int32) (d : Dt), f_M_groupCount_9 x1 x2 d = some (rE, dE) → gG w p l e R s m args below meth c 3 0 0 (gE w below args s dE (some (.int rE))) d [(0, .ref (w_r w 292)), (1, .int x1), (2, .int x2)] 9 [] := by
    intro x1 x2 d  h
    refine iter_ind (G := fun s_ : (Int32 × Int32) => gG w p l e R s m args below meth c 3 0 0 (gE w below args s dE (some (.int rE))) d [(0, .ref (w_r w 292)), (1, .int s_.1), (2, .int s_.2)] 9 []) ?_ fu _ h
    clear h
    intro s_ y1 h hl1 hx1
    obtain ⟨x1, x2⟩ := s_
    show gG w p l e R s m args below meth c 3 0 0 (gE w below args s dE (some (.int rE))) d [(0, .ref (w_r w 292)), (1, .int x1), (2, .int x2)] 9 []
    dsimp only at h
    unfold st_M_groupCount_9 at h
    refine g_iload_n C dX12_groupCount_9 2 rfl ?_
    refine g_aload_n C dX12_groupCount_10 0 rfl ?_
    refine g_get C (.ref (w_r w 293)) 292 q_292 fk_M_7 rfl dX12_groupCount_11 ?_
    refine g_iconst C dX12_groupCount_14 (v := 0) rfl ?_
    refine g_iald C 293 q_293 (by decide) 0 (by decide) dX12_groupCount_15 ?_
    refine g_icmp_ge C dX12_groupCount_16 (tgt := 47) rfl (fun q => ?_) (fun q => ?_)
    · replace h := it_t q h
      replace h := ir_2 h hx1
      refine g_iload_n C dX12_groupCount_47 1 rfl ?_
      exact g_iret C hr hlk rfl (congrArg Prod.snd (Option.some.inj h)) (congrArg (fun z => some (Value.int z.1)) (Option.some.inj h)) dX12_groupCount_48
    · replace h := it_f q h
      refine g_iload_n C dX12_groupCount_19 1 rfl ?_
      refine g_aload_n C dX12_groupCount_20 0 rfl ?_
      refine g_iload_n C dX12_groupCount_21 2 rfl ?_
      obtain ⟨r3, hc4, h⟩ := ob1_1 h
      refine g_callVi C 292 q_292 vk_M_103 hR rfl (m_M_group C.2.2.2.2.2.2.1 hc4) rfl rfl rfl dX12_groupCount_22 rfl rfl ?_
      refine g_iconst C dX12_groupCount_25 (v := 1) rfl ?_
      refine g_iload_n C dX12_groupCount_26 2 rfl ?_
      refine g_ishl C dX12_groupCount_27  ?_
      refine g_iconst C dX12_groupCount_28 (v := 1) rfl ?_
      refine g_isub C dX12_groupCount_29  ?_
      refine g_iand C dX12_groupCount_30  ?_
      refine g_if_ne C dX12_groupCount_31 (tgt := 38) rfl (fun q => ?_) (fun q => ?_)
      · replace h := it_f q h
        refine g_iconst C dX12_groupCount_38 (v := 0) rfl ?_
        refine g_iadd C dX12_groupCount_39  ?_
        refine g_istore_n C (lv' := [(1, .int (x1 + 0)), (0, .ref (w_r w 292)), (2, .int x2)]) dX12_groupCount_40 (by decide) rfl ?_
        refine g_iinc C (lv' := [(2, .int (x2 + 1)), (1, .int (x1 + 0)), (0, .ref (w_r w 292))]) (v := (x2 + 1)) dX12_groupCount_41 2 rfl rfl (by decide) rfl ?_
        refine g_goto C dX12_groupCount_44 (tgt := 9) rfl ?_
        refine g_sub [2, 1, 0] (lv' := [(0, .ref (w_r w 292)), (1, .int (x1 + 0)), (2, .int (x2 + 1))]) rfl ?_
        exact hl1 ((x1 + 0), (x2 + 1)) (Option.some.inj h).symm
      · replace h := it_t q h
        refine g_iconst C dX12_groupCount_34 (v := 1) rfl ?_
        refine g_goto C dX12_groupCount_35 (tgt := 39) rfl ?_
        refine g_iadd C dX12_groupCount_39  ?_
        refine g_istore_n C (lv' := [(1, .int (x1 + 1)), (0, .ref (w_r w 292)), (2, .int x2)]) dX12_groupCount_40 (by decide) rfl ?_
        refine g_iinc C (lv' := [(2, .int (x2 + 1)), (1, .int (x1 + 1)), (0, .ref (w_r w 292))]) (v := (x2 + 1)) dX12_groupCount_41 2 rfl rfl (by decide) rfl ?_
        refine g_goto C dX12_groupCount_44 (tgt := 9) rfl ?_
        refine g_sub [2, 1, 0] (lv' := [(0, .ref (w_r w 292)), (1, .int (x1 + 1)), (2, .int (x2 + 1))]) rfl ?_
        exact hl1 ((x1 + 1), (x2 + 1)) (Option.some.inj h).symm
  unfold f_M_groupCount at h
  refine g_aload_n C dX12_groupCount_0 0 rfl ?_
  refine g_iconst C dX12_groupCount_1 (v := 0) rfl ?_
  refine g_put C 292 q_292 pk_M_39 rfl rfl dX12_groupCount_2 ?_
  obtain ⟨d5, hd5, h⟩ := bnd_1 h
  refine g_nmD hd5 ?_
  refine g_iconst C dX12_groupCount_5 (v := 0) rfl ?_
  refine g_istore_n C (lv' := [(1, .int 0), (0, .ref (w_r w 292))]) dX12_groupCount_6 (by decide) rfl ?_
  refine g_iconst C dX12_groupCount_7 (v := 0) rfl ?_
  refine g_istore_n C (lv' := [(2, .int 0), (1, .int 0), (0, .ref (w_r w 292))]) dX12_groupCount_8 (by decide) rfl ?_
  refine g_sub [2, 1, 0] (lv' := [(0, .ref (w_r w 292)), (1, .int 0), (2, .int 0)]) rfl ?_
  exact R9 0 0 d5 h
set_option maxHeartbeats 4000000 in
set_option maxRecDepth 100000 in
theorem m_M_guiltyShare {w : wT} {l : Launch} {d : Dt} {rE : UInt32} {dE : Dt} (hO : okW w) (h : f_M_guiltyShare  d = some (rE, dE)) : gM w l yX12_guiltyShare cX12_guiltyShare 2 (Option.some Jvm.ClassFile.FieldType.float) 1 [.ref (w_r w 292)] d dE (some (.float rE)) := by
  refine gM_of (by decide) [(0, .ref (w_r w 292))] rfl rfl ?_ hO
  intro p e R s m args below meth c C hR hr hlk
  have R42 : ∀ (x1 : Int32) (v1 : Int32) (d : Dt), f_M_guiltyShare_42 x1 v1 d = some (rE, dE) → gG w p l e R s m args below meth c 2 0 0 (gE w below args s dE (some (.float rE))) d [(0, .ref (w_r w 292)), (1, .int x1)] 42 [.int v1, .ref (w_r w 292)] := by
    intro x1 v1 d  h
    unfold f_M_guiltyShare_42 at h
    obtain ⟨r3, d4, hc5, h⟩ := ob2_1 h
    refine g_callVi C 292 q_292 vk_M_61 hR rfl (m_M_fails C.2.2.2.2.2.2.1 hc5) rfl rfl rfl dX12_guiltyShare_42 rfl rfl ?_
    refine g_if_eq C dX12_guiltyShare_45 (tgt := 52) rfl (fun q => ?_) (fun q => ?_)
    · replace h := it_t q h
      refine g_aload_n C dX12_guiltyShare_52 0 rfl ?_
      refine g_get C (.ref (w_r w 293)) 292 q_292 fk_M_7 rfl dX12_guiltyShare_53 ?_
      refine g_bipush C dX12_guiltyShare_56 (v := 7) (by decide) ?_
      refine g_iald C 293 q_293 (by decide) 7 (by decide) dX12_guiltyShare_58 ?_
      refine g_i2f C dX12_guiltyShare_59  ?_
      refine g_iload_n C dX12_guiltyShare_60 1 rfl ?_
      refine g_i2f C dX12_guiltyShare_61  ?_
      have hg6 := gd_1 h
      replace h := gd_2 h
      refine g_fdiv C dX12_guiltyShare_62 (vn32_1 hg6) ?_
      exact g_fret C hr hlk (congrArg Prod.snd (Option.some.inj h)) (congrArg (fun z => some (Value.float z.1)) (Option.some.inj h)) dX12_guiltyShare_63
    · replace h := it_f q h
      refine g_fconst0 C dX12_guiltyShare_48  ?_
      refine g_goto C dX12_guiltyShare_49 (tgt := 63) rfl ?_
      exact g_fret C hr hlk (congrArg Prod.snd (Option.some.inj h)) (congrArg (fun z => some (Value.float z.1)) (Option.some.inj h)) dX12_guiltyShare_63
  unfold f_M_guiltyShare at h
  refine g_aload_n C dX12_guiltyShare_0 0 rfl ?_
  refine g_get C (.ref (w_r w 293)) 292 q_292 fk_M_7 rfl dX12_guiltyShare_1 ?_
  refine g_bipush C dX12_guiltyShare_4 (v := 7) (by decide) ?_
  refine g_iald C 293 q_293 (by decide) 7 (by decide) dX12_guiltyShare_6 ?_
  refine g_aload_n C dX12_guiltyShare_7 0 rfl ?_
  refine g_get C (.ref (w_r w 293)) 292 q_292 fk_M_7 rfl dX12_guiltyShare_8 ?_
  refine g_bipush C dX12_guiltyShare_11 (v := 8) (by decide) ?_
  refine g_iald C 293 q_293 (by decide) 8 (by decide) dX12_guiltyShare_13 ?_
  refine g_iadd C dX12_guiltyShare_14  ?_
  refine g_aload_n C dX12_guiltyShare_15 0 rfl ?_
  refine g_get C (.ref (w_r w 293)) 292 q_292 fk_M_7 rfl dX12_guiltyShare_16 ?_
  refine g_bipush C dX12_guiltyShare_19 (v := 9) (by decide) ?_
  refine g_iald C 293 q_293 (by decide) 9 (by decide) dX12_guiltyShare_21 ?_
  refine g_iadd C dX12_guiltyShare_22  ?_
  refine g_aload_n C dX12_guiltyShare_23 0 rfl ?_
  refine g_get C (.ref (w_r w 293)) 292 q_292 fk_M_7 rfl dX12_guiltyShare_24 ?_
  refine g_bipush C dX12_guiltyShare_27 (v := 10) (by decide) ?_
  refine g_iald C 293 q_293 (by decide) 10 (by decide) dX12_guiltyShare_29 ?_
  refine g_iadd C dX12_guiltyShare_30  ?_
  refine g_istore_n C (lv' := [(1, .int ((((d 293 7) + (d 293 8)) + (d 293 9)) + (d 293 10))), (0, .ref (w_r w 292))]) dX12_guiltyShare_31 (by decide) rfl ?_
  refine g_aload_n C dX12_guiltyShare_32 1 rfl ?_
  refine g_iload_n C dX12_guiltyShare_33 0 rfl ?_
  refine g_if_ne C dX12_guiltyShare_34 (tgt := 41) rfl (fun q => ?_) (fun q => ?_)
  · replace h := it_f q h
    refine g_iconst C dX12_guiltyShare_41 (v := 0) rfl ?_
    refine g_sub [1, 0] (lv' := [(0, .ref (w_r w 292)), (1, .int ((((d 293 7) + (d 293 8)) + (d 293 9)) + (d 293 10)))]) rfl ?_
    exact R42 ((((d 293 7) + (d 293 8)) + (d 293 9)) + (d 293 10)) 0 d h
  · replace h := it_t q h
    refine g_iconst C dX12_guiltyShare_37 (v := 1) rfl ?_
    refine g_goto C dX12_guiltyShare_38 (tgt := 42) rfl ?_
    refine g_sub [1, 0] (lv' := [(0, .ref (w_r w 292)), (1, .int ((((d 293 7) + (d 293 8)) + (d 293 9)) + (d 293 10)))]) rfl ?_
    exact R42 ((((d 293 7) + (d 293 8)) + (d 293 9)) + (d 293 10)) 1 d h
set_option maxHeartbeats 4000000 in
set_option maxRecDepth 100000 in
theorem m_M_hasAdmitted {w : wT} {l : Launch} {x1 x2 : Int32} {d : Dt} {rE : Int32} {dE : Dt} (hO : okW w) (h : f_M_hasAdmitted x1 x2 d = some (rE, dE)) : gM w l yX12_hasAdmitted cX12_hasAdmitted 3 (Option.some Jvm.ClassFile.FieldType.boolean) 3 [.ref (w_r w 292), .int x1, .int x2] d dE (some (.int rE)) := by
  refine gM_of (by decide) [(0, .ref (w_r w 292)), (1, .int x1), (2, .int x2)] rfl rfl ?_ hO
  intro p e R s m args below meth c C hR hr hlk
  have R23 : ∀ (v0 : Int32) (v1 : Int32) (d : Dt), f_M_hasAdmitted_23  v0 v1 d = some (rE, dE) → gG w p l e R s m args below meth c 3 0 0 (gE w below args s dE (some (.int rE))) d [] 23 [.int v1, .int v0] := by
    intro  v0 v1 d  h
    unfold f_M_hasAdmitted_23 at h
    refine g_icmp_ne C dX12_hasAdmitted_23 (tgt := 30) rfl (fun q => ?_) (fun q => ?_)
    · replace h := it_f q h
      refine g_iconst C dX12_hasAdmitted_30 (v := 0) rfl ?_
      exact g_iret C hr hlk rfl (congrArg Prod.snd (Option.some.inj h)) (congrArg (fun z => some (Value.int z.1)) (Option.some.inj h)) dX12_hasAdmitted_31
    · replace h := it_t q h
      refine g_iconst C dX12_hasAdmitted_26 (v := 1) rfl ?_
      refine g_goto C dX12_hasAdmitted_27 (tgt := 31) rfl ?_
      exact g_iret C hr hlk rfl (congrArg Prod.snd (Option.some.inj h)) (congrArg (fun z => some (Value.int z.1)) (Option.some.inj h)) dX12_hasAdmitted_31
  unfold f_M_hasAdmitted at h
  refine g_aload_n C dX12_hasAdmitted_0 0 rfl ?_
  refine g_iload_n C dX12_hasAdmitted_1 1 rfl ?_
  obtain ⟨r4, d5, hc6, h⟩ := ob2_1 h
  refine g_callVi C 292 q_292 vk_M_134 hR rfl (m_M_isNone C.2.2.2.2.2.2.1 hc6) rfl rfl rfl dX12_hasAdmitted_2 rfl rfl ?_
  refine g_if_ne C dX12_hasAdmitted_5 (tgt := 30) rfl (fun q => ?_) (fun q => ?_)
  · replace h := it_f q h
    refine g_iconst C dX12_hasAdmitted_30 (v := 0) rfl ?_
    exact g_iret C hr hlk rfl (congrArg Prod.snd (Option.some.inj h)) (congrArg (fun z => some (Value.int z.1)) (Option.some.inj h)) dX12_hasAdmitted_31
  · replace h := it_t q h
    refine g_aload_n C dX12_hasAdmitted_8 0 rfl ?_
    refine g_iload_n C dX12_hasAdmitted_9 1 rfl ?_
    refine g_iconst C dX12_hasAdmitted_10 (v := 1) rfl ?_
    obtain ⟨r7, hc8, h⟩ := ob1_1 h
    refine g_callVi C 292 q_292 vk_M_87 hR rfl (m_M_of C.2.2.2.2.2.2.1 hc8) rfl rfl rfl dX12_hasAdmitted_11 rfl rfl ?_
    refine g_iload_n C dX12_hasAdmitted_14 2 rfl ?_
    refine g_if_eq C dX12_hasAdmitted_15 (tgt := 22) rfl (fun q => ?_) (fun q => ?_)
    · replace h := it_t q h
      refine g_iconst C dX12_hasAdmitted_22 (v := 2) rfl ?_
      refine g_sub [] (lv' := []) rfl ?_
      exact R23 r7 2 d5 h
    · replace h := it_f q h
      refine g_iconst C dX12_hasAdmitted_18 (v := 1) rfl ?_
      refine g_goto C dX12_hasAdmitted_19 (tgt := 23) rfl ?_
      refine g_sub [] (lv' := []) rfl ?_
      exact R23 r7 1 d5 h
set_option maxHeartbeats 4000000 in
set_option maxRecDepth 100000 in
theorem m_JL_canEncode {w : wT} {l : Launch} {x0 : Int32} {d : Dt} {rE : Int32} (hO : okW w) (h : f_JL_canEncode x0 d = some rE) : gM w l yJ1_canEncode_9a6ad cJ1_canEncode_9a6ad 1 (Option.some Jvm.ClassFile.FieldType.boolean) 0 [.int x0] d d (some (.int rE)) := by
  refine gM_of (by decide) [(0, .int x0)] rfl rfl ?_ hO
  intro p e R s m args below meth c C hR hr hlk
  unfold f_JL_canEncode at h
  refine g_iload_n C dJ1_canEncode_9a6ad_0 0 rfl ?_
  refine g_if_lt C dJ1_canEncode_9a6ad_1 (tgt := 15) rfl (fun q => ?_) (fun q => ?_)
  · replace h := it_t q h
    refine g_iconst C dJ1_canEncode_9a6ad_15 (v := 0) rfl ?_
    exact g_iret C hr hlk rfl rfl (congrArg (fun z => some (Value.int z)) (Option.some.inj h)) dJ1_canEncode_9a6ad_16
  · replace h := it_f q h
    refine g_iload_n C dJ1_canEncode_9a6ad_4 0 rfl ?_
    refine g_sipush C dJ1_canEncode_9a6ad_5 (v := 255) (by decide) ?_
    refine g_icmp_gt C dJ1_canEncode_9a6ad_8 (tgt := 15) rfl (fun q => ?_) (fun q => ?_)
    · replace h := it_t q h
      refine g_iconst C dJ1_canEncode_9a6ad_15 (v := 0) rfl ?_
      exact g_iret C hr hlk rfl rfl (congrArg (fun z => some (Value.int z)) (Option.some.inj h)) dJ1_canEncode_9a6ad_16
    · replace h := it_f q h
      refine g_iconst C dJ1_canEncode_9a6ad_11 (v := 1) rfl ?_
      refine g_goto C dJ1_canEncode_9a6ad_12 (tgt := 16) rfl ?_
      exact g_iret C hr hlk rfl rfl (congrArg (fun z => some (Value.int z)) (Option.some.inj h)) dJ1_canEncode_9a6ad_16
set_option maxHeartbeats 4000000 in
set_option maxRecDepth 100000 in
theorem m_JL_indexOfChar {w : wT} {l : Launch} {k0 : Nat} {x1 x2 x3 : Int32} {d : Dt} {rE : Int32} (hO : okW w) (hk0 : k0 < 54) (h : f_JL_indexOfChar k0 x1 x2 x3 d = some rE) : gM w l yJ1_indexOfChar_4cfef cJ1_indexOfChar_4cfef 6 (Option.some Jvm.ClassFile.FieldType.int) 0 [.ref (w_k w (100 + k0)), .int x1, .int x2, .int x3] d d (some (.int rE)) := by
  refine gM_of (by decide) [(0, .ref (w_k w (100 + k0))), (1, .int x1), (2, .int x2), (3, .int x3)] rfl rfl ?_ hO
  intro p e R s m args below meth c C hR hr hlk
  have R7 : ∀ (x3 : Int32) (x4 : Int32) (x5 : Int32), f_JL_indexOfChar_7 k0 x3 x4 x5 d = some rE → gG w p l e R s m args below meth c 6 0 0 (gE w below args s d (some (.int rE))) d [(0, .ref (w_k w (100 + k0))), (3, .int x3), (4, .int x4), (5, .int x5)] 7 [] := by
    intro x3 x4 x5   h
    refine iter_ind (G := fun s_ : (Int32) => gG w p l e R s m args below meth c 6 0 0 (gE w below args s d (some (.int rE))) d [(0, .ref (w_k w (100 + k0))), (3, .int x3), (4, .int x4), (5, .int s_)] 7 []) ?_ fu _ h
    clear h
    intro x5 y1 h hl1 hx1
    show gG w p l e R s m args below meth c 6 0 0 (gE w below args s d (some (.int rE))) d [(0, .ref (w_k w (100 + k0))), (3, .int x3), (4, .int x4), (5, .int x5)] 7 []
    unfold st_JL_indexOfChar_7 at h
    refine g_iload C dJ1_indexOfChar_4cfef_7 3 rfl ?_
    refine g_iload_n C dJ1_indexOfChar_4cfef_9 1 rfl ?_
    refine g_icmp_ge C dJ1_indexOfChar_4cfef_10 (tgt := 31) rfl (fun q => ?_) (fun q => ?_)
    · replace h := it_t q h
      replace h := ir_2 h hx1
      refine g_iconst C dJ1_indexOfChar_4cfef_31 (v := (-1)) (by decide) ?_
      exact g_iret C hr hlk rfl rfl (congrArg (fun z => some (Value.int z)) (Option.some.inj h)) dJ1_indexOfChar_4cfef_32
    · replace h := it_f q h
      refine g_aload_n C dJ1_indexOfChar_4cfef_13 0 rfl ?_
      refine g_iload C dJ1_indexOfChar_4cfef_14 3 rfl ?_
      have hg1 := gd_1 h
      replace h := gd_2 h
      refine g_baldK C (ks_row C hk0) hg1 rfl dJ1_indexOfChar_4cfef_16 ?_
      refine g_iload C dJ1_indexOfChar_4cfef_17 2 rfl ?_
      refine g_icmp_ne C dJ1_indexOfChar_4cfef_19 (tgt := 25) rfl (fun q => ?_) (fun q => ?_)
      · replace h := it_f q h
        refine g_iinc C (lv' := [(5, .int (x5 + 1)), (0, .ref (w_k w (100 + k0))), (3, .int x3), (4, .int x4)]) (v := (x5 + 1)) dJ1_indexOfChar_4cfef_25 3 rfl rfl (by decide) rfl ?_
        refine g_goto C dJ1_indexOfChar_4cfef_28 (tgt := 7) rfl ?_
        refine g_sub [1, 2, 3, 0] (lv' := [(0, .ref (w_k w (100 + k0))), (3, .int x3), (4, .int x4), (5, .int (x5 + 1))]) rfl ?_
        exact hl1 (x5 + 1) (Option.some.inj h).symm
      · replace h := it_t q h
        replace h := ir_2 h hx1
        refine g_iload C dJ1_indexOfChar_4cfef_22 3 rfl ?_
        exact g_iret C hr hlk rfl rfl (congrArg (fun z => some (Value.int z)) (Option.some.inj h)) dJ1_indexOfChar_4cfef_24
  unfold f_JL_indexOfChar at h
  refine g_iload_n C dJ1_indexOfChar_4cfef_0 1 rfl ?_
  refine g_i2b C dJ1_indexOfChar_4cfef_1  ?_
  refine g_istore C (lv' := [(4, .int (x1.toInt8.toInt32)), (0, .ref (w_k w (100 + k0))), (1, .int x1), (2, .int x2), (3, .int x3)]) dJ1_indexOfChar_4cfef_2 (by decide) rfl ?_
  refine g_iload_n C dJ1_indexOfChar_4cfef_4 3 rfl ?_
  refine g_istore C (lv' := [(5, .int x2), (4, .int (x1.toInt8.toInt32)), (0, .ref (w_k w (100 + k0))), (1, .int x1), (2, .int x2), (3, .int x3)]) dJ1_indexOfChar_4cfef_5 (by decide) rfl ?_
  refine g_sub [2, 5, 1, 0] (lv' := [(0, .ref (w_k w (100 + k0))), (3, .int x3), (4, .int (x1.toInt8.toInt32)), (5, .int x2)]) rfl ?_
  exact R7 x3 (x1.toInt8.toInt32) x2 h
set_option maxHeartbeats 4000000 in
set_option maxRecDepth 100000 in
theorem m_JL_indexOf {w : wT} {l : Launch} {k0 : Nat} {x1 x2 x3 : Int32} {d : Dt} {rE : Int32} (hO : okW w) (hk0 : k0 < 54) (h : f_JL_indexOf k0 x1 x2 x3 d = some rE) : gM w l yJ1_indexOf_4cfef cJ1_indexOf_4cfef 4 (Option.some Jvm.ClassFile.FieldType.int) 1 [.ref (w_k w (100 + k0)), .int x1, .int x2, .int x3] d d (some (.int rE)) := by
  refine gM_of (by decide) [(0, .ref (w_k w (100 + k0))), (1, .int x1), (2, .int x2), (3, .int x3)] rfl rfl ?_ hO
  intro p e R s m args below meth c C hR hr hlk
  unfold f_JL_indexOf at h
  refine g_iload_n C dJ1_indexOf_4cfef_0 1 rfl ?_
  obtain ⟨r3, hc4, h⟩ := ob1_1 h
  refine g_callSi C sk_JL_88 hR rfl (m_JL_canEncode C.2.2.2.2.2.2.1 hc4) rfl rfl rfl dJ1_indexOf_4cfef_1 rfl rfl ?_
  refine g_if_ne C dJ1_indexOf_4cfef_4 (tgt := 9) rfl (fun q => ?_) (fun q => ?_)
  · replace h := it_f q h
    refine g_iload_n C dJ1_indexOf_4cfef_9 2 rfl ?_
    refine g_iconst C dJ1_indexOf_4cfef_10 (v := 0) rfl ?_
    refine g_mmax C mm_JL_92 mm_sta_max mm_ini mm_cod_max hR rfl rfl dJ1_indexOf_4cfef_11 rfl rfl ?_
    refine g_istore_n C (lv' := [(2, .int (mxI x2 0)), (0, .ref (w_k w (100 + k0))), (1, .int x1), (3, .int x3)]) dJ1_indexOf_4cfef_14 (by decide) rfl ?_
    refine g_iload_n C dJ1_indexOf_4cfef_15 3 rfl ?_
    refine g_aload_n C dJ1_indexOf_4cfef_16 1 rfl ?_
    refine g_lenK C (ks_row C hk0) rfl dJ1_indexOf_4cfef_17 ?_
    refine g_mmin C mm_JL_38 mm_sta_min mm_ini mm_cod_min hR rfl rfl dJ1_indexOf_4cfef_18 rfl rfl ?_
    refine g_istore_n C (lv' := [(3, .int (mnI x3 (Int32.ofNat (sL k0)))), (2, .int (mxI x2 0)), (0, .ref (w_k w (100 + k0))), (1, .int x1)]) dJ1_indexOf_4cfef_21 (by decide) rfl ?_
    refine g_iload_n C dJ1_indexOf_4cfef_22 1 rfl ?_
    refine g_iload_n C dJ1_indexOf_4cfef_23 0 rfl ?_
    refine g_icmp_lt C dJ1_indexOf_4cfef_24 (tgt := 29) rfl (fun q => ?_) (fun q => ?_)
    · replace h := it_t q h
      refine g_aload_n C dJ1_indexOf_4cfef_29 2 rfl ?_
      refine g_iload_n C dJ1_indexOf_4cfef_30 3 rfl ?_
      refine g_iload_n C dJ1_indexOf_4cfef_31 1 rfl ?_
      refine g_iload_n C dJ1_indexOf_4cfef_32 0 rfl ?_
      obtain ⟨r5, hc6, h⟩ := ob1_1 h
      refine g_callSi C sk_JL_95 hR rfl (m_JL_indexOfChar C.2.2.2.2.2.2.1 hk0 hc6) rfl rfl rfl dJ1_indexOf_4cfef_33 rfl rfl ?_
      exact g_iret C hr hlk rfl rfl (congrArg (fun z => some (Value.int z)) (Option.some.inj h)) dJ1_indexOf_4cfef_36
    · replace h := it_f q h
      refine g_iconst C dJ1_indexOf_4cfef_27 (v := (-1)) (by decide) ?_
      exact g_iret C hr hlk rfl rfl (congrArg (fun z => some (Value.int z)) (Option.some.inj h)) dJ1_indexOf_4cfef_28
  · replace h := it_t q h
    refine g_iconst C dJ1_indexOf_4cfef_7 (v := (-1)) (by decide) ?_
    exact g_iret C hr hlk rfl rfl (congrArg (fun z => some (Value.int z)) (Option.some.inj h)) dJ1_indexOf_4cfef_8
set_option maxHeartbeats 4000000 in
set_option maxRecDepth 100000 in
theorem m_JS_indexOf2 {w : wT} {l : Launch} {k0 : Nat} {x1 x2 : Int32} {d : Dt} {rE : Int32} (hO : okW w) (hk0 : k0 < 54) (h : f_JS_indexOf2 k0 x1 x2 d = some rE) : gM w l yJ0_indexOf_7cf53 cJ0_indexOf_7cf53 3 (Option.some Jvm.ClassFile.FieldType.int) 2 [.ref (w_k w k0), .int x1, .int x2] d d (some (.int rE)) := by
  refine gM_of (by decide) [(0, .ref (w_k w k0)), (1, .int x1), (2, .int x2)] rfl rfl ?_ hO
  intro p e R s m args below meth c C hR hr hlk
  unfold f_JS_indexOf2 at h
  refine g_aload_n C dJ0_indexOf_7cf53_0 0 rfl ?_
  obtain ⟨r5, hc6, h⟩ := ob1_1 h
  refine g_callO C _ (ks_obj C hk0) yk_J0_isLatin1_aae02 rfl (wA 952 (by decide +kernel) (by decide +kernel)) (wA 953 (by decide +kernel) (by decide +kernel)) (wA 954 (by decide +kernel) (by decide +kernel)) hR rfl (m_JS_isLatin1 C.2.2.2.2.2.2.1 hk0 hc6) rfl rfl rfl dJ0_indexOf_7cf53_1 rfl rfl ?_
  refine g_if_eq C dJ0_indexOf_7cf53_4 (tgt := 23) rfl (fun q => ?_) (fun q => ?_)
  · replace h := it_t q h
    refine g_aload_n C dJ0_indexOf_7cf53_23 0 rfl ?_
    refine g_getO C (ks_value C hk0) (wA 1990 (by decide +kernel) (by decide +kernel)) dJ0_indexOf_7cf53_24 ?_
    refine g_iload_n C dJ0_indexOf_7cf53_27 1 rfl ?_
    refine g_iload_n C dJ0_indexOf_7cf53_28 2 rfl ?_
    refine g_aload_n C dJ0_indexOf_7cf53_29 0 rfl ?_
    obtain ⟨r7, hc8, h⟩ := ob1_1 h
    refine g_callO C _ (ks_obj C hk0) yk_J0_length_8abf5 rfl (wA 958 (by decide +kernel) (by decide +kernel)) (wA 959 (by decide +kernel) (by decide +kernel)) (wA 960 (by decide +kernel) (by decide +kernel)) hR rfl (m_JS_length C.2.2.2.2.2.2.1 hk0 hc8) rfl rfl rfl dJ0_indexOf_7cf53_30 rfl rfl ?_
    cases h
  · replace h := it_f q h
    refine g_aload_n C dJ0_indexOf_7cf53_7 0 rfl ?_
    refine g_getO C (ks_value C hk0) (wA 1990 (by decide +kernel) (by decide +kernel)) dJ0_indexOf_7cf53_8 ?_
    refine g_iload_n C dJ0_indexOf_7cf53_11 1 rfl ?_
    refine g_iload_n C dJ0_indexOf_7cf53_12 2 rfl ?_
    refine g_aload_n C dJ0_indexOf_7cf53_13 0 rfl ?_
    obtain ⟨r9, hc10, h⟩ := ob1_1 h
    refine g_callO C _ (ks_obj C hk0) yk_J0_length_8abf5 rfl (wA 958 (by decide +kernel) (by decide +kernel)) (wA 959 (by decide +kernel) (by decide +kernel)) (wA 960 (by decide +kernel) (by decide +kernel)) hR rfl (m_JS_length C.2.2.2.2.2.2.1 hk0 hc10) rfl rfl rfl dJ0_indexOf_7cf53_14 rfl rfl ?_
    obtain ⟨r11, hc12, h⟩ := ob1_1 h
    refine g_callSi C sk_JS_637 hR rfl (m_JL_indexOf C.2.2.2.2.2.2.1 hk0 hc12) rfl rfl rfl dJ0_indexOf_7cf53_17 rfl rfl ?_
    refine g_goto C dJ0_indexOf_7cf53_20 (tgt := 36) rfl ?_
    exact g_iret C hr hlk rfl rfl (congrArg (fun z => some (Value.int z)) (Option.some.inj h)) dJ0_indexOf_7cf53_36
set_option maxHeartbeats 4000000 in
set_option maxRecDepth 100000 in
theorem m_JS_indexOf1 {w : wT} {l : Launch} {k0 : Nat} {x1 : Int32} {d : Dt} {rE : Int32} (hO : okW w) (hk0 : k0 < 54) (h : f_JS_indexOf1 k0 x1 d = some rE) : gM w l yJ0_indexOf_0f7a4 cJ0_indexOf_0f7a4 2 (Option.some Jvm.ClassFile.FieldType.int) 3 [.ref (w_k w k0), .int x1] d d (some (.int rE)) := by
  refine gM_of (by decide) [(0, .ref (w_k w k0)), (1, .int x1)] rfl rfl ?_ hO
  intro p e R s m args below meth c C hR hr hlk
  unfold f_JS_indexOf1 at h
  refine g_aload_n C dJ0_indexOf_0f7a4_0 0 rfl ?_
  refine g_iload_n C dJ0_indexOf_0f7a4_1 1 rfl ?_
  refine g_iconst C dJ0_indexOf_0f7a4_2 (v := 0) rfl ?_
  obtain ⟨r2, hc3, h⟩ := ob1_1 h
  refine g_callO C _ (ks_obj C hk0) yk_J0_indexOf_7cf53 rfl (wA 948 (by decide +kernel) (by decide +kernel)) (wA 949 (by decide +kernel) (by decide +kernel)) (wA 950 (by decide +kernel) (by decide +kernel)) hR rfl (m_JS_indexOf2 C.2.2.2.2.2.2.1 hk0 hc3) rfl rfl rfl dJ0_indexOf_0f7a4_3 rfl rfl ?_
  exact g_iret C hr hlk rfl rfl (congrArg (fun z => some (Value.int z)) (Option.some.inj h)) dJ0_indexOf_0f7a4_6
set_option maxHeartbeats 4000000 in
set_option maxRecDepth 100000 in
theorem m_M_hearingCount {w : wT} {l : Launch} {x1 : Int32} {d : Dt} {rE : Int32} {dE : Dt} (hO : okW w) (h : f_M_hearingCount x1 d = some (rE, dE)) : gM w l yX12_hearingCount cX12_hearingCount 3 (Option.some Jvm.ClassFile.FieldType.int) 4 [.ref (w_r w 292), .int x1] d dE (some (.int rE)) := by
  refine gM_of (by decide) [(0, .ref (w_r w 292)), (1, .int x1)] rfl rfl ?_ hO
  intro p e R s m args below meth c C hR hr hlk
  have R17 : ∀ (x2 : Int32) (v1 : Int32) (d : Dt), f_M_hearingCount_17 x2 v1 d = some (rE, dE) → gG w p l e R s m args below meth c 3 0 0 (gE w below args s dE (some (.int rE))) d [(0, .ref (w_r w 292)), (2, .int x2)] 17 [.int v1, .ref (w_r w 292)] := by
    intro x2 v1 d  h
    unfold f_M_hearingCount_17 at h
    obtain ⟨r4, d5, hc6, h⟩ := ob2_1 h
    refine g_callVi C 292 q_292 vk_M_61 hR rfl (m_M_fails C.2.2.2.2.2.2.1 hc6) rfl rfl rfl dX12_hearingCount_17 rfl rfl ?_
    refine g_if_eq C dX12_hearingCount_20 (tgt := 27) rfl (fun q => ?_) (fun q => ?_)
    · replace h := it_t q h
      refine g_aload_n C dX12_hearingCount_27 0 rfl ?_
      refine g_get C (.ref (w_r w 293)) 292 q_292 fk_M_7 rfl dX12_hearingCount_28 ?_
      refine g_bipush C dX12_hearingCount_31 (v := 7) (by decide) ?_
      refine g_iload_n C dX12_hearingCount_33 1 rfl ?_
      refine g_iadd C dX12_hearingCount_34  ?_
      have hg7 := gd_1 h
      replace h := gd_2 h
      refine g_iald C 293 q_293 hg7 _ rfl dX12_hearingCount_35 ?_
      exact g_iret C hr hlk rfl (congrArg Prod.snd (Option.some.inj h)) (congrArg (fun z => some (Value.int z.1)) (Option.some.inj h)) dX12_hearingCount_36
    · replace h := it_f q h
      refine g_iconst C dX12_hearingCount_23 (v := 0) rfl ?_
      refine g_goto C dX12_hearingCount_24 (tgt := 36) rfl ?_
      exact g_iret C hr hlk rfl (congrArg Prod.snd (Option.some.inj h)) (congrArg (fun z => some (Value.int z.1)) (Option.some.inj h)) dX12_hearingCount_36
  unfold f_M_hearingCount at h
  refine g_ldcS C 29 (by decide) (by decide +kernel) (by decide +kernel) dX12_hearingCount_0 ?_
  refine g_iload_n C dX12_hearingCount_2 1 rfl ?_
  obtain ⟨r8, hc9, h⟩ := ob1_1 h
  refine g_callO C _ (ks_obj C (by decide)) yk_J0_indexOf_0f7a4 rfl (wA 1835 (by decide +kernel) (by decide +kernel)) (wA 945 (by decide +kernel) (by decide +kernel)) (wA 946 (by decide +kernel) (by decide +kernel)) hR rfl (m_JS_indexOf1 C.2.2.2.2.2.2.1 (by decide) hc9) rfl rfl rfl dX12_hearingCount_3 rfl rfl ?_
  refine g_istore_n C (lv' := [(2, .int r8), (0, .ref (w_r w 292)), (1, .int x1)]) dX12_hearingCount_6 (by decide) rfl ?_
  refine g_aload_n C dX12_hearingCount_7 1 rfl ?_
  refine g_iload_n C dX12_hearingCount_8 0 rfl ?_
  refine g_if_ge C dX12_hearingCount_9 (tgt := 16) rfl (fun q => ?_) (fun q => ?_)
  · replace h := it_t q h
    refine g_iconst C dX12_hearingCount_16 (v := 0) rfl ?_
    refine g_sub [1, 0] (lv' := [(0, .ref (w_r w 292)), (2, .int r8)]) rfl ?_
    exact R17 r8 0 d h
  · replace h := it_f q h
    refine g_iconst C dX12_hearingCount_12 (v := 1) rfl ?_
    refine g_goto C dX12_hearingCount_13 (tgt := 17) rfl ?_
    refine g_sub [1, 0] (lv' := [(0, .ref (w_r w 292)), (2, .int r8)]) rfl ?_
    exact R17 r8 1 d h
set_option maxHeartbeats 4000000 in
set_option maxRecDepth 100000 in
theorem m_M_hearingDay {w : wT} {l : Launch} {x1 : Int32} {d : Dt} {rE : Int32} {dE : Dt} (hO : okW w) (h : f_M_hearingDay x1 d = some (rE, dE)) : gM w l yX12_hearingDay cX12_hearingDay 5 (Option.some Jvm.ClassFile.FieldType.int) 3 [.ref (w_r w 292), .int x1] d dE (some (.int rE)) := by
  refine gM_of (by decide) [(0, .ref (w_r w 292)), (1, .int x1)] rfl rfl ?_ hO
  intro p e R s m args below meth c C hR hr hlk
  have R40 : ∀ (x2 : Int32) (x3 : Int32) (x4 : Int32) (d : Dt), f_M_hearingDay_40 x2 x3 x4 d = some (rE, dE) → gG w p l e R s m args below meth c 5 0 0 (gE w below args s dE (some (.int rE))) d [(0, .ref (w_r w 292)), (2, .int x2), (3, .int x3), (4, .int x4)] 40 [] := by
    intro x2 x3 x4 d  h
    refine iter_ind (G := fun s_ : (Int32) => gG w p l e R s m args below meth c 5 0 0 (gE w below args s dE (some (.int rE))) d [(0, .ref (w_r w 292)), (2, .int x2), (3, .int x3), (4, .int s_)] 40 []) ?_ fu _ h
    clear h
    intro x4 y1 h hl1 hx1
    show gG w p l e R s m args below meth c 5 0 0 (gE w below args s dE (some (.int rE))) d [(0, .ref (w_r w 292)), (2, .int x2), (3, .int x3), (4, .int x4)] 40 []
    unfold st_M_hearingDay_40 at h
    refine g_aload_n C dX12_hearingDay_40 0 rfl ?_
    refine g_iload_n C dX12_hearingDay_41 2 rfl ?_
    refine g_iload C dX12_hearingDay_42 3 rfl ?_
    obtain ⟨r6, hc7, h⟩ := ob1_1 h
    refine g_callVi C 292 q_292 vk_M_122 hR rfl (m_M_hearing C.2.2.2.2.2.2.1 hc7) rfl rfl rfl dX12_hearingDay_44 rfl rfl ?_
    refine g_iload_n C dX12_hearingDay_47 1 rfl ?_
    refine g_icmp_eq C dX12_hearingDay_48 (tgt := 57) rfl (fun q => ?_) (fun q => ?_)
    · replace h := it_t q h
      replace h := ir_2 h hx1
      refine g_aload_n C dX12_hearingDay_57 0 rfl ?_
      refine g_get C (.ref (w_r w 293)) 292 q_292 fk_M_7 rfl dX12_hearingDay_58 ?_
      refine g_iconst C dX12_hearingDay_61 (v := 1) rfl ?_
      refine g_iald C 293 q_293 (by decide) 1 (by decide) dX12_hearingDay_62 ?_
      refine g_iconst C dX12_hearingDay_63 (v := 1) rfl ?_
      refine g_iadd C dX12_hearingDay_64  ?_
      refine g_iload C dX12_hearingDay_65 3 rfl ?_
      refine g_iadd C dX12_hearingDay_67  ?_
      exact g_iret C hr hlk rfl (congrArg Prod.snd (Option.some.inj h)) (congrArg (fun z => some (Value.int z.1)) (Option.some.inj h)) dX12_hearingDay_68
    · replace h := it_f q h
      refine g_iinc C (lv' := [(4, .int (x4 + 1)), (0, .ref (w_r w 292)), (2, .int x2), (3, .int x3)]) (v := (x4 + 1)) dX12_hearingDay_51 3 rfl rfl (by decide) rfl ?_
      refine g_goto C dX12_hearingDay_54 (tgt := 40) rfl ?_
      refine g_sub [1, 2, 3, 0] (lv' := [(0, .ref (w_r w 292)), (2, .int x2), (3, .int x3), (4, .int (x4 + 1))]) rfl ?_
      exact hl1 (x4 + 1) (Option.some.inj h).symm
  have R29 : ∀ (x2 : Int32) (x3 : Int32) (v1 : Int32) (d : Dt), f_M_hearingDay_29 x2 x3 v1 d = some (rE, dE) → gG w p l e R s m args below meth c 5 0 0 (gE w below args s dE (some (.int rE))) d [(0, .ref (w_r w 292)), (2, .int x2), (3, .int x3)] 29 [.int v1, .ref (w_r w 292)] := by
    intro x2 x3 v1 d  h
    unfold f_M_hearingDay_29 at h
    obtain ⟨r8, d9, hc10, h⟩ := ob2_1 h
    refine g_callVi C 292 q_292 vk_M_61 hR rfl (m_M_fails C.2.2.2.2.2.2.1 hc10) rfl rfl rfl dX12_hearingDay_29 rfl rfl ?_
    refine g_if_eq C dX12_hearingDay_32 (tgt := 37) rfl (fun q => ?_) (fun q => ?_)
    · replace h := it_t q h
      refine g_iconst C dX12_hearingDay_37 (v := 0) rfl ?_
      refine g_istore C (lv' := [(4, .int 0), (0, .ref (w_r w 292)), (2, .int x2), (3, .int x3)]) dX12_hearingDay_38 (by decide) rfl ?_
      refine g_sub [1, 2, 3, 0] (lv' := [(0, .ref (w_r w 292)), (2, .int x2), (3, .int x3), (4, .int 0)]) rfl ?_
      exact R40 x2 x3 0 d9 h
    · replace h := it_f q h
      refine g_iconst C dX12_hearingDay_35 (v := 0) rfl ?_
      exact g_iret C hr hlk rfl (congrArg Prod.snd (Option.some.inj h)) (congrArg (fun z => some (Value.int z.1)) (Option.some.inj h)) dX12_hearingDay_36
  have R24 : ∀ (x2 : Int32) (x3 : Int32) (d : Dt), f_M_hearingDay_24 x2 x3  d = some (rE, dE) → gG w p l e R s m args below meth c 5 0 0 (gE w below args s dE (some (.int rE))) d [(0, .ref (w_r w 292)), (2, .int x2), (3, .int x3)] 24 [.ref (w_r w 292)] := by
    intro x2 x3  d  h
    unfold f_M_hearingDay_24 at h
    refine g_iconst C dX12_hearingDay_24 (v := 1) rfl ?_
    refine g_goto C dX12_hearingDay_25 (tgt := 29) rfl ?_
    exact R29 x2 x3 1 d h
  unfold f_M_hearingDay at h
  refine g_aload_n C dX12_hearingDay_0 0 rfl ?_
  refine g_iload_n C dX12_hearingDay_1 1 rfl ?_
  obtain ⟨r11, hc12, h⟩ := ob1_1 h
  refine g_callVi C 292 q_292 vk_M_76 hR rfl (m_M_placeOf C.2.2.2.2.2.2.1 hc12) rfl rfl rfl dX12_hearingDay_2 rfl rfl ?_
  refine g_istore_n C (lv' := [(2, .int r11), (0, .ref (w_r w 292)), (1, .int x1)]) dX12_hearingDay_5 (by decide) rfl ?_
  refine g_aload_n C dX12_hearingDay_6 1 rfl ?_
  obtain ⟨r13, hc14, h⟩ := ob1_1 h
  refine g_callVi C 292 q_292 vk_M_118 hR rfl (m_M_plan C.2.2.2.2.2.2.1 hc14) rfl rfl rfl dX12_hearingDay_7 rfl rfl ?_
  refine g_istore_n C (lv' := [(3, .int r13), (2, .int r11), (0, .ref (w_r w 292)), (1, .int x1)]) dX12_hearingDay_10 (by decide) rfl ?_
  refine g_aload_n C dX12_hearingDay_11 2 rfl ?_
  refine g_iload_n C dX12_hearingDay_12 1 rfl ?_
  refine g_if_lt C dX12_hearingDay_13 (tgt := 24) rfl (fun q => ?_) (fun q => ?_)
  · replace h := it_t q h
    refine g_sub [2, 1, 0] (lv' := [(0, .ref (w_r w 292)), (2, .int r11), (3, .int r13)]) rfl ?_
    exact R24 r11 r13 d h
  · replace h := it_f q h
    refine g_iload_n C dX12_hearingDay_16 0 rfl ?_
    refine g_iload_n C dX12_hearingDay_17 1 rfl ?_
    refine g_ishr C dX12_hearingDay_18  ?_
    refine g_iconst C dX12_hearingDay_19 (v := 1) rfl ?_
    refine g_iand C dX12_hearingDay_20  ?_
    refine g_if_ne C dX12_hearingDay_21 (tgt := 28) rfl (fun q => ?_) (fun q => ?_)
    · replace h := it_f q h
      refine g_iconst C dX12_hearingDay_28 (v := 0) rfl ?_
      refine g_sub [2, 1, 0] (lv' := [(0, .ref (w_r w 292)), (2, .int r11), (3, .int r13)]) rfl ?_
      exact R29 r11 r13 0 d h
    · replace h := it_t q h
      refine g_sub [2, 1, 0] (lv' := [(0, .ref (w_r w 292)), (2, .int r11), (3, .int r13)]) rfl ?_
      exact R24 r11 r13 d h
set_option maxHeartbeats 4000000 in
set_option maxRecDepth 100000 in
theorem m_M_isAhead {w : wT} {l : Launch} {x1 x2 : Int32} {d : Dt} {rE : Int32} (hO : okW w) (h : f_M_isAhead x1 x2 d = some rE) : gM w l yX12_isAhead cX12_isAhead 3 (Option.some Jvm.ClassFile.FieldType.boolean) 2 [.ref (w_r w 292), .int x1, .int x2] d d (some (.int rE)) := by
  refine gM_of (by decide) [(0, .ref (w_r w 292)), (1, .int x1), (2, .int x2)] rfl rfl ?_ hO
  intro p e R s m args below meth c C hR hr hlk
  unfold f_M_isAhead at h
  refine g_aload_n C dX12_isAhead_0 0 rfl ?_
  refine g_iload_n C dX12_isAhead_1 1 rfl ?_
  refine g_iconst C dX12_isAhead_2 (v := 0) rfl ?_
  obtain ⟨r9, hc10, h⟩ := ob1_1 h
  refine g_callVi C 292 q_292 vk_M_87 hR rfl (m_M_of C.2.2.2.2.2.2.1 hc10) rfl rfl rfl dX12_isAhead_3 rfl rfl ?_
  refine g_aload_n C dX12_isAhead_6 0 rfl ?_
  refine g_iload_n C dX12_isAhead_7 2 rfl ?_
  refine g_iconst C dX12_isAhead_8 (v := 0) rfl ?_
  obtain ⟨r11, hc12, h⟩ := ob1_1 h
  refine g_callVi C 292 q_292 vk_M_87 hR rfl (m_M_of C.2.2.2.2.2.2.1 hc12) rfl rfl rfl dX12_isAhead_9 rfl rfl ?_
  refine g_icmp_eq C dX12_isAhead_12 (tgt := 36) rfl (fun q => ?_) (fun q => ?_)
  · replace h := it_t q h
    refine g_aload_n C dX12_isAhead_36 0 rfl ?_
    refine g_iload_n C dX12_isAhead_37 1 rfl ?_
    obtain ⟨r13, hc14, h⟩ := ob1_1 h
    refine g_callVi C 292 q_292 vk_M_137 hR rfl (m_M_toServe C.2.2.2.2.2.2.1 hc14) rfl rfl rfl dX12_isAhead_38 rfl rfl ?_
    refine g_aload_n C dX12_isAhead_41 0 rfl ?_
    refine g_iload_n C dX12_isAhead_42 2 rfl ?_
    obtain ⟨r15, hc16, h⟩ := ob1_1 h
    refine g_callVi C 292 q_292 vk_M_137 hR rfl (m_M_toServe C.2.2.2.2.2.2.1 hc16) rfl rfl rfl dX12_isAhead_43 rfl rfl ?_
    refine g_icmp_eq C dX12_isAhead_46 (tgt := 70) rfl (fun q => ?_) (fun q => ?_)
    · replace h := it_t q h
      refine g_iload_n C dX12_isAhead_70 1 rfl ?_
      refine g_iload_n C dX12_isAhead_71 2 rfl ?_
      refine g_icmp_ge C dX12_isAhead_72 (tgt := 79) rfl (fun q => ?_) (fun q => ?_)
      · replace h := it_t q h
        refine g_iconst C dX12_isAhead_79 (v := 0) rfl ?_
        exact g_iret C hr hlk rfl rfl (congrArg (fun z => some (Value.int z)) (Option.some.inj h)) dX12_isAhead_80
      · replace h := it_f q h
        refine g_iconst C dX12_isAhead_75 (v := 1) rfl ?_
        refine g_goto C dX12_isAhead_76 (tgt := 80) rfl ?_
        exact g_iret C hr hlk rfl rfl (congrArg (fun z => some (Value.int z)) (Option.some.inj h)) dX12_isAhead_80
    · replace h := it_f q h
      refine g_aload_n C dX12_isAhead_49 0 rfl ?_
      refine g_iload_n C dX12_isAhead_50 1 rfl ?_
      obtain ⟨r17, hc18, h⟩ := ob1_1 h
      refine g_callVi C 292 q_292 vk_M_137 hR rfl (m_M_toServe C.2.2.2.2.2.2.1 hc18) rfl rfl rfl dX12_isAhead_51 rfl rfl ?_
      refine g_aload_n C dX12_isAhead_54 0 rfl ?_
      refine g_iload_n C dX12_isAhead_55 2 rfl ?_
      obtain ⟨r19, hc20, h⟩ := ob1_1 h
      refine g_callVi C 292 q_292 vk_M_137 hR rfl (m_M_toServe C.2.2.2.2.2.2.1 hc20) rfl rfl rfl dX12_isAhead_56 rfl rfl ?_
      refine g_icmp_le C dX12_isAhead_59 (tgt := 66) rfl (fun q => ?_) (fun q => ?_)
      · replace h := it_t q h
        refine g_iconst C dX12_isAhead_66 (v := 0) rfl ?_
        refine g_goto C dX12_isAhead_67 (tgt := 80) rfl ?_
        exact g_iret C hr hlk rfl rfl (congrArg (fun z => some (Value.int z)) (Option.some.inj h)) dX12_isAhead_80
      · replace h := it_f q h
        refine g_iconst C dX12_isAhead_62 (v := 1) rfl ?_
        refine g_goto C dX12_isAhead_63 (tgt := 80) rfl ?_
        exact g_iret C hr hlk rfl rfl (congrArg (fun z => some (Value.int z)) (Option.some.inj h)) dX12_isAhead_80
  · replace h := it_f q h
    refine g_aload_n C dX12_isAhead_15 0 rfl ?_
    refine g_iload_n C dX12_isAhead_16 1 rfl ?_
    refine g_iconst C dX12_isAhead_17 (v := 0) rfl ?_
    obtain ⟨r21, hc22, h⟩ := ob1_1 h
    refine g_callVi C 292 q_292 vk_M_87 hR rfl (m_M_of C.2.2.2.2.2.2.1 hc22) rfl rfl rfl dX12_isAhead_18 rfl rfl ?_
    refine g_aload_n C dX12_isAhead_21 0 rfl ?_
    refine g_iload_n C dX12_isAhead_22 2 rfl ?_
    refine g_iconst C dX12_isAhead_23 (v := 0) rfl ?_
    obtain ⟨r23, hc24, h⟩ := ob1_1 h
    refine g_callVi C 292 q_292 vk_M_87 hR rfl (m_M_of C.2.2.2.2.2.2.1 hc24) rfl rfl rfl dX12_isAhead_24 rfl rfl ?_
    refine g_icmp_ge C dX12_isAhead_27 (tgt := 34) rfl (fun q => ?_) (fun q => ?_)
    · replace h := it_t q h
      refine g_iconst C dX12_isAhead_34 (v := 0) rfl ?_
      exact g_iret C hr hlk rfl rfl (congrArg (fun z => some (Value.int z)) (Option.some.inj h)) dX12_isAhead_35
    · replace h := it_f q h
      refine g_iconst C dX12_isAhead_30 (v := 1) rfl ?_
      refine g_goto C dX12_isAhead_31 (tgt := 35) rfl ?_
      exact g_iret C hr hlk rfl rfl (congrArg (fun z => some (Value.int z)) (Option.some.inj h)) dX12_isAhead_35
set_option maxHeartbeats 4000000 in
set_option maxRecDepth 100000 in
theorem m_M_isConsistent {w : wT} {l : Launch} {d : Dt} {rE : Int32} {dE : Dt} (hO : okW w) (h : f_M_isConsistent  d = some (rE, dE)) : gM w l yX12_isConsistent cX12_isConsistent 1 (Option.some Jvm.ClassFile.FieldType.boolean) 0 [.ref (w_r w 292)] d dE (some (.int rE)) := by
  refine gM_of (by decide) [(0, .ref (w_r w 292))] rfl rfl ?_ hO
  intro p e R s m args below meth c C hR hr hlk
  unfold f_M_isConsistent at h
  refine g_aload_n C dX12_isConsistent_0 0 rfl ?_
  refine g_iconst C dX12_isConsistent_1 (v := 0) rfl ?_
  refine g_put C 292 q_292 pk_M_39 rfl rfl dX12_isConsistent_2 ?_
  obtain ⟨d2, hd2, h⟩ := bnd_1 h
  refine g_nmD hd2 ?_
  refine g_iconst C dX12_isConsistent_5 (v := 1) rfl ?_
  exact g_iret C hr hlk rfl (congrArg Prod.snd (Option.some.inj h)) (congrArg (fun z => some (Value.int z.1)) (Option.some.inj h)) dX12_isConsistent_6
set_option maxHeartbeats 4000000 in
set_option maxRecDepth 100000 in
theorem m_M_isContradictory {w : wT} {l : Launch} {x1 : Int32} {d : Dt} {rE : Int32} {dE : Dt} (hO : okW w) (h : f_M_isContradictory x1 d = some (rE, dE)) : gM w l yX12_isContradictory cX12_isContradictory 2 (Option.some Jvm.ClassFile.FieldType.boolean) 4 [.ref (w_r w 292), .int x1] d dE (some (.int rE)) := by
  refine gM_of (by decide) [(0, .ref (w_r w 292)), (1, .int x1)] rfl rfl ?_ hO
  intro p e R s m args below meth c C hR hr hlk
  unfold f_M_isContradictory at h
  refine g_aload_n C dX12_isContradictory_0 0 rfl ?_
  refine g_iload_n C dX12_isContradictory_1 1 rfl ?_
  obtain ⟨r4, d5, hc6, h⟩ := ob2_1 h
  refine g_callVi C 292 q_292 vk_M_134 hR rfl (m_M_isNone C.2.2.2.2.2.2.1 hc6) rfl rfl rfl dX12_isContradictory_2 rfl rfl ?_
  refine g_if_ne C dX12_isContradictory_5 (tgt := 21) rfl (fun q => ?_) (fun q => ?_)
  · replace h := it_f q h
    refine g_iconst C dX12_isContradictory_21 (v := 0) rfl ?_
    exact g_iret C hr hlk rfl (congrArg Prod.snd (Option.some.inj h)) (congrArg (fun z => some (Value.int z.1)) (Option.some.inj h)) dX12_isContradictory_22
  · replace h := it_t q h
    refine g_aload_n C dX12_isContradictory_8 0 rfl ?_
    refine g_iload_n C dX12_isContradictory_9 1 rfl ?_
    obtain ⟨r7, hc8, h⟩ := ob1_1 h
    refine g_callVi C 292 q_292 vk_M_112 hR rfl (m_M_judges C.2.2.2.2.2.2.1 hc8) rfl rfl rfl dX12_isContradictory_10 rfl rfl ?_
    refine g_iconst C dX12_isContradictory_13 (v := 3) rfl ?_
    refine g_icmp_ne C dX12_isContradictory_14 (tgt := 21) rfl (fun q => ?_) (fun q => ?_)
    · replace h := it_f q h
      refine g_iconst C dX12_isContradictory_21 (v := 0) rfl ?_
      exact g_iret C hr hlk rfl (congrArg Prod.snd (Option.some.inj h)) (congrArg (fun z => some (Value.int z.1)) (Option.some.inj h)) dX12_isContradictory_22
    · replace h := it_t q h
      refine g_iconst C dX12_isContradictory_17 (v := 1) rfl ?_
      refine g_goto C dX12_isContradictory_18 (tgt := 22) rfl ?_
      exact g_iret C hr hlk rfl (congrArg Prod.snd (Option.some.inj h)) (congrArg (fun z => some (Value.int z.1)) (Option.some.inj h)) dX12_isContradictory_22
set_option maxHeartbeats 4000000 in
set_option maxRecDepth 100000 in
theorem m_M_isInPlan {w : wT} {l : Launch} {x1 : Int32} {d : Dt} {rE : Int32} {dE : Dt} (hO : okW w) (h : f_M_isInPlan x1 d = some (rE, dE)) : gM w l yX12_isInPlan cX12_isInPlan 3 (Option.some Jvm.ClassFile.FieldType.boolean) 3 [.ref (w_r w 292), .int x1] d dE (some (.int rE)) := by
  refine gM_of (by decide) [(0, .ref (w_r w 292)), (1, .int x1)] rfl rfl ?_ hO
  intro p e R s m args below meth c C hR hr hlk
  have R16 : ∀ (x2 : Int32) (v1 : Int32) (d : Dt), f_M_isInPlan_16 x2 v1 d = some (rE, dE) → gG w p l e R s m args below meth c 3 0 0 (gE w below args s dE (some (.int rE))) d [(0, .ref (w_r w 292)), (2, .int x2)] 16 [.int v1, .ref (w_r w 292)] := by
    intro x2 v1 d  h
    unfold f_M_isInPlan_16 at h
    obtain ⟨r5, d6, hc7, h⟩ := ob2_1 h
    refine g_callVi C 292 q_292 vk_M_61 hR rfl (m_M_fails C.2.2.2.2.2.2.1 hc7) rfl rfl rfl dX12_isInPlan_16 rfl rfl ?_
    refine g_if_ne C dX12_isInPlan_19 (tgt := 38) rfl (fun q => ?_) (fun q => ?_)
    · replace h := it_f q h
      refine g_iconst C dX12_isInPlan_38 (v := 0) rfl ?_
      exact g_iret C hr hlk rfl (congrArg Prod.snd (Option.some.inj h)) (congrArg (fun z => some (Value.int z.1)) (Option.some.inj h)) dX12_isInPlan_39
    · replace h := it_t q h
      refine g_aload_n C dX12_isInPlan_22 0 rfl ?_
      obtain ⟨r8, hc9, h⟩ := ob1_1 h
      refine g_callVi C 292 q_292 vk_M_118 hR rfl (m_M_plan C.2.2.2.2.2.2.1 hc9) rfl rfl rfl dX12_isInPlan_23 rfl rfl ?_
      refine g_iload_n C dX12_isInPlan_26 1 rfl ?_
      refine g_ishr C dX12_isInPlan_27  ?_
      refine g_iconst C dX12_isInPlan_28 (v := 1) rfl ?_
      refine g_iand C dX12_isInPlan_29  ?_
      refine g_iconst C dX12_isInPlan_30 (v := 1) rfl ?_
      refine g_icmp_ne C dX12_isInPlan_31 (tgt := 38) rfl (fun q => ?_) (fun q => ?_)
      · replace h := it_f q h
        refine g_iconst C dX12_isInPlan_38 (v := 0) rfl ?_
        exact g_iret C hr hlk rfl (congrArg Prod.snd (Option.some.inj h)) (congrArg (fun z => some (Value.int z.1)) (Option.some.inj h)) dX12_isInPlan_39
      · replace h := it_t q h
        refine g_iconst C dX12_isInPlan_34 (v := 1) rfl ?_
        refine g_goto C dX12_isInPlan_35 (tgt := 39) rfl ?_
        exact g_iret C hr hlk rfl (congrArg Prod.snd (Option.some.inj h)) (congrArg (fun z => some (Value.int z.1)) (Option.some.inj h)) dX12_isInPlan_39
  unfold f_M_isInPlan at h
  refine g_aload_n C dX12_isInPlan_0 0 rfl ?_
  refine g_iload_n C dX12_isInPlan_1 1 rfl ?_
  obtain ⟨r10, hc11, h⟩ := ob1_1 h
  refine g_callVi C 292 q_292 vk_M_76 hR rfl (m_M_placeOf C.2.2.2.2.2.2.1 hc11) rfl rfl rfl dX12_isInPlan_2 rfl rfl ?_
  refine g_istore_n C (lv' := [(2, .int r10), (0, .ref (w_r w 292)), (1, .int x1)]) dX12_isInPlan_5 (by decide) rfl ?_
  refine g_aload_n C dX12_isInPlan_6 1 rfl ?_
  refine g_iload_n C dX12_isInPlan_7 0 rfl ?_
  refine g_if_ge C dX12_isInPlan_8 (tgt := 15) rfl (fun q => ?_) (fun q => ?_)
  · replace h := it_t q h
    refine g_iconst C dX12_isInPlan_15 (v := 0) rfl ?_
    refine g_sub [1, 0] (lv' := [(0, .ref (w_r w 292)), (2, .int r10)]) rfl ?_
    exact R16 r10 0 d h
  · replace h := it_f q h
    refine g_iconst C dX12_isInPlan_11 (v := 1) rfl ?_
    refine g_goto C dX12_isInPlan_12 (tgt := 16) rfl ?_
    refine g_sub [1, 0] (lv' := [(0, .ref (w_r w 292)), (2, .int r10)]) rfl ?_
    exact R16 r10 1 d h
set_option maxHeartbeats 4000000 in
set_option maxRecDepth 100000 in
theorem m_M_isText {w : wT} {l : Launch} {d : Dt} {rE : Int32} {dE : Dt} (hO : okW w) (h : f_M_isText  d = some (rE, dE)) : gM w l yX12_isText cX12_isText 1 (Option.some Jvm.ClassFile.FieldType.boolean) 6 [.ref (w_r w 292)] d dE (some (.int rE)) := by
  refine gM_of (by decide) [(0, .ref (w_r w 292))] rfl rfl ?_ hO
  intro p e R s m args below meth c C hR hr hlk
  have R10 : ∀ (d : Dt), f_M_isText_10  d = some (rE, dE) → gG w p l e R s m args below meth c 1 0 0 (gE w below args s dE (some (.int rE))) d [(0, .ref (w_r w 292))] 10 [] := by
    intro  d  h
    refine iter_ind (G := fun s_ : (Dt) => gG w p l e R s m args below meth c 1 0 0 (gE w below args s dE (some (.int rE))) s_ [(0, .ref (w_r w 292))] 10 []) ?_ fu _ h
    clear h
    intro d y1 h hl1 hx1
    show gG w p l e R s m args below meth c 1 0 0 (gE w below args s dE (some (.int rE))) d [(0, .ref (w_r w 292))] 10 []
    unfold st_M_isText_10 at h
    refine g_aload_n C dX12_isText_10 0 rfl ?_
    obtain ⟨r8, d9, hc10, h⟩ := ob2_1 h
    refine g_callVi C 292 q_292 vk_M_215 hR rfl (m_M_commandHere C.2.2.2.2.2.2.1 hc10) rfl rfl rfl dX12_isText_11 rfl rfl ?_
    refine g_if_ne C dX12_isText_14 (tgt := 19) rfl (fun q => ?_) (fun q => ?_)
    · replace h := it_f q h
      refine g_aload_n C dX12_isText_19 0 rfl ?_
      refine g_dup C dX12_isText_20 rfl ?_
      refine g_get C (.int (d9 292 16)) 292 q_292 fk_M_178 rfl dX12_isText_21 ?_
      refine g_iconst C dX12_isText_24 (v := 1) rfl ?_
      refine g_iadd C dX12_isText_25  ?_
      refine g_put C 292 q_292 pk_M_178 rfl rfl dX12_isText_26 ?_
      obtain ⟨d11, hd11, h⟩ := bnd_1 h
      refine g_nmD hd11 ?_
      refine g_aload_n C dX12_isText_29 0 rfl ?_
      refine g_bipush C dX12_isText_30 (v := 59) (by decide) ?_
      obtain ⟨r12, d13, hc14, h⟩ := ob2_1 h
      refine g_callVi C 292 q_292 vk_M_183 hR rfl (m_M_skips C.2.2.2.2.2.2.1 hc14) rfl rfl rfl dX12_isText_32 rfl rfl ?_
      refine g_if_ne C dX12_isText_35 (tgt := 10) rfl (fun q => ?_) (fun q => ?_)
      · replace h := it_f q h
        exact hl1 d13 (Option.some.inj h).symm
      · replace h := it_t q h
        replace h := ir_2 h hx1
        refine g_aload_n C dX12_isText_38 0 rfl ?_
        refine g_get C (.int (d13 292 14)) 292 q_292 fk_M_172 rfl dX12_isText_39 ?_
        refine g_aload_n C dX12_isText_42 0 rfl ?_
        refine g_get C (.int (d13 292 9)) 292 q_292 fk_M_169 rfl dX12_isText_43 ?_
        refine g_icmp_ne C dX12_isText_46 (tgt := 53) rfl (fun q => ?_) (fun q => ?_)
        · replace h := it_f q h
          refine g_iconst C dX12_isText_53 (v := 0) rfl ?_
          exact g_iret C hr hlk rfl (congrArg Prod.snd (Option.some.inj h)) (congrArg (fun z => some (Value.int z.1)) (Option.some.inj h)) dX12_isText_54
        · replace h := it_t q h
          refine g_iconst C dX12_isText_49 (v := 1) rfl ?_
          refine g_goto C dX12_isText_50 (tgt := 54) rfl ?_
          exact g_iret C hr hlk rfl (congrArg Prod.snd (Option.some.inj h)) (congrArg (fun z => some (Value.int z.1)) (Option.some.inj h)) dX12_isText_54
    · replace h := it_t q h
      replace h := ir_2 h hx1
      refine g_iconst C dX12_isText_17 (v := 0) rfl ?_
      exact g_iret C hr hlk rfl (congrArg Prod.snd (Option.some.inj h)) (congrArg (fun z => some (Value.int z.1)) (Option.some.inj h)) dX12_isText_18
  unfold f_M_isText at h
  refine g_aload_n C dX12_isText_0 0 rfl ?_
  refine g_iconst C dX12_isText_1 (v := 0) rfl ?_
  refine g_put C 292 q_292 pk_M_172 rfl rfl dX12_isText_2 ?_
  obtain ⟨d15, hd15, h⟩ := bnd_1 h
  refine g_nmD hd15 ?_
  refine g_aload_n C dX12_isText_5 0 rfl ?_
  refine g_iconst C dX12_isText_6 (v := 0) rfl ?_
  refine g_put C 292 q_292 pk_M_178 rfl rfl dX12_isText_7 ?_
  obtain ⟨d16, hd16, h⟩ := bnd_1 h
  refine g_nmD hd16 ?_
  exact R10 d16 h
set_option maxHeartbeats 4000000 in
set_option maxRecDepth 100000 in
theorem m_M_isTogether {w : wT} {l : Launch} {x1 : Int32} {d : Dt} {rE : Int32} {dE : Dt} (hO : okW w) (h : f_M_isTogether x1 d = some (rE, dE)) : gM w l yX12_isTogether cX12_isTogether 2 (Option.some Jvm.ClassFile.FieldType.boolean) 2 [.ref (w_r w 292), .int x1] d dE (some (.int rE)) := by
  refine gM_of (by decide) [(0, .ref (w_r w 292)), (1, .int x1)] rfl rfl ?_ hO
  intro p e R s m args below meth c C hR hr hlk
  have R14 : ∀ (x1 : Int32) (v1 : Int32) (d : Dt), f_M_isTogether_14 x1 v1 d = some (rE, dE) → gG w p l e R s m args below meth c 2 0 0 (gE w below args s dE (some (.int rE))) d [(0, .ref (w_r w 292)), (1, .int x1)] 14 [.int v1, .ref (w_r w 292)] := by
    intro x1 v1 d  h
    unfold f_M_isTogether_14 at h
    obtain ⟨r5, d6, hc7, h⟩ := ob2_1 h
    refine g_callVi C 292 q_292 vk_M_61 hR rfl (m_M_fails C.2.2.2.2.2.2.1 hc7) rfl rfl rfl dX12_isTogether_14 rfl rfl ?_
    refine g_if_ne C dX12_isTogether_17 (tgt := 34) rfl (fun q => ?_) (fun q => ?_)
    · replace h := it_f q h
      refine g_iconst C dX12_isTogether_34 (v := 0) rfl ?_
      exact g_iret C hr hlk rfl (congrArg Prod.snd (Option.some.inj h)) (congrArg (fun z => some (Value.int z.1)) (Option.some.inj h)) dX12_isTogether_35
    · replace h := it_t q h
      refine g_aload_n C dX12_isTogether_20 0 rfl ?_
      refine g_iload_n C dX12_isTogether_21 1 rfl ?_
      refine g_iconst C dX12_isTogether_22 (v := 2) rfl ?_
      obtain ⟨r8, hc9, h⟩ := ob1_1 h
      refine g_callVi C 292 q_292 vk_M_97 hR rfl (m_M_says C.2.2.2.2.2.2.1 hc9) rfl rfl rfl dX12_isTogether_23 rfl rfl ?_
      refine g_iconst C dX12_isTogether_26 (v := 1) rfl ?_
      refine g_icmp_ne C dX12_isTogether_27 (tgt := 34) rfl (fun q => ?_) (fun q => ?_)
      · replace h := it_f q h
        refine g_iconst C dX12_isTogether_34 (v := 0) rfl ?_
        exact g_iret C hr hlk rfl (congrArg Prod.snd (Option.some.inj h)) (congrArg (fun z => some (Value.int z.1)) (Option.some.inj h)) dX12_isTogether_35
      · replace h := it_t q h
        refine g_iconst C dX12_isTogether_30 (v := 1) rfl ?_
        refine g_goto C dX12_isTogether_31 (tgt := 35) rfl ?_
        exact g_iret C hr hlk rfl (congrArg Prod.snd (Option.some.inj h)) (congrArg (fun z => some (Value.int z.1)) (Option.some.inj h)) dX12_isTogether_35
  unfold f_M_isTogether at h
  refine g_aload_n C dX12_isTogether_0 0 rfl ?_
  refine g_aload_n C dX12_isTogether_1 0 rfl ?_
  refine g_iload_n C dX12_isTogether_2 1 rfl ?_
  obtain ⟨r10, hc11, h⟩ := ob1_1 h
  refine g_callVi C 292 q_292 vk_M_84 hR rfl (m_M_isStatement C.2.2.2.2.2.2.1 hc11) rfl rfl rfl dX12_isTogether_3 rfl rfl ?_
  refine g_if_eq C dX12_isTogether_6 (tgt := 13) rfl (fun q => ?_) (fun q => ?_)
  · replace h := it_t q h
    refine g_iconst C dX12_isTogether_13 (v := 1) rfl ?_
    exact R14 x1 1 d h
  · replace h := it_f q h
    refine g_iconst C dX12_isTogether_9 (v := 0) rfl ?_
    refine g_goto C dX12_isTogether_10 (tgt := 14) rfl ?_
    exact R14 x1 0 d h
set_option maxHeartbeats 4000000 in
set_option maxRecDepth 100000 in
theorem m_M_lanternByBrightness {w : wT} {l : Launch} {x1 : Int32} {d : Dt} {rE : Int32} {dE : Dt} (hO : okW w) (h : f_M_lanternByBrightness x1 d = some (rE, dE)) : gM w l yX12_lanternByBrightness cX12_lanternByBrightness 5 (Option.some Jvm.ClassFile.FieldType.int) 3 [.ref (w_r w 292), .int x1] d dE (some (.int rE)) := by
  refine gM_of (by decide) [(0, .ref (w_r w 292)), (1, .int x1)] rfl rfl ?_ hO
  intro p e R s m args below meth c C hR hr hlk
  have R2 : ∀ (x1 : Int32) (x2 : Int32) (d : Dt), f_M_lanternByBrightness_2 x1 x2 d = some (rE, dE) → gG w p l e R s m args below meth c 5 0 0 (gE w below args s dE (some (.int rE))) d [(0, .ref (w_r w 292)), (1, .int x1), (2, .int x2)] 2 [] := by
    intro x1 x2 d  h
    refine iter_ind (G := fun s_ : (Int32) => gG w p l e R s m args below meth c 5 0 0 (gE w below args s dE (some (.int rE))) d [(0, .ref (w_r w 292)), (1, .int x1), (2, .int s_)] 2 []) ?_ fu _ h
    clear h
    intro x2 y1 h hl1 hx1
    show gG w p l e R s m args below meth c 5 0 0 (gE w below args s dE (some (.int rE))) d [(0, .ref (w_r w 292)), (1, .int x1), (2, .int x2)] 2 []
    unfold st_M_lanternByBrightness_2 at h
    have R17 : ∀ (x2 : Int32) (x3 : Int32) (x4 : Int32), f_M_lanternByBrightness_17 x1 x2 x3 x4 d = some y1 → gG w p l e R s m args below meth c 5 0 0 (gE w below args s dE (some (.int rE))) d [(0, .ref (w_r w 292)), (1, .int x1), (2, .int x2), (3, .int x3), (4, .int x4)] 17 [] := by
      intro x2 x3 x4   h
      refine iter_ind (G := fun s_ : (Int32 × Int32) => gG w p l e R s m args below meth c 5 0 0 (gE w below args s dE (some (.int rE))) d [(0, .ref (w_r w 292)), (1, .int x1), (2, .int x2), (3, .int s_.1), (4, .int s_.2)] 17 []) ?_ fu _ h
      clear h
      intro s_ y2 h hl2 hx2
      obtain ⟨x3, x4⟩ := s_
      show gG w p l e R s m args below meth c 5 0 0 (gE w below args s dE (some (.int rE))) d [(0, .ref (w_r w 292)), (1, .int x1), (2, .int x2), (3, .int x3), (4, .int x4)] 17 []
      dsimp only at h
      unfold st_M_lanternByBrightness_17 at h
      refine g_iload C dX12_lanternByBrightness_17 4 rfl ?_
      refine g_aload_n C dX12_lanternByBrightness_19 0 rfl ?_
      refine g_get C (.ref (w_r w 293)) 292 q_292 fk_M_7 rfl dX12_lanternByBrightness_20 ?_
      refine g_iconst C dX12_lanternByBrightness_23 (v := 0) rfl ?_
      refine g_iald C 293 q_293 (by decide) 0 (by decide) dX12_lanternByBrightness_24 ?_
      refine g_icmp_ge C dX12_lanternByBrightness_25 (tgt := 58) rfl (fun q => ?_) (fun q => ?_)
      · replace h := it_t q h
        replace h := ir_2 h hx2
        refine g_iload_n C dX12_lanternByBrightness_58 3 rfl ?_
        refine g_iload_n C dX12_lanternByBrightness_59 1 rfl ?_
        refine g_icmp_eq C dX12_lanternByBrightness_60 (tgt := 66) rfl (fun q => ?_) (fun q => ?_)
        · replace h := it_t q h
          replace h := ir_2 h hx1
          refine g_aload_n C dX12_lanternByBrightness_66 0 rfl ?_
          refine g_iconst C dX12_lanternByBrightness_67 (v := 0) rfl ?_
          refine g_put C 292 q_292 pk_M_39 rfl rfl dX12_lanternByBrightness_68 ?_
          obtain ⟨d4, hd4, h⟩ := bnd_1 h
          refine g_nmD hd4 ?_
          refine g_iload_n C dX12_lanternByBrightness_71 2 rfl ?_
          exact g_iret C hr hlk rfl (congrArg Prod.snd (Option.some.inj h)) (congrArg (fun z => some (Value.int z.1)) (Option.some.inj h)) dX12_lanternByBrightness_72
        · replace h := it_f q h
          refine g_goto C dX12_lanternByBrightness_63 (tgt := 73) rfl ?_
          refine g_iinc C (lv' := [(2, .int (x2 + 1)), (0, .ref (w_r w 292)), (1, .int x1), (3, .int x3), (4, .int x4)]) (v := (x2 + 1)) dX12_lanternByBrightness_73 2 rfl rfl (by decide) rfl ?_
          refine g_goto C dX12_lanternByBrightness_76 (tgt := 2) rfl ?_
          refine g_sub [1, 2, 0] (lv' := [(0, .ref (w_r w 292)), (1, .int x1), (2, .int (x2 + 1))]) rfl ?_
          exact hl1 (x2 + 1) (Option.some.inj h).symm
      · replace h := it_f q h
        refine g_iload_n C dX12_lanternByBrightness_28 3 rfl ?_
        refine g_iload C dX12_lanternByBrightness_29 4 rfl ?_
        refine g_iload_n C dX12_lanternByBrightness_31 2 rfl ?_
        refine g_icmp_eq C dX12_lanternByBrightness_32 (tgt := 49) rfl (fun q => ?_) (fun q => ?_)
        · replace h := it_t q h
          refine g_iconst C dX12_lanternByBrightness_49 (v := 0) rfl ?_
          refine g_iadd C dX12_lanternByBrightness_50  ?_
          refine g_istore_n C (lv' := [(3, .int (x3 + 0)), (0, .ref (w_r w 292)), (1, .int x1), (2, .int x2), (4, .int x4)]) dX12_lanternByBrightness_51 (by decide) rfl ?_
          refine g_iinc C (lv' := [(4, .int (x4 + 1)), (3, .int (x3 + 0)), (0, .ref (w_r w 292)), (1, .int x1), (2, .int x2)]) (v := (x4 + 1)) dX12_lanternByBrightness_52 4 rfl rfl (by decide) rfl ?_
          refine g_goto C dX12_lanternByBrightness_55 (tgt := 17) rfl ?_
          refine g_sub [2, 3, 4, 1, 0] (lv' := [(0, .ref (w_r w 292)), (1, .int x1), (2, .int x2), (3, .int (x3 + 0)), (4, .int (x4 + 1))]) rfl ?_
          exact hl2 ((x3 + 0), (x4 + 1)) (Option.some.inj h).symm
        · replace h := it_f q h
          refine g_aload_n C dX12_lanternByBrightness_35 0 rfl ?_
          refine g_iload C dX12_lanternByBrightness_36 4 rfl ?_
          refine g_iload_n C dX12_lanternByBrightness_38 2 rfl ?_
          obtain ⟨r5, hc6, h⟩ := ob1_1 h
          refine g_callVi C 292 q_292 vk_M_163 hR rfl (m_M_isAhead C.2.2.2.2.2.2.1 hc6) rfl rfl rfl dX12_lanternByBrightness_39 rfl rfl ?_
          refine g_if_eq C dX12_lanternByBrightness_42 (tgt := 49) rfl (fun q => ?_) (fun q => ?_)
          · replace h := it_t q h
            refine g_iconst C dX12_lanternByBrightness_49 (v := 0) rfl ?_
            refine g_iadd C dX12_lanternByBrightness_50  ?_
            refine g_istore_n C (lv' := [(3, .int (x3 + 0)), (0, .ref (w_r w 292)), (1, .int x1), (2, .int x2), (4, .int x4)]) dX12_lanternByBrightness_51 (by decide) rfl ?_
            refine g_iinc C (lv' := [(4, .int (x4 + 1)), (3, .int (x3 + 0)), (0, .ref (w_r w 292)), (1, .int x1), (2, .int x2)]) (v := (x4 + 1)) dX12_lanternByBrightness_52 4 rfl rfl (by decide) rfl ?_
            refine g_goto C dX12_lanternByBrightness_55 (tgt := 17) rfl ?_
            refine g_sub [2, 3, 4, 1, 0] (lv' := [(0, .ref (w_r w 292)), (1, .int x1), (2, .int x2), (3, .int (x3 + 0)), (4, .int (x4 + 1))]) rfl ?_
            exact hl2 ((x3 + 0), (x4 + 1)) (Option.some.inj h).symm
          · replace h := it_f q h
            refine g_iconst C dX12_lanternByBrightness_45 (v := 1) rfl ?_
            refine g_goto C dX12_lanternByBrightness_46 (tgt := 50) rfl ?_
            refine g_iadd C dX12_lanternByBrightness_50  ?_
            refine g_istore_n C (lv' := [(3, .int (x3 + 1)), (0, .ref (w_r w 292)), (1, .int x1), (2, .int x2), (4, .int x4)]) dX12_lanternByBrightness_51 (by decide) rfl ?_
            refine g_iinc C (lv' := [(4, .int (x4 + 1)), (3, .int (x3 + 1)), (0, .ref (w_r w 292)), (1, .int x1), (2, .int x2)]) (v := (x4 + 1)) dX12_lanternByBrightness_52 4 rfl rfl (by decide) rfl ?_
            refine g_goto C dX12_lanternByBrightness_55 (tgt := 17) rfl ?_
            refine g_sub [2, 3, 4, 1, 0] (lv' := [(0, .ref (w_r w 292)), (1, .int x1), (2, .int x2), (3, .int (x3 + 1)), (4, .int (x4 + 1))]) rfl ?_
            exact hl2 ((x3 + 1), (x4 + 1)) (Option.some.inj h).symm
    refine g_iload_n C dX12_lanternByBrightness_2 2 rfl ?_
    refine g_aload_n C dX12_lanternByBrightness_3 0 rfl ?_
    refine g_get C (.ref (w_r w 293)) 292 q_292 fk_M_7 rfl dX12_lanternByBrightness_4 ?_
    refine g_iconst C dX12_lanternByBrightness_7 (v := 0) rfl ?_
    refine g_iald C 293 q_293 (by decide) 0 (by decide) dX12_lanternByBrightness_8 ?_
    refine g_icmp_ge C dX12_lanternByBrightness_9 (tgt := 79) rfl (fun q => ?_) (fun q => ?_)
    · replace h := it_t q h
      replace h := ir_2 h hx1
      refine g_aload_n C dX12_lanternByBrightness_79 0 rfl ?_
      refine g_iconst C dX12_lanternByBrightness_80 (v := 1) rfl ?_
      refine g_put C 292 q_292 pk_M_39 rfl rfl dX12_lanternByBrightness_81 ?_
      obtain ⟨d7, hd7, h⟩ := bnd_1 h
      refine g_nmD hd7 ?_
      refine g_iconst C dX12_lanternByBrightness_84 (v := 0) rfl ?_
      exact g_iret C hr hlk rfl (congrArg Prod.snd (Option.some.inj h)) (congrArg (fun z => some (Value.int z.1)) (Option.some.inj h)) dX12_lanternByBrightness_85
    · replace h := it_f q h
      refine g_iconst C dX12_lanternByBrightness_12 (v := 0) rfl ?_
      refine g_istore_n C (lv' := [(3, .int 0), (0, .ref (w_r w 292)), (1, .int x1), (2, .int x2)]) dX12_lanternByBrightness_13 (by decide) rfl ?_
      refine g_iconst C dX12_lanternByBrightness_14 (v := 0) rfl ?_
      refine g_istore C (lv' := [(4, .int 0), (3, .int 0), (0, .ref (w_r w 292)), (1, .int x1), (2, .int x2)]) dX12_lanternByBrightness_15 (by decide) rfl ?_
      refine g_sub [2, 3, 4, 1, 0] (lv' := [(0, .ref (w_r w 292)), (1, .int x1), (2, .int x2), (3, .int 0), (4, .int 0)]) rfl ?_
      exact R17 x2 0 0 h
  unfold f_M_lanternByBrightness at h
  refine g_iconst C dX12_lanternByBrightness_0 (v := 0) rfl ?_
  refine g_istore_n C (lv' := [(2, .int 0), (0, .ref (w_r w 292)), (1, .int x1)]) dX12_lanternByBrightness_1 (by decide) rfl ?_
  refine g_sub [1, 2, 0] (lv' := [(0, .ref (w_r w 292)), (1, .int x1), (2, .int 0)]) rfl ?_
  exact R2 x1 0 d h
set_option maxHeartbeats 4000000 in
set_option maxRecDepth 100000 in
theorem m_M_lanternCount {w : wT} {l : Launch} {d : Dt} {rE : Int32} {dE : Dt} (hO : okW w) (h : f_M_lanternCount  d = some (rE, dE)) : gM w l yX12_lanternCount cX12_lanternCount 1 (Option.some Jvm.ClassFile.FieldType.int) 0 [.ref (w_r w 292)] d dE (some (.int rE)) := by
  refine gM_of (by decide) [(0, .ref (w_r w 292))] rfl rfl ?_ hO
  intro p e R s m args below meth c C hR hr hlk
  unfold f_M_lanternCount at h
  refine g_aload_n C dX12_lanternCount_0 0 rfl ?_
  refine g_iconst C dX12_lanternCount_1 (v := 0) rfl ?_
  refine g_put C 292 q_292 pk_M_39 rfl rfl dX12_lanternCount_2 ?_
  obtain ⟨d2, hd2, h⟩ := bnd_1 h
  refine g_nmD hd2 ?_
  refine g_aload_n C dX12_lanternCount_5 0 rfl ?_
  refine g_get C (.ref (w_r w 293)) 292 q_292 fk_M_7 rfl dX12_lanternCount_6 ?_
  refine g_iconst C dX12_lanternCount_9 (v := 0) rfl ?_
  refine g_iald C 293 q_293 (by decide) 0 (by decide) dX12_lanternCount_10 ?_
  exact g_iret C hr hlk rfl (congrArg Prod.snd (Option.some.inj h)) (congrArg (fun z => some (Value.int z.1)) (Option.some.inj h)) dX12_lanternCount_11
set_option maxHeartbeats 4000000 in
set_option maxRecDepth 100000 in
theorem m_M_lanternOf {w : wT} {l : Launch} {x1 : Int32} {d : Dt} {rE : Int32} {dE : Dt} (hO : okW w) (h : f_M_lanternOf x1 d = some (rE, dE)) : gM w l yX12_lanternOf cX12_lanternOf 2 (Option.some Jvm.ClassFile.FieldType.int) 3 [.ref (w_r w 292), .int x1] d dE (some (.int rE)) := by
  refine gM_of (by decide) [(0, .ref (w_r w 292)), (1, .int x1)] rfl rfl ?_ hO
  intro p e R s m args below meth c C hR hr hlk
  unfold f_M_lanternOf at h
  refine g_aload_n C dX12_lanternOf_0 0 rfl ?_
  refine g_iload_n C dX12_lanternOf_1 1 rfl ?_
  refine g_iconst C dX12_lanternOf_2 (v := 1) rfl ?_
  obtain ⟨r3, d4, hc5, h⟩ := ob2_1 h
  refine g_callVi C 292 q_292 vk_M_140 hR rfl (m_M_ofBrief C.2.2.2.2.2.2.1 hc5) rfl rfl rfl dX12_lanternOf_3 rfl rfl ?_
  exact g_iret C hr hlk rfl (congrArg Prod.snd (Option.some.inj h)) (congrArg (fun z => some (Value.int z.1)) (Option.some.inj h)) dX12_lanternOf_6
set_option maxHeartbeats 4000000 in
set_option maxRecDepth 100000 in
theorem m_M_lapsedCount {w : wT} {l : Launch} {d : Dt} {rE : Int32} {dE : Dt} (hO : okW w) (h : f_M_lapsedCount  d = some (rE, dE)) : gM w l yX12_lapsedCount cX12_lapsedCount 1 (Option.some Jvm.ClassFile.FieldType.int) 0 [.ref (w_r w 292)] d dE (some (.int rE)) := by
  refine gM_of (by decide) [(0, .ref (w_r w 292))] rfl rfl ?_ hO
  intro p e R s m args below meth c C hR hr hlk
  unfold f_M_lapsedCount at h
  refine g_aload_n C dX12_lapsedCount_0 0 rfl ?_
  refine g_iconst C dX12_lapsedCount_1 (v := 0) rfl ?_
  refine g_put C 292 q_292 pk_M_39 rfl rfl dX12_lapsedCount_2 ?_
  obtain ⟨d2, hd2, h⟩ := bnd_1 h
  refine g_nmD hd2 ?_
  refine g_aload_n C dX12_lapsedCount_5 0 rfl ?_
  refine g_get C (.ref (w_r w 293)) 292 q_292 fk_M_7 rfl dX12_lapsedCount_6 ?_
  refine g_bipush C dX12_lapsedCount_9 (v := 11) (by decide) ?_
  refine g_iald C 293 q_293 (by decide) 11 (by decide) dX12_lapsedCount_11 ?_
  exact g_iret C hr hlk rfl (congrArg Prod.snd (Option.some.inj h)) (congrArg (fun z => some (Value.int z.1)) (Option.some.inj h)) dX12_lapsedCount_12
