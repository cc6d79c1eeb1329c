/-! 09y: the constructors of the parts -/
theorem yk_X5_init : yOK yX5_init cX5_init 1 (Option.none : Option Jvm.ClassFile.FieldType) 0 := ⟨wA 119 (by decide +kernel) (by decide +kernel), wA 71 (by decide +kernel) (by decide +kernel), by decide, by decide, by decide +kernel⟩
theorem yk_X1_init : yOK yX1_init cX1_init 1 (Option.none : Option Jvm.ClassFile.FieldType) 0 := ⟨wA 152 (by decide +kernel) (by decide +kernel), wA 72 (by decide +kernel) (by decide +kernel), by decide, by decide, by decide +kernel⟩
theorem yk_X9_init : yOK yX9_init cX9_init 1 (Option.none : Option Jvm.ClassFile.FieldType) 0 := ⟨wA 194 (by decide +kernel) (by decide +kernel), wA 73 (by decide +kernel) (by decide +kernel), by decide, by decide, by decide +kernel⟩
def mM0 : Nat → Int32 := fun j => cond (Nat.beq j 10) (-1) (cond (Nat.beq j 11) (-1) 0)
set_option maxHeartbeats 4000000 in
set_option maxRecDepth 100000 in
theorem n_X1 {w : wT} {l : Launch} : gN w l yX1_init cX1_init 1 1 5 50 (.inr (2, [.int 0, .int 0, .null, .null, .null, .null, .null])) (ShB w shpB zW) := by
  refine gN_of (by decide) rfl rfl ?_
  intro p e R s m args below meth c h C hR hr hlk hmn hA hAW
  refine k_aload_n C dX1_init_0 0 rfl ?_
  refine k_objInit C hR (wA 153 (by decide +kernel) (by decide +kernel)) (wA 107 (by decide +kernel) (by decide +kernel)) (wA 108 (by decide +kernel) (by decide +kernel)) dX1_init_1 ?_
  refine k_aload_n C dX1_init_4 0 rfl ?_
  refine k_bipush C (v := 10) dX1_init_5 (by decide) ?_
  refine k_newa C hA (atype := .int) (ty := .int) 20 0 rfl (wA 147 (by decide +kernel) (by decide +kernel)) rfl pr_int 10 (a0 := (10, .inl (fun _ => 0))) (fun _ => rfl) (by decide) (by decide) rfl hR rfl rfl dX1_init_7 (fun a1 => ?_)
  refine k_putF C hmn ck_2 0 (fs := [.int 0, .int 0, .null, .null, .null, .null, .null]) rfl 2 (by decide) (wA 159 (by decide +kernel) (by decide +kernel)) rfl rfl (fty := (.array .int)) (by decide +kernel) rfl rfl (Nat.le_of_ble_eq_true rfl) (([(h, .inr (2, [.int 0, .int 0, .ref a1, .null, .null, .null, .null]))] ++ [(a1, .inl (w_c w 20, 10, .inl (fun _ => 0)))])) rfl dX1_init_9 ?_
  refine k_aload_n C dX1_init_12 0 rfl ?_
  refine k_bipush C (v := 10) dX1_init_13 (by decide) ?_
  refine k_newa C hA (atype := .int) (ty := .int) 20 0 rfl (wA 147 (by decide +kernel) (by decide +kernel)) rfl pr_int 10 (a0 := (10, .inl (fun _ => 0))) (fun _ => rfl) (by decide) (by decide) rfl hR rfl rfl dX1_init_15 (fun a2 => ?_)
  refine k_putF C hmn ck_2 0 (fs := [.int 0, .int 0, .ref a1, .null, .null, .null, .null]) rfl 3 (by decide) (wA 161 (by decide +kernel) (by decide +kernel)) rfl rfl (fty := (.array .int)) (by decide +kernel) rfl rfl (Nat.le_of_ble_eq_true rfl) ((([(h, .inr (2, [.int 0, .int 0, .ref a1, .ref a2, .null, .null, .null]))] ++ [(a1, .inl (w_c w 20, 10, .inl (fun _ => 0)))]) ++ [(a2, .inl (w_c w 20, 10, .inl (fun _ => 0)))])) rfl dX1_init_17 ?_
  refine k_aload_n C dX1_init_20 0 rfl ?_
  refine k_bipush C (v := 10) dX1_init_21 (by decide) ?_
  refine k_newa C hA (atype := .int) (ty := .int) 20 0 rfl (wA 147 (by decide +kernel) (by decide +kernel)) rfl pr_int 10 (a0 := (10, .inl (fun _ => 0))) (fun _ => rfl) (by decide) (by decide) rfl hR rfl rfl dX1_init_23 (fun a3 => ?_)
  refine k_putF C hmn ck_2 0 (fs := [.int 0, .int 0, .ref a1, .ref a2, .null, .null, .null]) rfl 4 (by decide) (wA 164 (by decide +kernel) (by decide +kernel)) rfl rfl (fty := (.array .int)) (by decide +kernel) rfl rfl (Nat.le_of_ble_eq_true rfl) (((([(h, .inr (2, [.int 0, .int 0, .ref a1, .ref a2, .ref a3, .null, .null]))] ++ [(a1, .inl (w_c w 20, 10, .inl (fun _ => 0)))]) ++ [(a2, .inl (w_c w 20, 10, .inl (fun _ => 0)))]) ++ [(a3, .inl (w_c w 20, 10, .inl (fun _ => 0)))])) rfl dX1_init_25 ?_
  refine k_aload_n C dX1_init_28 0 rfl ?_
  refine k_bipush C (v := 10) dX1_init_29 (by decide) ?_
  refine k_newa C hA (atype := .int) (ty := .int) 20 0 rfl (wA 147 (by decide +kernel) (by decide +kernel)) rfl pr_int 10 (a0 := (10, .inl (fun _ => 0))) (fun _ => rfl) (by decide) (by decide) rfl hR rfl rfl dX1_init_31 (fun a4 => ?_)
  refine k_putF C hmn ck_2 0 (fs := [.int 0, .int 0, .ref a1, .ref a2, .ref a3, .null, .null]) rfl 5 (by decide) (wA 168 (by decide +kernel) (by decide +kernel)) rfl rfl (fty := (.array .int)) (by decide +kernel) rfl rfl (Nat.le_of_ble_eq_true rfl) ((((([(h, .inr (2, [.int 0, .int 0, .ref a1, .ref a2, .ref a3, .ref a4, .null]))] ++ [(a1, .inl (w_c w 20, 10, .inl (fun _ => 0)))]) ++ [(a2, .inl (w_c w 20, 10, .inl (fun _ => 0)))]) ++ [(a3, .inl (w_c w 20, 10, .inl (fun _ => 0)))]) ++ [(a4, .inl (w_c w 20, 10, .inl (fun _ => 0)))])) rfl dX1_init_33 ?_
  refine k_aload_n C dX1_init_36 0 rfl ?_
  refine k_bipush C (v := 10) dX1_init_37 (by decide) ?_
  refine k_newa C hA (atype := .int) (ty := .int) 20 0 rfl (wA 147 (by decide +kernel) (by decide +kernel)) rfl pr_int 10 (a0 := (10, .inl (fun _ => 0))) (fun _ => rfl) (by decide) (by decide) rfl hR rfl rfl dX1_init_39 (fun a5 => ?_)
  refine k_putF C hmn ck_2 0 (fs := [.int 0, .int 0, .ref a1, .ref a2, .ref a3, .ref a4, .null]) rfl 6 (by decide) (wA 172 (by decide +kernel) (by decide +kernel)) rfl rfl (fty := (.array .int)) (by decide +kernel) rfl rfl (Nat.le_of_ble_eq_true rfl) (((((([(h, .inr (2, [.int 0, .int 0, .ref a1, .ref a2, .ref a3, .ref a4, .ref a5]))] ++ [(a1, .inl (w_c w 20, 10, .inl (fun _ => 0)))]) ++ [(a2, .inl (w_c w 20, 10, .inl (fun _ => 0)))]) ++ [(a3, .inl (w_c w 20, 10, .inl (fun _ => 0)))]) ++ [(a4, .inl (w_c w 20, 10, .inl (fun _ => 0)))]) ++ [(a5, .inl (w_c w 20, 10, .inl (fun _ => 0)))])) rfl dX1_init_41 ?_
  refine k_vret C hr hlk rfl rfl ⟨(qL [h, a1, a2, a3, a4, a5]), rfl, ?_⟩ dX1_init_44
  rfl
set_option maxHeartbeats 4000000 in
set_option maxRecDepth 100000 in
theorem n_X9 {w : wT} {l : Launch} : gN w l yX9_init cX9_init 1 1 3 36 (.inr (9, [.int 0, .null, .null, .null])) (ShB w shpT zW) := by
  refine gN_of (by decide) rfl rfl ?_
  intro p e R s m args below meth c h C hR hr hlk hmn hA hAW
  refine k_aload_n C dX9_init_0 0 rfl ?_
  refine k_objInit C hR (wA 195 (by decide +kernel) (by decide +kernel)) (wA 107 (by decide +kernel) (by decide +kernel)) (wA 108 (by decide +kernel) (by decide +kernel)) dX9_init_1 ?_
  refine k_aload_n C dX9_init_4 0 rfl ?_
  refine k_bipush C (v := 12) dX9_init_5 (by decide) ?_
  refine k_newa C hA (atype := .int) (ty := .int) 20 0 rfl (wA 147 (by decide +kernel) (by decide +kernel)) rfl pr_int 12 (a0 := (12, .inl (fun _ => 0))) (fun _ => rfl) (by decide) (by decide) rfl hR rfl rfl dX9_init_7 (fun a1 => ?_)
  refine k_putF C hmn ck_9 0 (fs := [.int 0, .null, .null, .null]) rfl 1 (by decide) (wA 200 (by decide +kernel) (by decide +kernel)) rfl rfl (fty := (.array .int)) (by decide +kernel) rfl rfl (Nat.le_of_ble_eq_true rfl) (([(h, .inr (9, [.int 0, .ref a1, .null, .null]))] ++ [(a1, .inl (w_c w 20, 12, .inl (fun _ => 0)))])) rfl dX9_init_9 ?_
  refine k_aload_n C dX9_init_12 0 rfl ?_
  refine k_bipush C (v := 12) dX9_init_13 (by decide) ?_
  refine k_newa C hA (atype := .int) (ty := .int) 20 0 rfl (wA 147 (by decide +kernel) (by decide +kernel)) rfl pr_int 12 (a0 := (12, .inl (fun _ => 0))) (fun _ => rfl) (by decide) (by decide) rfl hR rfl rfl dX9_init_15 (fun a2 => ?_)
  refine k_putF C hmn ck_9 0 (fs := [.int 0, .ref a1, .null, .null]) rfl 2 (by decide) (wA 203 (by decide +kernel) (by decide +kernel)) rfl rfl (fty := (.array .int)) (by decide +kernel) rfl rfl (Nat.le_of_ble_eq_true rfl) ((([(h, .inr (9, [.int 0, .ref a1, .ref a2, .null]))] ++ [(a1, .inl (w_c w 20, 12, .inl (fun _ => 0)))]) ++ [(a2, .inl (w_c w 20, 12, .inl (fun _ => 0)))])) rfl dX9_init_17 ?_
  refine k_aload_n C dX9_init_20 0 rfl ?_
  refine k_bipush C (v := 12) dX9_init_21 (by decide) ?_
  refine k_newa C hA (atype := .boolean) (ty := .boolean) 22 2 rfl (wA 218 (by decide +kernel) (by decide +kernel)) rfl pr_bool 12 (a0 := (12, .inl (fun _ => 0))) (fun _ => rfl) (by decide) (by decide) rfl hR rfl rfl dX9_init_23 (fun a3 => ?_)
  refine k_putF C hmn ck_9 0 (fs := [.int 0, .ref a1, .ref a2, .null]) rfl 3 (by decide) (wA 206 (by decide +kernel) (by decide +kernel)) rfl rfl (fty := (.array .boolean)) (by decide +kernel) rfl rfl (Nat.le_of_ble_eq_true rfl) (((([(h, .inr (9, [.int 0, .ref a1, .ref a2, .ref a3]))] ++ [(a1, .inl (w_c w 20, 12, .inl (fun _ => 0)))]) ++ [(a2, .inl (w_c w 20, 12, .inl (fun _ => 0)))]) ++ [(a3, .inl (w_c w 22, 12, .inl (fun _ => 0)))])) rfl dX9_init_25 ?_
  refine k_vret C hr hlk rfl rfl ⟨(qL [h, a1, a2, a3]), rfl, ?_⟩ dX9_init_28
  rfl
set_option maxHeartbeats 4000000 in
set_option maxRecDepth 100000 in
theorem n_X7 {w : wT} {l : Launch} : gN w l yX7_init cX7_init 1 1 3 33 (.inr (7, [.int 0, .int 0, .null, .null, .null])) (ShB w shpP zW) := by
  refine gN_of (by decide) rfl rfl ?_
  intro p e R s m args below meth c h C hR hr hlk hmn hA hAW
  refine k_aload_n C dX7_init_0 0 rfl ?_
  refine k_objInit C hR (wA 262 (by decide +kernel) (by decide +kernel)) (wA 107 (by decide +kernel) (by decide +kernel)) (wA 108 (by decide +kernel) (by decide +kernel)) dX7_init_1 ?_
  refine k_aload_n C dX7_init_4 0 rfl ?_
  refine k_bipush C (v := 10) dX7_init_5 (by decide) ?_
  refine k_newa C hA (atype := .int) (ty := .int) 20 0 rfl (wA 147 (by decide +kernel) (by decide +kernel)) rfl pr_int 10 (a0 := (10, .inl (fun _ => 0))) (fun _ => rfl) (by decide) (by decide) rfl hR rfl rfl dX7_init_7 (fun a1 => ?_)
  refine k_putF C hmn ck_7 0 (fs := [.int 0, .int 0, .null, .null, .null]) rfl 2 (by decide) (wA 267 (by decide +kernel) (by decide +kernel)) rfl rfl (fty := (.array .int)) (by decide +kernel) rfl rfl (Nat.le_of_ble_eq_true rfl) (([(h, .inr (7, [.int 0, .int 0, .ref a1, .null, .null]))] ++ [(a1, .inl (w_c w 20, 10, .inl (fun _ => 0)))])) rfl dX7_init_9 ?_
  refine k_aload_n C dX7_init_12 0 rfl ?_
  refine k_bipush C (v := 10) dX7_init_13 (by decide) ?_
  refine k_newa C hA (atype := .int) (ty := .int) 20 0 rfl (wA 147 (by decide +kernel) (by decide +kernel)) rfl pr_int 10 (a0 := (10, .inl (fun _ => 0))) (fun _ => rfl) (by decide) (by decide) rfl hR rfl rfl dX7_init_15 (fun a2 => ?_)
  refine k_putF C hmn ck_7 0 (fs := [.int 0, .int 0, .ref a1, .null, .null]) rfl 3 (by decide) (wA 269 (by decide +kernel) (by decide +kernel)) rfl rfl (fty := (.array .int)) (by decide +kernel) rfl rfl (Nat.le_of_ble_eq_true rfl) ((([(h, .inr (7, [.int 0, .int 0, .ref a1, .ref a2, .null]))] ++ [(a1, .inl (w_c w 20, 10, .inl (fun _ => 0)))]) ++ [(a2, .inl (w_c w 20, 10, .inl (fun _ => 0)))])) rfl dX7_init_17 ?_
  refine k_aload_n C dX7_init_20 0 rfl ?_
  refine k_bipush C (v := 13) dX7_init_21 (by decide) ?_
  refine k_newa C hA (atype := .int) (ty := .int) 20 0 rfl (wA 147 (by decide +kernel) (by decide +kernel)) rfl pr_int 13 (a0 := (13, .inl (fun _ => 0))) (fun _ => rfl) (by decide) (by decide) rfl hR rfl rfl dX7_init_23 (fun a3 => ?_)
  refine k_putF C hmn ck_7 0 (fs := [.int 0, .int 0, .ref a1, .ref a2, .null]) rfl 4 (by decide) (wA 270 (by decide +kernel) (by decide +kernel)) rfl rfl (fty := (.array .int)) (by decide +kernel) rfl rfl (Nat.le_of_ble_eq_true rfl) (((([(h, .inr (7, [.int 0, .int 0, .ref a1, .ref a2, .ref a3]))] ++ [(a1, .inl (w_c w 20, 10, .inl (fun _ => 0)))]) ++ [(a2, .inl (w_c w 20, 10, .inl (fun _ => 0)))]) ++ [(a3, .inl (w_c w 20, 13, .inl (fun _ => 0)))])) rfl dX7_init_25 ?_
  refine k_vret C hr hlk rfl rfl ⟨(qL [h, a1, a2, a3]), rfl, ?_⟩ dX7_init_28
  rfl
set_option maxHeartbeats 4000000 in
set_option maxRecDepth 100000 in
theorem n_X2 {w : wT} {l : Launch} : gN w l yX2_init cX2_init 1 1 4 32 (.inr (3, [.int 0, .null, .null, .null, .null])) (ShB w shpG zW) := by
  refine gN_of (by decide) rfl rfl ?_
  intro p e R s m args below meth c h C hR hr hlk hmn hA hAW
  refine k_aload_n C dX2_init_0 0 rfl ?_
  refine k_objInit C hR (wA 287 (by decide +kernel) (by decide +kernel)) (wA 107 (by decide +kernel) (by decide +kernel)) (wA 108 (by decide +kernel) (by decide +kernel)) dX2_init_1 ?_
  refine k_aload_n C dX2_init_4 0 rfl ?_
  refine k_bipush C (v := 8) dX2_init_5 (by decide) ?_
  refine k_newa C hA (atype := .int) (ty := .int) 20 0 rfl (wA 147 (by decide +kernel) (by decide +kernel)) rfl pr_int 8 (a0 := (8, .inl (fun _ => 0))) (fun _ => rfl) (by decide) (by decide) rfl hR rfl rfl dX2_init_7 (fun a1 => ?_)
  refine k_putF C hmn ck_3 0 (fs := [.int 0, .null, .null, .null, .null]) rfl 1 (by decide) (wA 289 (by decide +kernel) (by decide +kernel)) rfl rfl (fty := (.array .int)) (by decide +kernel) rfl rfl (Nat.le_of_ble_eq_true rfl) (([(h, .inr (3, [.int 0, .ref a1, .null, .null, .null]))] ++ [(a1, .inl (w_c w 20, 8, .inl (fun _ => 0)))])) rfl dX2_init_9 ?_
  refine k_aload_n C dX2_init_12 0 rfl ?_
  refine k_bipush C (v := 8) dX2_init_13 (by decide) ?_
  refine k_newa C hA (atype := .int) (ty := .int) 20 0 rfl (wA 147 (by decide +kernel) (by decide +kernel)) rfl pr_int 8 (a0 := (8, .inl (fun _ => 0))) (fun _ => rfl) (by decide) (by decide) rfl hR rfl rfl dX2_init_15 (fun a2 => ?_)
  refine k_putF C hmn ck_3 0 (fs := [.int 0, .ref a1, .null, .null, .null]) rfl 2 (by decide) (wA 290 (by decide +kernel) (by decide +kernel)) rfl rfl (fty := (.array .int)) (by decide +kernel) rfl rfl (Nat.le_of_ble_eq_true rfl) ((([(h, .inr (3, [.int 0, .ref a1, .ref a2, .null, .null]))] ++ [(a1, .inl (w_c w 20, 8, .inl (fun _ => 0)))]) ++ [(a2, .inl (w_c w 20, 8, .inl (fun _ => 0)))])) rfl dX2_init_17 ?_
  refine k_aload_n C dX2_init_20 0 rfl ?_
  refine k_bipush C (v := 8) dX2_init_21 (by decide) ?_
  refine k_newa C hA (atype := .boolean) (ty := .boolean) 22 2 rfl (wA 218 (by decide +kernel) (by decide +kernel)) rfl pr_bool 8 (a0 := (8, .inl (fun _ => 0))) (fun _ => rfl) (by decide) (by decide) rfl hR rfl rfl dX2_init_23 (fun a3 => ?_)
  refine k_putF C hmn ck_3 0 (fs := [.int 0, .ref a1, .ref a2, .null, .null]) rfl 3 (by decide) (wA 291 (by decide +kernel) (by decide +kernel)) rfl rfl (fty := (.array .boolean)) (by decide +kernel) rfl rfl (Nat.le_of_ble_eq_true rfl) (((([(h, .inr (3, [.int 0, .ref a1, .ref a2, .ref a3, .null]))] ++ [(a1, .inl (w_c w 20, 8, .inl (fun _ => 0)))]) ++ [(a2, .inl (w_c w 20, 8, .inl (fun _ => 0)))]) ++ [(a3, .inl (w_c w 22, 8, .inl (fun _ => 0)))])) rfl dX2_init_25 ?_
  refine k_aload_n C dX2_init_28 0 rfl ?_
  refine k_bipush C (v := 8) dX2_init_29 (by decide) ?_
  refine k_newa C hA (atype := .int) (ty := .int) 20 0 rfl (wA 147 (by decide +kernel) (by decide +kernel)) rfl pr_int 8 (a0 := (8, .inl (fun _ => 0))) (fun _ => rfl) (by decide) (by decide) rfl hR rfl rfl dX2_init_31 (fun a4 => ?_)
  refine k_putF C hmn ck_3 0 (fs := [.int 0, .ref a1, .ref a2, .ref a3, .null]) rfl 4 (by decide) (wA 292 (by decide +kernel) (by decide +kernel)) rfl rfl (fty := (.array .int)) (by decide +kernel) rfl rfl (Nat.le_of_ble_eq_true rfl) ((((([(h, .inr (3, [.int 0, .ref a1, .ref a2, .ref a3, .ref a4]))] ++ [(a1, .inl (w_c w 20, 8, .inl (fun _ => 0)))]) ++ [(a2, .inl (w_c w 20, 8, .inl (fun _ => 0)))]) ++ [(a3, .inl (w_c w 22, 8, .inl (fun _ => 0)))]) ++ [(a4, .inl (w_c w 20, 8, .inl (fun _ => 0)))])) rfl dX2_init_33 ?_
  refine k_vret C hr hlk rfl rfl ⟨(qL [h, a1, a2, a3, a4]), rfl, ?_⟩ dX2_init_36
  rfl
set_option maxHeartbeats 4000000 in
set_option maxRecDepth 100000 in
theorem n_X10 {w : wT} {l : Launch} : gN w l yX10_init cX10_init 1 1 0 0 (.inr (10, [.int 0, .int 0])) (ShB w shpR zW) := by
  refine gN_of (by decide) rfl rfl ?_
  intro p e R s m args below meth c h C hR hr hlk hmn hA hAW
  refine k_aload_n C dX10_init_0 0 rfl ?_
  refine k_objInit C hR (wA 309 (by decide +kernel) (by decide +kernel)) (wA 107 (by decide +kernel) (by decide +kernel)) (wA 108 (by decide +kernel) (by decide +kernel)) dX10_init_1 ?_
  refine k_vret C hr hlk rfl rfl ⟨(qL [h, ]), rfl, ?_⟩ dX10_init_4
  rfl
set_option maxHeartbeats 4000000 in
set_option maxRecDepth 100000 in
theorem n_X3 {w : wT} {l : Launch} : gN w l yX3_init cX3_init 1 1 2 64 (.inr (4, [.null, .int 0, .int 0, .null, .null, .int 0, .int 0])) (ShB w shpI zW) := by
  refine gN_of (by decide) rfl rfl ?_
  intro p e R s m args below meth c h C hR hr hlk hmn hA hAW
  refine k_aload_n C dX3_init_0 0 rfl ?_
  refine k_objInit C hR (wA 322 (by decide +kernel) (by decide +kernel)) (wA 107 (by decide +kernel) (by decide +kernel)) (wA 108 (by decide +kernel) (by decide +kernel)) dX3_init_1 ?_
  refine k_aload_n C dX3_init_4 0 rfl ?_
  refine k_bipush C (v := 60) dX3_init_5 (by decide) ?_
  refine k_newa C hA (atype := .char) (ty := .char) 21 1 rfl (wA 351 (by decide +kernel) (by decide +kernel)) rfl pr_char 60 (a0 := (60, .inl (fun _ => 0))) (fun _ => rfl) (by decide) (by decide) rfl hR rfl rfl dX3_init_7 (fun a1 => ?_)
  refine k_putF C hmn ck_4 0 (fs := [.null, .int 0, .int 0, .null, .null, .int 0, .int 0]) rfl 0 (by decide) (wA 325 (by decide +kernel) (by decide +kernel)) rfl rfl (fty := (.array .char)) (by decide +kernel) rfl rfl (Nat.le_of_ble_eq_true rfl) (([(h, .inr (4, [.ref a1, .int 0, .int 0, .null, .null, .int 0, .int 0]))] ++ [(a1, .inl (w_c w 21, 60, .inl (fun _ => 0)))])) rfl dX3_init_9 ?_
  refine k_aload_n C dX3_init_12 0 rfl ?_
  refine k_gets C hAW C.2.2.2.2.2.2.2.1.2.2.2.2.1 (wA 323 (by decide +kernel) (by decide +kernel)) dX3_init_13 ?_
  refine k_put C ck_4 0 (fs := [.ref a1, .int 0, .int 0, .null, .null, .int 0, .int 0]) rfl 3 (by decide) (wA 329 (by decide +kernel) (by decide +kernel)) rfl (fty := (.object "LanternCourt$Kind")) (by decide +kernel) rfl rfl (Nat.le_of_ble_eq_true rfl) (([(h, .inr (4, [.ref a1, .int 0, .int 0, .ref (w_k w 200), .null, .int 0, .int 0]))] ++ [(a1, .inl (w_c w 21, 60, .inl (fun _ => 0)))])) rfl dX3_init_16 ?_
  refine k_aload_n C dX3_init_19 0 rfl ?_
  refine k_iconst C (v := 4) dX3_init_20 (by decide) ?_
  refine k_newa C hA (atype := .int) (ty := .int) 20 0 rfl (wA 147 (by decide +kernel) (by decide +kernel)) rfl pr_int 4 (a0 := (4, .inl (fun _ => 0))) (fun _ => rfl) (by decide) (by decide) rfl hR rfl rfl dX3_init_21 (fun a2 => ?_)
  refine k_putF C hmn ck_4 0 (fs := [.ref a1, .int 0, .int 0, .ref (w_k w 200), .null, .int 0, .int 0]) rfl 4 (by decide) (wA 331 (by decide +kernel) (by decide +kernel)) rfl rfl (fty := (.array .int)) (by decide +kernel) rfl rfl (Nat.le_of_ble_eq_true rfl) ((([(h, .inr (4, [.ref a1, .int 0, .int 0, .ref (w_k w 200), .ref a2, .int 0, .int 0]))] ++ [(a1, .inl (w_c w 21, 60, .inl (fun _ => 0)))]) ++ [(a2, .inl (w_c w 20, 4, .inl (fun _ => 0)))])) rfl dX3_init_23 ?_
  refine k_vret C hr hlk rfl rfl ⟨(qL [h, a1, a2]), rfl, ?_⟩ dX3_init_26
  rfl
set_option maxHeartbeats 4000000 in
set_option maxRecDepth 100000 in
theorem n_X6 {w : wT} {l : Launch} : gN w l yX6_init cX6_init 1 1 1 128 (.inr (6, [.null, .int 0])) (ShB w shpO zW) := by
  refine gN_of (by decide) rfl rfl ?_
  intro p e R s m args below meth c h C hR hr hlk hmn hA hAW
  refine k_aload_n C dX6_init_0 0 rfl ?_
  refine k_objInit C hR (wA 357 (by decide +kernel) (by decide +kernel)) (wA 107 (by decide +kernel) (by decide +kernel)) (wA 108 (by decide +kernel) (by decide +kernel)) dX6_init_1 ?_
  refine k_aload_n C dX6_init_4 0 rfl ?_
  refine k_sipush C (v := 128) dX6_init_5 (by decide) ?_
  refine k_newa C hA (atype := .char) (ty := .char) 21 1 rfl (wA 351 (by decide +kernel) (by decide +kernel)) rfl pr_char 128 (a0 := (128, .inl (fun _ => 0))) (fun _ => rfl) (by decide) (by decide) rfl hR rfl rfl dX6_init_8 (fun a1 => ?_)
  refine k_putF C hmn ck_6 0 (fs := [.null, .int 0]) rfl 0 (by decide) (wA 358 (by decide +kernel) (by decide +kernel)) rfl rfl (fty := (.array .char)) (by decide +kernel) rfl rfl (Nat.le_of_ble_eq_true rfl) (([(h, .inr (6, [.ref a1, .int 0]))] ++ [(a1, .inl (w_c w 21, 128, .inl (fun _ => 0)))])) rfl dX6_init_10 ?_
  refine k_vret C hr hlk rfl rfl ⟨(qL [h, a1]), rfl, ?_⟩ dX6_init_13
  rfl
set_option maxHeartbeats 4000000 in
set_option maxRecDepth 100000 in
theorem n_X12 {w : wT} {l : Launch} : gN w l yX12_init cX12_init 1 1 7 2332 (.inr (12, [.null, .null, .null, .null, .int 0, .int 0, .int 0, .int 0, .null, .int 0, .int 0, .int 0, .null, .int 0, .int 0, .null, .int 0])) (ShB w shpM mM0) := by
  refine gN_of (by decide) rfl rfl ?_
  intro p e R s m args below meth c h C hR hr hlk hmn hA hAW
  refine k_aload_n C dX12_init_0 0 rfl ?_
  refine k_objInit C hR (wA 1474 (by decide +kernel) (by decide +kernel)) (wA 107 (by decide +kernel) (by decide +kernel)) (wA 108 (by decide +kernel) (by decide +kernel)) dX12_init_1 ?_
  refine k_aload_n C dX12_init_4 0 rfl ?_
  refine k_sipush C (v := 187) dX12_init_5 (by decide) ?_
  refine k_newa C hA (atype := .int) (ty := .int) 20 0 rfl (wA 147 (by decide +kernel) (by decide +kernel)) rfl pr_int 187 (a0 := (187, .inl (fun _ => 0))) (fun _ => rfl) (by decide) (by decide) rfl hR rfl rfl dX12_init_8 (fun a1 => ?_)
  refine k_putF C hmn ck_12 0 (fs := [.null, .null, .null, .null, .int 0, .int 0, .int 0, .int 0, .null, .int 0, .int 0, .int 0, .null, .int 0, .int 0, .null, .int 0]) rfl 0 (by decide) (wA 1475 (by decide +kernel) (by decide +kernel)) rfl rfl (fty := (.array .int)) (by decide +kernel) rfl rfl (Nat.le_of_ble_eq_true rfl) (([(h, .inr (12, [.ref a1, .null, .null, .null, .int 0, .int 0, .int 0, .int 0, .null, .int 0, .int 0, .int 0, .null, .int 0, .int 0, .null, .int 0]))] ++ [(a1, .inl (w_c w 20, 187, .inl (fun _ => 0)))])) rfl dX12_init_10 ?_
  refine k_aload_n C dX12_init_13 0 rfl ?_
  refine k_sipush C (v := 1496) dX12_init_14 (by decide) ?_
  refine k_newa C hA (atype := .int) (ty := .int) 20 0 rfl (wA 147 (by decide +kernel) (by decide +kernel)) rfl pr_int 1496 (a0 := (1496, .inl (fun _ => 0))) (fun _ => rfl) (by decide) (by decide) rfl hR rfl rfl dX12_init_17 (fun a2 => ?_)
  refine k_putF C hmn ck_12 0 (fs := [.ref a1, .null, .null, .null, .int 0, .int 0, .int 0, .int 0, .null, .int 0, .int 0, .int 0, .null, .int 0, .int 0, .null, .int 0]) rfl 1 (by decide) (wA 1476 (by decide +kernel) (by decide +kernel)) rfl rfl (fty := (.array .int)) (by decide +kernel) rfl rfl (Nat.le_of_ble_eq_true rfl) ((([(h, .inr (12, [.ref a1, .ref a2, .null, .null, .int 0, .int 0, .int 0, .int 0, .null, .int 0, .int 0, .int 0, .null, .int 0, .int 0, .null, .int 0]))] ++ [(a1, .inl (w_c w 20, 187, .inl (fun _ => 0)))]) ++ [(a2, .inl (w_c w 20, 1496, .inl (fun _ => 0)))])) rfl dX12_init_19 ?_
  refine k_aload_n C dX12_init_22 0 rfl ?_
  refine k_sipush C (v := 187) dX12_init_23 (by decide) ?_
  refine k_newa C hA (atype := .int) (ty := .int) 20 0 rfl (wA 147 (by decide +kernel) (by decide +kernel)) rfl pr_int 187 (a0 := (187, .inl (fun _ => 0))) (fun _ => rfl) (by decide) (by decide) rfl hR rfl rfl dX12_init_26 (fun a3 => ?_)
  refine k_putF C hmn ck_12 0 (fs := [.ref a1, .ref a2, .null, .null, .int 0, .int 0, .int 0, .int 0, .null, .int 0, .int 0, .int 0, .null, .int 0, .int 0, .null, .int 0]) rfl 2 (by decide) (wA 1477 (by decide +kernel) (by decide +kernel)) rfl rfl (fty := (.array .int)) (by decide +kernel) rfl rfl (Nat.le_of_ble_eq_true rfl) (((([(h, .inr (12, [.ref a1, .ref a2, .ref a3, .null, .int 0, .int 0, .int 0, .int 0, .null, .int 0, .int 0, .int 0, .null, .int 0, .int 0, .null, .int 0]))] ++ [(a1, .inl (w_c w 20, 187, .inl (fun _ => 0)))]) ++ [(a2, .inl (w_c w 20, 1496, .inl (fun _ => 0)))]) ++ [(a3, .inl (w_c w 20, 187, .inl (fun _ => 0)))])) rfl dX12_init_28 ?_
  refine k_aload_n C dX12_init_31 0 rfl ?_
  refine k_sipush C (v := 187) dX12_init_32 (by decide) ?_
  refine k_newa C hA (atype := .int) (ty := .int) 20 0 rfl (wA 147 (by decide +kernel) (by decide +kernel)) rfl pr_int 187 (a0 := (187, .inl (fun _ => 0))) (fun _ => rfl) (by decide) (by decide) rfl hR rfl rfl dX12_init_35 (fun a4 => ?_)
  refine k_putF C hmn ck_12 0 (fs := [.ref a1, .ref a2, .ref a3, .null, .int 0, .int 0, .int 0, .int 0, .null, .int 0, .int 0, .int 0, .null, .int 0, .int 0, .null, .int 0]) rfl 3 (by decide) (wA 1478 (by decide +kernel) (by decide +kernel)) rfl rfl (fty := (.array .int)) (by decide +kernel) rfl rfl (Nat.le_of_ble_eq_true rfl) ((((([(h, .inr (12, [.ref a1, .ref a2, .ref a3, .ref a4, .int 0, .int 0, .int 0, .int 0, .null, .int 0, .int 0, .int 0, .null, .int 0, .int 0, .null, .int 0]))] ++ [(a1, .inl (w_c w 20, 187, .inl (fun _ => 0)))]) ++ [(a2, .inl (w_c w 20, 1496, .inl (fun _ => 0)))]) ++ [(a3, .inl (w_c w 20, 187, .inl (fun _ => 0)))]) ++ [(a4, .inl (w_c w 20, 187, .inl (fun _ => 0)))])) rfl dX12_init_37 ?_
  refine k_aload_n C dX12_init_40 0 rfl ?_
  refine k_bipush C (v := 60) dX12_init_41 (by decide) ?_
  refine k_newa C hA (atype := .int) (ty := .int) 20 0 rfl (wA 147 (by decide +kernel) (by decide +kernel)) rfl pr_int 60 (a0 := (60, .inl (fun _ => 0))) (fun _ => rfl) (by decide) (by decide) rfl hR rfl rfl dX12_init_43 (fun a5 => ?_)
  refine k_putF C hmn ck_12 0 (fs := [.ref a1, .ref a2, .ref a3, .ref a4, .int 0, .int 0, .int 0, .int 0, .null, .int 0, .int 0, .int 0, .null, .int 0, .int 0, .null, .int 0]) rfl 8 (by decide) (wA 1483 (by decide +kernel) (by decide +kernel)) rfl rfl (fty := (.array .int)) (by decide +kernel) rfl rfl (Nat.le_of_ble_eq_true rfl) (((((([(h, .inr (12, [.ref a1, .ref a2, .ref a3, .ref a4, .int 0, .int 0, .int 0, .int 0, .ref a5, .int 0, .int 0, .int 0, .null, .int 0, .int 0, .null, .int 0]))] ++ [(a1, .inl (w_c w 20, 187, .inl (fun _ => 0)))]) ++ [(a2, .inl (w_c w 20, 1496, .inl (fun _ => 0)))]) ++ [(a3, .inl (w_c w 20, 187, .inl (fun _ => 0)))]) ++ [(a4, .inl (w_c w 20, 187, .inl (fun _ => 0)))]) ++ [(a5, .inl (w_c w 20, 60, .inl (fun _ => 0)))])) rfl dX12_init_45 ?_
  refine k_aload_n C dX12_init_48 0 rfl ?_
  refine k_iconst C (v := (-1)) dX12_init_49 (by decide) ?_
  refine k_put C ck_12 0 (fs := [.ref a1, .ref a2, .ref a3, .ref a4, .int 0, .int 0, .int 0, .int 0, .ref a5, .int 0, .int 0, .int 0, .null, .int 0, .int 0, .null, .int 0]) rfl 10 (by decide) (wA 1485 (by decide +kernel) (by decide +kernel)) rfl (fty := .int) (by decide +kernel) rfl rfl (Nat.le_of_ble_eq_true rfl) (((((([(h, .inr (12, [.ref a1, .ref a2, .ref a3, .ref a4, .int 0, .int 0, .int 0, .int 0, .ref a5, .int 0, .int (-1), .int 0, .null, .int 0, .int 0, .null, .int 0]))] ++ [(a1, .inl (w_c w 20, 187, .inl (fun _ => 0)))]) ++ [(a2, .inl (w_c w 20, 1496, .inl (fun _ => 0)))]) ++ [(a3, .inl (w_c w 20, 187, .inl (fun _ => 0)))]) ++ [(a4, .inl (w_c w 20, 187, .inl (fun _ => 0)))]) ++ [(a5, .inl (w_c w 20, 60, .inl (fun _ => 0)))])) rfl dX12_init_50 ?_
  refine k_aload_n C dX12_init_53 0 rfl ?_
  refine k_iconst C (v := (-1)) dX12_init_54 (by decide) ?_
  refine k_put C ck_12 0 (fs := [.ref a1, .ref a2, .ref a3, .ref a4, .int 0, .int 0, .int 0, .int 0, .ref a5, .int 0, .int (-1), .int 0, .null, .int 0, .int 0, .null, .int 0]) rfl 11 (by decide) (wA 1486 (by decide +kernel) (by decide +kernel)) rfl (fty := .int) (by decide +kernel) rfl rfl (Nat.le_of_ble_eq_true rfl) (((((([(h, .inr (12, [.ref a1, .ref a2, .ref a3, .ref a4, .int 0, .int 0, .int 0, .int 0, .ref a5, .int 0, .int (-1), .int (-1), .null, .int 0, .int 0, .null, .int 0]))] ++ [(a1, .inl (w_c w 20, 187, .inl (fun _ => 0)))]) ++ [(a2, .inl (w_c w 20, 1496, .inl (fun _ => 0)))]) ++ [(a3, .inl (w_c w 20, 187, .inl (fun _ => 0)))]) ++ [(a4, .inl (w_c w 20, 187, .inl (fun _ => 0)))]) ++ [(a5, .inl (w_c w 20, 60, .inl (fun _ => 0)))])) rfl dX12_init_55 ?_
  refine k_aload_n C dX12_init_58 0 rfl ?_
  refine k_bipush C (v := 60) dX12_init_59 (by decide) ?_
  refine k_newa C hA (atype := .char) (ty := .char) 21 1 rfl (wA 351 (by decide +kernel) (by decide +kernel)) rfl pr_char 60 (a0 := (60, .inl (fun _ => 0))) (fun _ => rfl) (by decide) (by decide) rfl hR rfl rfl dX12_init_61 (fun a6 => ?_)
  refine k_putF C hmn ck_12 0 (fs := [.ref a1, .ref a2, .ref a3, .ref a4, .int 0, .int 0, .int 0, .int 0, .ref a5, .int 0, .int (-1), .int (-1), .null, .int 0, .int 0, .null, .int 0]) rfl 12 (by decide) (wA 1487 (by decide +kernel) (by decide +kernel)) rfl rfl (fty := (.array .char)) (by decide +kernel) rfl rfl (Nat.le_of_ble_eq_true rfl) ((((((([(h, .inr (12, [.ref a1, .ref a2, .ref a3, .ref a4, .int 0, .int 0, .int 0, .int 0, .ref a5, .int 0, .int (-1), .int (-1), .ref a6, .int 0, .int 0, .null, .int 0]))] ++ [(a1, .inl (w_c w 20, 187, .inl (fun _ => 0)))]) ++ [(a2, .inl (w_c w 20, 1496, .inl (fun _ => 0)))]) ++ [(a3, .inl (w_c w 20, 187, .inl (fun _ => 0)))]) ++ [(a4, .inl (w_c w 20, 187, .inl (fun _ => 0)))]) ++ [(a5, .inl (w_c w 20, 60, .inl (fun _ => 0)))]) ++ [(a6, .inl (w_c w 21, 60, .inl (fun _ => 0)))])) rfl dX12_init_63 ?_
  refine k_aload_n C dX12_init_66 0 rfl ?_
  refine k_sipush C (v := 155) dX12_init_67 (by decide) ?_
  refine k_newa C hA (atype := .int) (ty := .int) 20 0 rfl (wA 147 (by decide +kernel) (by decide +kernel)) rfl pr_int 155 (a0 := (155, .inl (fun _ => 0))) (fun _ => rfl) (by decide) (by decide) rfl hR rfl rfl dX12_init_70 (fun a7 => ?_)
  refine k_putF C hmn ck_12 0 (fs := [.ref a1, .ref a2, .ref a3, .ref a4, .int 0, .int 0, .int 0, .int 0, .ref a5, .int 0, .int (-1), .int (-1), .ref a6, .int 0, .int 0, .null, .int 0]) rfl 15 (by decide) (wA 1490 (by decide +kernel) (by decide +kernel)) rfl rfl (fty := (.array .int)) (by decide +kernel) rfl rfl (Nat.le_of_ble_eq_true rfl) (((((((([(h, .inr (12, [.ref a1, .ref a2, .ref a3, .ref a4, .int 0, .int 0, .int 0, .int 0, .ref a5, .int 0, .int (-1), .int (-1), .ref a6, .int 0, .int 0, .ref a7, .int 0]))] ++ [(a1, .inl (w_c w 20, 187, .inl (fun _ => 0)))]) ++ [(a2, .inl (w_c w 20, 1496, .inl (fun _ => 0)))]) ++ [(a3, .inl (w_c w 20, 187, .inl (fun _ => 0)))]) ++ [(a4, .inl (w_c w 20, 187, .inl (fun _ => 0)))]) ++ [(a5, .inl (w_c w 20, 60, .inl (fun _ => 0)))]) ++ [(a6, .inl (w_c w 21, 60, .inl (fun _ => 0)))]) ++ [(a7, .inl (w_c w 20, 155, .inl (fun _ => 0)))])) rfl dX12_init_72 ?_
  refine k_vret C hr hlk rfl rfl ⟨(qL [h, a1, a2, a3, a4, a5, a6, a7]), rfl, ?_⟩ dX12_init_75
  rfl
set_option maxHeartbeats 4000000 in
set_option maxRecDepth 100000 in
theorem n_X5 {w : wT} {l : Launch} : gN w l yX5_init cX5_init 1 1 12 96 (.inr (5, [.int 0, .null, .null, .null, .null])) (ShB w shpL zW) := by
  refine gN_of (by decide) rfl rfl ?_
  intro p e R s m args below meth c h C hR hr hlk hmn hA hAW
  refine k_aload_n C dX5_init_0 0 rfl ?_
  refine k_objInit C hR (wA 120 (by decide +kernel) (by decide +kernel)) (wA 107 (by decide +kernel) (by decide +kernel)) (wA 108 (by decide +kernel) (by decide +kernel)) dX5_init_1 ?_
  refine k_aload_n C dX5_init_4 0 rfl ?_
  refine k_bipush C (v := 8) dX5_init_5 (by decide) ?_
  refine k_newa C hA (atype := .int) (ty := .int) 20 0 rfl (wA 147 (by decide +kernel) (by decide +kernel)) rfl pr_int 8 (a0 := (8, .inl (fun _ => 0))) (fun _ => rfl) (by decide) (by decide) rfl hR rfl rfl dX5_init_7 (fun a1 => ?_)
  refine k_putF C hmn ck_5 0 (fs := [.int 0, .null, .null, .null, .null]) rfl 1 (by decide) (wA 127 (by decide +kernel) (by decide +kernel)) rfl rfl (fty := (.array .int)) (by decide +kernel) rfl rfl (Nat.le_of_ble_eq_true rfl) (([(h, .inr (5, [.int 0, .ref a1, .null, .null, .null]))] ++ [(a1, .inl (w_c w 20, 8, .inl (fun _ => 0)))])) rfl dX5_init_9 ?_
  refine k_aload_n C dX5_init_12 0 rfl ?_
  refine k_bipush C (v := 8) dX5_init_13 (by decide) ?_
  refine k_newa C hA (atype := .int) (ty := .int) 20 0 rfl (wA 147 (by decide +kernel) (by decide +kernel)) rfl pr_int 8 (a0 := (8, .inl (fun _ => 0))) (fun _ => rfl) (by decide) (by decide) rfl hR rfl rfl dX5_init_15 (fun a2 => ?_)
  refine k_putF C hmn ck_5 0 (fs := [.int 0, .ref a1, .null, .null, .null]) rfl 2 (by decide) (wA 129 (by decide +kernel) (by decide +kernel)) rfl rfl (fty := (.array .int)) (by decide +kernel) rfl rfl (Nat.le_of_ble_eq_true rfl) ((([(h, .inr (5, [.int 0, .ref a1, .ref a2, .null, .null]))] ++ [(a1, .inl (w_c w 20, 8, .inl (fun _ => 0)))]) ++ [(a2, .inl (w_c w 20, 8, .inl (fun _ => 0)))])) rfl dX5_init_17 ?_
  refine k_aload_n C dX5_init_20 0 rfl ?_
  refine k_bipush C (v := 8) dX5_init_21 (by decide) ?_
  refine k_newa C hA (atype := .int) (ty := .int) 20 0 rfl (wA 147 (by decide +kernel) (by decide +kernel)) rfl pr_int 8 (a0 := (8, .inl (fun _ => 0))) (fun _ => rfl) (by decide) (by decide) rfl hR rfl rfl dX5_init_23 (fun a3 => ?_)
  refine k_putF C hmn ck_5 0 (fs := [.int 0, .ref a1, .ref a2, .null, .null]) rfl 3 (by decide) (wA 132 (by decide +kernel) (by decide +kernel)) rfl rfl (fty := (.array .int)) (by decide +kernel) rfl rfl (Nat.le_of_ble_eq_true rfl) (((([(h, .inr (5, [.int 0, .ref a1, .ref a2, .ref a3, .null]))] ++ [(a1, .inl (w_c w 20, 8, .inl (fun _ => 0)))]) ++ [(a2, .inl (w_c w 20, 8, .inl (fun _ => 0)))]) ++ [(a3, .inl (w_c w 20, 8, .inl (fun _ => 0)))])) rfl dX5_init_25 ?_
  refine k_aload_n C dX5_init_28 0 rfl ?_
  refine k_bipush C (v := 8) dX5_init_29 (by decide) ?_
  refine k_bipush C (v := 8) dX5_init_31 (by decide) ?_
  refine k_mna C hA (wA 121 (by decide +kernel) (by decide +kernel)) (wA 147 (by decide +kernel) (by decide +kernel)) hR rfl rfl dX5_init_33 (fun a r g hg => ?_)
  refine k_putF C hmn ck_5 0 (fs := [.int 0, .ref a1, .ref a2, .ref a3, .null]) rfl 4 (by decide) (wA 134 (by decide +kernel) (by decide +kernel)) rfl rfl (fty := (.array (.array .int))) (by decide +kernel) rfl rfl (Nat.le_of_ble_eq_true rfl) (((((([(h, .inr (5, [.int 0, .ref a1, .ref a2, .ref a3, .ref a]))] ++ [(a1, .inl (w_c w 20, 8, .inl (fun _ => 0)))]) ++ [(a2, .inl (w_c w 20, 8, .inl (fun _ => 0)))]) ++ [(a3, .inl (w_c w 20, 8, .inl (fun _ => 0)))]) ++ [(a, .inl (w_c w 24, 8, .inr (.inr (.inr (.inr g)))))]) ++ (List.range 8).map (fun i => (r i, (.inl (w_c w 20, 8, .inl (fun _ => 0)) : va_E))))) rfl dX5_init_37 ?_
  refine k_alt (ws' := blk w shpL (fun o => cond (Nat.blt o 1) (h) (cond (Nat.blt o 2) (a1) (cond (Nat.blt o 3) (a2) (cond (Nat.blt o 4) (a3) (cond (Nat.blt o 5) (a) (cond (Nat.blt o 13) (r (o - 5)) (0))))))) zW) (fun i x hx => ?_) ?_
  · have hi : i < 13 := (List.getElem?_eq_some_iff.mp hx).1
    match i, hi, hx with
    | 0, _, hx => cases hx; exact ⟨_, rfl, fun _ h => h⟩
    | 1, _, hx => cases hx; exact ⟨_, rfl, fun _ h => h⟩
    | 2, _, hx => cases hx; exact ⟨_, rfl, fun _ h => h⟩
    | 3, _, hx => cases hx; exact ⟨_, rfl, fun _ h => h⟩
    | 4, _, hx =>
      cases hx
      refine ⟨_, rfl, fun H h => at_ent (fun j hj => ?_) h⟩
      have hj : j < 8 := hj
      rcases (show j = 0 ∨ j = 1 ∨ j = 2 ∨ j = 3 ∨ j = 4 ∨ j = 5 ∨ j = 6 ∨ j = 7 by omega) with rfl | rfl | rfl | rfl | rfl | rfl | rfl | rfl
      · exact hg 0 (by decide)
      · exact hg 1 (by decide)
      · exact hg 2 (by decide)
      · exact hg 3 (by decide)
      · exact hg 4 (by decide)
      · exact hg 5 (by decide)
      · exact hg 6 (by decide)
      · exact hg 7 (by decide)
    | 5, _, hx => cases hx; exact ⟨_, rfl, fun _ h => h⟩
    | 6, _, hx => cases hx; exact ⟨_, rfl, fun _ h => h⟩
    | 7, _, hx => cases hx; exact ⟨_, rfl, fun _ h => h⟩
    | 8, _, hx => cases hx; exact ⟨_, rfl, fun _ h => h⟩
    | 9, _, hx => cases hx; exact ⟨_, rfl, fun _ h => h⟩
    | 10, _, hx => cases hx; exact ⟨_, rfl, fun _ h => h⟩
    | 11, _, hx => cases hx; exact ⟨_, rfl, fun _ h => h⟩
    | 12, _, hx => cases hx; exact ⟨_, rfl, fun _ h => h⟩
  refine k_vret C hr hlk rfl rfl ⟨_, ?_, rfl⟩ dX5_init_40
  rfl
set_option maxHeartbeats 4000000 in
set_option maxRecDepth 100000 in
theorem n_X8 {w : wT} {l : Launch} : gN w l yX8_init cX8_init 1 2 24 202 (.inr (8, [.int 0, .null, .null, .null, .int 0, .int 0, .null, .int 0, .int 0])) (ShB w shSL zW) := by
  refine gN_of (by decide) rfl rfl ?_
  intro p e R s m args below meth c h C hR hr hlk hmn hA hAW
  refine k_aload_n C dX8_init_0 0 rfl ?_
  refine k_objInit C hR (wA 114 (by decide +kernel) (by decide +kernel)) (wA 107 (by decide +kernel) (by decide +kernel)) (wA 108 (by decide +kernel) (by decide +kernel)) dX8_init_1 ?_
  refine k_aload_n C dX8_init_4 0 rfl ?_
  refine k_new C hA ck_5 (wA 115 (by decide +kernel) (by decide +kernel)) (wA 116 (by decide +kernel) (by decide +kernel)) (wA 71 (by decide +kernel) (by decide +kernel)) (fs := [.int 0, .null, .null, .null, .null]) (fun j hj => by rcases (show j = 0 ∨ j = 1 ∨ j = 2 ∨ j = 3 ∨ j = 4 by omega) with rfl | rfl | rfl | rfl | rfl <;> rfl) hR rfl rfl dX8_init_5 (fun b1 => ?_)
  refine k_dup C dX8_init_8 ?_
  refine k_init (host := "LanternCourt") C hA hAW 13 101 yk_X5_init rfl (wO 117 (by decide +kernel) (by decide +kernel)) rfl (wA 118 (by decide +kernel) (by decide +kernel)) hR rfl n_X5 rfl dX8_init_9 rfl rfl rfl rfl (fun u hu => ?_)
  obtain ⟨qb1, hqb1, rfl⟩ := hu
  subst hqb1
  refine k_putF C hmn ck_8 0 (fs := [.int 0, .null, .null, .null, .int 0, .int 0, .null, .int 0, .int 0]) rfl 1 (by decide) (wA 221 (by decide +kernel) (by decide +kernel)) rfl rfl (fty := (.object "LanternCourt$Lanterns")) (by decide +kernel) rfl rfl (Nat.le_of_ble_eq_true rfl) (([(h, .inr (8, [.int 0, .ref (qb1 0), .null, .null, .int 0, .int 0, .null, .int 0, .int 0]))] ++ blk w shpL qb1 zW)) rfl dX8_init_12 ?_
  refine k_aload_n C dX8_init_15 0 rfl ?_
  refine k_new C hA ck_2 (wA 148 (by decide +kernel) (by decide +kernel)) (wA 149 (by decide +kernel) (by decide +kernel)) (wA 72 (by decide +kernel) (by decide +kernel)) (fs := [.int 0, .int 0, .null, .null, .null, .null, .null]) (fun j hj => by rcases (show j = 0 ∨ j = 1 ∨ j = 2 ∨ j = 3 ∨ j = 4 ∨ j = 5 ∨ j = 6 by omega) with rfl | rfl | rfl | rfl | rfl | rfl | rfl <;> rfl) hR rfl rfl dX8_init_16 (fun b2 => ?_)
  refine k_dup C dX8_init_19 ?_
  refine k_init (host := "LanternCourt") C hA hAW 19 158 yk_X1_init rfl (wO 150 (by decide +kernel) (by decide +kernel)) rfl (wA 151 (by decide +kernel) (by decide +kernel)) hR rfl n_X1 rfl dX8_init_20 rfl rfl rfl rfl (fun u hu => ?_)
  obtain ⟨qb2, hqb2, rfl⟩ := hu
  subst hqb2
  refine k_putF C hmn ck_8 0 (fs := [.int 0, .ref (qb1 0), .null, .null, .int 0, .int 0, .null, .int 0, .int 0]) rfl 2 (by decide) (wA 223 (by decide +kernel) (by decide +kernel)) rfl rfl (fty := (.object "LanternCourt$Briefs")) (by decide +kernel) rfl rfl (Nat.le_of_ble_eq_true rfl) ((([(h, .inr (8, [.int 0, .ref (qb1 0), .ref (qb2 0), .null, .int 0, .int 0, .null, .int 0, .int 0]))] ++ blk w shpL qb1 zW) ++ blk w shpB qb2 zW)) rfl dX8_init_23 ?_
  refine k_aload_n C dX8_init_26 0 rfl ?_
  refine k_new C hA ck_9 (wA 190 (by decide +kernel) (by decide +kernel)) (wA 191 (by decide +kernel) (by decide +kernel)) (wA 73 (by decide +kernel) (by decide +kernel)) (fs := [.int 0, .null, .null, .null]) (fun j hj => by rcases (show j = 0 ∨ j = 1 ∨ j = 2 ∨ j = 3 by omega) with rfl | rfl | rfl | rfl <;> rfl) hR rfl rfl dX8_init_27 (fun b3 => ?_)
  refine k_dup C dX8_init_30 ?_
  refine k_init (host := "LanternCourt") C hA hAW 23 198 yk_X9_init rfl (wO 192 (by decide +kernel) (by decide +kernel)) rfl (wA 193 (by decide +kernel) (by decide +kernel)) hR rfl n_X9 rfl dX8_init_31 rfl rfl rfl rfl (fun u hu => ?_)
  obtain ⟨qb3, hqb3, rfl⟩ := hu
  subst hqb3
  refine k_putF C hmn ck_8 0 (fs := [.int 0, .ref (qb1 0), .ref (qb2 0), .null, .int 0, .int 0, .null, .int 0, .int 0]) rfl 3 (by decide) (wA 225 (by decide +kernel) (by decide +kernel)) rfl rfl (fty := (.object "LanternCourt$Statements")) (by decide +kernel) rfl rfl (Nat.le_of_ble_eq_true rfl) (((([(h, .inr (8, [.int 0, .ref (qb1 0), .ref (qb2 0), .ref (qb3 0), .int 0, .int 0, .null, .int 0, .int 0]))] ++ blk w shpL qb1 zW) ++ blk w shpB qb2 zW) ++ blk w shpT qb3 zW)) rfl dX8_init_34 ?_
  refine k_aload_n C dX8_init_37 0 rfl ?_
  refine k_iconst C (v := 4) dX8_init_38 (by decide) ?_
  refine k_newa C hA (atype := .int) (ty := .int) 20 0 rfl (wA 147 (by decide +kernel) (by decide +kernel)) rfl pr_int 4 (a0 := (4, .inl (fun _ => 0))) (fun _ => rfl) (by decide) (by decide) rfl hR rfl rfl dX8_init_39 (fun a4 => ?_)
  refine k_putF C hmn ck_8 0 (fs := [.int 0, .ref (qb1 0), .ref (qb2 0), .ref (qb3 0), .int 0, .int 0, .null, .int 0, .int 0]) rfl 6 (by decide) (wA 231 (by decide +kernel) (by decide +kernel)) rfl rfl (fty := (.array .int)) (by decide +kernel) rfl rfl (Nat.le_of_ble_eq_true rfl) ((((([(h, .inr (8, [.int 0, .ref (qb1 0), .ref (qb2 0), .ref (qb3 0), .int 0, .int 0, .ref a4, .int 0, .int 0]))] ++ blk w shpL qb1 zW) ++ blk w shpB qb2 zW) ++ blk w shpT qb3 zW) ++ [(a4, .inl (w_c w 20, 4, .inl (fun _ => 0)))])) rfl dX8_init_41 ?_
  refine k_alt (ws' := blk w shSL (fun o => cond (Nat.blt o 1) (h) (cond (Nat.blt o 14) (qb1 (o - 1)) (cond (Nat.blt o 20) (qb2 (o - 14)) (cond (Nat.blt o 24) (qb3 (o - 20)) (cond (Nat.blt o 25) (a4) (0)))))) zW) (fun i x hx => ?_) ?_
  · have hi : i < 25 := (List.getElem?_eq_some_iff.mp hx).1
    match i, hi, hx with
    | 0, _, hx => cases hx; exact ⟨_, rfl, fun _ h => h⟩
    | 1, _, hx => cases hx; exact ⟨_, rfl, fun _ h => h⟩
    | 2, _, hx => cases hx; exact ⟨_, rfl, fun _ h => h⟩
    | 3, _, hx => cases hx; exact ⟨_, rfl, fun _ h => h⟩
    | 4, _, hx => cases hx; exact ⟨_, rfl, fun _ h => h⟩
    | 5, _, hx =>
      cases hx
      refine ⟨_, rfl, fun H h => at_ent (fun j hj => ?_) h⟩
      have hj : j < 8 := hj
      rcases (show j = 0 ∨ j = 1 ∨ j = 2 ∨ j = 3 ∨ j = 4 ∨ j = 5 ∨ j = 6 ∨ j = 7 by omega) with rfl | rfl | rfl | rfl | rfl | rfl | rfl | rfl
      · rfl
      · rfl
      · rfl
      · rfl
      · rfl
      · rfl
      · rfl
      · rfl
    | 6, _, hx => cases hx; exact ⟨_, rfl, fun _ h => h⟩
    | 7, _, hx => cases hx; exact ⟨_, rfl, fun _ h => h⟩
    | 8, _, hx => cases hx; exact ⟨_, rfl, fun _ h => h⟩
    | 9, _, hx => cases hx; exact ⟨_, rfl, fun _ h => h⟩
    | 10, _, hx => cases hx; exact ⟨_, rfl, fun _ h => h⟩
    | 11, _, hx => cases hx; exact ⟨_, rfl, fun _ h => h⟩
    | 12, _, hx => cases hx; exact ⟨_, rfl, fun _ h => h⟩
    | 13, _, hx => cases hx; exact ⟨_, rfl, fun _ h => h⟩
    | 14, _, hx => cases hx; exact ⟨_, rfl, fun _ h => h⟩
    | 15, _, hx => cases hx; exact ⟨_, rfl, fun _ h => h⟩
    | 16, _, hx => cases hx; exact ⟨_, rfl, fun _ h => h⟩
    | 17, _, hx => cases hx; exact ⟨_, rfl, fun _ h => h⟩
    | 18, _, hx => cases hx; exact ⟨_, rfl, fun _ h => h⟩
    | 19, _, hx => cases hx; exact ⟨_, rfl, fun _ h => h⟩
    | 20, _, hx => cases hx; exact ⟨_, rfl, fun _ h => h⟩
    | 21, _, hx => cases hx; exact ⟨_, rfl, fun _ h => h⟩
    | 22, _, hx => cases hx; exact ⟨_, rfl, fun _ h => h⟩
    | 23, _, hx => cases hx; exact ⟨_, rfl, fun _ h => h⟩
    | 24, _, hx => cases hx; exact ⟨_, rfl, fun _ h => h⟩
  refine k_vret C hr hlk rfl rfl ⟨_, ?_, rfl⟩ dX8_init_44
  rfl
