/-! 07: what the tables say of the cells, fields and methods -/
theorem pk_M_29 : pOK RX12 29 12 11 .int := ⟨_, _, _, _, ck_12, by decide, wA 1486 (by decide +kernel) (by decide +kernel), rfl, by decide +kernel, fun _ _ _ _ => rfl, fun _ _ _ => Nat.le_of_ble_eq_true rfl⟩
theorem pk_M_25 : pOK RX12 25 12 10 .int := ⟨_, _, _, _, ck_12, by decide, wA 1485 (by decide +kernel) (by decide +kernel), rfl, by decide +kernel, fun _ _ _ _ => rfl, fun _ _ _ => Nat.le_of_ble_eq_true rfl⟩
theorem yk_X12_carries : yOK yX12_carries cX12_carries 4 (Option.some Jvm.ClassFile.FieldType.int) 1 := ⟨wA 1908 (by decide +kernel) (by decide +kernel), wA 81 (by decide +kernel) (by decide +kernel), by decide, by decide, by decide +kernel⟩
theorem vk_M_249 : vOK RX12 249 12 yX12_carries cX12_carries 4 (Option.some Jvm.ClassFile.FieldType.int) 1 := ⟨yk_X12_carries, by decide, wA 1905 (by decide +kernel) (by decide +kernel), wA 1907 (by decide +kernel) (by decide +kernel), wA 65 (by decide +kernel) (by decide +kernel), _, _, _, ck_12⟩
theorem yk_X12_isText : yOK yX12_isText cX12_isText 1 (Option.some Jvm.ClassFile.FieldType.boolean) 0 := ⟨wA 1867 (by decide +kernel) (by decide +kernel), wA 81 (by decide +kernel) (by decide +kernel), by decide, by decide, by decide +kernel⟩
theorem vk_M_246 : vOK RX12 246 12 yX12_isText cX12_isText 1 (Option.some Jvm.ClassFile.FieldType.boolean) 0 := ⟨yk_X12_isText, by decide, wA 1864 (by decide +kernel) (by decide +kernel), wA 1866 (by decide +kernel) (by decide +kernel), wA 57 (by decide +kernel) (by decide +kernel), _, _, _, ck_12⟩
theorem pk_M_264 : pOK RX12 264 12 4 .boolean := ⟨_, _, _, _, ck_12, by decide, wA 1479 (by decide +kernel) (by decide +kernel), rfl, by decide +kernel, fun _ _ _ _ => rfl, fun _ _ _ => Nat.le_of_ble_eq_true rfl⟩
theorem yk_X12_verdictOf : yOK yX12_verdictOf cX12_verdictOf 2 (Option.some Jvm.ClassFile.FieldType.char) 1 := ⟨wA 1784 (by decide +kernel) (by decide +kernel), wA 81 (by decide +kernel) (by decide +kernel), by decide, by decide, by decide +kernel⟩
theorem vk_M_154 : vOK RX12 154 12 yX12_verdictOf cX12_verdictOf 2 (Option.some Jvm.ClassFile.FieldType.char) 1 := ⟨yk_X12_verdictOf, by decide, wA 1781 (by decide +kernel) (by decide +kernel), wA 1783 (by decide +kernel) (by decide +kernel), wA 53 (by decide +kernel) (by decide +kernel), _, _, _, ck_12⟩
theorem pk_M_252 : pOK RX12 252 12 13 .int := ⟨_, _, _, _, ck_12, by decide, wA 1488 (by decide +kernel) (by decide +kernel), rfl, by decide +kernel, fun _ _ _ _ => rfl, fun _ _ _ => Nat.le_of_ble_eq_true rfl⟩
theorem yk_X12_writes : yOK yX12_writes cX12_writes 2 (Option.none : Option Jvm.ClassFile.FieldType) 1 := ⟨wA 1936 (by decide +kernel) (by decide +kernel), wA 81 (by decide +kernel) (by decide +kernel), by decide, by decide, by decide +kernel⟩
theorem vk_M_258 : vOK RX12 258 12 yX12_writes cX12_writes 2 (Option.none : Option Jvm.ClassFile.FieldType) 1 := ⟨yk_X12_writes, by decide, wA 1933 (by decide +kernel) (by decide +kernel), wA 1935 (by decide +kernel) (by decide +kernel), wA 67 (by decide +kernel) (by decide +kernel), _, _, _, ck_12⟩
theorem yk_X12_writesNumber : yOK yX12_writesNumber cX12_writesNumber 2 (Option.none : Option Jvm.ClassFile.FieldType) 1 := ⟨wA 1932 (by decide +kernel) (by decide +kernel), wA 81 (by decide +kernel) (by decide +kernel), by decide, by decide, by decide +kernel⟩
theorem vk_M_255 : vOK RX12 255 12 yX12_writesNumber cX12_writesNumber 2 (Option.none : Option Jvm.ClassFile.FieldType) 1 := ⟨yk_X12_writesNumber, by decide, wA 1929 (by decide +kernel) (by decide +kernel), wA 1931 (by decide +kernel) (by decide +kernel), wA 66 (by decide +kernel) (by decide +kernel), _, _, _, ck_12⟩
theorem yk_X12_bits : yOK yX12_bits cX12_bits 3 (Option.some Jvm.ClassFile.FieldType.int) 1 := ⟨wA 1943 (by decide +kernel) (by decide +kernel), wA 81 (by decide +kernel) (by decide +kernel), by decide, by decide, by decide +kernel⟩
theorem sk_M_261 : sOK RX12 261 yX12_bits cX12_bits 3 (Option.some Jvm.ClassFile.FieldType.int) 1 := ⟨yk_X12_bits, by decide, wA 1941 (by decide +kernel) (by decide +kernel), wA 1942 (by decide +kernel) (by decide +kernel)⟩
theorem fk_C_10 : fOK RX11 10 11 0 := ⟨_, _, _, _, ck_11, by decide, wA 367 (by decide +kernel) (by decide +kernel)⟩
theorem fk_C_68 : fOK RX11 68 8 1 := ⟨_, _, _, _, ck_8, by decide, wA 222 (by decide +kernel) (by decide +kernel)⟩
theorem fk_L_26 : fOK RX5 26 5 0 := ⟨_, _, _, _, ck_5, by decide, wA 123 (by decide +kernel) (by decide +kernel)⟩
theorem fk_C_22 : fOK RX11 22 11 3 := ⟨_, _, _, _, ck_11, by decide, wA 370 (by decide +kernel) (by decide +kernel)⟩
theorem pk_C_419 : pOK RX11 419 11 9 .int := ⟨_, _, _, _, ck_11, by decide, wA 376 (by decide +kernel) (by decide +kernel), rfl, by decide +kernel, fun _ _ _ _ => rfl, fun _ _ _ => Nat.le_of_ble_eq_true rfl⟩
theorem fk_C_414 : fOK RX11 414 11 10 := ⟨_, _, _, _, ck_11, by decide, wA 377 (by decide +kernel) (by decide +kernel)⟩
theorem pk_C_414 : pOK RX11 414 11 10 .int := ⟨_, _, _, _, ck_11, by decide, wA 377 (by decide +kernel) (by decide +kernel), rfl, by decide +kernel, fun _ _ _ _ => rfl, fun _ _ _ => Nat.le_of_ble_eq_true rfl⟩
theorem fk_C_419 : fOK RX11 419 11 9 := ⟨_, _, _, _, ck_11, by decide, wA 376 (by decide +kernel) (by decide +kernel)⟩
theorem fk_S_12 : fOK RX8 12 8 1 := ⟨_, _, _, _, ck_8, by decide, wA 221 (by decide +kernel) (by decide +kernel)⟩
theorem fk_S_21 : fOK RX8 21 8 2 := ⟨_, _, _, _, ck_8, by decide, wA 223 (by decide +kernel) (by decide +kernel)⟩
theorem fk_S_28 : fOK RX8 28 8 3 := ⟨_, _, _, _, ck_8, by decide, wA 225 (by decide +kernel) (by decide +kernel)⟩
theorem fk_S_32 : fOK RX8 32 8 6 := ⟨_, _, _, _, ck_8, by decide, wA 231 (by decide +kernel) (by decide +kernel)⟩
theorem fk_S_36 : fOK RX8 36 8 0 := ⟨_, _, _, _, ck_8, by decide, wA 219 (by decide +kernel) (by decide +kernel)⟩
theorem pk_S_36 : pOK RX8 36 8 0 .int := ⟨_, _, _, _, ck_8, by decide, wA 219 (by decide +kernel) (by decide +kernel), rfl, by decide +kernel, fun _ _ _ _ => rfl, fun _ _ _ => Nat.le_of_ble_eq_true rfl⟩
theorem fk_L_9 : fOK RX5 9 5 1 := ⟨_, _, _, _, ck_5, by decide, wA 127 (by decide +kernel) (by decide +kernel)⟩
theorem fk_L_15 : fOK RX5 15 5 2 := ⟨_, _, _, _, ck_5, by decide, wA 129 (by decide +kernel) (by decide +kernel)⟩
theorem fk_L_18 : fOK RX5 18 5 3 := ⟨_, _, _, _, ck_5, by decide, wA 132 (by decide +kernel) (by decide +kernel)⟩
theorem fk_L_23 : fOK RX5 23 5 4 := ⟨_, _, _, _, ck_5, by decide, wA 134 (by decide +kernel) (by decide +kernel)⟩
theorem pk_L_26 : pOK RX5 26 5 0 .int := ⟨_, _, _, _, ck_5, by decide, wA 123 (by decide +kernel) (by decide +kernel), rfl, by decide +kernel, fun _ _ _ _ => rfl, fun _ _ _ => Nat.le_of_ble_eq_true rfl⟩
theorem ac_L_30 : Cond.methodLink RX5 30 arraycopyName ∈ wAll := wA 627 (by decide +kernel) (by decide +kernel)
theorem ac_nat : Cond.native arraycopyName ∈ wAll := wA 629 (by decide +kernel) (by decide +kernel)
theorem ac_sta : Cond.static arraycopyName ∈ wAll := wA 628 (by decide +kernel) (by decide +kernel)
theorem ac_ini : Cond.initialized "java/lang/System" ∈ wAll := wA 86 (by decide +kernel) (by decide +kernel)
theorem fk_B_9 : fOK RX1 9 2 2 := ⟨_, _, _, _, ck_2, by decide, wA 159 (by decide +kernel) (by decide +kernel)⟩
theorem fk_B_15 : fOK RX1 15 2 3 := ⟨_, _, _, _, ck_2, by decide, wA 161 (by decide +kernel) (by decide +kernel)⟩
theorem fk_B_18 : fOK RX1 18 2 4 := ⟨_, _, _, _, ck_2, by decide, wA 164 (by decide +kernel) (by decide +kernel)⟩
theorem fk_B_21 : fOK RX1 21 2 5 := ⟨_, _, _, _, ck_2, by decide, wA 168 (by decide +kernel) (by decide +kernel)⟩
theorem fk_B_24 : fOK RX1 24 2 6 := ⟨_, _, _, _, ck_2, by decide, wA 172 (by decide +kernel) (by decide +kernel)⟩
theorem fk_B_27 : fOK RX1 27 2 0 := ⟨_, _, _, _, ck_2, by decide, wA 154 (by decide +kernel) (by decide +kernel)⟩
theorem pk_B_27 : pOK RX1 27 2 0 .int := ⟨_, _, _, _, ck_2, by decide, wA 154 (by decide +kernel) (by decide +kernel), rfl, by decide +kernel, fun _ _ _ _ => rfl, fun _ _ _ => Nat.le_of_ble_eq_true rfl⟩
theorem fk_B_31 : fOK RX1 31 2 1 := ⟨_, _, _, _, ck_2, by decide, wA 158 (by decide +kernel) (by decide +kernel)⟩
theorem pk_B_31 : pOK RX1 31 2 1 .int := ⟨_, _, _, _, ck_2, by decide, wA 158 (by decide +kernel) (by decide +kernel), rfl, by decide +kernel, fun _ _ _ _ => rfl, fun _ _ _ => Nat.le_of_ble_eq_true rfl⟩
theorem ac_B_34 : Cond.methodLink RX1 34 arraycopyName ∈ wAll := wA 634 (by decide +kernel) (by decide +kernel)
theorem fk_T_9 : fOK RX9 9 9 1 := ⟨_, _, _, _, ck_9, by decide, wA 200 (by decide +kernel) (by decide +kernel)⟩
theorem fk_T_15 : fOK RX9 15 9 2 := ⟨_, _, _, _, ck_9, by decide, wA 203 (by decide +kernel) (by decide +kernel)⟩
theorem fk_T_18 : fOK RX9 18 9 3 := ⟨_, _, _, _, ck_9, by decide, wA 206 (by decide +kernel) (by decide +kernel)⟩
theorem fk_T_22 : fOK RX9 22 9 0 := ⟨_, _, _, _, ck_9, by decide, wA 196 (by decide +kernel) (by decide +kernel)⟩
theorem pk_T_22 : pOK RX9 22 9 0 .int := ⟨_, _, _, _, ck_9, by decide, wA 196 (by decide +kernel) (by decide +kernel), rfl, by decide +kernel, fun _ _ _ _ => rfl, fun _ _ _ => Nat.le_of_ble_eq_true rfl⟩
theorem ac_T_26 : Cond.methodLink RX9 26 arraycopyName ∈ wAll := wA 639 (by decide +kernel) (by decide +kernel)
theorem fk_S_50 : fOK RX8 50 8 4 := ⟨_, _, _, _, ck_8, by decide, wA 227 (by decide +kernel) (by decide +kernel)⟩
theorem pk_S_50 : pOK RX8 50 8 4 .int := ⟨_, _, _, _, ck_8, by decide, wA 227 (by decide +kernel) (by decide +kernel), rfl, by decide +kernel, fun _ _ _ _ => rfl, fun _ _ _ => Nat.le_of_ble_eq_true rfl⟩
theorem fk_S_53 : fOK RX8 53 8 5 := ⟨_, _, _, _, ck_8, by decide, wA 229 (by decide +kernel) (by decide +kernel)⟩
theorem pk_S_53 : pOK RX8 53 8 5 .int := ⟨_, _, _, _, ck_8, by decide, wA 229 (by decide +kernel) (by decide +kernel), rfl, by decide +kernel, fun _ _ _ _ => rfl, fun _ _ _ => Nat.le_of_ble_eq_true rfl⟩
theorem fk_S_62 : fOK RX8 62 8 7 := ⟨_, _, _, _, ck_8, by decide, wA 233 (by decide +kernel) (by decide +kernel)⟩
theorem pk_S_62 : pOK RX8 62 8 7 .int := ⟨_, _, _, _, ck_8, by decide, wA 233 (by decide +kernel) (by decide +kernel), rfl, by decide +kernel, fun _ _ _ _ => rfl, fun _ _ _ => Nat.le_of_ble_eq_true rfl⟩
theorem fk_S_65 : fOK RX8 65 8 8 := ⟨_, _, _, _, ck_8, by decide, wA 235 (by decide +kernel) (by decide +kernel)⟩
theorem pk_S_65 : pOK RX8 65 8 8 .int := ⟨_, _, _, _, ck_8, by decide, wA 235 (by decide +kernel) (by decide +kernel), rfl, by decide +kernel, fun _ _ _ _ => rfl, fun _ _ _ => Nat.le_of_ble_eq_true rfl⟩
theorem yk_X5_copyFrom : yOK yX5_copyFrom cX5_copyFrom 3 (Option.none : Option Jvm.ClassFile.FieldType) 1 := ⟨wA 626 (by decide +kernel) (by decide +kernel), wA 71 (by decide +kernel) (by decide +kernel), by decide, by decide, by decide +kernel⟩
theorem vk_S_40 : vOK RX8 40 5 yX5_copyFrom cX5_copyFrom 3 (Option.none : Option Jvm.ClassFile.FieldType) 1 := ⟨yk_X5_copyFrom, by decide, wA 623 (by decide +kernel) (by decide +kernel), wA 624 (by decide +kernel) (by decide +kernel), wA 625 (by decide +kernel) (by decide +kernel), _, _, _, ck_5⟩
theorem yk_X1_copyFrom : yOK yX1_copyFrom cX1_copyFrom 2 (Option.none : Option Jvm.ClassFile.FieldType) 1 := ⟨wA 633 (by decide +kernel) (by decide +kernel), wA 72 (by decide +kernel) (by decide +kernel), by decide, by decide, by decide +kernel⟩
theorem vk_S_44 : vOK RX8 44 2 yX1_copyFrom cX1_copyFrom 2 (Option.none : Option Jvm.ClassFile.FieldType) 1 := ⟨yk_X1_copyFrom, by decide, wA 630 (by decide +kernel) (by decide +kernel), wA 631 (by decide +kernel) (by decide +kernel), wA 632 (by decide +kernel) (by decide +kernel), _, _, _, ck_2⟩
theorem yk_X9_copyFrom : yOK yX9_copyFrom cX9_copyFrom 3 (Option.none : Option Jvm.ClassFile.FieldType) 1 := ⟨wA 638 (by decide +kernel) (by decide +kernel), wA 73 (by decide +kernel) (by decide +kernel), by decide, by decide, by decide +kernel⟩
theorem vk_S_47 : vOK RX8 47 9 yX9_copyFrom cX9_copyFrom 3 (Option.none : Option Jvm.ClassFile.FieldType) 1 := ⟨yk_X9_copyFrom, by decide, wA 635 (by decide +kernel) (by decide +kernel), wA 636 (by decide +kernel) (by decide +kernel), wA 637 (by decide +kernel) (by decide +kernel), _, _, _, ck_9⟩
theorem ac_S_56 : Cond.methodLink RX8 56 arraycopyName ∈ wAll := wA 640 (by decide +kernel) (by decide +kernel)
theorem mm_C_443 : Cond.methodLink RX11 443 Lib.Math.min.name ∈ wAll := wA 729 (by decide +kernel) (by decide +kernel)
theorem yk_X8_copyFrom : yOK yX8_copyFrom cX8_copyFrom 2 (Option.none : Option Jvm.ClassFile.FieldType) 1 := ⟨wA 622 (by decide +kernel) (by decide +kernel), wA 70 (by decide +kernel) (by decide +kernel), by decide, by decide, by decide +kernel⟩
theorem vk_C_377 : vOK RX11 377 8 yX8_copyFrom cX8_copyFrom 2 (Option.none : Option Jvm.ClassFile.FieldType) 1 := ⟨yk_X8_copyFrom, by decide, wA 619 (by decide +kernel) (by decide +kernel), wA 620 (by decide +kernel) (by decide +kernel), wA 621 (by decide +kernel) (by decide +kernel), _, _, _, ck_8⟩
theorem yk_X5_isFull : yOK yX5_isFull cX5_isFull 1 (Option.some Jvm.ClassFile.FieldType.boolean) 0 := ⟨wA 652 (by decide +kernel) (by decide +kernel), wA 71 (by decide +kernel) (by decide +kernel), by decide, by decide, by decide +kernel⟩
theorem vk_C_72 : vOK RX11 72 5 yX5_isFull cX5_isFull 1 (Option.some Jvm.ClassFile.FieldType.boolean) 0 := ⟨yk_X5_isFull, by decide, wA 649 (by decide +kernel) (by decide +kernel), wA 650 (by decide +kernel) (by decide +kernel), wA 651 (by decide +kernel) (by decide +kernel), _, _, _, ck_5⟩
theorem yk_X11_remember : yOK yX11_remember cX11_remember 2 (Option.none : Option Jvm.ClassFile.FieldType) 1 := ⟨wA 728 (by decide +kernel) (by decide +kernel), wA 69 (by decide +kernel) (by decide +kernel), by decide, by decide, by decide +kernel⟩
theorem vk_C_85 : vOK RX11 85 11 yX11_remember cX11_remember 2 (Option.none : Option Jvm.ClassFile.FieldType) 1 := ⟨yk_X11_remember, by decide, wA 725 (by decide +kernel) (by decide +kernel), wA 727 (by decide +kernel) (by decide +kernel), wA 10 (by decide +kernel) (by decide +kernel), _, _, _, ck_11⟩
theorem yk_X5_add : yOK yX5_add cX5_add 1 (Option.some Jvm.ClassFile.FieldType.int) 0 := ⟨wA 733 (by decide +kernel) (by decide +kernel), wA 71 (by decide +kernel) (by decide +kernel), by decide, by decide, by decide +kernel⟩
theorem vk_C_89 : vOK RX11 89 5 yX5_add cX5_add 1 (Option.some Jvm.ClassFile.FieldType.int) 0 := ⟨yk_X5_add, by decide, wA 730 (by decide +kernel) (by decide +kernel), wA 731 (by decide +kernel) (by decide +kernel), wA 732 (by decide +kernel) (by decide +kernel), _, _, _, ck_5⟩
theorem th_C_78_82 : thOK RX11 78 82 0 := ⟨by decide +kernel, wA 653 (by decide +kernel) (by decide +kernel), wA 85 (by decide +kernel) (by decide +kernel), by decide +kernel⟩
theorem yk_X5_has : yOK yX5_has cX5_has 2 (Option.some Jvm.ClassFile.FieldType.boolean) 1 := ⟨wA 773 (by decide +kernel) (by decide +kernel), wA 71 (by decide +kernel) (by decide +kernel), by decide, by decide, by decide +kernel⟩
theorem vk_C_199 : vOK RX11 199 5 yX5_has cX5_has 2 (Option.some Jvm.ClassFile.FieldType.boolean) 1 := ⟨yk_X5_has, by decide, wA 770 (by decide +kernel) (by decide +kernel), wA 771 (by decide +kernel) (by decide +kernel), wA 772 (by decide +kernel) (by decide +kernel), _, _, _, ck_5⟩
theorem th_C_405_409 : thOK RX11 405 409 1 := ⟨by decide +kernel, wA 774 (by decide +kernel) (by decide +kernel), wA 88 (by decide +kernel) (by decide +kernel), by decide +kernel⟩
theorem yk_X5_setAdmission : yOK yX5_setAdmission cX5_setAdmission 4 (Option.some Jvm.ClassFile.FieldType.int) 2 := ⟨wA 911 (by decide +kernel) (by decide +kernel), wA 71 (by decide +kernel) (by decide +kernel), by decide, by decide, by decide +kernel⟩
theorem vk_C_152 : vOK RX11 152 5 yX5_setAdmission cX5_setAdmission 4 (Option.some Jvm.ClassFile.FieldType.int) 2 := ⟨yk_X5_setAdmission, by decide, wA 908 (by decide +kernel) (by decide +kernel), wA 909 (by decide +kernel) (by decide +kernel), wA 910 (by decide +kernel) (by decide +kernel), _, _, _, ck_5⟩
theorem yk_X11_checkLantern : yOK yX11_checkLantern cX11_checkLantern 2 (Option.none : Option Jvm.ClassFile.FieldType) 1 := ⟨wA 769 (by decide +kernel) (by decide +kernel), wA 69 (by decide +kernel) (by decide +kernel), by decide, by decide, by decide +kernel⟩
theorem vk_C_93 : vOK RX11 93 11 yX11_checkLantern cX11_checkLantern 2 (Option.none : Option Jvm.ClassFile.FieldType) 1 := ⟨yk_X11_checkLantern, by decide, wA 766 (by decide +kernel) (by decide +kernel), wA 768 (by decide +kernel) (by decide +kernel), wA 11 (by decide +kernel) (by decide +kernel), _, _, _, ck_11⟩
theorem yk_X5_admits : yOK yX5_admits cX5_admits 3 (Option.some Jvm.ClassFile.FieldType.boolean) 2 := ⟨wA 906 (by decide +kernel) (by decide +kernel), wA 71 (by decide +kernel) (by decide +kernel), by decide, by decide, by decide +kernel⟩
theorem vk_C_146 : vOK RX11 146 5 yX5_admits cX5_admits 3 (Option.some Jvm.ClassFile.FieldType.boolean) 2 := ⟨yk_X5_admits, by decide, wA 903 (by decide +kernel) (by decide +kernel), wA 904 (by decide +kernel) (by decide +kernel), wA 905 (by decide +kernel) (by decide +kernel), _, _, _, ck_5⟩
theorem fk_C_108 : fOK RX11 108 8 2 := ⟨_, _, _, _, ck_8, by decide, wA 224 (by decide +kernel) (by decide +kernel)⟩
theorem fk_C_218 : fOK RX11 218 2 2 := ⟨_, _, _, _, ck_2, by decide, wA 160 (by decide +kernel) (by decide +kernel)⟩
theorem fk_C_215 : fOK RX11 215 2 0 := ⟨_, _, _, _, ck_2, by decide, wA 157 (by decide +kernel) (by decide +kernel)⟩
theorem th_C_160_164 : thOKy RX11 160 164 3 := ⟨by decide +kernel, wA 835 (by decide +kernel) (by decide +kernel), wA 92 (by decide +kernel) (by decide +kernel), by decide +kernel⟩
theorem fk_C_186 : fOK RX11 186 5 1 := ⟨_, _, _, _, ck_5, by decide, wA 128 (by decide +kernel) (by decide +kernel)⟩
theorem fk_C_50 : fOK RX11 50 11 7 := ⟨_, _, _, _, ck_11, by decide, wA 374 (by decide +kernel) (by decide +kernel)⟩
theorem fk_C_471 : fOK RX11 471 4 4 := ⟨_, _, _, _, ck_4, by decide, wA 332 (by decide +kernel) (by decide +kernel)⟩
theorem fk_I_24 : fOK RX3 24 4 4 := ⟨_, _, _, _, ck_4, by decide, wA 331 (by decide +kernel) (by decide +kernel)⟩
theorem fk_I_21 : fOK RX3 21 4 3 := ⟨_, _, _, _, ck_4, by decide, wA 329 (by decide +kernel) (by decide +kernel)⟩
theorem fk_I_9 : fOK RX3 9 4 0 := ⟨_, _, _, _, ck_4, by decide, wA 325 (by decide +kernel) (by decide +kernel)⟩
theorem fk_I_32 : fOK RX3 32 4 2 := ⟨_, _, _, _, ck_4, by decide, wA 327 (by decide +kernel) (by decide +kernel)⟩
theorem fk_I_28 : fOK RX3 28 4 1 := ⟨_, _, _, _, ck_4, by decide, wA 326 (by decide +kernel) (by decide +kernel)⟩
theorem fk_I_48 : fOK RX3 48 4 5 := ⟨_, _, _, _, ck_4, by decide, wA 333 (by decide +kernel) (by decide +kernel)⟩
theorem pk_I_48 : pOK RX3 48 4 5 .int := ⟨_, _, _, _, ck_4, by decide, wA 333 (by decide +kernel) (by decide +kernel), rfl, by decide +kernel, fun _ _ _ _ => rfl, fun _ _ _ => Nat.le_of_ble_eq_true rfl⟩
theorem pk_I_32 : pOK RX3 32 4 2 .int := ⟨_, _, _, _, ck_4, by decide, wA 327 (by decide +kernel) (by decide +kernel), rfl, by decide +kernel, fun _ _ _ _ => rfl, fun _ _ _ => Nat.le_of_ble_eq_true rfl⟩
theorem yk_X3_isDigit : yOK yX3_isDigit cX3_isDigit 1 (Option.some Jvm.ClassFile.FieldType.boolean) 1 := ⟨wA 1373 (by decide +kernel) (by decide +kernel), wA 77 (by decide +kernel) (by decide +kernel), by decide, by decide, by decide +kernel⟩
theorem sk_I_99 : sOK RX3 99 yX3_isDigit cX3_isDigit 1 (Option.some Jvm.ClassFile.FieldType.boolean) 1 := ⟨yk_X3_isDigit, by decide, wA 1371 (by decide +kernel) (by decide +kernel), wA 1372 (by decide +kernel) (by decide +kernel)⟩
theorem pk_I_91 : pOK RX3 91 4 6 .boolean := ⟨_, _, _, _, ck_4, by decide, wA 334 (by decide +kernel) (by decide +kernel), rfl, by decide +kernel, fun _ _ _ _ => rfl, fun _ _ _ => Nat.le_of_ble_eq_true rfl⟩
theorem fk_I_91 : fOK RX3 91 4 6 := ⟨_, _, _, _, ck_4, by decide, wA 334 (by decide +kernel) (by decide +kernel)⟩
theorem yk_X3_readNumber : yOK yX3_readNumber cX3_readNumber 4 (Option.some Jvm.ClassFile.FieldType.boolean) 1 := ⟨wA 1370 (by decide +kernel) (by decide +kernel), wA 77 (by decide +kernel) (by decide +kernel), by decide, by decide, by decide +kernel⟩
theorem vk_I_95 : vOK RX3 95 4 yX3_readNumber cX3_readNumber 4 (Option.some Jvm.ClassFile.FieldType.boolean) 1 := ⟨yk_X3_readNumber, by decide, wA 1367 (by decide +kernel) (by decide +kernel), wA 1369 (by decide +kernel) (by decide +kernel), wA 22 (by decide +kernel) (by decide +kernel), _, _, _, ck_4⟩
theorem yk_X3_readCharacter : yOK yX3_readCharacter cX3_readCharacter 2 (Option.some Jvm.ClassFile.FieldType.boolean) 1 := ⟨wA 1366 (by decide +kernel) (by decide +kernel), wA 77 (by decide +kernel) (by decide +kernel), by decide, by decide, by decide +kernel⟩
theorem vk_I_88 : vOK RX3 88 4 yX3_readCharacter cX3_readCharacter 2 (Option.some Jvm.ClassFile.FieldType.boolean) 1 := ⟨yk_X3_readCharacter, by decide, wA 1363 (by decide +kernel) (by decide +kernel), wA 1365 (by decide +kernel) (by decide +kernel), wA 21 (by decide +kernel) (by decide +kernel), _, _, _, ck_4⟩
theorem pk_I_21 : pOKk RX3 21 4 3 (.object "LanternCourt$Kind") := ⟨_, _, _, _, ck_4, by decide, wA 329 (by decide +kernel) (by decide +kernel), rfl, by decide +kernel, fun _ _ _ _ => rfl, fun _ _ _ => Nat.le_of_ble_eq_true rfl⟩
theorem yk_X3_lettersInCommon : yOK yX3_lettersInCommon cX3_lettersInCommon 3 (Option.some Jvm.ClassFile.FieldType.int) 1 := ⟨wA 1332 (by decide +kernel) (by decide +kernel), wA 77 (by decide +kernel) (by decide +kernel), by decide, by decide, by decide +kernel⟩
theorem vk_I_78 : vOK RX3 78 4 yX3_lettersInCommon cX3_lettersInCommon 3 (Option.some Jvm.ClassFile.FieldType.int) 1 := ⟨yk_X3_lettersInCommon, by decide, wA 1329 (by decide +kernel) (by decide +kernel), wA 1331 (by decide +kernel) (by decide +kernel), wA 18 (by decide +kernel) (by decide +kernel), _, _, _, ck_4⟩
theorem mm_I_82 : Cond.methodLink RX3 82 Lib.Math.max.name ∈ wAll := wA 1354 (by decide +kernel) (by decide +kernel)
theorem yk_X3_isAtEnd : yOK yX3_isAtEnd cX3_isAtEnd 1 (Option.some Jvm.ClassFile.FieldType.boolean) 0 := ⟨wA 1358 (by decide +kernel) (by decide +kernel), wA 77 (by decide +kernel) (by decide +kernel), by decide, by decide, by decide +kernel⟩
theorem vk_I_64 : vOK RX3 64 4 yX3_isAtEnd cX3_isAtEnd 1 (Option.some Jvm.ClassFile.FieldType.boolean) 0 := ⟨yk_X3_isAtEnd, by decide, wA 1355 (by decide +kernel) (by decide +kernel), wA 1357 (by decide +kernel) (by decide +kernel), wA 19 (by decide +kernel) (by decide +kernel), _, _, _, ck_4⟩
theorem yk_X3_readPart : yOK yX3_readPart cX3_readPart 2 (Option.some Jvm.ClassFile.FieldType.boolean) 1 := ⟨wA 1362 (by decide +kernel) (by decide +kernel), wA 77 (by decide +kernel) (by decide +kernel), by decide, by decide, by decide +kernel⟩
theorem vk_I_67 : vOK RX3 67 4 yX3_readPart cX3_readPart 2 (Option.some Jvm.ClassFile.FieldType.boolean) 1 := ⟨yk_X3_readPart, by decide, wA 1359 (by decide +kernel) (by decide +kernel), wA 1361 (by decide +kernel) (by decide +kernel), wA 20 (by decide +kernel) (by decide +kernel), _, _, _, ck_4⟩
theorem yk_X3_readKeyword : yOK yX3_readKeyword cX3_readKeyword 5 (Option.some Jvm.ClassFile.FieldType.boolean) 0 := ⟨wA 1326 (by decide +kernel) (by decide +kernel), wA 77 (by decide +kernel) (by decide +kernel), by decide, by decide, by decide +kernel⟩
theorem vk_I_45 : vOK RX3 45 4 yX3_readKeyword cX3_readKeyword 5 (Option.some Jvm.ClassFile.FieldType.boolean) 0 := ⟨yk_X3_readKeyword, by decide, wA 1323 (by decide +kernel) (by decide +kernel), wA 1325 (by decide +kernel) (by decide +kernel), wA 17 (by decide +kernel) (by decide +kernel), _, _, _, ck_4⟩
theorem fk_C_467 : fOK RX11 467 4 3 := ⟨_, _, _, _, ck_4, by decide, wA 330 (by decide +kernel) (by decide +kernel)⟩
theorem fk_C_474 : fOK RX11 474 4 6 := ⟨_, _, _, _, ck_4, by decide, wA 335 (by decide +kernel) (by decide +kernel)⟩
theorem fk_C_128 : fOK RX11 128 8 3 := ⟨_, _, _, _, ck_8, by decide, wA 226 (by decide +kernel) (by decide +kernel)⟩
theorem yk_X1_isInRange : yOK yX1_isInRange cX1_isInRange 3 (Option.some Jvm.ClassFile.FieldType.boolean) 3 := ⟨wA 789 (by decide +kernel) (by decide +kernel), wA 72 (by decide +kernel) (by decide +kernel), by decide, by decide, by decide +kernel⟩
theorem sk_C_97 : sOK RX11 97 yX1_isInRange cX1_isInRange 3 (Option.some Jvm.ClassFile.FieldType.boolean) 3 := ⟨yk_X1_isInRange, by decide, wA 787 (by decide +kernel) (by decide +kernel), wA 788 (by decide +kernel) (by decide +kernel)⟩
theorem yk_X1_isFull : yOK yX1_isFull cX1_isFull 1 (Option.some Jvm.ClassFile.FieldType.boolean) 0 := ⟨wA 809 (by decide +kernel) (by decide +kernel), wA 72 (by decide +kernel) (by decide +kernel), by decide, by decide, by decide +kernel⟩
theorem vk_C_112 : vOK RX11 112 2 yX1_isFull cX1_isFull 1 (Option.some Jvm.ClassFile.FieldType.boolean) 0 := ⟨yk_X1_isFull, by decide, wA 806 (by decide +kernel) (by decide +kernel), wA 807 (by decide +kernel) (by decide +kernel), wA 808 (by decide +kernel) (by decide +kernel), _, _, _, ck_2⟩
theorem yk_X1_positionOf : yOK yX1_positionOf cX1_positionOf 3 (Option.some Jvm.ClassFile.FieldType.int) 1 := ⟨wA 834 (by decide +kernel) (by decide +kernel), wA 72 (by decide +kernel) (by decide +kernel), by decide, by decide, by decide +kernel⟩
theorem vk_C_438 : vOK RX11 438 2 yX1_positionOf cX1_positionOf 3 (Option.some Jvm.ClassFile.FieldType.int) 1 := ⟨yk_X1_positionOf, by decide, wA 831 (by decide +kernel) (by decide +kernel), wA 832 (by decide +kernel) (by decide +kernel), wA 833 (by decide +kernel) (by decide +kernel), _, _, _, ck_2⟩
theorem yk_X9_isFull : yOK yX9_isFull cX9_isFull 1 (Option.some Jvm.ClassFile.FieldType.boolean) 0 := ⟨wA 870 (by decide +kernel) (by decide +kernel), wA 73 (by decide +kernel) (by decide +kernel), by decide, by decide, by decide +kernel⟩
theorem vk_C_132 : vOK RX11 132 9 yX9_isFull cX9_isFull 1 (Option.some Jvm.ClassFile.FieldType.boolean) 0 := ⟨yk_X9_isFull, by decide, wA 867 (by decide +kernel) (by decide +kernel), wA 868 (by decide +kernel) (by decide +kernel), wA 869 (by decide +kernel) (by decide +kernel), _, _, _, ck_9⟩
theorem yk_X9_has : yOK yX9_has cX9_has 2 (Option.some Jvm.ClassFile.FieldType.boolean) 1 := ⟨wA 890 (by decide +kernel) (by decide +kernel), wA 73 (by decide +kernel) (by decide +kernel), by decide, by decide, by decide +kernel⟩
theorem vk_C_435 : vOK RX11 435 9 yX9_has cX9_has 2 (Option.some Jvm.ClassFile.FieldType.boolean) 1 := ⟨yk_X9_has, by decide, wA 887 (by decide +kernel) (by decide +kernel), wA 888 (by decide +kernel) (by decide +kernel), wA 889 (by decide +kernel) (by decide +kernel), _, _, _, ck_9⟩
theorem yk_X5_serves : yOK yX5_serves cX5_serves 2 (Option.some Jvm.ClassFile.FieldType.boolean) 1 := ⟨wA 1041 (by decide +kernel) (by decide +kernel), wA 71 (by decide +kernel) (by decide +kernel), by decide, by decide, by decide +kernel⟩
theorem vk_C_430 : vOK RX11 430 5 yX5_serves cX5_serves 2 (Option.some Jvm.ClassFile.FieldType.boolean) 1 := ⟨yk_X5_serves, by decide, wA 1059 (by decide +kernel) (by decide +kernel), wA 1039 (by decide +kernel) (by decide +kernel), wA 1040 (by decide +kernel) (by decide +kernel), _, _, _, ck_5⟩
theorem yk_X11_canPass : yOK yX11_canPass cX11_canPass 1 (Option.some Jvm.ClassFile.FieldType.boolean) 1 := ⟨wA 929 (by decide +kernel) (by decide +kernel), wA 69 (by decide +kernel) (by decide +kernel), by decide, by decide, by decide +kernel⟩
theorem sk_C_165 : sOK RX11 165 yX11_canPass cX11_canPass 1 (Option.some Jvm.ClassFile.FieldType.boolean) 1 := ⟨yk_X11_canPass, by decide, wA 927 (by decide +kernel) (by decide +kernel), wA 928 (by decide +kernel) (by decide +kernel)⟩
theorem yk_X1_add : yOK yX1_add cX1_add 5 (Option.some Jvm.ClassFile.FieldType.int) 4 := ⟨wA 818 (by decide +kernel) (by decide +kernel), wA 72 (by decide +kernel) (by decide +kernel), by decide, by decide, by decide +kernel⟩
theorem vk_S_68 : vOK RX8 68 2 yX1_add cX1_add 5 (Option.some Jvm.ClassFile.FieldType.int) 4 := ⟨yk_X1_add, by decide, wA 815 (by decide +kernel) (by decide +kernel), wA 816 (by decide +kernel) (by decide +kernel), wA 817 (by decide +kernel) (by decide +kernel), _, _, _, ck_2⟩
theorem fk_S_72 : fOK RX8 72 2 5 := ⟨_, _, _, _, ck_2, by decide, wA 169 (by decide +kernel) (by decide +kernel)⟩
theorem yk_X1_remove : yOK yX1_remove cX1_remove 3 (Option.none : Option Jvm.ClassFile.FieldType) 1 := ⟨wA 858 (by decide +kernel) (by decide +kernel), wA 72 (by decide +kernel) (by decide +kernel), by decide, by decide, by decide +kernel⟩
theorem vk_S_75 : vOK RX8 75 2 yX1_remove cX1_remove 3 (Option.none : Option Jvm.ClassFile.FieldType) 1 := ⟨yk_X1_remove, by decide, wA 855 (by decide +kernel) (by decide +kernel), wA 856 (by decide +kernel) (by decide +kernel), wA 857 (by decide +kernel) (by decide +kernel), _, _, _, ck_2⟩
theorem fk_C_29 : fOK RX11 29 11 4 := ⟨_, _, _, _, ck_11, by decide, wA 371 (by decide +kernel) (by decide +kernel)⟩
theorem fk_C_404 : fOK RX11 404 7 2 := ⟨_, _, _, _, ck_7, by decide, wA 268 (by decide +kernel) (by decide +kernel)⟩
theorem fk_S_99 : fOK RX8 99 2 4 := ⟨_, _, _, _, ck_2, by decide, wA 166 (by decide +kernel) (by decide +kernel)⟩
theorem fk_S_96 : fOK RX8 96 2 0 := ⟨_, _, _, _, ck_2, by decide, wA 156 (by decide +kernel) (by decide +kernel)⟩
theorem fk_C_327 : fOK RX11 327 8 8 := ⟨_, _, _, _, ck_8, by decide, wA 236 (by decide +kernel) (by decide +kernel)⟩
theorem vk_L_36 : vOK RX5 36 5 yX5_serves cX5_serves 2 (Option.some Jvm.ClassFile.FieldType.boolean) 1 := ⟨yk_X5_serves, by decide, wA 1038 (by decide +kernel) (by decide +kernel), wA 1039 (by decide +kernel) (by decide +kernel), wA 1040 (by decide +kernel) (by decide +kernel), _, _, _, ck_5⟩
theorem mm_L_50 : Cond.methodLink RX5 50 Lib.Math.min.name ∈ wAll := wA 1047 (by decide +kernel) (by decide +kernel)
theorem mm_L_40 : Cond.methodLink RX5 40 Lib.Math.max.name ∈ wAll := wA 1042 (by decide +kernel) (by decide +kernel)
theorem yk_X5_endSentence : yOK yX5_endSentence cX5_endSentence 5 (Option.some Jvm.ClassFile.FieldType.int) 1 := ⟨wA 1046 (by decide +kernel) (by decide +kernel), wA 71 (by decide +kernel) (by decide +kernel), by decide, by decide, by decide +kernel⟩
theorem vk_L_46 : vOK RX5 46 5 yX5_endSentence cX5_endSentence 5 (Option.some Jvm.ClassFile.FieldType.int) 1 := ⟨yk_X5_endSentence, by decide, wA 1043 (by decide +kernel) (by decide +kernel), wA 1044 (by decide +kernel) (by decide +kernel), wA 1045 (by decide +kernel) (by decide +kernel), _, _, _, ck_5⟩
theorem pk_C_327 : pOK RX11 327 8 8 .int := ⟨_, _, _, _, ck_8, by decide, wA 236 (by decide +kernel) (by decide +kernel), rfl, by decide +kernel, fun _ _ _ _ => rfl, fun _ _ _ => Nat.le_of_ble_eq_true rfl⟩
theorem fk_C_180 : fOK RX11 180 8 0 := ⟨_, _, _, _, ck_8, by decide, wA 220 (by decide +kernel) (by decide +kernel)⟩
theorem fk_P_15 : fOK RX7 15 7 3 := ⟨_, _, _, _, ck_7, by decide, wA 269 (by decide +kernel) (by decide +kernel)⟩
theorem fk_P_36 : fOK RX7 36 2 0 := ⟨_, _, _, _, ck_2, by decide, wA 155 (by decide +kernel) (by decide +kernel)⟩
theorem fk_P_9 : fOK RX7 9 7 2 := ⟨_, _, _, _, ck_7, by decide, wA 267 (by decide +kernel) (by decide +kernel)⟩
theorem fk_P_29 : fOK RX7 29 7 1 := ⟨_, _, _, _, ck_7, by decide, wA 265 (by decide +kernel) (by decide +kernel)⟩
theorem fk_P_56 : fOK RX7 56 2 4 := ⟨_, _, _, _, ck_2, by decide, wA 165 (by decide +kernel) (by decide +kernel)⟩
theorem yk_X7_isDueBefore : yOK yX7_isDueBefore cX7_isDueBefore 5 (Option.some Jvm.ClassFile.FieldType.boolean) 3 := ⟨wA 440 (by decide +kernel) (by decide +kernel), wA 74 (by decide +kernel) (by decide +kernel), by decide, by decide, by decide +kernel⟩
theorem sk_P_67 : sOK RX7 67 yX7_isDueBefore cX7_isDueBefore 5 (Option.some Jvm.ClassFile.FieldType.boolean) 3 := ⟨yk_X7_isDueBefore, by decide, wA 438 (by decide +kernel) (by decide +kernel), wA 439 (by decide +kernel) (by decide +kernel)⟩
theorem fk_P_18 : fOK RX7 18 7 4 := ⟨_, _, _, _, ck_7, by decide, wA 270 (by decide +kernel) (by decide +kernel)⟩
theorem yk_J6_bitCount_0f7a4 : yOK yJ6_bitCount_0f7a4 cJ6_bitCount_0f7a4 1 (Option.some Jvm.ClassFile.FieldType.int) 1 := ⟨wA 447 (by decide +kernel) (by decide +kernel), wA 93 (by decide +kernel) (by decide +kernel), by decide, by decide, by decide +kernel⟩
theorem sk_P_59 : sOK RX7 59 yJ6_bitCount_0f7a4 cJ6_bitCount_0f7a4 1 (Option.some Jvm.ClassFile.FieldType.int) 1 := ⟨yk_J6_bitCount_0f7a4, by decide, wA 445 (by decide +kernel) (by decide +kernel), wA 446 (by decide +kernel) (by decide +kernel)⟩
theorem pk_P_29 : pOK RX7 29 7 1 .int := ⟨_, _, _, _, ck_7, by decide, wA 265 (by decide +kernel) (by decide +kernel), rfl, by decide +kernel, fun _ _ _ _ => rfl, fun _ _ _ => Nat.le_of_ble_eq_true rfl⟩
theorem fk_P_33 : fOK RX7 33 7 0 := ⟨_, _, _, _, ck_7, by decide, wA 263 (by decide +kernel) (by decide +kernel)⟩
theorem pk_P_33 : pOK RX7 33 7 0 .int := ⟨_, _, _, _, ck_7, by decide, wA 263 (by decide +kernel) (by decide +kernel), rfl, by decide +kernel, fun _ _ _ _ => rfl, fun _ _ _ => Nat.le_of_ble_eq_true rfl⟩
theorem fk_P_64 : fOK RX7 64 2 5 := ⟨_, _, _, _, ck_2, by decide, wA 170 (by decide +kernel) (by decide +kernel)⟩
theorem yk_X7_orderHearings : yOK yX7_orderHearings cX7_orderHearings 5 (Option.none : Option Jvm.ClassFile.FieldType) 1 := ⟨wA 454 (by decide +kernel) (by decide +kernel), wA 74 (by decide +kernel) (by decide +kernel), by decide, by decide, by decide +kernel⟩
theorem vk_P_43 : vOK RX7 43 7 yX7_orderHearings cX7_orderHearings 5 (Option.none : Option Jvm.ClassFile.FieldType) 1 := ⟨yk_X7_orderHearings, by decide, wA 451 (by decide +kernel) (by decide +kernel), wA 453 (by decide +kernel) (by decide +kernel), wA 3 (by decide +kernel) (by decide +kernel), _, _, _, ck_7⟩
theorem yk_X7_isPossible : yOK yX7_isPossible cX7_isPossible 3 (Option.some Jvm.ClassFile.FieldType.boolean) 1 := ⟨wA 444 (by decide +kernel) (by decide +kernel), wA 74 (by decide +kernel) (by decide +kernel), by decide, by decide, by decide +kernel⟩
theorem vk_P_39 : vOK RX7 39 7 yX7_isPossible cX7_isPossible 3 (Option.some Jvm.ClassFile.FieldType.boolean) 1 := ⟨yk_X7_isPossible, by decide, wA 441 (by decide +kernel) (by decide +kernel), wA 443 (by decide +kernel) (by decide +kernel), wA 2 (by decide +kernel) (by decide +kernel), _, _, _, ck_7⟩
theorem yk_X7_findDueSets : yOK yX7_findDueSets cX7_findDueSets 5 (Option.none : Option Jvm.ClassFile.FieldType) 2 := ⟨wA 433 (by decide +kernel) (by decide +kernel), wA 74 (by decide +kernel) (by decide +kernel), by decide, by decide, by decide +kernel⟩
theorem vk_P_21 : vOK RX7 21 7 yX7_findDueSets cX7_findDueSets 5 (Option.none : Option Jvm.ClassFile.FieldType) 2 := ⟨yk_X7_findDueSets, by decide, wA 430 (by decide +kernel) (by decide +kernel), wA 432 (by decide +kernel) (by decide +kernel), wA 0 (by decide +kernel) (by decide +kernel), _, _, _, ck_7⟩
theorem yk_X7_orderVisits : yOK yX7_orderVisits cX7_orderVisits 6 (Option.none : Option Jvm.ClassFile.FieldType) 1 := ⟨wA 437 (by decide +kernel) (by decide +kernel), wA 74 (by decide +kernel) (by decide +kernel), by decide, by decide, by decide +kernel⟩
theorem vk_P_25 : vOK RX7 25 7 yX7_orderVisits cX7_orderVisits 6 (Option.none : Option Jvm.ClassFile.FieldType) 1 := ⟨yk_X7_orderVisits, by decide, wA 434 (by decide +kernel) (by decide +kernel), wA 436 (by decide +kernel) (by decide +kernel), wA 1 (by decide +kernel) (by decide +kernel), _, _, _, ck_7⟩
theorem pk_C_180 : pOK RX11 180 8 0 .int := ⟨_, _, _, _, ck_8, by decide, wA 220 (by decide +kernel) (by decide +kernel), rfl, by decide +kernel, fun _ _ _ _ => rfl, fun _ _ _ => Nat.le_of_ble_eq_true rfl⟩
theorem fk_C_403 : fOK RX11 403 7 0 := ⟨_, _, _, _, ck_7, by decide, wA 264 (by decide +kernel) (by decide +kernel)⟩
theorem fk_C_36 : fOK RX11 36 11 5 := ⟨_, _, _, _, ck_11, by decide, wA 372 (by decide +kernel) (by decide +kernel)⟩
theorem fk_C_221 : fOK RX11 221 2 3 := ⟨_, _, _, _, ck_2, by decide, wA 163 (by decide +kernel) (by decide +kernel)⟩
theorem fk_G_48 : fOK RX2 48 5 2 := ⟨_, _, _, _, ck_5, by decide, wA 130 (by decide +kernel) (by decide +kernel)⟩
theorem fk_G_22 : fOK RX2 22 3 4 := ⟨_, _, _, _, ck_3, by decide, wA 292 (by decide +kernel) (by decide +kernel)⟩
