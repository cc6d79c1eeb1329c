theorem dX11_file_12 : decode cX11_file 12 = .ok (.ifCond .ne 13, 3) := by decide +kernel
theorem dX11_file_15 : decode cX11_file 15 = .ok (.new 103, 3) := by decide +kernel
theorem dX11_file_18 : decode cX11_file 18 = .ok (.dup, 1) := by decide +kernel
theorem dX11_file_19 : decode cX11_file 19 = .ok (.ldc 105, 2) := by decide +kernel
theorem dX11_file_21 : decode cX11_file 21 = .ok (.invokespecial 107, 3) := by decide +kernel
theorem dX11_file_24 : decode cX11_file 24 = .ok (.athrow, 1) := by decide +kernel
theorem dX11_file_25 : decode cX11_file 25 = .ok (.aload_n 0, 1) := by decide +kernel
theorem dX11_file_26 : decode cX11_file 26 = .ok (.getfield 10, 3) := by decide +kernel
theorem dX11_file_29 : decode cX11_file 29 = .ok (.getfield 108, 3) := by decide +kernel
theorem dX11_file_32 : decode cX11_file 32 = .ok (.invokevirtual 112, 3) := by decide +kernel
theorem dX11_file_35 : decode cX11_file 35 = .ok (.ifCond .eq 13, 3) := by decide +kernel
theorem dX11_file_38 : decode cX11_file 38 = .ok (.new 78, 3) := by decide +kernel
theorem dX11_file_41 : decode cX11_file 41 = .ok (.dup, 1) := by decide +kernel
theorem dX11_file_42 : decode cX11_file 42 = .ok (.ldc 113, 2) := by decide +kernel
theorem dX11_file_44 : decode cX11_file 44 = .ok (.invokespecial 82, 3) := by decide +kernel
theorem dX11_file_47 : decode cX11_file 47 = .ok (.athrow, 1) := by decide +kernel
theorem dX11_file_48 : decode cX11_file 48 = .ok (.aload_n 0, 1) := by decide +kernel
theorem dX11_file_49 : decode cX11_file 49 = .ok (.aload_n 0, 1) := by decide +kernel
theorem dX11_file_50 : decode cX11_file 50 = .ok (.getfield 10, 3) := by decide +kernel
theorem dX11_file_53 : decode cX11_file 53 = .ok (.invokevirtual 85, 3) := by decide +kernel
theorem dX11_file_56 : decode cX11_file 56 = .ok (.aload_n 0, 1) := by decide +kernel
theorem dX11_file_57 : decode cX11_file 57 = .ok (.getfield 10, 3) := by decide +kernel
theorem dX11_file_60 : decode cX11_file 60 = .ok (.iload_n 1, 1) := by decide +kernel
theorem dX11_file_61 : decode cX11_file 61 = .ok (.iload_n 2, 1) := by decide +kernel
theorem dX11_file_62 : decode cX11_file 62 = .ok (.iload_n 3, 1) := by decide +kernel
theorem dX11_file_63 : decode cX11_file 63 = .ok (.iload 4, 2) := by decide +kernel
theorem dX11_file_65 : decode cX11_file 65 = .ok (.invokevirtual 115, 3) := by decide +kernel
theorem dX11_file_68 : decode cX11_file 68 = .ok (.ireturn, 1) := by decide +kernel
theorem dX11_withdraw_0 : decode cX11_withdraw 0 = .ok (.aload_n 0, 1) := by decide +kernel
theorem dX11_withdraw_1 : decode cX11_withdraw 1 = .ok (.iload_n 1, 1) := by decide +kernel
theorem dX11_withdraw_2 : decode cX11_withdraw 2 = .ok (.invokevirtual 119, 3) := by decide +kernel
theorem dX11_withdraw_5 : decode cX11_withdraw 5 = .ok (.istore_n 2, 1) := by decide +kernel
theorem dX11_withdraw_6 : decode cX11_withdraw 6 = .ok (.aload_n 0, 1) := by decide +kernel
theorem dX11_withdraw_7 : decode cX11_withdraw 7 = .ok (.aload_n 0, 1) := by decide +kernel
theorem dX11_withdraw_8 : decode cX11_withdraw 8 = .ok (.getfield 10, 3) := by decide +kernel
theorem dX11_withdraw_11 : decode cX11_withdraw 11 = .ok (.invokevirtual 85, 3) := by decide +kernel
theorem dX11_withdraw_14 : decode cX11_withdraw 14 = .ok (.aload_n 0, 1) := by decide +kernel
theorem dX11_withdraw_15 : decode cX11_withdraw 15 = .ok (.getfield 10, 3) := by decide +kernel
theorem dX11_withdraw_18 : decode cX11_withdraw 18 = .ok (.iload_n 2, 1) := by decide +kernel
theorem dX11_withdraw_19 : decode cX11_withdraw 19 = .ok (.invokevirtual 123, 3) := by decide +kernel
theorem dX11_withdraw_22 : decode cX11_withdraw 22 = .ok (.ireturn, 1) := by decide +kernel
theorem dX11_makeStatement_0 : decode cX11_makeStatement 0 = .ok (.aload_n 0, 1) := by decide +kernel
theorem dX11_makeStatement_1 : decode cX11_makeStatement 1 = .ok (.iload_n 1, 1) := by decide +kernel
theorem dX11_makeStatement_2 : decode cX11_makeStatement 2 = .ok (.invokevirtual 93, 3) := by decide +kernel
theorem dX11_makeStatement_5 : decode cX11_makeStatement 5 = .ok (.aload_n 0, 1) := by decide +kernel
theorem dX11_makeStatement_6 : decode cX11_makeStatement 6 = .ok (.iload_n 2, 1) := by decide +kernel
theorem dX11_makeStatement_7 : decode cX11_makeStatement 7 = .ok (.invokevirtual 93, 3) := by decide +kernel
theorem dX11_makeStatement_10 : decode cX11_makeStatement 10 = .ok (.iload_n 1, 1) := by decide +kernel
theorem dX11_makeStatement_11 : decode cX11_makeStatement 11 = .ok (.iload_n 2, 1) := by decide +kernel
theorem dX11_makeStatement_12 : decode cX11_makeStatement 12 = .ok (.if_icmp .ne 13, 3) := by decide +kernel
theorem dX11_makeStatement_15 : decode cX11_makeStatement 15 = .ok (.new 103, 3) := by decide +kernel
theorem dX11_makeStatement_18 : decode cX11_makeStatement 18 = .ok (.dup, 1) := by decide +kernel
theorem dX11_makeStatement_19 : decode cX11_makeStatement 19 = .ok (.ldc 126, 2) := by decide +kernel
theorem dX11_makeStatement_21 : decode cX11_makeStatement 21 = .ok (.invokespecial 107, 3) := by decide +kernel
theorem dX11_makeStatement_24 : decode cX11_makeStatement 24 = .ok (.athrow, 1) := by decide +kernel
theorem dX11_makeStatement_25 : decode cX11_makeStatement 25 = .ok (.aload_n 0, 1) := by decide +kernel
theorem dX11_makeStatement_26 : decode cX11_makeStatement 26 = .ok (.getfield 10, 3) := by decide +kernel
theorem dX11_makeStatement_29 : decode cX11_makeStatement 29 = .ok (.getfield 128, 3) := by decide +kernel
theorem dX11_makeStatement_32 : decode cX11_makeStatement 32 = .ok (.invokevirtual 132, 3) := by decide +kernel
theorem dX11_makeStatement_35 : decode cX11_makeStatement 35 = .ok (.ifCond .eq 13, 3) := by decide +kernel
theorem dX11_makeStatement_38 : decode cX11_makeStatement 38 = .ok (.new 78, 3) := by decide +kernel
theorem dX11_makeStatement_41 : decode cX11_makeStatement 41 = .ok (.dup, 1) := by decide +kernel
theorem dX11_makeStatement_42 : decode cX11_makeStatement 42 = .ok (.ldc 135, 2) := by decide +kernel
theorem dX11_makeStatement_44 : decode cX11_makeStatement 44 = .ok (.invokespecial 82, 3) := by decide +kernel
theorem dX11_makeStatement_47 : decode cX11_makeStatement 47 = .ok (.athrow, 1) := by decide +kernel
theorem dX11_makeStatement_48 : decode cX11_makeStatement 48 = .ok (.aload_n 0, 1) := by decide +kernel
theorem dX11_makeStatement_49 : decode cX11_makeStatement 49 = .ok (.aload_n 0, 1) := by decide +kernel
theorem dX11_makeStatement_50 : decode cX11_makeStatement 50 = .ok (.getfield 10, 3) := by decide +kernel
theorem dX11_makeStatement_53 : decode cX11_makeStatement 53 = .ok (.invokevirtual 85, 3) := by decide +kernel
theorem dX11_makeStatement_56 : decode cX11_makeStatement 56 = .ok (.aload_n 0, 1) := by decide +kernel
theorem dX11_makeStatement_57 : decode cX11_makeStatement 57 = .ok (.getfield 10, 3) := by decide +kernel
theorem dX11_makeStatement_60 : decode cX11_makeStatement 60 = .ok (.getfield 128, 3) := by decide +kernel
theorem dX11_makeStatement_63 : decode cX11_makeStatement 63 = .ok (.iload_n 1, 1) := by decide +kernel
theorem dX11_makeStatement_64 : decode cX11_makeStatement 64 = .ok (.iload_n 2, 1) := by decide +kernel
theorem dX11_makeStatement_65 : decode cX11_makeStatement 65 = .ok (.iload_n 3, 1) := by decide +kernel
theorem dX11_makeStatement_66 : decode cX11_makeStatement 66 = .ok (.invokevirtual 137, 3) := by decide +kernel
theorem dX11_makeStatement_69 : decode cX11_makeStatement 69 = .ok (.ireturn, 1) := by decide +kernel
theorem dX11_dropStatement_0 : decode cX11_dropStatement 0 = .ok (.aload_n 0, 1) := by decide +kernel
theorem dX11_dropStatement_1 : decode cX11_dropStatement 1 = .ok (.iload_n 1, 1) := by decide +kernel
theorem dX11_dropStatement_2 : decode cX11_dropStatement 2 = .ok (.invokevirtual 140, 3) := by decide +kernel
theorem dX11_dropStatement_5 : decode cX11_dropStatement 5 = .ok (.aload_n 0, 1) := by decide +kernel
theorem dX11_dropStatement_6 : decode cX11_dropStatement 6 = .ok (.aload_n 0, 1) := by decide +kernel
theorem dX11_dropStatement_7 : decode cX11_dropStatement 7 = .ok (.getfield 10, 3) := by decide +kernel
theorem dX11_dropStatement_10 : decode cX11_dropStatement 10 = .ok (.invokevirtual 85, 3) := by decide +kernel
theorem dX11_dropStatement_13 : decode cX11_dropStatement 13 = .ok (.aload_n 0, 1) := by decide +kernel
theorem dX11_dropStatement_14 : decode cX11_dropStatement 14 = .ok (.getfield 10, 3) := by decide +kernel
theorem dX11_dropStatement_17 : decode cX11_dropStatement 17 = .ok (.getfield 128, 3) := by decide +kernel
theorem dX11_dropStatement_20 : decode cX11_dropStatement 20 = .ok (.iload_n 1, 1) := by decide +kernel
theorem dX11_dropStatement_21 : decode cX11_dropStatement 21 = .ok (.invokevirtual 143, 3) := by decide +kernel
theorem dX11_dropStatement_24 : decode cX11_dropStatement 24 = .ok (.ireturn, 1) := by decide +kernel
theorem dX11_admit_0 : decode cX11_admit 0 = .ok (.aload_n 0, 1) := by decide +kernel
theorem dX11_admit_1 : decode cX11_admit 1 = .ok (.iload_n 1, 1) := by decide +kernel
theorem dX11_admit_2 : decode cX11_admit 2 = .ok (.invokevirtual 93, 3) := by decide +kernel
theorem dX11_admit_5 : decode cX11_admit 5 = .ok (.aload_n 0, 1) := by decide +kernel
theorem dX11_admit_6 : decode cX11_admit 6 = .ok (.getfield 10, 3) := by decide +kernel
theorem dX11_admit_9 : decode cX11_admit 9 = .ok (.getfield 68, 3) := by decide +kernel
theorem dX11_admit_12 : decode cX11_admit 12 = .ok (.iload_n 1, 1) := by decide +kernel
theorem dX11_admit_13 : decode cX11_admit 13 = .ok (.iload_n 2, 1) := by decide +kernel
theorem dX11_admit_14 : decode cX11_admit 14 = .ok (.invokevirtual 146, 3) := by decide +kernel
theorem dX11_admit_17 : decode cX11_admit 17 = .ok (.ifCond .eq 13, 3) := by decide +kernel
theorem dX11_admit_20 : decode cX11_admit 20 = .ok (.new 78, 3) := by decide +kernel
theorem dX11_admit_23 : decode cX11_admit 23 = .ok (.dup, 1) := by decide +kernel
theorem dX11_admit_24 : decode cX11_admit 24 = .ok (.ldc 150, 2) := by decide +kernel
theorem dX11_admit_26 : decode cX11_admit 26 = .ok (.invokespecial 82, 3) := by decide +kernel
theorem dX11_admit_29 : decode cX11_admit 29 = .ok (.athrow, 1) := by decide +kernel
theorem dX11_admit_30 : decode cX11_admit 30 = .ok (.aload_n 0, 1) := by decide +kernel
theorem dX11_admit_31 : decode cX11_admit 31 = .ok (.aload_n 0, 1) := by decide +kernel
theorem dX11_admit_32 : decode cX11_admit 32 = .ok (.getfield 10, 3) := by decide +kernel
theorem dX11_admit_35 : decode cX11_admit 35 = .ok (.invokevirtual 85, 3) := by decide +kernel
theorem dX11_admit_38 : decode cX11_admit 38 = .ok (.aload_n 0, 1) := by decide +kernel
theorem dX11_admit_39 : decode cX11_admit 39 = .ok (.getfield 10, 3) := by decide +kernel
theorem dX11_admit_42 : decode cX11_admit 42 = .ok (.getfield 68, 3) := by decide +kernel
theorem dX11_admit_45 : decode cX11_admit 45 = .ok (.iload_n 1, 1) := by decide +kernel
theorem dX11_admit_46 : decode cX11_admit 46 = .ok (.iload_n 2, 1) := by decide +kernel
theorem dX11_admit_47 : decode cX11_admit 47 = .ok (.ifCond .eq 7, 3) := by decide +kernel
theorem dX11_admit_50 : decode cX11_admit 50 = .ok (.iconst 1, 1) := by decide +kernel
theorem dX11_admit_51 : decode cX11_admit 51 = .ok (.goto 4, 3) := by decide +kernel
theorem dX11_admit_54 : decode cX11_admit 54 = .ok (.iconst 2, 1) := by decide +kernel
theorem dX11_admit_55 : decode cX11_admit 55 = .ok (.invokevirtual 152, 3) := by decide +kernel
theorem dX11_admit_58 : decode cX11_admit 58 = .ok (.ifCond .eq 7, 3) := by decide +kernel
theorem dX11_admit_61 : decode cX11_admit 61 = .ok (.iconst 1, 1) := by decide +kernel
theorem dX11_admit_62 : decode cX11_admit 62 = .ok (.goto 4, 3) := by decide +kernel
theorem dX11_admit_65 : decode cX11_admit 65 = .ok (.iconst 0, 1) := by decide +kernel
theorem dX11_admit_66 : decode cX11_admit 66 = .ok (.ireturn, 1) := by decide +kernel
theorem dX11_retract_0 : decode cX11_retract 0 = .ok (.aload_n 0, 1) := by decide +kernel
theorem dX11_retract_1 : decode cX11_retract 1 = .ok (.iload_n 1, 1) := by decide +kernel
theorem dX11_retract_2 : decode cX11_retract 2 = .ok (.invokevirtual 93, 3) := by decide +kernel
theorem dX11_retract_5 : decode cX11_retract 5 = .ok (.aload_n 0, 1) := by decide +kernel
theorem dX11_retract_6 : decode cX11_retract 6 = .ok (.getfield 10, 3) := by decide +kernel
theorem dX11_retract_9 : decode cX11_retract 9 = .ok (.getfield 68, 3) := by decide +kernel
theorem dX11_retract_12 : decode cX11_retract 12 = .ok (.getfield 156, 3) := by decide +kernel
theorem dX11_retract_15 : decode cX11_retract 15 = .ok (.iload_n 1, 1) := by decide +kernel
theorem dX11_retract_16 : decode cX11_retract 16 = .ok (.iaload, 1) := by decide +kernel
theorem dX11_retract_17 : decode cX11_retract 17 = .ok (.ifCond .ne 13, 3) := by decide +kernel
theorem dX11_retract_20 : decode cX11_retract 20 = .ok (.new 160, 3) := by decide +kernel
theorem dX11_retract_23 : decode cX11_retract 23 = .ok (.dup, 1) := by decide +kernel
theorem dX11_retract_24 : decode cX11_retract 24 = .ok (.ldc 162, 2) := by decide +kernel
theorem dX11_retract_26 : decode cX11_retract 26 = .ok (.invokespecial 164, 3) := by decide +kernel
theorem dX11_retract_29 : decode cX11_retract 29 = .ok (.athrow, 1) := by decide +kernel
theorem dX11_retract_30 : decode cX11_retract 30 = .ok (.aload_n 0, 1) := by decide +kernel
theorem dX11_retract_31 : decode cX11_retract 31 = .ok (.aload_n 0, 1) := by decide +kernel
theorem dX11_retract_32 : decode cX11_retract 32 = .ok (.getfield 10, 3) := by decide +kernel
theorem dX11_retract_35 : decode cX11_retract 35 = .ok (.invokevirtual 85, 3) := by decide +kernel
theorem dX11_retract_38 : decode cX11_retract 38 = .ok (.aload_n 0, 1) := by decide +kernel
theorem dX11_retract_39 : decode cX11_retract 39 = .ok (.getfield 10, 3) := by decide +kernel
theorem dX11_retract_42 : decode cX11_retract 42 = .ok (.getfield 68, 3) := by decide +kernel
theorem dX11_retract_45 : decode cX11_retract 45 = .ok (.iload_n 1, 1) := by decide +kernel
theorem dX11_retract_46 : decode cX11_retract 46 = .ok (.iconst 0, 1) := by decide +kernel
theorem dX11_retract_47 : decode cX11_retract 47 = .ok (.invokevirtual 152, 3) := by decide +kernel
theorem dX11_retract_50 : decode cX11_retract 50 = .ok (.iconst 1, 1) := by decide +kernel
theorem dX11_retract_51 : decode cX11_retract 51 = .ok (.if_icmp .ne 7, 3) := by decide +kernel
theorem dX11_retract_54 : decode cX11_retract 54 = .ok (.iconst 1, 1) := by decide +kernel
theorem dX11_retract_55 : decode cX11_retract 55 = .ok (.goto 4, 3) := by decide +kernel
theorem dX11_retract_58 : decode cX11_retract 58 = .ok (.iconst 0, 1) := by decide +kernel
theorem dX11_retract_59 : decode cX11_retract 59 = .ok (.ireturn, 1) := by decide +kernel
theorem dX11_passDays_0 : decode cX11_passDays 0 = .ok (.iload_n 1, 1) := by decide +kernel
theorem dX11_passDays_1 : decode cX11_passDays 1 = .ok (.invokestatic 165, 3) := by decide +kernel
theorem dX11_passDays_4 : decode cX11_passDays 4 = .ok (.ifCond .ne 13, 3) := by decide +kernel
theorem dX11_passDays_7 : decode cX11_passDays 7 = .ok (.new 103, 3) := by decide +kernel
theorem dX11_passDays_10 : decode cX11_passDays 10 = .ok (.dup, 1) := by decide +kernel
theorem dX11_passDays_11 : decode cX11_passDays 11 = .ok (.ldc 169, 2) := by decide +kernel
theorem dX11_passDays_13 : decode cX11_passDays 13 = .ok (.invokespecial 107, 3) := by decide +kernel
theorem dX11_passDays_16 : decode cX11_passDays 16 = .ok (.athrow, 1) := by decide +kernel
theorem dX11_passDays_17 : decode cX11_passDays 17 = .ok (.aload_n 0, 1) := by decide +kernel
theorem dX11_passDays_18 : decode cX11_passDays 18 = .ok (.aload_n 0, 1) := by decide +kernel
theorem dX11_passDays_19 : decode cX11_passDays 19 = .ok (.getfield 10, 3) := by decide +kernel
theorem dX11_passDays_22 : decode cX11_passDays 22 = .ok (.invokevirtual 85, 3) := by decide +kernel
theorem dX11_passDays_25 : decode cX11_passDays 25 = .ok (.aload_n 0, 1) := by decide +kernel
theorem dX11_passDays_26 : decode cX11_passDays 26 = .ok (.iload_n 1, 1) := by decide +kernel
theorem dX11_passDays_27 : decode cX11_passDays 27 = .ok (.invokevirtual 171, 3) := by decide +kernel
theorem dX11_passDays_30 : decode cX11_passDays 30 = .ok (.ireturn, 1) := by decide +kernel
theorem dX11_pardon_0 : decode cX11_pardon 0 = .ok (.aload_n 0, 1) := by decide +kernel
theorem dX11_pardon_1 : decode cX11_pardon 1 = .ok (.iload_n 1, 1) := by decide +kernel
theorem dX11_pardon_2 : decode cX11_pardon 2 = .ok (.invokevirtual 174, 3) := by decide +kernel
theorem dX11_pardon_5 : decode cX11_pardon 5 = .ok (.aload_n 0, 1) := by decide +kernel
theorem dX11_pardon_6 : decode cX11_pardon 6 = .ok (.aload_n 0, 1) := by decide +kernel
theorem dX11_pardon_7 : decode cX11_pardon 7 = .ok (.getfield 10, 3) := by decide +kernel
theorem dX11_pardon_10 : decode cX11_pardon 10 = .ok (.invokevirtual 85, 3) := by decide +kernel
theorem dX11_pardon_13 : decode cX11_pardon 13 = .ok (.aload_n 0, 1) := by decide +kernel
theorem dX11_pardon_14 : decode cX11_pardon 14 = .ok (.getfield 10, 3) := by decide +kernel
theorem dX11_pardon_17 : decode cX11_pardon 17 = .ok (.getfield 68, 3) := by decide +kernel
theorem dX11_pardon_20 : decode cX11_pardon 20 = .ok (.iload_n 1, 1) := by decide +kernel
theorem dX11_pardon_21 : decode cX11_pardon 21 = .ok (.invokevirtual 177, 3) := by decide +kernel
theorem dX11_pardon_24 : decode cX11_pardon 24 = .ok (.ireturn, 1) := by decide +kernel
theorem dX11_day_0 : decode cX11_day 0 = .ok (.aload_n 0, 1) := by decide +kernel
theorem dX11_day_1 : decode cX11_day 1 = .ok (.getfield 10, 3) := by decide +kernel
theorem dX11_day_4 : decode cX11_day 4 = .ok (.getfield 180, 3) := by decide +kernel
theorem dX11_day_7 : decode cX11_day 7 = .ok (.ireturn, 1) := by decide +kernel
theorem dX11_lanternCount_0 : decode cX11_lanternCount 0 = .ok (.aload_n 0, 1) := by decide +kernel
theorem dX11_lanternCount_1 : decode cX11_lanternCount 1 = .ok (.getfield 10, 3) := by decide +kernel
theorem dX11_lanternCount_4 : decode cX11_lanternCount 4 = .ok (.getfield 68, 3) := by decide +kernel
theorem dX11_lanternCount_7 : decode cX11_lanternCount 7 = .ok (.getfield 183, 3) := by decide +kernel
theorem dX11_lanternCount_10 : decode cX11_lanternCount 10 = .ok (.ireturn, 1) := by decide +kernel
theorem dX11_brightness_0 : decode cX11_brightness 0 = .ok (.aload_n 0, 1) := by decide +kernel
theorem dX11_brightness_1 : decode cX11_brightness 1 = .ok (.iload_n 1, 1) := by decide +kernel
theorem dX11_brightness_2 : decode cX11_brightness 2 = .ok (.invokevirtual 93, 3) := by decide +kernel
theorem dX11_brightness_5 : decode cX11_brightness 5 = .ok (.aload_n 0, 1) := by decide +kernel
theorem dX11_brightness_6 : decode cX11_brightness 6 = .ok (.getfield 10, 3) := by decide +kernel
theorem dX11_brightness_9 : decode cX11_brightness 9 = .ok (.getfield 68, 3) := by decide +kernel
theorem dX11_brightness_12 : decode cX11_brightness 12 = .ok (.getfield 186, 3) := by decide +kernel
theorem dX11_brightness_15 : decode cX11_brightness 15 = .ok (.iload_n 1, 1) := by decide +kernel
theorem dX11_brightness_16 : decode cX11_brightness 16 = .ok (.iaload, 1) := by decide +kernel
theorem dX11_brightness_17 : decode cX11_brightness 17 = .ok (.ireturn, 1) := by decide +kernel
theorem dX11_hasAdmitted_0 : decode cX11_hasAdmitted 0 = .ok (.aload_n 0, 1) := by decide +kernel
theorem dX11_hasAdmitted_1 : decode cX11_hasAdmitted 1 = .ok (.iload_n 1, 1) := by decide +kernel
theorem dX11_hasAdmitted_2 : decode cX11_hasAdmitted 2 = .ok (.invokevirtual 93, 3) := by decide +kernel
theorem dX11_hasAdmitted_5 : decode cX11_hasAdmitted 5 = .ok (.aload_n 0, 1) := by decide +kernel
theorem dX11_hasAdmitted_6 : decode cX11_hasAdmitted 6 = .ok (.getfield 10, 3) := by decide +kernel
theorem dX11_hasAdmitted_9 : decode cX11_hasAdmitted 9 = .ok (.getfield 68, 3) := by decide +kernel
theorem dX11_hasAdmitted_12 : decode cX11_hasAdmitted 12 = .ok (.iload_n 1, 1) := by decide +kernel
theorem dX11_hasAdmitted_13 : decode cX11_hasAdmitted 13 = .ok (.iload_n 2, 1) := by decide +kernel
theorem dX11_hasAdmitted_14 : decode cX11_hasAdmitted 14 = .ok (.invokevirtual 146, 3) := by decide +kernel
theorem dX11_hasAdmitted_17 : decode cX11_hasAdmitted 17 = .ok (.ireturn, 1) := by decide +kernel
theorem dX11_sentenceCount_0 : decode cX11_sentenceCount 0 = .ok (.aload_n 0, 1) := by decide +kernel
theorem dX11_sentenceCount_1 : decode cX11_sentenceCount 1 = .ok (.iload_n 1, 1) := by decide +kernel
theorem dX11_sentenceCount_2 : decode cX11_sentenceCount 2 = .ok (.invokevirtual 93, 3) := by decide +kernel
theorem dX11_sentenceCount_5 : decode cX11_sentenceCount 5 = .ok (.aload_n 0, 1) := by decide +kernel
theorem dX11_sentenceCount_6 : decode cX11_sentenceCount 6 = .ok (.getfield 10, 3) := by decide +kernel
theorem dX11_sentenceCount_9 : decode cX11_sentenceCount 9 = .ok (.getfield 68, 3) := by decide +kernel
theorem dX11_sentenceCount_12 : decode cX11_sentenceCount 12 = .ok (.getfield 189, 3) := by decide +kernel
theorem dX11_sentenceCount_15 : decode cX11_sentenceCount 15 = .ok (.iload_n 1, 1) := by decide +kernel
theorem dX11_sentenceCount_16 : decode cX11_sentenceCount 16 = .ok (.iaload, 1) := by decide +kernel
theorem dX11_sentenceCount_17 : decode cX11_sentenceCount 17 = .ok (.ireturn, 1) := by decide +kernel
theorem dX11_daysLeft_0 : decode cX11_daysLeft 0 = .ok (.aload_n 0, 1) := by decide +kernel
theorem dX11_daysLeft_1 : decode cX11_daysLeft 1 = .ok (.iload_n 1, 1) := by decide +kernel
theorem dX11_daysLeft_2 : decode cX11_daysLeft 2 = .ok (.invokevirtual 174, 3) := by decide +kernel
theorem dX11_daysLeft_5 : decode cX11_daysLeft 5 = .ok (.aload_n 0, 1) := by decide +kernel
theorem dX11_daysLeft_6 : decode cX11_daysLeft 6 = .ok (.getfield 10, 3) := by decide +kernel
theorem dX11_daysLeft_9 : decode cX11_daysLeft 9 = .ok (.getfield 68, 3) := by decide +kernel
theorem dX11_daysLeft_12 : decode cX11_daysLeft 12 = .ok (.getfield 192, 3) := by decide +kernel
theorem dX11_daysLeft_15 : decode cX11_daysLeft 15 = .ok (.iload_n 1, 1) := by decide +kernel
theorem dX11_daysLeft_16 : decode cX11_daysLeft 16 = .ok (.aaload, 1) := by decide +kernel
theorem dX11_daysLeft_17 : decode cX11_daysLeft 17 = .ok (.iconst 0, 1) := by decide +kernel
theorem dX11_daysLeft_18 : decode cX11_daysLeft 18 = .ok (.iaload, 1) := by decide +kernel
theorem dX11_daysLeft_19 : decode cX11_daysLeft 19 = .ok (.ireturn, 1) := by decide +kernel
theorem dX11_daysUntilFree_0 : decode cX11_daysUntilFree 0 = .ok (.aload_n 0, 1) := by decide +kernel
theorem dX11_daysUntilFree_1 : decode cX11_daysUntilFree 1 = .ok (.iload_n 1, 1) := by decide +kernel
theorem dX11_daysUntilFree_2 : decode cX11_daysUntilFree 2 = .ok (.invokevirtual 93, 3) := by decide +kernel
theorem dX11_daysUntilFree_5 : decode cX11_daysUntilFree 5 = .ok (.aload_n 0, 1) := by decide +kernel
theorem dX11_daysUntilFree_6 : decode cX11_daysUntilFree 6 = .ok (.getfield 10, 3) := by decide +kernel
theorem dX11_daysUntilFree_9 : decode cX11_daysUntilFree 9 = .ok (.getfield 68, 3) := by decide +kernel
theorem dX11_daysUntilFree_12 : decode cX11_daysUntilFree 12 = .ok (.iload_n 1, 1) := by decide +kernel
theorem dX11_daysUntilFree_13 : decode cX11_daysUntilFree 13 = .ok (.invokevirtual 196, 3) := by decide +kernel
theorem dX11_daysUntilFree_16 : decode cX11_daysUntilFree 16 = .ok (.ireturn, 1) := by decide +kernel
theorem dX11_lanternByBrightness_0 : decode cX11_lanternByBrightness 0 = .ok (.aload_n 0, 1) := by decide +kernel
theorem dX11_lanternByBrightness_1 : decode cX11_lanternByBrightness 1 = .ok (.getfield 10, 3) := by decide +kernel
theorem dX11_lanternByBrightness_4 : decode cX11_lanternByBrightness 4 = .ok (.getfield 68, 3) := by decide +kernel
theorem dX11_lanternByBrightness_7 : decode cX11_lanternByBrightness 7 = .ok (.iload_n 1, 1) := by decide +kernel
theorem dX11_lanternByBrightness_8 : decode cX11_lanternByBrightness 8 = .ok (.invokevirtual 199, 3) := by decide +kernel
theorem dX11_lanternByBrightness_11 : decode cX11_lanternByBrightness 11 = .ok (.ifCond .ne 13, 3) := by decide +kernel
theorem dX11_lanternByBrightness_14 : decode cX11_lanternByBrightness 14 = .ok (.new 160, 3) := by decide +kernel
theorem dX11_lanternByBrightness_17 : decode cX11_lanternByBrightness 17 = .ok (.dup, 1) := by decide +kernel
theorem dX11_lanternByBrightness_18 : decode cX11_lanternByBrightness 18 = .ok (.ldc 202, 2) := by decide +kernel
theorem dX11_lanternByBrightness_20 : decode cX11_lanternByBrightness 20 = .ok (.invokespecial 164, 3) := by decide +kernel
theorem dX11_lanternByBrightness_23 : decode cX11_lanternByBrightness 23 = .ok (.athrow, 1) := by decide +kernel
theorem dX11_lanternByBrightness_24 : decode cX11_lanternByBrightness 24 = .ok (.aload_n 0, 1) := by decide +kernel
theorem dX11_lanternByBrightness_25 : decode cX11_lanternByBrightness 25 = .ok (.getfield 10, 3) := by decide +kernel
theorem dX11_lanternByBrightness_28 : decode cX11_lanternByBrightness 28 = .ok (.getfield 68, 3) := by decide +kernel
theorem dX11_lanternByBrightness_31 : decode cX11_lanternByBrightness 31 = .ok (.iload_n 1, 1) := by decide +kernel
theorem dX11_lanternByBrightness_32 : decode cX11_lanternByBrightness 32 = .ok (.invokevirtual 204, 3) := by decide +kernel
theorem dX11_lanternByBrightness_35 : decode cX11_lanternByBrightness 35 = .ok (.ireturn, 1) := by decide +kernel
theorem dX11_meanBrightness_0 : decode cX11_meanBrightness 0 = .ok (.aload_n 0, 1) := by decide +kernel
theorem dX11_meanBrightness_1 : decode cX11_meanBrightness 1 = .ok (.getfield 10, 3) := by decide +kernel
theorem dX11_meanBrightness_4 : decode cX11_meanBrightness 4 = .ok (.getfield 68, 3) := by decide +kernel
theorem dX11_meanBrightness_7 : decode cX11_meanBrightness 7 = .ok (.getfield 183, 3) := by decide +kernel
theorem dX11_meanBrightness_10 : decode cX11_meanBrightness 10 = .ok (.ifCond .ne 13, 3) := by decide +kernel
theorem dX11_meanBrightness_13 : decode cX11_meanBrightness 13 = .ok (.new 207, 3) := by decide +kernel
theorem dX11_meanBrightness_16 : decode cX11_meanBrightness 16 = .ok (.dup, 1) := by decide +kernel
theorem dX11_meanBrightness_17 : decode cX11_meanBrightness 17 = .ok (.ldc 209, 2) := by decide +kernel
theorem dX11_meanBrightness_19 : decode cX11_meanBrightness 19 = .ok (.invokespecial 211, 3) := by decide +kernel
theorem dX11_meanBrightness_22 : decode cX11_meanBrightness 22 = .ok (.athrow, 1) := by decide +kernel
theorem dX11_meanBrightness_23 : decode cX11_meanBrightness 23 = .ok (.aload_n 0, 1) := by decide +kernel
theorem dX11_meanBrightness_24 : decode cX11_meanBrightness 24 = .ok (.getfield 10, 3) := by decide +kernel
theorem dX11_meanBrightness_27 : decode cX11_meanBrightness 27 = .ok (.getfield 68, 3) := by decide +kernel
theorem dX11_meanBrightness_30 : decode cX11_meanBrightness 30 = .ok (.invokevirtual 212, 3) := by decide +kernel
theorem dX11_meanBrightness_33 : decode cX11_meanBrightness 33 = .ok (.i2d, 1) := by decide +kernel
theorem dX11_meanBrightness_34 : decode cX11_meanBrightness 34 = .ok (.aload_n 0, 1) := by decide +kernel
theorem dX11_meanBrightness_35 : decode cX11_meanBrightness 35 = .ok (.getfield 10, 3) := by decide +kernel
theorem dX11_meanBrightness_38 : decode cX11_meanBrightness 38 = .ok (.getfield 68, 3) := by decide +kernel
theorem dX11_meanBrightness_41 : decode cX11_meanBrightness 41 = .ok (.getfield 183, 3) := by decide +kernel
theorem dX11_meanBrightness_44 : decode cX11_meanBrightness 44 = .ok (.i2d, 1) := by decide +kernel
theorem dX11_meanBrightness_45 : decode cX11_meanBrightness 45 = .ok (.ddiv, 1) := by decide +kernel
theorem dX11_meanBrightness_46 : decode cX11_meanBrightness 46 = .ok (.dreturn, 1) := by decide +kernel
theorem dX11_briefCount_0 : decode cX11_briefCount 0 = .ok (.aload_n 0, 1) := by decide +kernel
theorem dX11_briefCount_1 : decode cX11_briefCount 1 = .ok (.getfield 10, 3) := by decide +kernel
theorem dX11_briefCount_4 : decode cX11_briefCount 4 = .ok (.getfield 108, 3) := by decide +kernel
theorem dX11_briefCount_7 : decode cX11_briefCount 7 = .ok (.getfield 215, 3) := by decide +kernel
theorem dX11_briefCount_10 : decode cX11_briefCount 10 = .ok (.ireturn, 1) := by decide +kernel
theorem dX11_briefAt_0 : decode cX11_briefAt 0 = .ok (.iload_n 1, 1) := by decide +kernel
theorem dX11_briefAt_1 : decode cX11_briefAt 1 = .ok (.ifCond .lt 17, 3) := by decide +kernel
theorem dX11_briefAt_4 : decode cX11_briefAt 4 = .ok (.iload_n 1, 1) := by decide +kernel
theorem dX11_briefAt_5 : decode cX11_briefAt 5 = .ok (.aload_n 0, 1) := by decide +kernel
theorem dX11_briefAt_6 : decode cX11_briefAt 6 = .ok (.getfield 10, 3) := by decide +kernel
theorem dX11_briefAt_9 : decode cX11_briefAt 9 = .ok (.getfield 108, 3) := by decide +kernel
theorem dX11_briefAt_12 : decode cX11_briefAt 12 = .ok (.getfield 215, 3) := by decide +kernel
theorem dX11_briefAt_15 : decode cX11_briefAt 15 = .ok (.if_icmp .lt 13, 3) := by decide +kernel
theorem dX11_briefAt_18 : decode cX11_briefAt 18 = .ok (.new 160, 3) := by decide +kernel
theorem dX11_briefAt_21 : decode cX11_briefAt 21 = .ok (.dup, 1) := by decide +kernel
theorem dX11_briefAt_22 : decode cX11_briefAt 22 = .ok (.ldc 216, 2) := by decide +kernel
theorem dX11_briefAt_24 : decode cX11_briefAt 24 = .ok (.invokespecial 164, 3) := by decide +kernel
theorem dX11_briefAt_27 : decode cX11_briefAt 27 = .ok (.athrow, 1) := by decide +kernel
theorem dX11_briefAt_28 : decode cX11_briefAt 28 = .ok (.aload_n 0, 1) := by decide +kernel
theorem dX11_briefAt_29 : decode cX11_briefAt 29 = .ok (.getfield 10, 3) := by decide +kernel
theorem dX11_briefAt_32 : decode cX11_briefAt 32 = .ok (.getfield 108, 3) := by decide +kernel
theorem dX11_briefAt_35 : decode cX11_briefAt 35 = .ok (.getfield 218, 3) := by decide +kernel
theorem dX11_briefAt_38 : decode cX11_briefAt 38 = .ok (.iload_n 1, 1) := by decide +kernel
theorem dX11_briefAt_39 : decode cX11_briefAt 39 = .ok (.iaload, 1) := by decide +kernel
theorem dX11_briefAt_40 : decode cX11_briefAt 40 = .ok (.ireturn, 1) := by decide +kernel
theorem dX11_lanternOf_0 : decode cX11_lanternOf 0 = .ok (.aload_n 0, 1) := by decide +kernel
theorem dX11_lanternOf_1 : decode cX11_lanternOf 1 = .ok (.getfield 10, 3) := by decide +kernel
theorem dX11_lanternOf_4 : decode cX11_lanternOf 4 = .ok (.getfield 108, 3) := by decide +kernel
theorem dX11_lanternOf_7 : decode cX11_lanternOf 7 = .ok (.getfield 221, 3) := by decide +kernel
theorem dX11_lanternOf_10 : decode cX11_lanternOf 10 = .ok (.aload_n 0, 1) := by decide +kernel
theorem dX11_lanternOf_11 : decode cX11_lanternOf 11 = .ok (.iload_n 1, 1) := by decide +kernel
theorem dX11_lanternOf_12 : decode cX11_lanternOf 12 = .ok (.invokevirtual 119, 3) := by decide +kernel
theorem dX11_lanternOf_15 : decode cX11_lanternOf 15 = .ok (.iaload, 1) := by decide +kernel
theorem dX11_lanternOf_16 : decode cX11_lanternOf 16 = .ok (.ireturn, 1) := by decide +kernel
theorem dX11_lastDay_0 : decode cX11_lastDay 0 = .ok (.aload_n 0, 1) := by decide +kernel
theorem dX11_lastDay_1 : decode cX11_lastDay 1 = .ok (.getfield 10, 3) := by decide +kernel
theorem dX11_lastDay_4 : decode cX11_lastDay 4 = .ok (.getfield 108, 3) := by decide +kernel
theorem dX11_lastDay_7 : decode cX11_lastDay 7 = .ok (.getfield 223, 3) := by decide +kernel
theorem dX11_lastDay_10 : decode cX11_lastDay 10 = .ok (.aload_n 0, 1) := by decide +kernel
theorem dX11_lastDay_11 : decode cX11_lastDay 11 = .ok (.iload_n 1, 1) := by decide +kernel
theorem dX11_lastDay_12 : decode cX11_lastDay 12 = .ok (.invokevirtual 119, 3) := by decide +kernel
theorem dX11_lastDay_15 : decode cX11_lastDay 15 = .ok (.iaload, 1) := by decide +kernel
theorem dX11_lastDay_16 : decode cX11_lastDay 16 = .ok (.ireturn, 1) := by decide +kernel
theorem dX11_fee_0 : decode cX11_fee 0 = .ok (.aload_n 0, 1) := by decide +kernel
theorem dX11_fee_1 : decode cX11_fee 1 = .ok (.getfield 10, 3) := by decide +kernel
theorem dX11_fee_4 : decode cX11_fee 4 = .ok (.getfield 108, 3) := by decide +kernel
theorem dX11_fee_7 : decode cX11_fee 7 = .ok (.getfield 226, 3) := by decide +kernel
theorem dX11_fee_10 : decode cX11_fee 10 = .ok (.aload_n 0, 1) := by decide +kernel
theorem dX11_fee_11 : decode cX11_fee 11 = .ok (.iload_n 1, 1) := by decide +kernel
theorem dX11_fee_12 : decode cX11_fee 12 = .ok (.invokevirtual 119, 3) := by decide +kernel
theorem dX11_fee_15 : decode cX11_fee 15 = .ok (.iaload, 1) := by decide +kernel
theorem dX11_fee_16 : decode cX11_fee 16 = .ok (.ireturn, 1) := by decide +kernel
theorem dX11_severity_0 : decode cX11_severity 0 = .ok (.aload_n 0, 1) := by decide +kernel
theorem dX11_severity_1 : decode cX11_severity 1 = .ok (.getfield 10, 3) := by decide +kernel
theorem dX11_severity_4 : decode cX11_severity 4 = .ok (.getfield 108, 3) := by decide +kernel
theorem dX11_severity_7 : decode cX11_severity 7 = .ok (.getfield 229, 3) := by decide +kernel
theorem dX11_severity_10 : decode cX11_severity 10 = .ok (.aload_n 0, 1) := by decide +kernel
theorem dX11_severity_11 : decode cX11_severity 11 = .ok (.iload_n 1, 1) := by decide +kernel
theorem dX11_severity_12 : decode cX11_severity 12 = .ok (.invokevirtual 119, 3) := by decide +kernel
theorem dX11_severity_15 : decode cX11_severity 15 = .ok (.iaload, 1) := by decide +kernel
theorem dX11_severity_16 : decode cX11_severity 16 = .ok (.ireturn, 1) := by decide +kernel
theorem dX11_isInPlan_0 : decode cX11_isInPlan 0 = .ok (.aload_n 0, 1) := by decide +kernel
theorem dX11_isInPlan_1 : decode cX11_isInPlan 1 = .ok (.iload_n 1, 1) := by decide +kernel
theorem dX11_isInPlan_2 : decode cX11_isInPlan 2 = .ok (.invokevirtual 119, 3) := by decide +kernel
theorem dX11_isInPlan_5 : decode cX11_isInPlan 5 = .ok (.istore_n 2, 1) := by decide +kernel
theorem dX11_isInPlan_6 : decode cX11_isInPlan 6 = .ok (.aload_n 0, 1) := by decide +kernel
theorem dX11_isInPlan_7 : decode cX11_isInPlan 7 = .ok (.getfield 29, 3) := by decide +kernel
theorem dX11_isInPlan_10 : decode cX11_isInPlan 10 = .ok (.aload_n 0, 1) := by decide +kernel
theorem dX11_isInPlan_11 : decode cX11_isInPlan 11 = .ok (.getfield 10, 3) := by decide +kernel
theorem dX11_isInPlan_14 : decode cX11_isInPlan 14 = .ok (.getfield 108, 3) := by decide +kernel
theorem dX11_isInPlan_17 : decode cX11_isInPlan 17 = .ok (.aload_n 0, 1) := by decide +kernel
theorem dX11_isInPlan_18 : decode cX11_isInPlan 18 = .ok (.getfield 10, 3) := by decide +kernel
theorem dX11_isInPlan_21 : decode cX11_isInPlan 21 = .ok (.getfield 180, 3) := by decide +kernel
theorem dX11_isInPlan_24 : decode cX11_isInPlan 24 = .ok (.invokevirtual 232, 3) := by decide +kernel
theorem dX11_isInPlan_27 : decode cX11_isInPlan 27 = .ok (.aload_n 0, 1) := by decide +kernel
theorem dX11_isInPlan_28 : decode cX11_isInPlan 28 = .ok (.getfield 29, 3) := by decide +kernel
theorem dX11_isInPlan_31 : decode cX11_isInPlan 31 = .ok (.iload_n 2, 1) := by decide +kernel
theorem dX11_isInPlan_32 : decode cX11_isInPlan 32 = .ok (.invokevirtual 236, 3) := by decide +kernel
theorem dX11_isInPlan_35 : decode cX11_isInPlan 35 = .ok (.iconst (-1), 1) := by decide +kernel
theorem dX11_isInPlan_36 : decode cX11_isInPlan 36 = .ok (.if_icmp .eq 7, 3) := by decide +kernel
theorem dX11_isInPlan_39 : decode cX11_isInPlan 39 = .ok (.iconst 1, 1) := by decide +kernel
theorem dX11_isInPlan_40 : decode cX11_isInPlan 40 = .ok (.goto 4, 3) := by decide +kernel
theorem dX11_isInPlan_43 : decode cX11_isInPlan 43 = .ok (.iconst 0, 1) := by decide +kernel
theorem dX11_isInPlan_44 : decode cX11_isInPlan 44 = .ok (.ireturn, 1) := by decide +kernel
theorem dX11_hearingDay_0 : decode cX11_hearingDay 0 = .ok (.aload_n 0, 1) := by decide +kernel
theorem dX11_hearingDay_1 : decode cX11_hearingDay 1 = .ok (.iload_n 1, 1) := by decide +kernel
theorem dX11_hearingDay_2 : decode cX11_hearingDay 2 = .ok (.invokevirtual 119, 3) := by decide +kernel
theorem dX11_hearingDay_5 : decode cX11_hearingDay 5 = .ok (.istore_n 2, 1) := by decide +kernel
theorem dX11_hearingDay_6 : decode cX11_hearingDay 6 = .ok (.aload_n 0, 1) := by decide +kernel
theorem dX11_hearingDay_7 : decode cX11_hearingDay 7 = .ok (.getfield 29, 3) := by decide +kernel
theorem dX11_hearingDay_10 : decode cX11_hearingDay 10 = .ok (.aload_n 0, 1) := by decide +kernel
theorem dX11_hearingDay_11 : decode cX11_hearingDay 11 = .ok (.getfield 10, 3) := by decide +kernel
theorem dX11_hearingDay_14 : decode cX11_hearingDay 14 = .ok (.getfield 108, 3) := by decide +kernel
theorem dX11_hearingDay_17 : decode cX11_hearingDay 17 = .ok (.aload_n 0, 1) := by decide +kernel
theorem dX11_hearingDay_18 : decode cX11_hearingDay 18 = .ok (.getfield 10, 3) := by decide +kernel
theorem dX11_hearingDay_21 : decode cX11_hearingDay 21 = .ok (.getfield 180, 3) := by decide +kernel
theorem dX11_hearingDay_24 : decode cX11_hearingDay 24 = .ok (.invokevirtual 232, 3) := by decide +kernel
theorem dX11_hearingDay_27 : decode cX11_hearingDay 27 = .ok (.aload_n 0, 1) := by decide +kernel
theorem dX11_hearingDay_28 : decode cX11_hearingDay 28 = .ok (.getfield 29, 3) := by decide +kernel
theorem dX11_hearingDay_31 : decode cX11_hearingDay 31 = .ok (.iload_n 2, 1) := by decide +kernel
theorem dX11_hearingDay_32 : decode cX11_hearingDay 32 = .ok (.invokevirtual 236, 3) := by decide +kernel
theorem dX11_hearingDay_35 : decode cX11_hearingDay 35 = .ok (.istore_n 3, 1) := by decide +kernel
theorem dX11_hearingDay_36 : decode cX11_hearingDay 36 = .ok (.iload_n 3, 1) := by decide +kernel
theorem dX11_hearingDay_37 : decode cX11_hearingDay 37 = .ok (.iconst (-1), 1) := by decide +kernel
theorem dX11_hearingDay_38 : decode cX11_hearingDay 38 = .ok (.if_icmp .ne 13, 3) := by decide +kernel
theorem dX11_hearingDay_41 : decode cX11_hearingDay 41 = .ok (.new 160, 3) := by decide +kernel
theorem dX11_hearingDay_44 : decode cX11_hearingDay 44 = .ok (.dup, 1) := by decide +kernel
theorem dX11_hearingDay_45 : decode cX11_hearingDay 45 = .ok (.ldc 239, 2) := by decide +kernel
theorem dX11_hearingDay_47 : decode cX11_hearingDay 47 = .ok (.invokespecial 164, 3) := by decide +kernel
theorem dX11_hearingDay_50 : decode cX11_hearingDay 50 = .ok (.athrow, 1) := by decide +kernel
theorem dX11_hearingDay_51 : decode cX11_hearingDay 51 = .ok (.aload_n 0, 1) := by decide +kernel
theorem dX11_hearingDay_52 : decode cX11_hearingDay 52 = .ok (.getfield 10, 3) := by decide +kernel
theorem dX11_hearingDay_55 : decode cX11_hearingDay 55 = .ok (.getfield 180, 3) := by decide +kernel
theorem dX11_hearingDay_58 : decode cX11_hearingDay 58 = .ok (.iconst 1, 1) := by decide +kernel
theorem dX11_hearingDay_59 : decode cX11_hearingDay 59 = .ok (.iadd, 1) := by decide +kernel
theorem dX11_hearingDay_60 : decode cX11_hearingDay 60 = .ok (.iload_n 3, 1) := by decide +kernel
theorem dX11_hearingDay_61 : decode cX11_hearingDay 61 = .ok (.iadd, 1) := by decide +kernel
theorem dX11_hearingDay_62 : decode cX11_hearingDay 62 = .ok (.ireturn, 1) := by decide +kernel
theorem dX11_planFee_0 : decode cX11_planFee 0 = .ok (.aload_n 0, 1) := by decide +kernel
theorem dX11_planFee_1 : decode cX11_planFee 1 = .ok (.getfield 29, 3) := by decide +kernel
theorem dX11_planFee_4 : decode cX11_planFee 4 = .ok (.aload_n 0, 1) := by decide +kernel
theorem dX11_planFee_5 : decode cX11_planFee 5 = .ok (.getfield 10, 3) := by decide +kernel
theorem dX11_planFee_8 : decode cX11_planFee 8 = .ok (.getfield 108, 3) := by decide +kernel
theorem dX11_planFee_11 : decode cX11_planFee 11 = .ok (.aload_n 0, 1) := by decide +kernel
theorem dX11_planFee_12 : decode cX11_planFee 12 = .ok (.getfield 10, 3) := by decide +kernel
theorem dX11_planFee_15 : decode cX11_planFee 15 = .ok (.getfield 180, 3) := by decide +kernel
theorem dX11_planFee_18 : decode cX11_planFee 18 = .ok (.invokevirtual 232, 3) := by decide +kernel
theorem dX11_planFee_21 : decode cX11_planFee 21 = .ok (.aload_n 0, 1) := by decide +kernel
theorem dX11_planFee_22 : decode cX11_planFee 22 = .ok (.getfield 10, 3) := by decide +kernel
theorem dX11_planFee_25 : decode cX11_planFee 25 = .ok (.getfield 108, 3) := by decide +kernel
theorem dX11_planFee_28 : decode cX11_planFee 28 = .ok (.aload_n 0, 1) := by decide +kernel
theorem dX11_planFee_29 : decode cX11_planFee 29 = .ok (.getfield 29, 3) := by decide +kernel
theorem dX11_planFee_32 : decode cX11_planFee 32 = .ok (.getfield 241, 3) := by decide +kernel
theorem dX11_planFee_35 : decode cX11_planFee 35 = .ok (.invokevirtual 244, 3) := by decide +kernel
theorem dX11_planFee_38 : decode cX11_planFee 38 = .ok (.ireturn, 1) := by decide +kernel
theorem dX11_planFeeBySets_0 : decode cX11_planFeeBySets 0 = .ok (.aload_n 0, 1) := by decide +kernel
theorem dX11_planFeeBySets_1 : decode cX11_planFeeBySets 1 = .ok (.getfield 29, 3) := by decide +kernel
theorem dX11_planFeeBySets_4 : decode cX11_planFeeBySets 4 = .ok (.aload_n 0, 1) := by decide +kernel
theorem dX11_planFeeBySets_5 : decode cX11_planFeeBySets 5 = .ok (.getfield 10, 3) := by decide +kernel
theorem dX11_planFeeBySets_8 : decode cX11_planFeeBySets 8 = .ok (.getfield 108, 3) := by decide +kernel
theorem dX11_planFeeBySets_11 : decode cX11_planFeeBySets 11 = .ok (.aload_n 0, 1) := by decide +kernel
theorem dX11_planFeeBySets_12 : decode cX11_planFeeBySets 12 = .ok (.getfield 10, 3) := by decide +kernel
theorem dX11_planFeeBySets_15 : decode cX11_planFeeBySets 15 = .ok (.getfield 180, 3) := by decide +kernel
theorem dX11_planFeeBySets_18 : decode cX11_planFeeBySets 18 = .ok (.invokevirtual 247, 3) := by decide +kernel
theorem dX11_planFeeBySets_21 : decode cX11_planFeeBySets 21 = .ok (.ireturn, 1) := by decide +kernel
theorem dX11_statementCount_0 : decode cX11_statementCount 0 = .ok (.aload_n 0, 1) := by decide +kernel
theorem dX11_statementCount_1 : decode cX11_statementCount 1 = .ok (.getfield 10, 3) := by decide +kernel
theorem dX11_statementCount_4 : decode cX11_statementCount 4 = .ok (.getfield 128, 3) := by decide +kernel
theorem dX11_statementCount_7 : decode cX11_statementCount 7 = .ok (.getfield 251, 3) := by decide +kernel
theorem dX11_statementCount_10 : decode cX11_statementCount 10 = .ok (.ireturn, 1) := by decide +kernel
theorem dX11_firstOf_0 : decode cX11_firstOf 0 = .ok (.aload_n 0, 1) := by decide +kernel
theorem dX11_firstOf_1 : decode cX11_firstOf 1 = .ok (.iload_n 1, 1) := by decide +kernel
theorem dX11_firstOf_2 : decode cX11_firstOf 2 = .ok (.invokevirtual 140, 3) := by decide +kernel
theorem dX11_firstOf_5 : decode cX11_firstOf 5 = .ok (.aload_n 0, 1) := by decide +kernel
theorem dX11_firstOf_6 : decode cX11_firstOf 6 = .ok (.getfield 10, 3) := by decide +kernel
theorem dX11_firstOf_9 : decode cX11_firstOf 9 = .ok (.getfield 128, 3) := by decide +kernel
theorem dX11_firstOf_12 : decode cX11_firstOf 12 = .ok (.getfield 252, 3) := by decide +kernel
theorem dX11_firstOf_15 : decode cX11_firstOf 15 = .ok (.iload_n 1, 1) := by decide +kernel
theorem dX11_firstOf_16 : decode cX11_firstOf 16 = .ok (.iaload, 1) := by decide +kernel
theorem dX11_firstOf_17 : decode cX11_firstOf 17 = .ok (.ireturn, 1) := by decide +kernel
theorem dX11_secondOf_0 : decode cX11_secondOf 0 = .ok (.aload_n 0, 1) := by decide +kernel
theorem dX11_secondOf_1 : decode cX11_secondOf 1 = .ok (.iload_n 1, 1) := by decide +kernel
theorem dX11_secondOf_2 : decode cX11_secondOf 2 = .ok (.invokevirtual 140, 3) := by decide +kernel
theorem dX11_secondOf_5 : decode cX11_secondOf 5 = .ok (.aload_n 0, 1) := by decide +kernel
theorem dX11_secondOf_6 : decode cX11_secondOf 6 = .ok (.getfield 10, 3) := by decide +kernel
theorem dX11_secondOf_9 : decode cX11_secondOf 9 = .ok (.getfield 128, 3) := by decide +kernel
theorem dX11_secondOf_12 : decode cX11_secondOf 12 = .ok (.getfield 255, 3) := by decide +kernel
theorem dX11_secondOf_15 : decode cX11_secondOf 15 = .ok (.iload_n 1, 1) := by decide +kernel
theorem dX11_secondOf_16 : decode cX11_secondOf 16 = .ok (.iaload, 1) := by decide +kernel
theorem dX11_secondOf_17 : decode cX11_secondOf 17 = .ok (.ireturn, 1) := by decide +kernel
theorem dX11_isTogether_0 : decode cX11_isTogether 0 = .ok (.aload_n 0, 1) := by decide +kernel
theorem dX11_isTogether_1 : decode cX11_isTogether 1 = .ok (.iload_n 1, 1) := by decide +kernel
theorem dX11_isTogether_2 : decode cX11_isTogether 2 = .ok (.invokevirtual 140, 3) := by decide +kernel
theorem dX11_isTogether_5 : decode cX11_isTogether 5 = .ok (.aload_n 0, 1) := by decide +kernel
theorem dX11_isTogether_6 : decode cX11_isTogether 6 = .ok (.getfield 10, 3) := by decide +kernel
theorem dX11_isTogether_9 : decode cX11_isTogether 9 = .ok (.getfield 128, 3) := by decide +kernel
theorem dX11_isTogether_12 : decode cX11_isTogether 12 = .ok (.getfield 258, 3) := by decide +kernel
theorem dX11_isTogether_15 : decode cX11_isTogether 15 = .ok (.iload_n 1, 1) := by decide +kernel
theorem dX11_isTogether_16 : decode cX11_isTogether 16 = .ok (.baload, 1) := by decide +kernel
theorem dX11_isTogether_17 : decode cX11_isTogether 17 = .ok (.ireturn, 1) := by decide +kernel
theorem dX11_groupCount_0 : decode cX11_groupCount 0 = .ok (.aload_n 0, 1) := by decide +kernel
theorem dX11_groupCount_1 : decode cX11_groupCount 1 = .ok (.getfield 36, 3) := by decide +kernel
theorem dX11_groupCount_4 : decode cX11_groupCount 4 = .ok (.aload_n 0, 1) := by decide +kernel
theorem dX11_groupCount_5 : decode cX11_groupCount 5 = .ok (.getfield 10, 3) := by decide +kernel
theorem dX11_groupCount_8 : decode cX11_groupCount 8 = .ok (.getfield 68, 3) := by decide +kernel
theorem dX11_groupCount_11 : decode cX11_groupCount 11 = .ok (.aload_n 0, 1) := by decide +kernel
theorem dX11_groupCount_12 : decode cX11_groupCount 12 = .ok (.getfield 10, 3) := by decide +kernel
theorem dX11_groupCount_15 : decode cX11_groupCount 15 = .ok (.getfield 128, 3) := by decide +kernel
theorem dX11_groupCount_18 : decode cX11_groupCount 18 = .ok (.iconst (-1), 1) := by decide +kernel
theorem dX11_groupCount_19 : decode cX11_groupCount 19 = .ok (.invokevirtual 262, 3) := by decide +kernel
theorem dX11_groupCount_22 : decode cX11_groupCount 22 = .ok (.aload_n 0, 1) := by decide +kernel
theorem dX11_groupCount_23 : decode cX11_groupCount 23 = .ok (.getfield 36, 3) := by decide +kernel
theorem dX11_groupCount_26 : decode cX11_groupCount 26 = .ok (.invokevirtual 266, 3) := by decide +kernel
theorem dX11_groupCount_29 : decode cX11_groupCount 29 = .ok (.ireturn, 1) := by decide +kernel
theorem dX11_isContradictory_0 : decode cX11_isContradictory 0 = .ok (.aload_n 0, 1) := by decide +kernel
theorem dX11_isContradictory_1 : decode cX11_isContradictory 1 = .ok (.iload_n 1, 1) := by decide +kernel
theorem dX11_isContradictory_2 : decode cX11_isContradictory 2 = .ok (.invokevirtual 93, 3) := by decide +kernel
theorem dX11_isContradictory_5 : decode cX11_isContradictory 5 = .ok (.aload_n 0, 1) := by decide +kernel
theorem dX11_isContradictory_6 : decode cX11_isContradictory 6 = .ok (.getfield 36, 3) := by decide +kernel
theorem dX11_isContradictory_9 : decode cX11_isContradictory 9 = .ok (.aload_n 0, 1) := by decide +kernel
theorem dX11_isContradictory_10 : decode cX11_isContradictory 10 = .ok (.getfield 10, 3) := by decide +kernel
theorem dX11_isContradictory_13 : decode cX11_isContradictory 13 = .ok (.getfield 68, 3) := by decide +kernel
theorem dX11_isContradictory_16 : decode cX11_isContradictory 16 = .ok (.aload_n 0, 1) := by decide +kernel
theorem dX11_isContradictory_17 : decode cX11_isContradictory 17 = .ok (.getfield 10, 3) := by decide +kernel
theorem dX11_isContradictory_20 : decode cX11_isContradictory 20 = .ok (.getfield 128, 3) := by decide +kernel
theorem dX11_isContradictory_23 : decode cX11_isContradictory 23 = .ok (.iconst (-1), 1) := by decide +kernel
theorem dX11_isContradictory_24 : decode cX11_isContradictory 24 = .ok (.invokevirtual 262, 3) := by decide +kernel
theorem dX11_isContradictory_27 : decode cX11_isContradictory 27 = .ok (.aload_n 0, 1) := by decide +kernel
theorem dX11_isContradictory_28 : decode cX11_isContradictory 28 = .ok (.getfield 36, 3) := by decide +kernel
theorem dX11_isContradictory_31 : decode cX11_isContradictory 31 = .ok (.iload_n 1, 1) := by decide +kernel
theorem dX11_isContradictory_32 : decode cX11_isContradictory 32 = .ok (.invokevirtual 269, 3) := by decide +kernel
theorem dX11_isContradictory_35 : decode cX11_isContradictory 35 = .ok (.ireturn, 1) := by decide +kernel
theorem dX11_relation_0 : decode cX11_relation 0 = .ok (.aload_n 0, 1) := by decide +kernel
theorem dX11_relation_1 : decode cX11_relation 1 = .ok (.iload_n 1, 1) := by decide +kernel
theorem dX11_relation_2 : decode cX11_relation 2 = .ok (.invokevirtual 93, 3) := by decide +kernel
theorem dX11_relation_5 : decode cX11_relation 5 = .ok (.aload_n 0, 1) := by decide +kernel
theorem dX11_relation_6 : decode cX11_relation 6 = .ok (.iload_n 2, 1) := by decide +kernel
theorem dX11_relation_7 : decode cX11_relation 7 = .ok (.invokevirtual 93, 3) := by decide +kernel
theorem dX11_relation_10 : decode cX11_relation 10 = .ok (.aload_n 0, 1) := by decide +kernel
theorem dX11_relation_11 : decode cX11_relation 11 = .ok (.getfield 36, 3) := by decide +kernel
theorem dX11_relation_14 : decode cX11_relation 14 = .ok (.aload_n 0, 1) := by decide +kernel
theorem dX11_relation_15 : decode cX11_relation 15 = .ok (.getfield 10, 3) := by decide +kernel
theorem dX11_relation_18 : decode cX11_relation 18 = .ok (.getfield 68, 3) := by decide +kernel
theorem dX11_relation_21 : decode cX11_relation 21 = .ok (.aload_n 0, 1) := by decide +kernel
theorem dX11_relation_22 : decode cX11_relation 22 = .ok (.getfield 10, 3) := by decide +kernel
theorem dX11_relation_25 : decode cX11_relation 25 = .ok (.getfield 128, 3) := by decide +kernel
theorem dX11_relation_28 : decode cX11_relation 28 = .ok (.iconst (-1), 1) := by decide +kernel
theorem dX11_relation_29 : decode cX11_relation 29 = .ok (.invokevirtual 262, 3) := by decide +kernel
theorem dX11_relation_32 : decode cX11_relation 32 = .ok (.aload_n 0, 1) := by decide +kernel
theorem dX11_relation_33 : decode cX11_relation 33 = .ok (.getfield 36, 3) := by decide +kernel
theorem dX11_relation_36 : decode cX11_relation 36 = .ok (.iload_n 1, 1) := by decide +kernel
theorem dX11_relation_37 : decode cX11_relation 37 = .ok (.iload_n 2, 1) := by decide +kernel
theorem dX11_relation_38 : decode cX11_relation 38 = .ok (.invokevirtual 272, 3) := by decide +kernel
theorem dX11_relation_41 : decode cX11_relation 41 = .ok (.ifCond .ne 6, 3) := by decide +kernel
theorem dX11_relation_44 : decode cX11_relation 44 = .ok (.bipush 63, 2) := by decide +kernel
theorem dX11_relation_46 : decode cX11_relation 46 = .ok (.ireturn, 1) := by decide +kernel
theorem dX11_relation_47 : decode cX11_relation 47 = .ok (.aload_n 0, 1) := by decide +kernel
theorem dX11_relation_48 : decode cX11_relation 48 = .ok (.getfield 36, 3) := by decide +kernel
theorem dX11_relation_51 : decode cX11_relation 51 = .ok (.iload_n 1, 1) := by decide +kernel
theorem dX11_relation_52 : decode cX11_relation 52 = .ok (.invokevirtual 276, 3) := by decide +kernel
theorem dX11_relation_55 : decode cX11_relation 55 = .ok (.ifCond .eq 14, 3) := by decide +kernel
theorem dX11_relation_58 : decode cX11_relation 58 = .ok (.new 160, 3) := by decide +kernel
theorem dX11_relation_61 : decode cX11_relation 61 = .ok (.dup, 1) := by decide +kernel
theorem dX11_relation_62 : decode cX11_relation 62 = .ok (.ldc_w 279, 3) := by decide +kernel
theorem dX11_relation_65 : decode cX11_relation 65 = .ok (.invokespecial 164, 3) := by decide +kernel
theorem dX11_relation_68 : decode cX11_relation 68 = .ok (.athrow, 1) := by decide +kernel
theorem dX11_relation_69 : decode cX11_relation 69 = .ok (.aload_n 0, 1) := by decide +kernel
theorem dX11_relation_70 : decode cX11_relation 70 = .ok (.getfield 36, 3) := by decide +kernel
theorem dX11_relation_73 : decode cX11_relation 73 = .ok (.iload_n 1, 1) := by decide +kernel
theorem dX11_relation_74 : decode cX11_relation 74 = .ok (.iload_n 2, 1) := by decide +kernel
theorem dX11_relation_75 : decode cX11_relation 75 = .ok (.invokevirtual 281, 3) := by decide +kernel
theorem dX11_relation_78 : decode cX11_relation 78 = .ok (.ifCond .eq 8, 3) := by decide +kernel
theorem dX11_relation_81 : decode cX11_relation 81 = .ok (.bipush 43, 2) := by decide +kernel
theorem dX11_relation_83 : decode cX11_relation 83 = .ok (.goto 5, 3) := by decide +kernel
theorem dX11_relation_86 : decode cX11_relation 86 = .ok (.bipush 45, 2) := by decide +kernel
theorem dX11_relation_88 : decode cX11_relation 88 = .ok (.ireturn, 1) := by decide +kernel
theorem dX11_verdict_0 : decode cX11_verdict 0 = .ok (.aload_n 0, 1) := by decide +kernel
theorem dX11_verdict_1 : decode cX11_verdict 1 = .ok (.iload_n 1, 1) := by decide +kernel
theorem dX11_verdict_2 : decode cX11_verdict 2 = .ok (.invokevirtual 93, 3) := by decide +kernel
theorem dX11_verdict_5 : decode cX11_verdict 5 = .ok (.aload_n 0, 1) := by decide +kernel
theorem dX11_verdict_6 : decode cX11_verdict 6 = .ok (.getfield 36, 3) := by decide +kernel
theorem dX11_verdict_9 : decode cX11_verdict 9 = .ok (.aload_n 0, 1) := by decide +kernel
theorem dX11_verdict_10 : decode cX11_verdict 10 = .ok (.getfield 10, 3) := by decide +kernel
theorem dX11_verdict_13 : decode cX11_verdict 13 = .ok (.getfield 68, 3) := by decide +kernel
theorem dX11_verdict_16 : decode cX11_verdict 16 = .ok (.aload_n 0, 1) := by decide +kernel
theorem dX11_verdict_17 : decode cX11_verdict 17 = .ok (.getfield 10, 3) := by decide +kernel
theorem dX11_verdict_20 : decode cX11_verdict 20 = .ok (.getfield 128, 3) := by decide +kernel
theorem dX11_verdict_23 : decode cX11_verdict 23 = .ok (.iconst (-1), 1) := by decide +kernel
theorem dX11_verdict_24 : decode cX11_verdict 24 = .ok (.invokevirtual 262, 3) := by decide +kernel
theorem dX11_verdict_27 : decode cX11_verdict 27 = .ok (.aload_n 0, 1) := by decide +kernel
theorem dX11_verdict_28 : decode cX11_verdict 28 = .ok (.getfield 36, 3) := by decide +kernel
theorem dX11_verdict_31 : decode cX11_verdict 31 = .ok (.iload_n 1, 1) := by decide +kernel
theorem dX11_verdict_32 : decode cX11_verdict 32 = .ok (.invokevirtual 284, 3) := by decide +kernel
theorem dX11_verdict_35 : decode cX11_verdict 35 = .ok (.ireturn, 1) := by decide +kernel
theorem dX11_verdictByExplanations_0 : decode cX11_verdictByExplanations 0 = .ok (.aload_n 0, 1) := by decide +kernel
theorem dX11_verdictByExplanations_1 : decode cX11_verdictByExplanations 1 = .ok (.iload_n 1, 1) := by decide +kernel
theorem dX11_verdictByExplanations_2 : decode cX11_verdictByExplanations 2 = .ok (.invokevirtual 93, 3) := by decide +kernel
theorem dX11_verdictByExplanations_5 : decode cX11_verdictByExplanations 5 = .ok (.aload_n 0, 1) := by decide +kernel
theorem dX11_verdictByExplanations_6 : decode cX11_verdictByExplanations 6 = .ok (.getfield 43, 3) := by decide +kernel
theorem dX11_verdictByExplanations_9 : decode cX11_verdictByExplanations 9 = .ok (.iload_n 1, 1) := by decide +kernel
theorem dX11_verdictByExplanations_10 : decode cX11_verdictByExplanations 10 = .ok (.aload_n 0, 1) := by decide +kernel
theorem dX11_verdictByExplanations_11 : decode cX11_verdictByExplanations 11 = .ok (.getfield 10, 3) := by decide +kernel
theorem dX11_verdictByExplanations_14 : decode cX11_verdictByExplanations 14 = .ok (.getfield 68, 3) := by decide +kernel
theorem dX11_verdictByExplanations_17 : decode cX11_verdictByExplanations 17 = .ok (.aload_n 0, 1) := by decide +kernel
theorem dX11_verdictByExplanations_18 : decode cX11_verdictByExplanations 18 = .ok (.getfield 10, 3) := by decide +kernel
theorem dX11_verdictByExplanations_21 : decode cX11_verdictByExplanations 21 = .ok (.getfield 128, 3) := by decide +kernel
theorem dX11_verdictByExplanations_24 : decode cX11_verdictByExplanations 24 = .ok (.invokevirtual 288, 3) := by decide +kernel
theorem dX11_verdictByExplanations_27 : decode cX11_verdictByExplanations 27 = .ok (.ireturn, 1) := by decide +kernel
theorem dX11_explanations_0 : decode cX11_explanations 0 = .ok (.aload_n 0, 1) := by decide +kernel
theorem dX11_explanations_1 : decode cX11_explanations 1 = .ok (.getfield 36, 3) := by decide +kernel
theorem dX11_explanations_4 : decode cX11_explanations 4 = .ok (.aload_n 0, 1) := by decide +kernel
theorem dX11_explanations_5 : decode cX11_explanations 5 = .ok (.getfield 10, 3) := by decide +kernel
theorem dX11_explanations_8 : decode cX11_explanations 8 = .ok (.getfield 68, 3) := by decide +kernel
theorem dX11_explanations_11 : decode cX11_explanations 11 = .ok (.aload_n 0, 1) := by decide +kernel
theorem dX11_explanations_12 : decode cX11_explanations 12 = .ok (.getfield 10, 3) := by decide +kernel
theorem dX11_explanations_15 : decode cX11_explanations 15 = .ok (.getfield 128, 3) := by decide +kernel
theorem dX11_explanations_18 : decode cX11_explanations 18 = .ok (.iconst (-1), 1) := by decide +kernel
theorem dX11_explanations_19 : decode cX11_explanations 19 = .ok (.invokevirtual 262, 3) := by decide +kernel
theorem dX11_explanations_22 : decode cX11_explanations 22 = .ok (.aload_n 0, 1) := by decide +kernel
theorem dX11_explanations_23 : decode cX11_explanations 23 = .ok (.getfield 36, 3) := by decide +kernel
theorem dX11_explanations_26 : decode cX11_explanations 26 = .ok (.invokevirtual 291, 3) := by decide +kernel
theorem dX11_explanations_29 : decode cX11_explanations 29 = .ok (.ireturn, 1) := by decide +kernel
theorem dX11_explanationsByTrial_0 : decode cX11_explanationsByTrial 0 = .ok (.aload_n 0, 1) := by decide +kernel
theorem dX11_explanationsByTrial_1 : decode cX11_explanationsByTrial 1 = .ok (.getfield 43, 3) := by decide +kernel
theorem dX11_explanationsByTrial_4 : decode cX11_explanationsByTrial 4 = .ok (.aload_n 0, 1) := by decide +kernel
theorem dX11_explanationsByTrial_5 : decode cX11_explanationsByTrial 5 = .ok (.getfield 10, 3) := by decide +kernel
theorem dX11_explanationsByTrial_8 : decode cX11_explanationsByTrial 8 = .ok (.getfield 68, 3) := by decide +kernel
theorem dX11_explanationsByTrial_11 : decode cX11_explanationsByTrial 11 = .ok (.aload_n 0, 1) := by decide +kernel
theorem dX11_explanationsByTrial_12 : decode cX11_explanationsByTrial 12 = .ok (.getfield 10, 3) := by decide +kernel
theorem dX11_explanationsByTrial_15 : decode cX11_explanationsByTrial 15 = .ok (.getfield 128, 3) := by decide +kernel
theorem dX11_explanationsByTrial_18 : decode cX11_explanationsByTrial 18 = .ok (.invokevirtual 294, 3) := by decide +kernel
theorem dX11_explanationsByTrial_21 : decode cX11_explanationsByTrial 21 = .ok (.ireturn, 1) := by decide +kernel
theorem dX11_leastFalse_0 : decode cX11_leastFalse 0 = .ok (.aload_n 0, 1) := by decide +kernel
theorem dX11_leastFalse_1 : decode cX11_leastFalse 1 = .ok (.getfield 43, 3) := by decide +kernel
theorem dX11_leastFalse_4 : decode cX11_leastFalse 4 = .ok (.aload_n 0, 1) := by decide +kernel
theorem dX11_leastFalse_5 : decode cX11_leastFalse 5 = .ok (.getfield 10, 3) := by decide +kernel
theorem dX11_leastFalse_8 : decode cX11_leastFalse 8 = .ok (.getfield 68, 3) := by decide +kernel
theorem dX11_leastFalse_11 : decode cX11_leastFalse 11 = .ok (.aload_n 0, 1) := by decide +kernel
theorem dX11_leastFalse_12 : decode cX11_leastFalse 12 = .ok (.getfield 10, 3) := by decide +kernel
theorem dX11_leastFalse_15 : decode cX11_leastFalse 15 = .ok (.getfield 128, 3) := by decide +kernel
theorem dX11_leastFalse_18 : decode cX11_leastFalse 18 = .ok (.invokevirtual 298, 3) := by decide +kernel
theorem dX11_leastFalse_21 : decode cX11_leastFalse 21 = .ok (.ireturn, 1) := by decide +kernel
theorem dX11_leastFalseBySets_0 : decode cX11_leastFalseBySets 0 = .ok (.aload_n 0, 1) := by decide +kernel
theorem dX11_leastFalseBySets_1 : decode cX11_leastFalseBySets 1 = .ok (.getfield 10, 3) := by decide +kernel
theorem dX11_leastFalseBySets_4 : decode cX11_leastFalseBySets 4 = .ok (.getfield 128, 3) := by decide +kernel
theorem dX11_leastFalseBySets_7 : decode cX11_leastFalseBySets 7 = .ok (.getfield 251, 3) := by decide +kernel
theorem dX11_leastFalseBySets_10 : decode cX11_leastFalseBySets 10 = .ok (.istore_n 1, 1) := by decide +kernel
theorem dX11_leastFalseBySets_11 : decode cX11_leastFalseBySets 11 = .ok (.iload_n 1, 1) := by decide +kernel
theorem dX11_leastFalseBySets_12 : decode cX11_leastFalseBySets 12 = .ok (.istore_n 2, 1) := by decide +kernel
theorem dX11_leastFalseBySets_13 : decode cX11_leastFalseBySets 13 = .ok (.iconst 0, 1) := by decide +kernel
theorem dX11_leastFalseBySets_14 : decode cX11_leastFalseBySets 14 = .ok (.istore_n 3, 1) := by decide +kernel
theorem dX11_leastFalseBySets_15 : decode cX11_leastFalseBySets 15 = .ok (.iload_n 3, 1) := by decide +kernel
theorem dX11_leastFalseBySets_16 : decode cX11_leastFalseBySets 16 = .ok (.iconst 1, 1) := by decide +kernel
theorem dX11_leastFalseBySets_17 : decode cX11_leastFalseBySets 17 = .ok (.iload_n 1, 1) := by decide +kernel
theorem dX11_leastFalseBySets_18 : decode cX11_leastFalseBySets 18 = .ok (.ishl, 1) := by decide +kernel
theorem dX11_leastFalseBySets_19 : decode cX11_leastFalseBySets 19 = .ok (.if_icmp .ge 58, 3) := by decide +kernel
theorem dX11_leastFalseBySets_22 : decode cX11_leastFalseBySets 22 = .ok (.iload_n 3, 1) := by decide +kernel
theorem dX11_leastFalseBySets_23 : decode cX11_leastFalseBySets 23 = .ok (.invokestatic 301, 3) := by decide +kernel
theorem dX11_leastFalseBySets_26 : decode cX11_leastFalseBySets 26 = .ok (.istore 4, 2) := by decide +kernel
theorem dX11_leastFalseBySets_28 : decode cX11_leastFalseBySets 28 = .ok (.iload 4, 2) := by decide +kernel
theorem dX11_leastFalseBySets_30 : decode cX11_leastFalseBySets 30 = .ok (.iload_n 2, 1) := by decide +kernel
theorem dX11_leastFalseBySets_31 : decode cX11_leastFalseBySets 31 = .ok (.if_icmp .ge 40, 3) := by decide +kernel
theorem dX11_leastFalseBySets_34 : decode cX11_leastFalseBySets 34 = .ok (.aload_n 0, 1) := by decide +kernel
theorem dX11_leastFalseBySets_35 : decode cX11_leastFalseBySets 35 = .ok (.getfield 36, 3) := by decide +kernel
theorem dX11_leastFalseBySets_38 : decode cX11_leastFalseBySets 38 = .ok (.aload_n 0, 1) := by decide +kernel
theorem dX11_leastFalseBySets_39 : decode cX11_leastFalseBySets 39 = .ok (.getfield 10, 3) := by decide +kernel
theorem dX11_leastFalseBySets_42 : decode cX11_leastFalseBySets 42 = .ok (.getfield 68, 3) := by decide +kernel
theorem dX11_leastFalseBySets_45 : decode cX11_leastFalseBySets 45 = .ok (.aload_n 0, 1) := by decide +kernel
theorem dX11_leastFalseBySets_46 : decode cX11_leastFalseBySets 46 = .ok (.getfield 10, 3) := by decide +kernel
theorem dX11_leastFalseBySets_49 : decode cX11_leastFalseBySets 49 = .ok (.getfield 128, 3) := by decide +kernel
theorem dX11_leastFalseBySets_52 : decode cX11_leastFalseBySets 52 = .ok (.iload_n 3, 1) := by decide +kernel
theorem dX11_leastFalseBySets_53 : decode cX11_leastFalseBySets 53 = .ok (.iconst (-1), 1) := by decide +kernel
theorem dX11_leastFalseBySets_54 : decode cX11_leastFalseBySets 54 = .ok (.ixor, 1) := by decide +kernel
theorem dX11_leastFalseBySets_55 : decode cX11_leastFalseBySets 55 = .ok (.invokevirtual 262, 3) := by decide +kernel
theorem dX11_leastFalseBySets_58 : decode cX11_leastFalseBySets 58 = .ok (.aload_n 0, 1) := by decide +kernel
theorem dX11_leastFalseBySets_59 : decode cX11_leastFalseBySets 59 = .ok (.getfield 36, 3) := by decide +kernel
theorem dX11_leastFalseBySets_62 : decode cX11_leastFalseBySets 62 = .ok (.invokevirtual 291, 3) := by decide +kernel
theorem dX11_leastFalseBySets_65 : decode cX11_leastFalseBySets 65 = .ok (.ifCond .le 6, 3) := by decide +kernel
theorem dX11_leastFalseBySets_68 : decode cX11_leastFalseBySets 68 = .ok (.iload 4, 2) := by decide +kernel
theorem dX11_leastFalseBySets_70 : decode cX11_leastFalseBySets 70 = .ok (.istore_n 2, 1) := by decide +kernel
theorem dX11_leastFalseBySets_71 : decode cX11_leastFalseBySets 71 = .ok (.iinc 3 1, 3) := by decide +kernel
theorem dX11_leastFalseBySets_74 : decode cX11_leastFalseBySets 74 = .ok (.goto (-59), 3) := by decide +kernel
theorem dX11_leastFalseBySets_77 : decode cX11_leastFalseBySets 77 = .ok (.iload_n 2, 1) := by decide +kernel
theorem dX11_leastFalseBySets_78 : decode cX11_leastFalseBySets 78 = .ok (.ireturn, 1) := by decide +kernel
theorem dX11_courtCoins_0 : decode cX11_courtCoins 0 = .ok (.aload_n 0, 1) := by decide +kernel
theorem dX11_courtCoins_1 : decode cX11_courtCoins 1 = .ok (.getfield 10, 3) := by decide +kernel
theorem dX11_courtCoins_4 : decode cX11_courtCoins 4 = .ok (.getfield 306, 3) := by decide +kernel
theorem dX11_courtCoins_7 : decode cX11_courtCoins 7 = .ok (.aload_n 0, 1) := by decide +kernel
theorem dX11_courtCoins_8 : decode cX11_courtCoins 8 = .ok (.getfield 10, 3) := by decide +kernel
theorem dX11_courtCoins_11 : decode cX11_courtCoins 11 = .ok (.getfield 309, 3) := by decide +kernel
theorem dX11_courtCoins_14 : decode cX11_courtCoins 14 = .ok (.isub, 1) := by decide +kernel
theorem dX11_courtCoins_15 : decode cX11_courtCoins 15 = .ok (.ireturn, 1) := by decide +kernel
theorem dX11_paidBack_0 : decode cX11_paidBack 0 = .ok (.aload_n 0, 1) := by decide +kernel
theorem dX11_paidBack_1 : decode cX11_paidBack 1 = .ok (.getfield 10, 3) := by decide +kernel
theorem dX11_paidBack_4 : decode cX11_paidBack 4 = .ok (.getfield 309, 3) := by decide +kernel
theorem dX11_paidBack_7 : decode cX11_paidBack 7 = .ok (.ireturn, 1) := by decide +kernel
theorem dX11_hearingCount_0 : decode cX11_hearingCount 0 = .ok (.ldc_w 312, 3) := by decide +kernel
theorem dX11_hearingCount_3 : decode cX11_hearingCount 3 = .ok (.iload_n 1, 1) := by decide +kernel
theorem dX11_hearingCount_4 : decode cX11_hearingCount 4 = .ok (.invokevirtual 314, 3) := by decide +kernel
theorem dX11_hearingCount_7 : decode cX11_hearingCount 7 = .ok (.istore_n 2, 1) := by decide +kernel
theorem dX11_hearingCount_8 : decode cX11_hearingCount 8 = .ok (.iload_n 2, 1) := by decide +kernel
theorem dX11_hearingCount_9 : decode cX11_hearingCount 9 = .ok (.ifCond .lt 15, 3) := by decide +kernel
theorem dX11_hearingCount_12 : decode cX11_hearingCount 12 = .ok (.iload_n 2, 1) := by decide +kernel
theorem dX11_hearingCount_13 : decode cX11_hearingCount 13 = .ok (.aload_n 0, 1) := by decide +kernel
theorem dX11_hearingCount_14 : decode cX11_hearingCount 14 = .ok (.getfield 10, 3) := by decide +kernel
theorem dX11_hearingCount_17 : decode cX11_hearingCount 17 = .ok (.getfield 319, 3) := by decide +kernel
theorem dX11_hearingCount_20 : decode cX11_hearingCount 20 = .ok (.arraylength, 1) := by decide +kernel
theorem dX11_hearingCount_21 : decode cX11_hearingCount 21 = .ok (.if_icmp .lt 14, 3) := by decide +kernel
theorem dX11_hearingCount_24 : decode cX11_hearingCount 24 = .ok (.new 103, 3) := by decide +kernel
theorem dX11_hearingCount_27 : decode cX11_hearingCount 27 = .ok (.dup, 1) := by decide +kernel
theorem dX11_hearingCount_28 : decode cX11_hearingCount 28 = .ok (.ldc_w 322, 3) := by decide +kernel
theorem dX11_hearingCount_31 : decode cX11_hearingCount 31 = .ok (.invokespecial 107, 3) := by decide +kernel
theorem dX11_hearingCount_34 : decode cX11_hearingCount 34 = .ok (.athrow, 1) := by decide +kernel
theorem dX11_hearingCount_35 : decode cX11_hearingCount 35 = .ok (.aload_n 0, 1) := by decide +kernel
theorem dX11_hearingCount_36 : decode cX11_hearingCount 36 = .ok (.getfield 10, 3) := by decide +kernel
theorem dX11_hearingCount_39 : decode cX11_hearingCount 39 = .ok (.getfield 319, 3) := by decide +kernel
theorem dX11_hearingCount_42 : decode cX11_hearingCount 42 = .ok (.iload_n 2, 1) := by decide +kernel
theorem dX11_hearingCount_43 : decode cX11_hearingCount 43 = .ok (.iaload, 1) := by decide +kernel
theorem dX11_hearingCount_44 : decode cX11_hearingCount 44 = .ok (.ireturn, 1) := by decide +kernel
theorem dX11_lapsedCount_0 : decode cX11_lapsedCount 0 = .ok (.aload_n 0, 1) := by decide +kernel
theorem dX11_lapsedCount_1 : decode cX11_lapsedCount 1 = .ok (.getfield 10, 3) := by decide +kernel
theorem dX11_lapsedCount_4 : decode cX11_lapsedCount 4 = .ok (.getfield 324, 3) := by decide +kernel
theorem dX11_lapsedCount_7 : decode cX11_lapsedCount 7 = .ok (.ireturn, 1) := by decide +kernel
theorem dX11_servedDays_0 : decode cX11_servedDays 0 = .ok (.aload_n 0, 1) := by decide +kernel
theorem dX11_servedDays_1 : decode cX11_servedDays 1 = .ok (.getfield 10, 3) := by decide +kernel
theorem dX11_servedDays_4 : decode cX11_servedDays 4 = .ok (.getfield 327, 3) := by decide +kernel
theorem dX11_servedDays_7 : decode cX11_servedDays 7 = .ok (.ireturn, 1) := by decide +kernel
theorem dX11_guiltyShare_0 : decode cX11_guiltyShare 0 = .ok (.aload_n 0, 1) := by decide +kernel
theorem dX11_guiltyShare_1 : decode cX11_guiltyShare 1 = .ok (.getfield 10, 3) := by decide +kernel
theorem dX11_guiltyShare_4 : decode cX11_guiltyShare 4 = .ok (.invokevirtual 330, 3) := by decide +kernel
theorem dX11_guiltyShare_7 : decode cX11_guiltyShare 7 = .ok (.istore_n 1, 1) := by decide +kernel
theorem dX11_guiltyShare_8 : decode cX11_guiltyShare 8 = .ok (.iload_n 1, 1) := by decide +kernel
theorem dX11_guiltyShare_9 : decode cX11_guiltyShare 9 = .ok (.ifCond .ne 14, 3) := by decide +kernel
theorem dX11_guiltyShare_12 : decode cX11_guiltyShare 12 = .ok (.new 207, 3) := by decide +kernel
theorem dX11_guiltyShare_15 : decode cX11_guiltyShare 15 = .ok (.dup, 1) := by decide +kernel
theorem dX11_guiltyShare_16 : decode cX11_guiltyShare 16 = .ok (.ldc_w 333, 3) := by decide +kernel
theorem dX11_guiltyShare_19 : decode cX11_guiltyShare 19 = .ok (.invokespecial 211, 3) := by decide +kernel
theorem dX11_guiltyShare_22 : decode cX11_guiltyShare 22 = .ok (.athrow, 1) := by decide +kernel
theorem dX11_guiltyShare_23 : decode cX11_guiltyShare 23 = .ok (.aload_n 0, 1) := by decide +kernel
theorem dX11_guiltyShare_24 : decode cX11_guiltyShare 24 = .ok (.bipush 103, 2) := by decide +kernel
theorem dX11_guiltyShare_26 : decode cX11_guiltyShare 26 = .ok (.invokevirtual 335, 3) := by decide +kernel
theorem dX11_guiltyShare_29 : decode cX11_guiltyShare 29 = .ok (.i2f, 1) := by decide +kernel
theorem dX11_guiltyShare_30 : decode cX11_guiltyShare 30 = .ok (.iload_n 1, 1) := by decide +kernel
theorem dX11_guiltyShare_31 : decode cX11_guiltyShare 31 = .ok (.i2f, 1) := by decide +kernel
theorem dX11_guiltyShare_32 : decode cX11_guiltyShare 32 = .ok (.fdiv, 1) := by decide +kernel
theorem dX11_guiltyShare_33 : decode cX11_guiltyShare 33 = .ok (.freturn, 1) := by decide +kernel
theorem dX11_isConsistent_0 : decode cX11_isConsistent 0 = .ok (.aload_n 0, 1) := by decide +kernel
theorem dX11_isConsistent_1 : decode cX11_isConsistent 1 = .ok (.invokevirtual 339, 3) := by decide +kernel
theorem dX11_isConsistent_4 : decode cX11_isConsistent 4 = .ok (.aload_n 0, 1) := by decide +kernel
theorem dX11_isConsistent_5 : decode cX11_isConsistent 5 = .ok (.invokevirtual 342, 3) := by decide +kernel
theorem dX11_isConsistent_8 : decode cX11_isConsistent 8 = .ok (.if_icmp .ne 36, 3) := by decide +kernel
theorem dX11_isConsistent_11 : decode cX11_isConsistent 11 = .ok (.aload_n 0, 1) := by decide +kernel
theorem dX11_isConsistent_12 : decode cX11_isConsistent 12 = .ok (.invokevirtual 345, 3) := by decide +kernel
theorem dX11_isConsistent_15 : decode cX11_isConsistent 15 = .ok (.ifCond .eq 29, 3) := by decide +kernel
theorem dX11_isConsistent_18 : decode cX11_isConsistent 18 = .ok (.aload_n 0, 1) := by decide +kernel
theorem dX11_isConsistent_19 : decode cX11_isConsistent 19 = .ok (.invokevirtual 348, 3) := by decide +kernel
theorem dX11_isConsistent_22 : decode cX11_isConsistent 22 = .ok (.aload_n 0, 1) := by decide +kernel
theorem dX11_isConsistent_23 : decode cX11_isConsistent 23 = .ok (.invokevirtual 351, 3) := by decide +kernel
theorem dX11_isConsistent_26 : decode cX11_isConsistent 26 = .ok (.if_icmp .ne 18, 3) := by decide +kernel
theorem dX11_isConsistent_29 : decode cX11_isConsistent 29 = .ok (.aload_n 0, 1) := by decide +kernel
theorem dX11_isConsistent_30 : decode cX11_isConsistent 30 = .ok (.invokevirtual 354, 3) := by decide +kernel
theorem dX11_isConsistent_33 : decode cX11_isConsistent 33 = .ok (.aload_n 0, 1) := by decide +kernel
theorem dX11_isConsistent_34 : decode cX11_isConsistent 34 = .ok (.invokevirtual 357, 3) := by decide +kernel
theorem dX11_isConsistent_37 : decode cX11_isConsistent 37 = .ok (.if_icmp .ne 7, 3) := by decide +kernel
theorem dX11_isConsistent_40 : decode cX11_isConsistent 40 = .ok (.iconst 1, 1) := by decide +kernel
theorem dX11_isConsistent_41 : decode cX11_isConsistent 41 = .ok (.goto 4, 3) := by decide +kernel
theorem dX11_isConsistent_44 : decode cX11_isConsistent 44 = .ok (.iconst 0, 1) := by decide +kernel
theorem dX11_isConsistent_45 : decode cX11_isConsistent 45 = .ok (.ireturn, 1) := by decide +kernel
theorem dX11_feed_0 : decode cX11_feed 0 = .ok (.aload_n 0, 1) := by decide +kernel
theorem dX11_feed_1 : decode cX11_feed 1 = .ok (.getfield 50, 3) := by decide +kernel
theorem dX11_feed_4 : decode cX11_feed 4 = .ok (.invokevirtual 360, 3) := by decide +kernel
theorem dX11_feed_7 : decode cX11_feed 7 = .ok (.ifCond .eq 14, 3) := by decide +kernel
theorem dX11_feed_10 : decode cX11_feed 10 = .ok (.new 78, 3) := by decide +kernel
theorem dX11_feed_13 : decode cX11_feed 13 = .ok (.dup, 1) := by decide +kernel
theorem dX11_feed_14 : decode cX11_feed 14 = .ok (.ldc_w 361, 3) := by decide +kernel
theorem dX11_feed_17 : decode cX11_feed 17 = .ok (.invokespecial 82, 3) := by decide +kernel
theorem dX11_feed_20 : decode cX11_feed 20 = .ok (.athrow, 1) := by decide +kernel
theorem dX11_feed_21 : decode cX11_feed 21 = .ok (.aload_n 0, 1) := by decide +kernel
theorem dX11_feed_22 : decode cX11_feed 22 = .ok (.getfield 50, 3) := by decide +kernel
theorem dX11_feed_25 : decode cX11_feed 25 = .ok (.iload_n 1, 1) := by decide +kernel
theorem dX11_feed_26 : decode cX11_feed 26 = .ok (.invokevirtual 363, 3) := by decide +kernel
theorem dX11_feed_29 : decode cX11_feed 29 = .ok (.ireturn, 1) := by decide +kernel
theorem dX11_runCommands_0 : decode cX11_runCommands 0 = .ok (.aload_n 0, 1) := by decide +kernel
theorem dX11_runCommands_1 : decode cX11_runCommands 1 = .ok (.getfield 50, 3) := by decide +kernel
theorem dX11_runCommands_4 : decode cX11_runCommands 4 = .ok (.invokevirtual 366, 3) := by decide +kernel
theorem dX11_runCommands_7 : decode cX11_runCommands 7 = .ok (.istore_n 1, 1) := by decide +kernel
theorem dX11_runCommands_8 : decode cX11_runCommands 8 = .ok (.iload_n 1, 1) := by decide +kernel
theorem dX11_runCommands_9 : decode cX11_runCommands 9 = .ok (.iconst (-1), 1) := by decide +kernel
theorem dX11_runCommands_10 : decode cX11_runCommands 10 = .ok (.if_icmp .ne 32, 3) := by decide +kernel
theorem dX11_runCommands_13 : decode cX11_runCommands 13 = .ok (.aload_n 0, 1) := by decide +kernel
theorem dX11_runCommands_14 : decode cX11_runCommands 14 = .ok (.aload_n 0, 1) := by decide +kernel
theorem dX11_runCommands_15 : decode cX11_runCommands 15 = .ok (.getfield 50, 3) := by decide +kernel
theorem dX11_runCommands_18 : decode cX11_runCommands 18 = .ok (.getfield 369, 3) := by decide +kernel
theorem dX11_runCommands_21 : decode cX11_runCommands 21 = .ok (.putfield 61, 3) := by decide +kernel
theorem dX11_runCommands_24 : decode cX11_runCommands 24 = .ok (.aload_n 0, 1) := by decide +kernel
theorem dX11_runCommands_25 : decode cX11_runCommands 25 = .ok (.getfield 50, 3) := by decide +kernel
theorem dX11_runCommands_28 : decode cX11_runCommands 28 = .ok (.invokevirtual 372, 3) := by decide +kernel
theorem dX11_runCommands_31 : decode cX11_runCommands 31 = .ok (.new 103, 3) := by decide +kernel
theorem dX11_runCommands_34 : decode cX11_runCommands 34 = .ok (.dup, 1) := by decide +kernel
theorem dX11_runCommands_35 : decode cX11_runCommands 35 = .ok (.ldc_w 375, 3) := by decide +kernel
theorem dX11_runCommands_38 : decode cX11_runCommands 38 = .ok (.invokespecial 107, 3) := by decide +kernel
theorem dX11_runCommands_41 : decode cX11_runCommands 41 = .ok (.athrow, 1) := by decide +kernel
theorem dX11_runCommands_42 : decode cX11_runCommands 42 = .ok (.aload_n 0, 1) := by decide +kernel
theorem dX11_runCommands_43 : decode cX11_runCommands 43 = .ok (.getfield 16, 3) := by decide +kernel
theorem dX11_runCommands_46 : decode cX11_runCommands 46 = .ok (.aload_n 0, 1) := by decide +kernel
theorem dX11_runCommands_47 : decode cX11_runCommands 47 = .ok (.getfield 10, 3) := by decide +kernel
theorem dX11_runCommands_50 : decode cX11_runCommands 50 = .ok (.invokevirtual 377, 3) := by decide +kernel
theorem dX11_runCommands_53 : decode cX11_runCommands 53 = .ok (.aload_n 0, 1) := by decide +kernel
theorem dX11_runCommands_54 : decode cX11_runCommands 54 = .ok (.iload_n 1, 1) := by decide +kernel
theorem dX11_runCommands_55 : decode cX11_runCommands 55 = .ok (.invokevirtual 380, 3) := by decide +kernel
theorem dX11_runCommands_58 : decode cX11_runCommands 58 = .ok (.istore_n 2, 1) := by decide +kernel
theorem dX11_runCommands_59 : decode cX11_runCommands 59 = .ok (.aload_n 0, 1) := by decide +kernel
theorem dX11_runCommands_60 : decode cX11_runCommands 60 = .ok (.getfield 50, 3) := by decide +kernel
theorem dX11_runCommands_63 : decode cX11_runCommands 63 = .ok (.invokevirtual 372, 3) := by decide +kernel
theorem dX11_runCommands_66 : decode cX11_runCommands 66 = .ok (.iload_n 2, 1) := by decide +kernel
theorem dX11_runCommands_67 : decode cX11_runCommands 67 = .ok (.iconst (-1), 1) := by decide +kernel
theorem dX11_runCommands_68 : decode cX11_runCommands 68 = .ok (.if_icmp .eq 30, 3) := by decide +kernel
theorem dX11_runCommands_71 : decode cX11_runCommands 71 = .ok (.aload_n 0, 1) := by decide +kernel
theorem dX11_runCommands_72 : decode cX11_runCommands 72 = .ok (.iload_n 2, 1) := by decide +kernel
theorem dX11_runCommands_73 : decode cX11_runCommands 73 = .ok (.putfield 65, 3) := by decide +kernel
theorem dX11_runCommands_76 : decode cX11_runCommands 76 = .ok (.aload_n 0, 1) := by decide +kernel
theorem dX11_runCommands_77 : decode cX11_runCommands 77 = .ok (.getfield 10, 3) := by decide +kernel
theorem dX11_runCommands_80 : decode cX11_runCommands 80 = .ok (.aload_n 0, 1) := by decide +kernel
theorem dX11_runCommands_81 : decode cX11_runCommands 81 = .ok (.getfield 16, 3) := by decide +kernel
theorem dX11_runCommands_84 : decode cX11_runCommands 84 = .ok (.invokevirtual 377, 3) := by decide +kernel
theorem dX11_runCommands_87 : decode cX11_runCommands 87 = .ok (.new 383, 3) := by decide +kernel
theorem dX11_runCommands_90 : decode cX11_runCommands 90 = .ok (.dup, 1) := by decide +kernel
theorem dX11_runCommands_91 : decode cX11_runCommands 91 = .ok (.ldc_w 385, 3) := by decide +kernel
theorem dX11_runCommands_94 : decode cX11_runCommands 94 = .ok (.invokespecial 387, 3) := by decide +kernel
theorem dX11_runCommands_97 : decode cX11_runCommands 97 = .ok (.athrow, 1) := by decide +kernel
theorem dX11_runCommands_98 : decode cX11_runCommands 98 = .ok (.aload_n 0, 1) := by decide +kernel
theorem dX11_runCommands_99 : decode cX11_runCommands 99 = .ok (.aload_n 0, 1) := by decide +kernel
theorem dX11_runCommands_100 : decode cX11_runCommands 100 = .ok (.getfield 16, 3) := by decide +kernel
theorem dX11_runCommands_103 : decode cX11_runCommands 103 = .ok (.invokevirtual 85, 3) := by decide +kernel
theorem dX11_runCommands_106 : decode cX11_runCommands 106 = .ok (.iload_n 1, 1) := by decide +kernel
theorem dX11_runCommands_107 : decode cX11_runCommands 107 = .ok (.ireturn, 1) := by decide +kernel
theorem dX11_errorPosition_0 : decode cX11_errorPosition 0 = .ok (.aload_n 0, 1) := by decide +kernel
theorem dX11_errorPosition_1 : decode cX11_errorPosition 1 = .ok (.getfield 61, 3) := by decide +kernel
theorem dX11_errorPosition_4 : decode cX11_errorPosition 4 = .ok (.iconst (-1), 1) := by decide +kernel
theorem dX11_errorPosition_5 : decode cX11_errorPosition 5 = .ok (.if_icmp .ne 14, 3) := by decide +kernel
theorem dX11_errorPosition_8 : decode cX11_errorPosition 8 = .ok (.new 160, 3) := by decide +kernel
theorem dX11_errorPosition_11 : decode cX11_errorPosition 11 = .ok (.dup, 1) := by decide +kernel
theorem dX11_errorPosition_12 : decode cX11_errorPosition 12 = .ok (.ldc_w 388, 3) := by decide +kernel
theorem dX11_errorPosition_15 : decode cX11_errorPosition 15 = .ok (.invokespecial 164, 3) := by decide +kernel
theorem dX11_errorPosition_18 : decode cX11_errorPosition 18 = .ok (.athrow, 1) := by decide +kernel
theorem dX11_errorPosition_19 : decode cX11_errorPosition 19 = .ok (.aload_n 0, 1) := by decide +kernel
theorem dX11_errorPosition_20 : decode cX11_errorPosition 20 = .ok (.getfield 61, 3) := by decide +kernel
theorem dX11_errorPosition_23 : decode cX11_errorPosition 23 = .ok (.ireturn, 1) := by decide +kernel
theorem dX11_failedCommand_0 : decode cX11_failedCommand 0 = .ok (.aload_n 0, 1) := by decide +kernel
theorem dX11_failedCommand_1 : decode cX11_failedCommand 1 = .ok (.getfield 65, 3) := by decide +kernel
theorem dX11_failedCommand_4 : decode cX11_failedCommand 4 = .ok (.iconst (-1), 1) := by decide +kernel
theorem dX11_failedCommand_5 : decode cX11_failedCommand 5 = .ok (.if_icmp .ne 14, 3) := by decide +kernel
theorem dX11_failedCommand_8 : decode cX11_failedCommand 8 = .ok (.new 160, 3) := by decide +kernel
theorem dX11_failedCommand_11 : decode cX11_failedCommand 11 = .ok (.dup, 1) := by decide +kernel
theorem dX11_failedCommand_12 : decode cX11_failedCommand 12 = .ok (.ldc_w 390, 3) := by decide +kernel
theorem dX11_failedCommand_15 : decode cX11_failedCommand 15 = .ok (.invokespecial 164, 3) := by decide +kernel
theorem dX11_failedCommand_18 : decode cX11_failedCommand 18 = .ok (.athrow, 1) := by decide +kernel
theorem dX11_failedCommand_19 : decode cX11_failedCommand 19 = .ok (.aload_n 0, 1) := by decide +kernel
theorem dX11_failedCommand_20 : decode cX11_failedCommand 20 = .ok (.getfield 65, 3) := by decide +kernel
theorem dX11_failedCommand_23 : decode cX11_failedCommand 23 = .ok (.ireturn, 1) := by decide +kernel
theorem dX11_writeLantern_0 : decode cX11_writeLantern 0 = .ok (.aload_n 0, 1) := by decide +kernel
theorem dX11_writeLantern_1 : decode cX11_writeLantern 1 = .ok (.iload_n 1, 1) := by decide +kernel
theorem dX11_writeLantern_2 : decode cX11_writeLantern 2 = .ok (.invokevirtual 93, 3) := by decide +kernel
theorem dX11_writeLantern_5 : decode cX11_writeLantern 5 = .ok (.aload_n 0, 1) := by decide +kernel
theorem dX11_writeLantern_6 : decode cX11_writeLantern 6 = .ok (.getfield 57, 3) := by decide +kernel
theorem dX11_writeLantern_9 : decode cX11_writeLantern 9 = .ok (.invokevirtual 392, 3) := by decide +kernel
theorem dX11_writeLantern_12 : decode cX11_writeLantern 12 = .ok (.aload_n 0, 1) := by decide +kernel
theorem dX11_writeLantern_13 : decode cX11_writeLantern 13 = .ok (.getfield 57, 3) := by decide +kernel
theorem dX11_writeLantern_16 : decode cX11_writeLantern 16 = .ok (.iload_n 1, 1) := by decide +kernel
theorem dX11_writeLantern_17 : decode cX11_writeLantern 17 = .ok (.invokevirtual 393, 3) := by decide +kernel
theorem dX11_writeLantern_20 : decode cX11_writeLantern 20 = .ok (.iconst 0, 1) := by decide +kernel
theorem dX11_writeLantern_21 : decode cX11_writeLantern 21 = .ok (.istore_n 2, 1) := by decide +kernel
theorem dX11_writeLantern_22 : decode cX11_writeLantern 22 = .ok (.iload_n 2, 1) := by decide +kernel
theorem dX11_writeLantern_23 : decode cX11_writeLantern 23 = .ok (.aload_n 0, 1) := by decide +kernel
theorem dX11_writeLantern_24 : decode cX11_writeLantern 24 = .ok (.getfield 10, 3) := by decide +kernel
theorem dX11_writeLantern_27 : decode cX11_writeLantern 27 = .ok (.getfield 68, 3) := by decide +kernel
theorem dX11_writeLantern_30 : decode cX11_writeLantern 30 = .ok (.getfield 186, 3) := by decide +kernel
theorem dX11_writeLantern_33 : decode cX11_writeLantern 33 = .ok (.iload_n 1, 1) := by decide +kernel
theorem dX11_writeLantern_34 : decode cX11_writeLantern 34 = .ok (.iaload, 1) := by decide +kernel
theorem dX11_writeLantern_35 : decode cX11_writeLantern 35 = .ok (.if_icmp .ge 18, 3) := by decide +kernel
theorem dX11_writeLantern_38 : decode cX11_writeLantern 38 = .ok (.aload_n 0, 1) := by decide +kernel
theorem dX11_writeLantern_39 : decode cX11_writeLantern 39 = .ok (.getfield 57, 3) := by decide +kernel
theorem dX11_writeLantern_42 : decode cX11_writeLantern 42 = .ok (.bipush 42, 2) := by decide +kernel
theorem dX11_writeLantern_44 : decode cX11_writeLantern 44 = .ok (.invokevirtual 396, 3) := by decide +kernel
theorem dX11_writeLantern_47 : decode cX11_writeLantern 47 = .ok (.iinc 2 1, 3) := by decide +kernel
theorem dX11_writeLantern_50 : decode cX11_writeLantern 50 = .ok (.goto (-28), 3) := by decide +kernel
theorem dX11_writeLantern_53 : decode cX11_writeLantern 53 = .ok (.aload_n 0, 1) := by decide +kernel
theorem dX11_writeLantern_54 : decode cX11_writeLantern 54 = .ok (.getfield 10, 3) := by decide +kernel
theorem dX11_writeLantern_57 : decode cX11_writeLantern 57 = .ok (.getfield 68, 3) := by decide +kernel
theorem dX11_writeLantern_60 : decode cX11_writeLantern 60 = .ok (.getfield 156, 3) := by decide +kernel
theorem dX11_writeLantern_63 : decode cX11_writeLantern 63 = .ok (.iload_n 1, 1) := by decide +kernel
theorem dX11_writeLantern_64 : decode cX11_writeLantern 64 = .ok (.iaload, 1) := by decide +kernel
theorem dX11_writeLantern_65 : decode cX11_writeLantern 65 = .ok (.ifCond .eq 32, 3) := by decide +kernel
theorem dX11_writeLantern_68 : decode cX11_writeLantern 68 = .ok (.aload_n 0, 1) := by decide +kernel
theorem dX11_writeLantern_69 : decode cX11_writeLantern 69 = .ok (.getfield 57, 3) := by decide +kernel
theorem dX11_writeLantern_72 : decode cX11_writeLantern 72 = .ok (.aload_n 0, 1) := by decide +kernel
theorem dX11_writeLantern_73 : decode cX11_writeLantern 73 = .ok (.getfield 10, 3) := by decide +kernel
theorem dX11_writeLantern_76 : decode cX11_writeLantern 76 = .ok (.getfield 68, 3) := by decide +kernel
theorem dX11_writeLantern_79 : decode cX11_writeLantern 79 = .ok (.iload_n 1, 1) := by decide +kernel
theorem dX11_writeLantern_80 : decode cX11_writeLantern 80 = .ok (.iconst 1, 1) := by decide +kernel
theorem dX11_writeLantern_81 : decode cX11_writeLantern 81 = .ok (.invokevirtual 146, 3) := by decide +kernel
theorem dX11_writeLantern_84 : decode cX11_writeLantern 84 = .ok (.ifCond .eq 8, 3) := by decide +kernel
theorem dX11_writeLantern_87 : decode cX11_writeLantern 87 = .ok (.bipush 103, 2) := by decide +kernel
theorem dX11_writeLantern_89 : decode cX11_writeLantern 89 = .ok (.goto 5, 3) := by decide +kernel
theorem dX11_writeLantern_92 : decode cX11_writeLantern 92 = .ok (.bipush 105, 2) := by decide +kernel
theorem dX11_writeLantern_94 : decode cX11_writeLantern 94 = .ok (.invokevirtual 396, 3) := by decide +kernel
theorem dX11_writeLantern_97 : decode cX11_writeLantern 97 = .ok (.iconst 0, 1) := by decide +kernel
theorem dX11_writeLantern_98 : decode cX11_writeLantern 98 = .ok (.istore_n 2, 1) := by decide +kernel
theorem dX11_writeLantern_99 : decode cX11_writeLantern 99 = .ok (.iload_n 2, 1) := by decide +kernel
theorem dX11_writeLantern_100 : decode cX11_writeLantern 100 = .ok (.aload_n 0, 1) := by decide +kernel
theorem dX11_writeLantern_101 : decode cX11_writeLantern 101 = .ok (.getfield 10, 3) := by decide +kernel
theorem dX11_writeLantern_104 : decode cX11_writeLantern 104 = .ok (.getfield 68, 3) := by decide +kernel
theorem dX11_writeLantern_107 : decode cX11_writeLantern 107 = .ok (.getfield 189, 3) := by decide +kernel
theorem dX11_writeLantern_110 : decode cX11_writeLantern 110 = .ok (.iload_n 1, 1) := by decide +kernel
theorem dX11_writeLantern_111 : decode cX11_writeLantern 111 = .ok (.iaload, 1) := by decide +kernel
theorem dX11_writeLantern_112 : decode cX11_writeLantern 112 = .ok (.if_icmp .ge 39, 3) := by decide +kernel
theorem dX11_writeLantern_115 : decode cX11_writeLantern 115 = .ok (.aload_n 0, 1) := by decide +kernel
theorem dX11_writeLantern_116 : decode cX11_writeLantern 116 = .ok (.getfield 57, 3) := by decide +kernel
theorem dX11_writeLantern_119 : decode cX11_writeLantern 119 = .ok (.bipush 47, 2) := by decide +kernel
theorem dX11_writeLantern_121 : decode cX11_writeLantern 121 = .ok (.invokevirtual 396, 3) := by decide +kernel
theorem dX11_writeLantern_124 : decode cX11_writeLantern 124 = .ok (.aload_n 0, 1) := by decide +kernel
theorem dX11_writeLantern_125 : decode cX11_writeLantern 125 = .ok (.getfield 57, 3) := by decide +kernel
theorem dX11_writeLantern_128 : decode cX11_writeLantern 128 = .ok (.aload_n 0, 1) := by decide +kernel
theorem dX11_writeLantern_129 : decode cX11_writeLantern 129 = .ok (.getfield 10, 3) := by decide +kernel
theorem dX11_writeLantern_132 : decode cX11_writeLantern 132 = .ok (.getfield 68, 3) := by decide +kernel
theorem dX11_writeLantern_135 : decode cX11_writeLantern 135 = .ok (.getfield 192, 3) := by decide +kernel
theorem dX11_writeLantern_138 : decode cX11_writeLantern 138 = .ok (.iload_n 1, 1) := by decide +kernel
theorem dX11_writeLantern_139 : decode cX11_writeLantern 139 = .ok (.aaload, 1) := by decide +kernel
theorem dX11_writeLantern_140 : decode cX11_writeLantern 140 = .ok (.iload_n 2, 1) := by decide +kernel
theorem dX11_writeLantern_141 : decode cX11_writeLantern 141 = .ok (.iaload, 1) := by decide +kernel
theorem dX11_writeLantern_142 : decode cX11_writeLantern 142 = .ok (.invokevirtual 393, 3) := by decide +kernel
theorem dX11_writeLantern_145 : decode cX11_writeLantern 145 = .ok (.iinc 2 1, 3) := by decide +kernel
theorem dX11_writeLantern_148 : decode cX11_writeLantern 148 = .ok (.goto (-49), 3) := by decide +kernel
theorem dX11_writeLantern_151 : decode cX11_writeLantern 151 = .ok (.aload_n 0, 1) := by decide +kernel
theorem dX11_writeLantern_152 : decode cX11_writeLantern 152 = .ok (.getfield 57, 3) := by decide +kernel
theorem dX11_writeLantern_155 : decode cX11_writeLantern 155 = .ok (.getfield 400, 3) := by decide +kernel
theorem dX11_writeLantern_158 : decode cX11_writeLantern 158 = .ok (.ireturn, 1) := by decide +kernel
theorem dX11_writePlan_0 : decode cX11_writePlan 0 = .ok (.aload_n 0, 1) := by decide +kernel
theorem dX11_writePlan_1 : decode cX11_writePlan 1 = .ok (.getfield 29, 3) := by decide +kernel
theorem dX11_writePlan_4 : decode cX11_writePlan 4 = .ok (.aload_n 0, 1) := by decide +kernel
theorem dX11_writePlan_5 : decode cX11_writePlan 5 = .ok (.getfield 10, 3) := by decide +kernel
theorem dX11_writePlan_8 : decode cX11_writePlan 8 = .ok (.getfield 108, 3) := by decide +kernel
theorem dX11_writePlan_11 : decode cX11_writePlan 11 = .ok (.aload_n 0, 1) := by decide +kernel
theorem dX11_writePlan_12 : decode cX11_writePlan 12 = .ok (.getfield 10, 3) := by decide +kernel
theorem dX11_writePlan_15 : decode cX11_writePlan 15 = .ok (.getfield 180, 3) := by decide +kernel
theorem dX11_writePlan_18 : decode cX11_writePlan 18 = .ok (.invokevirtual 232, 3) := by decide +kernel
theorem dX11_writePlan_21 : decode cX11_writePlan 21 = .ok (.aload_n 0, 1) := by decide +kernel
theorem dX11_writePlan_22 : decode cX11_writePlan 22 = .ok (.getfield 57, 3) := by decide +kernel
theorem dX11_writePlan_25 : decode cX11_writePlan 25 = .ok (.invokevirtual 392, 3) := by decide +kernel
theorem dX11_writePlan_28 : decode cX11_writePlan 28 = .ok (.iconst 0, 1) := by decide +kernel
theorem dX11_writePlan_29 : decode cX11_writePlan 29 = .ok (.istore_n 1, 1) := by decide +kernel
theorem dX11_writePlan_30 : decode cX11_writePlan 30 = .ok (.iload_n 1, 1) := by decide +kernel
theorem dX11_writePlan_31 : decode cX11_writePlan 31 = .ok (.aload_n 0, 1) := by decide +kernel
theorem dX11_writePlan_32 : decode cX11_writePlan 32 = .ok (.getfield 29, 3) := by decide +kernel
theorem dX11_writePlan_35 : decode cX11_writePlan 35 = .ok (.getfield 403, 3) := by decide +kernel
theorem dX11_writePlan_38 : decode cX11_writePlan 38 = .ok (.if_icmp .ge 49, 3) := by decide +kernel
theorem dX11_writePlan_41 : decode cX11_writePlan 41 = .ok (.iload_n 1, 1) := by decide +kernel
theorem dX11_writePlan_42 : decode cX11_writePlan 42 = .ok (.ifCond .le 12, 3) := by decide +kernel
theorem dX11_writePlan_45 : decode cX11_writePlan 45 = .ok (.aload_n 0, 1) := by decide +kernel
theorem dX11_writePlan_46 : decode cX11_writePlan 46 = .ok (.getfield 57, 3) := by decide +kernel
theorem dX11_writePlan_49 : decode cX11_writePlan 49 = .ok (.bipush 32, 2) := by decide +kernel
theorem dX11_writePlan_51 : decode cX11_writePlan 51 = .ok (.invokevirtual 396, 3) := by decide +kernel
theorem dX11_writePlan_54 : decode cX11_writePlan 54 = .ok (.aload_n 0, 1) := by decide +kernel
theorem dX11_writePlan_55 : decode cX11_writePlan 55 = .ok (.getfield 57, 3) := by decide +kernel
theorem dX11_writePlan_58 : decode cX11_writePlan 58 = .ok (.aload_n 0, 1) := by decide +kernel
theorem dX11_writePlan_59 : decode cX11_writePlan 59 = .ok (.getfield 10, 3) := by decide +kernel
theorem dX11_writePlan_62 : decode cX11_writePlan 62 = .ok (.getfield 108, 3) := by decide +kernel
theorem dX11_writePlan_65 : decode cX11_writePlan 65 = .ok (.getfield 218, 3) := by decide +kernel
theorem dX11_writePlan_68 : decode cX11_writePlan 68 = .ok (.aload_n 0, 1) := by decide +kernel
theorem dX11_writePlan_69 : decode cX11_writePlan 69 = .ok (.getfield 29, 3) := by decide +kernel
theorem dX11_writePlan_72 : decode cX11_writePlan 72 = .ok (.getfield 404, 3) := by decide +kernel
theorem dX11_writePlan_75 : decode cX11_writePlan 75 = .ok (.iload_n 1, 1) := by decide +kernel
theorem dX11_writePlan_76 : decode cX11_writePlan 76 = .ok (.iaload, 1) := by decide +kernel
theorem dX11_writePlan_77 : decode cX11_writePlan 77 = .ok (.iaload, 1) := by decide +kernel
theorem dX11_writePlan_78 : decode cX11_writePlan 78 = .ok (.invokevirtual 393, 3) := by decide +kernel
theorem dX11_writePlan_81 : decode cX11_writePlan 81 = .ok (.iinc 1 1, 3) := by decide +kernel
theorem dX11_writePlan_84 : decode cX11_writePlan 84 = .ok (.goto (-54), 3) := by decide +kernel
theorem dX11_writePlan_87 : decode cX11_writePlan 87 = .ok (.aload_n 0, 1) := by decide +kernel
theorem dX11_writePlan_88 : decode cX11_writePlan 88 = .ok (.getfield 57, 3) := by decide +kernel
theorem dX11_writePlan_91 : decode cX11_writePlan 91 = .ok (.getfield 400, 3) := by decide +kernel
theorem dX11_writePlan_94 : decode cX11_writePlan 94 = .ok (.ireturn, 1) := by decide +kernel
theorem dX11_outputChar_0 : decode cX11_outputChar 0 = .ok (.iload_n 1, 1) := by decide +kernel
theorem dX11_outputChar_1 : decode cX11_outputChar 1 = .ok (.ifCond .lt 14, 3) := by decide +kernel
theorem dX11_outputChar_4 : decode cX11_outputChar 4 = .ok (.iload_n 1, 1) := by decide +kernel
theorem dX11_outputChar_5 : decode cX11_outputChar 5 = .ok (.aload_n 0, 1) := by decide +kernel
theorem dX11_outputChar_6 : decode cX11_outputChar 6 = .ok (.getfield 57, 3) := by decide +kernel
theorem dX11_outputChar_9 : decode cX11_outputChar 9 = .ok (.getfield 400, 3) := by decide +kernel
theorem dX11_outputChar_12 : decode cX11_outputChar 12 = .ok (.if_icmp .lt 14, 3) := by decide +kernel
theorem dX11_outputChar_15 : decode cX11_outputChar 15 = .ok (.new 405, 3) := by decide +kernel
theorem dX11_outputChar_18 : decode cX11_outputChar 18 = .ok (.dup, 1) := by decide +kernel
theorem dX11_outputChar_19 : decode cX11_outputChar 19 = .ok (.ldc_w 407, 3) := by decide +kernel
theorem dX11_outputChar_22 : decode cX11_outputChar 22 = .ok (.invokespecial 409, 3) := by decide +kernel
theorem dX11_outputChar_25 : decode cX11_outputChar 25 = .ok (.athrow, 1) := by decide +kernel
theorem dX11_outputChar_26 : decode cX11_outputChar 26 = .ok (.aload_n 0, 1) := by decide +kernel
theorem dX11_outputChar_27 : decode cX11_outputChar 27 = .ok (.getfield 57, 3) := by decide +kernel
theorem dX11_outputChar_30 : decode cX11_outputChar 30 = .ok (.getfield 410, 3) := by decide +kernel
theorem dX11_outputChar_33 : decode cX11_outputChar 33 = .ok (.iload_n 1, 1) := by decide +kernel
theorem dX11_outputChar_34 : decode cX11_outputChar 34 = .ok (.caload, 1) := by decide +kernel
theorem dX11_outputChar_35 : decode cX11_outputChar 35 = .ok (.ireturn, 1) := by decide +kernel
theorem dX11_undoCount_0 : decode cX11_undoCount 0 = .ok (.aload_n 0, 1) := by decide +kernel
theorem dX11_undoCount_1 : decode cX11_undoCount 1 = .ok (.getfield 414, 3) := by decide +kernel
theorem dX11_undoCount_4 : decode cX11_undoCount 4 = .ok (.ireturn, 1) := by decide +kernel
theorem dX11_undo_0 : decode cX11_undo 0 = .ok (.aload_n 0, 1) := by decide +kernel
theorem dX11_undo_1 : decode cX11_undo 1 = .ok (.getfield 414, 3) := by decide +kernel
theorem dX11_undo_4 : decode cX11_undo 4 = .ok (.ifCond .ne 14, 3) := by decide +kernel
theorem dX11_undo_7 : decode cX11_undo 7 = .ok (.new 78, 3) := by decide +kernel
theorem dX11_undo_10 : decode cX11_undo 10 = .ok (.dup, 1) := by decide +kernel
theorem dX11_undo_11 : decode cX11_undo 11 = .ok (.ldc_w 417, 3) := by decide +kernel
theorem dX11_undo_14 : decode cX11_undo 14 = .ok (.invokespecial 82, 3) := by decide +kernel
theorem dX11_undo_17 : decode cX11_undo 17 = .ok (.athrow, 1) := by decide +kernel
theorem dX11_undo_18 : decode cX11_undo 18 = .ok (.aload_n 0, 1) := by decide +kernel
theorem dX11_undo_19 : decode cX11_undo 19 = .ok (.aload_n 0, 1) := by decide +kernel
theorem dX11_undo_20 : decode cX11_undo 20 = .ok (.getfield 419, 3) := by decide +kernel
theorem dX11_undo_23 : decode cX11_undo 23 = .ok (.ifCond .ne 8, 3) := by decide +kernel
theorem dX11_undo_26 : decode cX11_undo 26 = .ok (.bipush 7, 2) := by decide +kernel
theorem dX11_undo_28 : decode cX11_undo 28 = .ok (.goto 9, 3) := by decide +kernel
theorem dX11_undo_31 : decode cX11_undo 31 = .ok (.aload_n 0, 1) := by decide +kernel
theorem dX11_undo_32 : decode cX11_undo 32 = .ok (.getfield 419, 3) := by decide +kernel
theorem dX11_undo_35 : decode cX11_undo 35 = .ok (.iconst 1, 1) := by decide +kernel
theorem dX11_undo_36 : decode cX11_undo 36 = .ok (.isub, 1) := by decide +kernel
theorem dX11_undo_37 : decode cX11_undo 37 = .ok (.putfield 419, 3) := by decide +kernel
theorem dX11_undo_40 : decode cX11_undo 40 = .ok (.aload_n 0, 1) := by decide +kernel
theorem dX11_undo_41 : decode cX11_undo 41 = .ok (.dup, 1) := by decide +kernel
theorem dX11_undo_42 : decode cX11_undo 42 = .ok (.getfield 414, 3) := by decide +kernel
theorem dX11_undo_45 : decode cX11_undo 45 = .ok (.iconst 1, 1) := by decide +kernel
theorem dX11_undo_46 : decode cX11_undo 46 = .ok (.isub, 1) := by decide +kernel
theorem dX11_undo_47 : decode cX11_undo 47 = .ok (.putfield 414, 3) := by decide +kernel
theorem dX11_undo_50 : decode cX11_undo 50 = .ok (.aload_n 0, 1) := by decide +kernel
theorem dX11_undo_51 : decode cX11_undo 51 = .ok (.getfield 10, 3) := by decide +kernel
theorem dX11_undo_54 : decode cX11_undo 54 = .ok (.aload_n 0, 1) := by decide +kernel
theorem dX11_undo_55 : decode cX11_undo 55 = .ok (.getfield 22, 3) := by decide +kernel
theorem dX11_undo_58 : decode cX11_undo 58 = .ok (.aload_n 0, 1) := by decide +kernel
theorem dX11_undo_59 : decode cX11_undo 59 = .ok (.getfield 419, 3) := by decide +kernel
theorem dX11_undo_62 : decode cX11_undo 62 = .ok (.aaload, 1) := by decide +kernel
theorem dX11_undo_63 : decode cX11_undo 63 = .ok (.invokevirtual 377, 3) := by decide +kernel
theorem dX11_undo_66 : decode cX11_undo 66 = .ok (.aload_n 0, 1) := by decide +kernel
theorem dX11_undo_67 : decode cX11_undo 67 = .ok (.getfield 414, 3) := by decide +kernel
theorem dX11_undo_70 : decode cX11_undo 70 = .ok (.ireturn, 1) := by decide +kernel
theorem dX11_save_0 : decode cX11_save 0 = .ok (.aload_n 0, 1) := by decide +kernel
theorem dX11_save_1 : decode cX11_save 1 = .ok (.getfield 19, 3) := by decide +kernel
theorem dX11_save_4 : decode cX11_save 4 = .ok (.aload_n 0, 1) := by decide +kernel
theorem dX11_save_5 : decode cX11_save 5 = .ok (.getfield 10, 3) := by decide +kernel
theorem dX11_save_8 : decode cX11_save 8 = .ok (.invokevirtual 377, 3) := by decide +kernel
theorem dX11_save_11 : decode cX11_save 11 = .ok (.aload_n 0, 1) := by decide +kernel
theorem dX11_save_12 : decode cX11_save 12 = .ok (.iconst 1, 1) := by decide +kernel
theorem dX11_save_13 : decode cX11_save 13 = .ok (.putfield 422, 3) := by decide +kernel
theorem dX11_save_16 : decode cX11_save 16 = .ok (.aload_n 0, 1) := by decide +kernel
theorem dX11_save_17 : decode cX11_save 17 = .ok (.getfield 10, 3) := by decide +kernel
theorem dX11_save_20 : decode cX11_save 20 = .ok (.getfield 68, 3) := by decide +kernel
theorem dX11_save_23 : decode cX11_save 23 = .ok (.getfield 183, 3) := by decide +kernel
theorem dX11_save_26 : decode cX11_save 26 = .ok (.ireturn, 1) := by decide +kernel
theorem dX11_restore_0 : decode cX11_restore 0 = .ok (.aload_n 0, 1) := by decide +kernel
theorem dX11_restore_1 : decode cX11_restore 1 = .ok (.getfield 422, 3) := by decide +kernel
theorem dX11_restore_4 : decode cX11_restore 4 = .ok (.ifCond .ne 14, 3) := by decide +kernel
theorem dX11_restore_7 : decode cX11_restore 7 = .ok (.new 78, 3) := by decide +kernel
theorem dX11_restore_10 : decode cX11_restore 10 = .ok (.dup, 1) := by decide +kernel
theorem dX11_restore_11 : decode cX11_restore 11 = .ok (.ldc_w 426, 3) := by decide +kernel
theorem dX11_restore_14 : decode cX11_restore 14 = .ok (.invokespecial 82, 3) := by decide +kernel
theorem dX11_restore_17 : decode cX11_restore 17 = .ok (.athrow, 1) := by decide +kernel
theorem dX11_restore_18 : decode cX11_restore 18 = .ok (.aload_n 0, 1) := by decide +kernel
theorem dX11_restore_19 : decode cX11_restore 19 = .ok (.getfield 10, 3) := by decide +kernel
theorem dX11_restore_22 : decode cX11_restore 22 = .ok (.aload_n 0, 1) := by decide +kernel
theorem dX11_restore_23 : decode cX11_restore 23 = .ok (.getfield 19, 3) := by decide +kernel
theorem dX11_restore_26 : decode cX11_restore 26 = .ok (.invokevirtual 377, 3) := by decide +kernel
theorem dX11_restore_29 : decode cX11_restore 29 = .ok (.aload_n 0, 1) := by decide +kernel
theorem dX11_restore_30 : decode cX11_restore 30 = .ok (.iconst 0, 1) := by decide +kernel
theorem dX11_restore_31 : decode cX11_restore 31 = .ok (.putfield 414, 3) := by decide +kernel
theorem dX11_restore_34 : decode cX11_restore 34 = .ok (.aload_n 0, 1) := by decide +kernel
theorem dX11_restore_35 : decode cX11_restore 35 = .ok (.getfield 10, 3) := by decide +kernel
theorem dX11_restore_38 : decode cX11_restore 38 = .ok (.getfield 68, 3) := by decide +kernel
theorem dX11_restore_41 : decode cX11_restore 41 = .ok (.getfield 183, 3) := by decide +kernel
theorem dX11_restore_44 : decode cX11_restore 44 = .ok (.ireturn, 1) := by decide +kernel
theorem dX11_checkLantern_0 : decode cX11_checkLantern 0 = .ok (.aload_n 0, 1) := by decide +kernel
theorem dX11_checkLantern_1 : decode cX11_checkLantern 1 = .ok (.getfield 10, 3) := by decide +kernel
theorem dX11_checkLantern_4 : decode cX11_checkLantern 4 = .ok (.getfield 68, 3) := by decide +kernel
theorem dX11_checkLantern_7 : decode cX11_checkLantern 7 = .ok (.iload_n 1, 1) := by decide +kernel
theorem dX11_checkLantern_8 : decode cX11_checkLantern 8 = .ok (.invokevirtual 199, 3) := by decide +kernel
theorem dX11_checkLantern_11 : decode cX11_checkLantern 11 = .ok (.ifCond .ne 14, 3) := by decide +kernel
theorem dX11_checkLantern_14 : decode cX11_checkLantern 14 = .ok (.new 405, 3) := by decide +kernel
theorem dX11_checkLantern_17 : decode cX11_checkLantern 17 = .ok (.dup, 1) := by decide +kernel
theorem dX11_checkLantern_18 : decode cX11_checkLantern 18 = .ok (.ldc_w 428, 3) := by decide +kernel
theorem dX11_checkLantern_21 : decode cX11_checkLantern 21 = .ok (.invokespecial 409, 3) := by decide +kernel
theorem dX11_checkLantern_24 : decode cX11_checkLantern 24 = .ok (.athrow, 1) := by decide +kernel
theorem dX11_checkLantern_25 : decode cX11_checkLantern 25 = .ok (.return_, 1) := by decide +kernel
theorem dX11_checkServing_0 : decode cX11_checkServing 0 = .ok (.aload_n 0, 1) := by decide +kernel
theorem dX11_checkServing_1 : decode cX11_checkServing 1 = .ok (.iload_n 1, 1) := by decide +kernel
theorem dX11_checkServing_2 : decode cX11_checkServing 2 = .ok (.invokevirtual 93, 3) := by decide +kernel
theorem dX11_checkServing_5 : decode cX11_checkServing 5 = .ok (.aload_n 0, 1) := by decide +kernel
theorem dX11_checkServing_6 : decode cX11_checkServing 6 = .ok (.getfield 10, 3) := by decide +kernel
theorem dX11_checkServing_9 : decode cX11_checkServing 9 = .ok (.getfield 68, 3) := by decide +kernel
theorem dX11_checkServing_12 : decode cX11_checkServing 12 = .ok (.iload_n 1, 1) := by decide +kernel
theorem dX11_checkServing_13 : decode cX11_checkServing 13 = .ok (.invokevirtual 430, 3) := by decide +kernel
theorem dX11_checkServing_16 : decode cX11_checkServing 16 = .ok (.ifCond .ne 14, 3) := by decide +kernel
theorem dX11_checkServing_19 : decode cX11_checkServing 19 = .ok (.new 160, 3) := by decide +kernel
theorem dX11_checkServing_22 : decode cX11_checkServing 22 = .ok (.dup, 1) := by decide +kernel
theorem dX11_checkServing_23 : decode cX11_checkServing 23 = .ok (.ldc_w 433, 3) := by decide +kernel
theorem dX11_checkServing_26 : decode cX11_checkServing 26 = .ok (.invokespecial 164, 3) := by decide +kernel
theorem dX11_checkServing_29 : decode cX11_checkServing 29 = .ok (.athrow, 1) := by decide +kernel
theorem dX11_checkServing_30 : decode cX11_checkServing 30 = .ok (.return_, 1) := by decide +kernel
theorem dX11_checkStatement_0 : decode cX11_checkStatement 0 = .ok (.aload_n 0, 1) := by decide +kernel
theorem dX11_checkStatement_1 : decode cX11_checkStatement 1 = .ok (.getfield 10, 3) := by decide +kernel
theorem dX11_checkStatement_4 : decode cX11_checkStatement 4 = .ok (.getfield 128, 3) := by decide +kernel
theorem dX11_checkStatement_7 : decode cX11_checkStatement 7 = .ok (.iload_n 1, 1) := by decide +kernel
theorem dX11_checkStatement_8 : decode cX11_checkStatement 8 = .ok (.invokevirtual 435, 3) := by decide +kernel
theorem dX11_checkStatement_11 : decode cX11_checkStatement 11 = .ok (.ifCond .ne 14, 3) := by decide +kernel
theorem dX11_checkStatement_14 : decode cX11_checkStatement 14 = .ok (.new 405, 3) := by decide +kernel
theorem dX11_checkStatement_17 : decode cX11_checkStatement 17 = .ok (.dup, 1) := by decide +kernel
theorem dX11_checkStatement_18 : decode cX11_checkStatement 18 = .ok (.ldc_w 436, 3) := by decide +kernel
theorem dX11_checkStatement_21 : decode cX11_checkStatement 21 = .ok (.invokespecial 409, 3) := by decide +kernel
theorem dX11_checkStatement_24 : decode cX11_checkStatement 24 = .ok (.athrow, 1) := by decide +kernel
theorem dX11_checkStatement_25 : decode cX11_checkStatement 25 = .ok (.return_, 1) := by decide +kernel
theorem dX11_checkedBrief_0 : decode cX11_checkedBrief 0 = .ok (.aload_n 0, 1) := by decide +kernel
theorem dX11_checkedBrief_1 : decode cX11_checkedBrief 1 = .ok (.getfield 10, 3) := by decide +kernel
theorem dX11_checkedBrief_4 : decode cX11_checkedBrief 4 = .ok (.getfield 108, 3) := by decide +kernel
theorem dX11_checkedBrief_7 : decode cX11_checkedBrief 7 = .ok (.iload_n 1, 1) := by decide +kernel
theorem dX11_checkedBrief_8 : decode cX11_checkedBrief 8 = .ok (.invokevirtual 438, 3) := by decide +kernel
theorem dX11_checkedBrief_11 : decode cX11_checkedBrief 11 = .ok (.istore_n 2, 1) := by decide +kernel
theorem dX11_checkedBrief_12 : decode cX11_checkedBrief 12 = .ok (.iload_n 2, 1) := by decide +kernel
theorem dX11_checkedBrief_13 : decode cX11_checkedBrief 13 = .ok (.iconst (-1), 1) := by decide +kernel
theorem dX11_checkedBrief_14 : decode cX11_checkedBrief 14 = .ok (.if_icmp .ne 14, 3) := by decide +kernel
theorem dX11_checkedBrief_17 : decode cX11_checkedBrief 17 = .ok (.new 160, 3) := by decide +kernel
theorem dX11_checkedBrief_20 : decode cX11_checkedBrief 20 = .ok (.dup, 1) := by decide +kernel
theorem dX11_checkedBrief_21 : decode cX11_checkedBrief 21 = .ok (.ldc_w 441, 3) := by decide +kernel
theorem dX11_checkedBrief_24 : decode cX11_checkedBrief 24 = .ok (.invokespecial 164, 3) := by decide +kernel
theorem dX11_checkedBrief_27 : decode cX11_checkedBrief 27 = .ok (.athrow, 1) := by decide +kernel
theorem dX11_checkedBrief_28 : decode cX11_checkedBrief 28 = .ok (.iload_n 2, 1) := by decide +kernel
theorem dX11_checkedBrief_29 : decode cX11_checkedBrief 29 = .ok (.ireturn, 1) := by decide +kernel
theorem dX11_canPass_0 : decode cX11_canPass 0 = .ok (.iload_n 0, 1) := by decide +kernel
theorem dX11_canPass_1 : decode cX11_canPass 1 = .ok (.iconst 1, 1) := by decide +kernel
theorem dX11_canPass_2 : decode cX11_canPass 2 = .ok (.if_icmp .lt 13, 3) := by decide +kernel
theorem dX11_canPass_5 : decode cX11_canPass 5 = .ok (.iload_n 0, 1) := by decide +kernel
theorem dX11_canPass_6 : decode cX11_canPass 6 = .ok (.bipush 9, 2) := by decide +kernel
theorem dX11_canPass_8 : decode cX11_canPass 8 = .ok (.if_icmp .gt 7, 3) := by decide +kernel
theorem dX11_canPass_11 : decode cX11_canPass 11 = .ok (.iconst 1, 1) := by decide +kernel
theorem dX11_canPass_12 : decode cX11_canPass 12 = .ok (.goto 4, 3) := by decide +kernel
theorem dX11_canPass_15 : decode cX11_canPass 15 = .ok (.iconst 0, 1) := by decide +kernel
theorem dX11_canPass_16 : decode cX11_canPass 16 = .ok (.ireturn, 1) := by decide +kernel
theorem dX11_remember_0 : decode cX11_remember 0 = .ok (.aload_n 0, 1) := by decide +kernel
theorem dX11_remember_1 : decode cX11_remember 1 = .ok (.getfield 22, 3) := by decide +kernel
theorem dX11_remember_4 : decode cX11_remember 4 = .ok (.aload_n 0, 1) := by decide +kernel
theorem dX11_remember_5 : decode cX11_remember 5 = .ok (.getfield 419, 3) := by decide +kernel
theorem dX11_remember_8 : decode cX11_remember 8 = .ok (.aaload, 1) := by decide +kernel
theorem dX11_remember_9 : decode cX11_remember 9 = .ok (.aload_n 1, 1) := by decide +kernel
theorem dX11_remember_10 : decode cX11_remember 10 = .ok (.invokevirtual 377, 3) := by decide +kernel
theorem dX11_remember_13 : decode cX11_remember 13 = .ok (.aload_n 0, 1) := by decide +kernel
theorem dX11_remember_14 : decode cX11_remember 14 = .ok (.aload_n 0, 1) := by decide +kernel
theorem dX11_remember_15 : decode cX11_remember 15 = .ok (.getfield 419, 3) := by decide +kernel
theorem dX11_remember_18 : decode cX11_remember 18 = .ok (.bipush 7, 2) := by decide +kernel
theorem dX11_remember_20 : decode cX11_remember 20 = .ok (.if_icmp .ne 7, 3) := by decide +kernel
theorem dX11_remember_23 : decode cX11_remember 23 = .ok (.iconst 0, 1) := by decide +kernel
theorem dX11_remember_24 : decode cX11_remember 24 = .ok (.goto 9, 3) := by decide +kernel
theorem dX11_remember_27 : decode cX11_remember 27 = .ok (.aload_n 0, 1) := by decide +kernel
theorem dX11_remember_28 : decode cX11_remember 28 = .ok (.getfield 419, 3) := by decide +kernel
theorem dX11_remember_31 : decode cX11_remember 31 = .ok (.iconst 1, 1) := by decide +kernel
theorem dX11_remember_32 : decode cX11_remember 32 = .ok (.iadd, 1) := by decide +kernel
theorem dX11_remember_33 : decode cX11_remember 33 = .ok (.putfield 419, 3) := by decide +kernel
theorem dX11_remember_36 : decode cX11_remember 36 = .ok (.aload_n 0, 1) := by decide +kernel
theorem dX11_remember_37 : decode cX11_remember 37 = .ok (.aload_n 0, 1) := by decide +kernel
theorem dX11_remember_38 : decode cX11_remember 38 = .ok (.getfield 414, 3) := by decide +kernel
theorem dX11_remember_41 : decode cX11_remember 41 = .ok (.iconst 1, 1) := by decide +kernel
theorem dX11_remember_42 : decode cX11_remember 42 = .ok (.iadd, 1) := by decide +kernel
theorem dX11_remember_43 : decode cX11_remember 43 = .ok (.bipush 8, 2) := by decide +kernel
theorem dX11_remember_45 : decode cX11_remember 45 = .ok (.invokestatic 443, 3) := by decide +kernel
theorem dX11_remember_48 : decode cX11_remember 48 = .ok (.putfield 414, 3) := by decide +kernel
theorem dX11_remember_51 : decode cX11_remember 51 = .ok (.return_, 1) := by decide +kernel
theorem dX11_letPass_0 : decode cX11_letPass 0 = .ok (.iconst 0, 1) := by decide +kernel
theorem dX11_letPass_1 : decode cX11_letPass 1 = .ok (.istore_n 2, 1) := by decide +kernel
theorem dX11_letPass_2 : decode cX11_letPass 2 = .ok (.iconst 0, 1) := by decide +kernel
theorem dX11_letPass_3 : decode cX11_letPass 3 = .ok (.istore_n 3, 1) := by decide +kernel
theorem dX11_letPass_4 : decode cX11_letPass 4 = .ok (.iload_n 3, 1) := by decide +kernel
theorem dX11_letPass_5 : decode cX11_letPass 5 = .ok (.iload_n 1, 1) := by decide +kernel
theorem dX11_letPass_6 : decode cX11_letPass 6 = .ok (.if_icmp .ge 98, 3) := by decide +kernel
theorem dX11_letPass_9 : decode cX11_letPass 9 = .ok (.aload_n 0, 1) := by decide +kernel
theorem dX11_letPass_10 : decode cX11_letPass 10 = .ok (.getfield 29, 3) := by decide +kernel
theorem dX11_letPass_13 : decode cX11_letPass 13 = .ok (.aload_n 0, 1) := by decide +kernel
theorem dX11_letPass_14 : decode cX11_letPass 14 = .ok (.getfield 10, 3) := by decide +kernel
theorem dX11_letPass_17 : decode cX11_letPass 17 = .ok (.getfield 108, 3) := by decide +kernel
theorem dX11_letPass_20 : decode cX11_letPass 20 = .ok (.aload_n 0, 1) := by decide +kernel
theorem dX11_letPass_21 : decode cX11_letPass 21 = .ok (.getfield 10, 3) := by decide +kernel
theorem dX11_letPass_24 : decode cX11_letPass 24 = .ok (.getfield 180, 3) := by decide +kernel
theorem dX11_letPass_27 : decode cX11_letPass 27 = .ok (.invokevirtual 232, 3) := by decide +kernel
theorem dX11_letPass_30 : decode cX11_letPass 30 = .ok (.aload_n 0, 1) := by decide +kernel
theorem dX11_letPass_31 : decode cX11_letPass 31 = .ok (.getfield 10, 3) := by decide +kernel
theorem dX11_letPass_34 : decode cX11_letPass 34 = .ok (.dup, 1) := by decide +kernel
theorem dX11_letPass_35 : decode cX11_letPass 35 = .ok (.getfield 180, 3) := by decide +kernel
theorem dX11_letPass_38 : decode cX11_letPass 38 = .ok (.iconst 1, 1) := by decide +kernel
theorem dX11_letPass_39 : decode cX11_letPass 39 = .ok (.iadd, 1) := by decide +kernel
theorem dX11_letPass_40 : decode cX11_letPass 40 = .ok (.putfield 180, 3) := by decide +kernel
theorem dX11_letPass_43 : decode cX11_letPass 43 = .ok (.aload_n 0, 1) := by decide +kernel
theorem dX11_letPass_44 : decode cX11_letPass 44 = .ok (.getfield 29, 3) := by decide +kernel
theorem dX11_letPass_47 : decode cX11_letPass 47 = .ok (.getfield 403, 3) := by decide +kernel
theorem dX11_letPass_50 : decode cX11_letPass 50 = .ok (.ifCond .le 19, 3) := by decide +kernel
theorem dX11_letPass_53 : decode cX11_letPass 53 = .ok (.aload_n 0, 1) := by decide +kernel
theorem dX11_letPass_54 : decode cX11_letPass 54 = .ok (.aload_n 0, 1) := by decide +kernel
theorem dX11_letPass_55 : decode cX11_letPass 55 = .ok (.getfield 29, 3) := by decide +kernel
theorem dX11_letPass_58 : decode cX11_letPass 58 = .ok (.getfield 404, 3) := by decide +kernel
theorem dX11_letPass_61 : decode cX11_letPass 61 = .ok (.iconst 0, 1) := by decide +kernel
theorem dX11_letPass_62 : decode cX11_letPass 62 = .ok (.iaload, 1) := by decide +kernel
theorem dX11_letPass_63 : decode cX11_letPass 63 = .ok (.invokevirtual 448, 3) := by decide +kernel
theorem dX11_letPass_66 : decode cX11_letPass 66 = .ok (.iinc 2 1, 3) := by decide +kernel
theorem dX11_letPass_69 : decode cX11_letPass 69 = .ok (.aload_n 0, 1) := by decide +kernel
theorem dX11_letPass_70 : decode cX11_letPass 70 = .ok (.getfield 10, 3) := by decide +kernel
theorem dX11_letPass_73 : decode cX11_letPass 73 = .ok (.invokevirtual 451, 3) := by decide +kernel
theorem dX11_letPass_76 : decode cX11_letPass 76 = .ok (.aload_n 0, 1) := by decide +kernel
theorem dX11_letPass_77 : decode cX11_letPass 77 = .ok (.getfield 10, 3) := by decide +kernel
theorem dX11_letPass_80 : decode cX11_letPass 80 = .ok (.dup, 1) := by decide +kernel
theorem dX11_letPass_81 : decode cX11_letPass 81 = .ok (.getfield 327, 3) := by decide +kernel
theorem dX11_letPass_84 : decode cX11_letPass 84 = .ok (.aload_n 0, 1) := by decide +kernel
theorem dX11_letPass_85 : decode cX11_letPass 85 = .ok (.getfield 10, 3) := by decide +kernel
theorem dX11_letPass_88 : decode cX11_letPass 88 = .ok (.getfield 68, 3) := by decide +kernel
theorem dX11_letPass_91 : decode cX11_letPass 91 = .ok (.invokevirtual 454, 3) := by decide +kernel
theorem dX11_letPass_94 : decode cX11_letPass 94 = .ok (.iadd, 1) := by decide +kernel
theorem dX11_letPass_95 : decode cX11_letPass 95 = .ok (.putfield 327, 3) := by decide +kernel
theorem dX11_letPass_98 : decode cX11_letPass 98 = .ok (.iinc 3 1, 3) := by decide +kernel
theorem dX11_letPass_101 : decode cX11_letPass 101 = .ok (.goto (-97), 3) := by decide +kernel
theorem dX11_letPass_104 : decode cX11_letPass 104 = .ok (.iload_n 2, 1) := by decide +kernel
theorem dX11_letPass_105 : decode cX11_letPass 105 = .ok (.ireturn, 1) := by decide +kernel
theorem dX11_hear_0 : decode cX11_hear 0 = .ok (.aload_n 0, 1) := by decide +kernel
theorem dX11_hear_1 : decode cX11_hear 1 = .ok (.getfield 36, 3) := by decide +kernel
theorem dX11_hear_4 : decode cX11_hear 4 = .ok (.aload_n 0, 1) := by decide +kernel
theorem dX11_hear_5 : decode cX11_hear 5 = .ok (.getfield 10, 3) := by decide +kernel
theorem dX11_hear_8 : decode cX11_hear 8 = .ok (.getfield 68, 3) := by decide +kernel
theorem dX11_hear_11 : decode cX11_hear 11 = .ok (.aload_n 0, 1) := by decide +kernel
theorem dX11_hear_12 : decode cX11_hear 12 = .ok (.getfield 10, 3) := by decide +kernel
theorem dX11_hear_15 : decode cX11_hear 15 = .ok (.getfield 128, 3) := by decide +kernel
theorem dX11_hear_18 : decode cX11_hear 18 = .ok (.iconst (-1), 1) := by decide +kernel
theorem dX11_hear_19 : decode cX11_hear 19 = .ok (.invokevirtual 262, 3) := by decide +kernel
theorem dX11_hear_22 : decode cX11_hear 22 = .ok (.aload_n 0, 1) := by decide +kernel
theorem dX11_hear_23 : decode cX11_hear 23 = .ok (.getfield 10, 3) := by decide +kernel
theorem dX11_hear_26 : decode cX11_hear 26 = .ok (.iload_n 1, 1) := by decide +kernel
theorem dX11_hear_27 : decode cX11_hear 27 = .ok (.aload_n 0, 1) := by decide +kernel
theorem dX11_hear_28 : decode cX11_hear 28 = .ok (.getfield 36, 3) := by decide +kernel
theorem dX11_hear_31 : decode cX11_hear 31 = .ok (.aload_n 0, 1) := by decide +kernel
theorem dX11_hear_32 : decode cX11_hear 32 = .ok (.getfield 10, 3) := by decide +kernel
theorem dX11_hear_35 : decode cX11_hear 35 = .ok (.getfield 108, 3) := by decide +kernel
theorem dX11_hear_38 : decode cX11_hear 38 = .ok (.getfield 221, 3) := by decide +kernel
theorem dX11_hear_41 : decode cX11_hear 41 = .ok (.iload_n 1, 1) := by decide +kernel
theorem dX11_hear_42 : decode cX11_hear 42 = .ok (.iaload, 1) := by decide +kernel
theorem dX11_hear_43 : decode cX11_hear 43 = .ok (.invokevirtual 284, 3) := by decide +kernel
theorem dX11_hear_46 : decode cX11_hear 46 = .ok (.invokevirtual 457, 3) := by decide +kernel
theorem dX11_hear_49 : decode cX11_hear 49 = .ok (.return_, 1) := by decide +kernel
theorem dX11_doVerdictsAgree_0 : decode cX11_doVerdictsAgree 0 = .ok (.aload_n 0, 1) := by decide +kernel
theorem dX11_doVerdictsAgree_1 : decode cX11_doVerdictsAgree 1 = .ok (.getfield 36, 3) := by decide +kernel
theorem dX11_doVerdictsAgree_4 : decode cX11_doVerdictsAgree 4 = .ok (.aload_n 0, 1) := by decide +kernel
theorem dX11_doVerdictsAgree_5 : decode cX11_doVerdictsAgree 5 = .ok (.getfield 10, 3) := by decide +kernel
theorem dX11_doVerdictsAgree_8 : decode cX11_doVerdictsAgree 8 = .ok (.getfield 68, 3) := by decide +kernel
theorem dX11_doVerdictsAgree_11 : decode cX11_doVerdictsAgree 11 = .ok (.aload_n 0, 1) := by decide +kernel
theorem dX11_doVerdictsAgree_12 : decode cX11_doVerdictsAgree 12 = .ok (.getfield 10, 3) := by decide +kernel
theorem dX11_doVerdictsAgree_15 : decode cX11_doVerdictsAgree 15 = .ok (.getfield 128, 3) := by decide +kernel
theorem dX11_doVerdictsAgree_18 : decode cX11_doVerdictsAgree 18 = .ok (.iconst (-1), 1) := by decide +kernel
theorem dX11_doVerdictsAgree_19 : decode cX11_doVerdictsAgree 19 = .ok (.invokevirtual 262, 3) := by decide +kernel
theorem dX11_doVerdictsAgree_22 : decode cX11_doVerdictsAgree 22 = .ok (.iconst 0, 1) := by decide +kernel
theorem dX11_doVerdictsAgree_23 : decode cX11_doVerdictsAgree 23 = .ok (.istore_n 1, 1) := by decide +kernel
theorem dX11_doVerdictsAgree_24 : decode cX11_doVerdictsAgree 24 = .ok (.iload_n 1, 1) := by decide +kernel
theorem dX11_doVerdictsAgree_25 : decode cX11_doVerdictsAgree 25 = .ok (.aload_n 0, 1) := by decide +kernel
theorem dX11_doVerdictsAgree_26 : decode cX11_doVerdictsAgree 26 = .ok (.getfield 10, 3) := by decide +kernel
theorem dX11_doVerdictsAgree_29 : decode cX11_doVerdictsAgree 29 = .ok (.getfield 68, 3) := by decide +kernel
theorem dX11_doVerdictsAgree_32 : decode cX11_doVerdictsAgree 32 = .ok (.getfield 183, 3) := by decide +kernel
theorem dX11_doVerdictsAgree_35 : decode cX11_doVerdictsAgree 35 = .ok (.if_icmp .ge 44, 3) := by decide +kernel
theorem dX11_doVerdictsAgree_38 : decode cX11_doVerdictsAgree 38 = .ok (.aload_n 0, 1) := by decide +kernel
theorem dX11_doVerdictsAgree_39 : decode cX11_doVerdictsAgree 39 = .ok (.getfield 36, 3) := by decide +kernel
theorem dX11_doVerdictsAgree_42 : decode cX11_doVerdictsAgree 42 = .ok (.iload_n 1, 1) := by decide +kernel
theorem dX11_doVerdictsAgree_43 : decode cX11_doVerdictsAgree 43 = .ok (.invokevirtual 284, 3) := by decide +kernel
theorem dX11_doVerdictsAgree_46 : decode cX11_doVerdictsAgree 46 = .ok (.aload_n 0, 1) := by decide +kernel
theorem dX11_doVerdictsAgree_47 : decode cX11_doVerdictsAgree 47 = .ok (.getfield 43, 3) := by decide +kernel
theorem dX11_doVerdictsAgree_50 : decode cX11_doVerdictsAgree 50 = .ok (.iload_n 1, 1) := by decide +kernel
theorem dX11_doVerdictsAgree_51 : decode cX11_doVerdictsAgree 51 = .ok (.aload_n 0, 1) := by decide +kernel
theorem dX11_doVerdictsAgree_52 : decode cX11_doVerdictsAgree 52 = .ok (.getfield 10, 3) := by decide +kernel
theorem dX11_doVerdictsAgree_55 : decode cX11_doVerdictsAgree 55 = .ok (.getfield 68, 3) := by decide +kernel
theorem dX11_doVerdictsAgree_58 : decode cX11_doVerdictsAgree 58 = .ok (.aload_n 0, 1) := by decide +kernel
theorem dX11_doVerdictsAgree_59 : decode cX11_doVerdictsAgree 59 = .ok (.getfield 10, 3) := by decide +kernel
theorem dX11_doVerdictsAgree_62 : decode cX11_doVerdictsAgree 62 = .ok (.getfield 128, 3) := by decide +kernel
theorem dX11_doVerdictsAgree_65 : decode cX11_doVerdictsAgree 65 = .ok (.invokevirtual 288, 3) := by decide +kernel
theorem dX11_doVerdictsAgree_68 : decode cX11_doVerdictsAgree 68 = .ok (.if_icmp .eq 5, 3) := by decide +kernel
theorem dX11_doVerdictsAgree_71 : decode cX11_doVerdictsAgree 71 = .ok (.iconst 0, 1) := by decide +kernel
theorem dX11_doVerdictsAgree_72 : decode cX11_doVerdictsAgree 72 = .ok (.ireturn, 1) := by decide +kernel
theorem dX11_doVerdictsAgree_73 : decode cX11_doVerdictsAgree 73 = .ok (.iinc 1 1, 3) := by decide +kernel
theorem dX11_doVerdictsAgree_76 : decode cX11_doVerdictsAgree 76 = .ok (.goto (-52), 3) := by decide +kernel
theorem dX11_doVerdictsAgree_79 : decode cX11_doVerdictsAgree 79 = .ok (.iconst 1, 1) := by decide +kernel
theorem dX11_doVerdictsAgree_80 : decode cX11_doVerdictsAgree 80 = .ok (.ireturn, 1) := by decide +kernel
theorem dX11_carryOutAll_0 : decode cX11_carryOutAll 0 = .ok (.aload_n 0, 1) := by decide +kernel
theorem dX11_carryOutAll_1 : decode cX11_carryOutAll 1 = .ok (.getfield 50, 3) := by decide +kernel
theorem dX11_carryOutAll_4 : decode cX11_carryOutAll 4 = .ok (.invokevirtual 461, 3) := by decide +kernel
theorem dX11_carryOutAll_7 : decode cX11_carryOutAll 7 = .ok (.iconst 0, 1) := by decide +kernel
theorem dX11_carryOutAll_8 : decode cX11_carryOutAll 8 = .ok (.istore_n 2, 1) := by decide +kernel
theorem dX11_carryOutAll_9 : decode cX11_carryOutAll 9 = .ok (.iload_n 2, 1) := by decide +kernel
theorem dX11_carryOutAll_10 : decode cX11_carryOutAll 10 = .ok (.iload_n 1, 1) := by decide +kernel
theorem dX11_carryOutAll_11 : decode cX11_carryOutAll 11 = .ok (.if_icmp .ge 56, 3) := by decide +kernel
theorem dX11_carryOutAll_14 : decode cX11_carryOutAll 14 = .ok (.aload_n 0, 1) := by decide +kernel
theorem dX11_carryOutAll_15 : decode cX11_carryOutAll 15 = .ok (.getfield 50, 3) := by decide +kernel
theorem dX11_carryOutAll_18 : decode cX11_carryOutAll 18 = .ok (.invokevirtual 464, 3) := by decide +kernel
theorem dX11_carryOutAll_21 : decode cX11_carryOutAll 21 = .ok (.ifCond .eq 31, 3) := by decide +kernel
theorem dX11_carryOutAll_24 : decode cX11_carryOutAll 24 = .ok (.aload_n 0, 1) := by decide +kernel
theorem dX11_carryOutAll_25 : decode cX11_carryOutAll 25 = .ok (.aload_n 0, 1) := by decide +kernel
theorem dX11_carryOutAll_26 : decode cX11_carryOutAll 26 = .ok (.getfield 50, 3) := by decide +kernel
theorem dX11_carryOutAll_29 : decode cX11_carryOutAll 29 = .ok (.getfield 467, 3) := by decide +kernel
theorem dX11_carryOutAll_32 : decode cX11_carryOutAll 32 = .ok (.aload_n 0, 1) := by decide +kernel
theorem dX11_carryOutAll_33 : decode cX11_carryOutAll 33 = .ok (.getfield 50, 3) := by decide +kernel
theorem dX11_carryOutAll_36 : decode cX11_carryOutAll 36 = .ok (.getfield 471, 3) := by decide +kernel
theorem dX11_carryOutAll_39 : decode cX11_carryOutAll 39 = .ok (.aload_n 0, 1) := by decide +kernel
theorem dX11_carryOutAll_40 : decode cX11_carryOutAll 40 = .ok (.getfield 50, 3) := by decide +kernel
theorem dX11_carryOutAll_43 : decode cX11_carryOutAll 43 = .ok (.getfield 474, 3) := by decide +kernel
theorem dX11_carryOutAll_46 : decode cX11_carryOutAll 46 = .ok (.invokevirtual 477, 3) := by decide +kernel
theorem dX11_carryOutAll_49 : decode cX11_carryOutAll 49 = .ok (.ifCond .ne 5, 3) := by decide +kernel
theorem dX11_carryOutAll_52 : decode cX11_carryOutAll 52 = .ok (.iload_n 2, 1) := by decide +kernel
theorem dX11_carryOutAll_53 : decode cX11_carryOutAll 53 = .ok (.ireturn, 1) := by decide +kernel
theorem dX11_carryOutAll_54 : decode cX11_carryOutAll 54 = .ok (.aload_n 0, 1) := by decide +kernel
theorem dX11_carryOutAll_55 : decode cX11_carryOutAll 55 = .ok (.getfield 50, 3) := by decide +kernel
theorem dX11_carryOutAll_58 : decode cX11_carryOutAll 58 = .ok (.invokevirtual 481, 3) := by decide +kernel
theorem dX11_carryOutAll_61 : decode cX11_carryOutAll 61 = .ok (.iinc 2 1, 3) := by decide +kernel
theorem dX11_carryOutAll_64 : decode cX11_carryOutAll 64 = .ok (.goto (-55), 3) := by decide +kernel
theorem dX11_carryOutAll_67 : decode cX11_carryOutAll 67 = .ok (.iconst (-1), 1) := by decide +kernel
theorem dX11_carryOutAll_68 : decode cX11_carryOutAll 68 = .ok (.ireturn, 1) := by decide +kernel
theorem dX11_carryOut_0 : decode cX11_carryOut 0 = .ok (.aload_n 0, 1) := by decide +kernel
theorem dX11_carryOut_1 : decode cX11_carryOut 1 = .ok (.aload_n 1, 1) := by decide +kernel
theorem dX11_carryOut_2 : decode cX11_carryOut 2 = .ok (.aload_n 2, 1) := by decide +kernel
theorem dX11_carryOut_3 : decode cX11_carryOut 3 = .ok (.iload_n 3, 1) := by decide +kernel
theorem dX11_carryOut_4 : decode cX11_carryOut 4 = .ok (.invokevirtual 484, 3) := by decide +kernel
theorem dX11_carryOut_7 : decode cX11_carryOut 7 = .ok (.ifCond .ne 5, 3) := by decide +kernel
theorem dX11_carryOut_10 : decode cX11_carryOut 10 = .ok (.iconst 0, 1) := by decide +kernel
theorem dX11_carryOut_11 : decode cX11_carryOut 11 = .ok (.ireturn, 1) := by decide +kernel
theorem dX11_carryOut_12 : decode cX11_carryOut 12 = .ok (.getstatic 487, 3) := by decide +kernel
theorem dX11_carryOut_15 : decode cX11_carryOut 15 = .ok (.aload_n 1, 1) := by decide +kernel
theorem dX11_carryOut_16 : decode cX11_carryOut 16 = .ok (.invokevirtual 492, 3) := by decide +kernel
theorem dX11_carryOut_19 : decode cX11_carryOut 19 = .ok (.iaload, 1) := by decide +kernel
theorem dX11_carryOut_20 : decode cX11_carryOut 20 = .ok (.tableswitch 186 1 7 #[44, 58, 81, 105, 126, 143, 169], 44) := by decide +kernel
theorem dX11_carryOut_64 : decode cX11_carryOut 64 = .ok (.aload_n 0, 1) := by decide +kernel
theorem dX11_carryOut_65 : decode cX11_carryOut 65 = .ok (.getfield 10, 3) := by decide +kernel
theorem dX11_carryOut_68 : decode cX11_carryOut 68 = .ok (.getfield 68, 3) := by decide +kernel
theorem dX11_carryOut_71 : decode cX11_carryOut 71 = .ok (.invokevirtual 89, 3) := by decide +kernel
theorem dX11_carryOut_74 : decode cX11_carryOut 74 = .ok (.pop, 1) := by decide +kernel
theorem dX11_carryOut_75 : decode cX11_carryOut 75 = .ok (.goto 139, 3) := by decide +kernel
theorem dX11_carryOut_78 : decode cX11_carryOut 78 = .ok (.aload_n 0, 1) := by decide +kernel
theorem dX11_carryOut_79 : decode cX11_carryOut 79 = .ok (.getfield 10, 3) := by decide +kernel
theorem dX11_carryOut_82 : decode cX11_carryOut 82 = .ok (.aload_n 2, 1) := by decide +kernel
theorem dX11_carryOut_83 : decode cX11_carryOut 83 = .ok (.iconst 0, 1) := by decide +kernel
theorem dX11_carryOut_84 : decode cX11_carryOut 84 = .ok (.iaload, 1) := by decide +kernel
theorem dX11_carryOut_85 : decode cX11_carryOut 85 = .ok (.aload_n 2, 1) := by decide +kernel
theorem dX11_carryOut_86 : decode cX11_carryOut 86 = .ok (.iconst 1, 1) := by decide +kernel
theorem dX11_carryOut_87 : decode cX11_carryOut 87 = .ok (.iaload, 1) := by decide +kernel
theorem dX11_carryOut_88 : decode cX11_carryOut 88 = .ok (.aload_n 2, 1) := by decide +kernel
theorem dX11_carryOut_89 : decode cX11_carryOut 89 = .ok (.iconst 2, 1) := by decide +kernel
theorem dX11_carryOut_90 : decode cX11_carryOut 90 = .ok (.iaload, 1) := by decide +kernel
theorem dX11_carryOut_91 : decode cX11_carryOut 91 = .ok (.aload_n 2, 1) := by decide +kernel
theorem dX11_carryOut_92 : decode cX11_carryOut 92 = .ok (.iconst 3, 1) := by decide +kernel
theorem dX11_carryOut_93 : decode cX11_carryOut 93 = .ok (.iaload, 1) := by decide +kernel
theorem dX11_carryOut_94 : decode cX11_carryOut 94 = .ok (.invokevirtual 115, 3) := by decide +kernel
theorem dX11_carryOut_97 : decode cX11_carryOut 97 = .ok (.pop, 1) := by decide +kernel
theorem dX11_carryOut_98 : decode cX11_carryOut 98 = .ok (.goto 116, 3) := by decide +kernel
theorem dX11_carryOut_101 : decode cX11_carryOut 101 = .ok (.aload_n 0, 1) := by decide +kernel
theorem dX11_carryOut_102 : decode cX11_carryOut 102 = .ok (.getfield 10, 3) := by decide +kernel
theorem dX11_carryOut_105 : decode cX11_carryOut 105 = .ok (.aload_n 0, 1) := by decide +kernel
theorem dX11_carryOut_106 : decode cX11_carryOut 106 = .ok (.getfield 10, 3) := by decide +kernel
theorem dX11_carryOut_109 : decode cX11_carryOut 109 = .ok (.getfield 108, 3) := by decide +kernel
theorem dX11_carryOut_112 : decode cX11_carryOut 112 = .ok (.aload_n 2, 1) := by decide +kernel
theorem dX11_carryOut_113 : decode cX11_carryOut 113 = .ok (.iconst 0, 1) := by decide +kernel
theorem dX11_carryOut_114 : decode cX11_carryOut 114 = .ok (.iaload, 1) := by decide +kernel
theorem dX11_carryOut_115 : decode cX11_carryOut 115 = .ok (.invokevirtual 438, 3) := by decide +kernel
theorem dX11_carryOut_118 : decode cX11_carryOut 118 = .ok (.invokevirtual 123, 3) := by decide +kernel
theorem dX11_carryOut_121 : decode cX11_carryOut 121 = .ok (.pop, 1) := by decide +kernel
theorem dX11_carryOut_122 : decode cX11_carryOut 122 = .ok (.goto 92, 3) := by decide +kernel
theorem dX11_carryOut_125 : decode cX11_carryOut 125 = .ok (.aload_n 0, 1) := by decide +kernel
theorem dX11_carryOut_126 : decode cX11_carryOut 126 = .ok (.getfield 10, 3) := by decide +kernel
theorem dX11_carryOut_129 : decode cX11_carryOut 129 = .ok (.getfield 128, 3) := by decide +kernel
theorem dX11_carryOut_132 : decode cX11_carryOut 132 = .ok (.aload_n 2, 1) := by decide +kernel
theorem dX11_carryOut_133 : decode cX11_carryOut 133 = .ok (.iconst 0, 1) := by decide +kernel
theorem dX11_carryOut_134 : decode cX11_carryOut 134 = .ok (.iaload, 1) := by decide +kernel
theorem dX11_carryOut_135 : decode cX11_carryOut 135 = .ok (.aload_n 2, 1) := by decide +kernel
theorem dX11_carryOut_136 : decode cX11_carryOut 136 = .ok (.iconst 1, 1) := by decide +kernel
theorem dX11_carryOut_137 : decode cX11_carryOut 137 = .ok (.iaload, 1) := by decide +kernel
theorem dX11_carryOut_138 : decode cX11_carryOut 138 = .ok (.iload_n 3, 1) := by decide +kernel
theorem dX11_carryOut_139 : decode cX11_carryOut 139 = .ok (.invokevirtual 137, 3) := by decide +kernel
theorem dX11_carryOut_142 : decode cX11_carryOut 142 = .ok (.pop, 1) := by decide +kernel
theorem dX11_carryOut_143 : decode cX11_carryOut 143 = .ok (.goto 71, 3) := by decide +kernel
theorem dX11_carryOut_146 : decode cX11_carryOut 146 = .ok (.aload_n 0, 1) := by decide +kernel
theorem dX11_carryOut_147 : decode cX11_carryOut 147 = .ok (.getfield 10, 3) := by decide +kernel
theorem dX11_carryOut_150 : decode cX11_carryOut 150 = .ok (.getfield 128, 3) := by decide +kernel
theorem dX11_carryOut_153 : decode cX11_carryOut 153 = .ok (.aload_n 2, 1) := by decide +kernel
theorem dX11_carryOut_154 : decode cX11_carryOut 154 = .ok (.iconst 0, 1) := by decide +kernel
theorem dX11_carryOut_155 : decode cX11_carryOut 155 = .ok (.iaload, 1) := by decide +kernel
theorem dX11_carryOut_156 : decode cX11_carryOut 156 = .ok (.invokevirtual 143, 3) := by decide +kernel
theorem dX11_carryOut_159 : decode cX11_carryOut 159 = .ok (.pop, 1) := by decide +kernel
theorem dX11_carryOut_160 : decode cX11_carryOut 160 = .ok (.goto 54, 3) := by decide +kernel
theorem dX11_carryOut_163 : decode cX11_carryOut 163 = .ok (.aload_n 0, 1) := by decide +kernel
theorem dX11_carryOut_164 : decode cX11_carryOut 164 = .ok (.getfield 10, 3) := by decide +kernel
theorem dX11_carryOut_167 : decode cX11_carryOut 167 = .ok (.getfield 68, 3) := by decide +kernel
theorem dX11_carryOut_170 : decode cX11_carryOut 170 = .ok (.aload_n 2, 1) := by decide +kernel
theorem dX11_carryOut_171 : decode cX11_carryOut 171 = .ok (.iconst 0, 1) := by decide +kernel
theorem dX11_carryOut_172 : decode cX11_carryOut 172 = .ok (.iaload, 1) := by decide +kernel
theorem dX11_carryOut_173 : decode cX11_carryOut 173 = .ok (.iload_n 3, 1) := by decide +kernel
theorem dX11_carryOut_174 : decode cX11_carryOut 174 = .ok (.ifCond .eq 7, 3) := by decide +kernel
theorem dX11_carryOut_177 : decode cX11_carryOut 177 = .ok (.iconst 1, 1) := by decide +kernel
theorem dX11_carryOut_178 : decode cX11_carryOut 178 = .ok (.goto 4, 3) := by decide +kernel
theorem dX11_carryOut_181 : decode cX11_carryOut 181 = .ok (.iconst 2, 1) := by decide +kernel
theorem dX11_carryOut_182 : decode cX11_carryOut 182 = .ok (.invokevirtual 152, 3) := by decide +kernel
theorem dX11_carryOut_185 : decode cX11_carryOut 185 = .ok (.pop, 1) := by decide +kernel
theorem dX11_carryOut_186 : decode cX11_carryOut 186 = .ok (.goto 28, 3) := by decide +kernel
theorem dX11_carryOut_189 : decode cX11_carryOut 189 = .ok (.aload_n 0, 1) := by decide +kernel
theorem dX11_carryOut_190 : decode cX11_carryOut 190 = .ok (.getfield 10, 3) := by decide +kernel
theorem dX11_carryOut_193 : decode cX11_carryOut 193 = .ok (.getfield 68, 3) := by decide +kernel
theorem dX11_carryOut_196 : decode cX11_carryOut 196 = .ok (.aload_n 2, 1) := by decide +kernel
theorem dX11_carryOut_197 : decode cX11_carryOut 197 = .ok (.iconst 0, 1) := by decide +kernel
theorem dX11_carryOut_198 : decode cX11_carryOut 198 = .ok (.iaload, 1) := by decide +kernel
theorem dX11_carryOut_199 : decode cX11_carryOut 199 = .ok (.invokevirtual 177, 3) := by decide +kernel
theorem dX11_carryOut_202 : decode cX11_carryOut 202 = .ok (.pop, 1) := by decide +kernel
theorem dX11_carryOut_203 : decode cX11_carryOut 203 = .ok (.goto 11, 3) := by decide +kernel
theorem dX11_carryOut_206 : decode cX11_carryOut 206 = .ok (.aload_n 0, 1) := by decide +kernel
theorem dX11_carryOut_207 : decode cX11_carryOut 207 = .ok (.aload_n 2, 1) := by decide +kernel
theorem dX11_carryOut_208 : decode cX11_carryOut 208 = .ok (.iconst 0, 1) := by decide +kernel
theorem dX11_carryOut_209 : decode cX11_carryOut 209 = .ok (.iaload, 1) := by decide +kernel
theorem dX11_carryOut_210 : decode cX11_carryOut 210 = .ok (.invokevirtual 171, 3) := by decide +kernel
theorem dX11_carryOut_213 : decode cX11_carryOut 213 = .ok (.pop, 1) := by decide +kernel
theorem dX11_carryOut_214 : decode cX11_carryOut 214 = .ok (.iconst 1, 1) := by decide +kernel
theorem dX11_carryOut_215 : decode cX11_carryOut 215 = .ok (.ireturn, 1) := by decide +kernel
theorem dX11_isPossible_0 : decode cX11_isPossible 0 = .ok (.aload_n 2, 1) := by decide +kernel
theorem dX11_isPossible_1 : decode cX11_isPossible 1 = .ok (.iconst 0, 1) := by decide +kernel
theorem dX11_isPossible_2 : decode cX11_isPossible 2 = .ok (.iaload, 1) := by decide +kernel
theorem dX11_isPossible_3 : decode cX11_isPossible 3 = .ok (.istore 4, 2) := by decide +kernel
theorem dX11_isPossible_5 : decode cX11_isPossible 5 = .ok (.getstatic 487, 3) := by decide +kernel
theorem dX11_isPossible_8 : decode cX11_isPossible 8 = .ok (.aload_n 1, 1) := by decide +kernel
theorem dX11_isPossible_9 : decode cX11_isPossible 9 = .ok (.invokevirtual 492, 3) := by decide +kernel
theorem dX11_isPossible_12 : decode cX11_isPossible 12 = .ok (.iaload, 1) := by decide +kernel
theorem dX11_isPossible_13 : decode cX11_isPossible 13 = .ok (.tableswitch 277 1 7 #[43, 62, 111, 133, 191, 204, 241], 43) := by decide +kernel
theorem dX11_isPossible_56 : decode cX11_isPossible 56 = .ok (.aload_n 0, 1) := by decide +kernel
theorem dX11_isPossible_57 : decode cX11_isPossible 57 = .ok (.getfield 10, 3) := by decide +kernel
theorem dX11_isPossible_60 : decode cX11_isPossible 60 = .ok (.getfield 68, 3) := by decide +kernel
theorem dX11_isPossible_63 : decode cX11_isPossible 63 = .ok (.invokevirtual 72, 3) := by decide +kernel
theorem dX11_isPossible_66 : decode cX11_isPossible 66 = .ok (.ifCond .ne 7, 3) := by decide +kernel
theorem dX11_isPossible_69 : decode cX11_isPossible 69 = .ok (.iconst 1, 1) := by decide +kernel
theorem dX11_isPossible_70 : decode cX11_isPossible 70 = .ok (.goto 4, 3) := by decide +kernel
theorem dX11_isPossible_73 : decode cX11_isPossible 73 = .ok (.iconst 0, 1) := by decide +kernel
theorem dX11_isPossible_74 : decode cX11_isPossible 74 = .ok (.ireturn, 1) := by decide +kernel
theorem dX11_isPossible_75 : decode cX11_isPossible 75 = .ok (.aload_n 0, 1) := by decide +kernel
theorem dX11_isPossible_76 : decode cX11_isPossible 76 = .ok (.getfield 10, 3) := by decide +kernel
theorem dX11_isPossible_79 : decode cX11_isPossible 79 = .ok (.getfield 68, 3) := by decide +kernel
theorem dX11_isPossible_82 : decode cX11_isPossible 82 = .ok (.iload 4, 2) := by decide +kernel
theorem dX11_isPossible_84 : decode cX11_isPossible 84 = .ok (.invokevirtual 199, 3) := by decide +kernel
theorem dX11_isPossible_87 : decode cX11_isPossible 87 = .ok (.ifCond .eq 35, 3) := by decide +kernel
theorem dX11_isPossible_90 : decode cX11_isPossible 90 = .ok (.aload_n 2, 1) := by decide +kernel
theorem dX11_isPossible_91 : decode cX11_isPossible 91 = .ok (.iconst 1, 1) := by decide +kernel
theorem dX11_isPossible_92 : decode cX11_isPossible 92 = .ok (.iaload, 1) := by decide +kernel
theorem dX11_isPossible_93 : decode cX11_isPossible 93 = .ok (.aload_n 2, 1) := by decide +kernel
theorem dX11_isPossible_94 : decode cX11_isPossible 94 = .ok (.iconst 2, 1) := by decide +kernel
theorem dX11_isPossible_95 : decode cX11_isPossible 95 = .ok (.iaload, 1) := by decide +kernel
theorem dX11_isPossible_96 : decode cX11_isPossible 96 = .ok (.aload_n 2, 1) := by decide +kernel
theorem dX11_isPossible_97 : decode cX11_isPossible 97 = .ok (.iconst 3, 1) := by decide +kernel
theorem dX11_isPossible_98 : decode cX11_isPossible 98 = .ok (.iaload, 1) := by decide +kernel
theorem dX11_isPossible_99 : decode cX11_isPossible 99 = .ok (.invokestatic 97, 3) := by decide +kernel
theorem dX11_isPossible_102 : decode cX11_isPossible 102 = .ok (.ifCond .eq 20, 3) := by decide +kernel
theorem dX11_isPossible_105 : decode cX11_isPossible 105 = .ok (.aload_n 0, 1) := by decide +kernel
theorem dX11_isPossible_106 : decode cX11_isPossible 106 = .ok (.getfield 10, 3) := by decide +kernel
theorem dX11_isPossible_109 : decode cX11_isPossible 109 = .ok (.getfield 108, 3) := by decide +kernel
theorem dX11_isPossible_112 : decode cX11_isPossible 112 = .ok (.invokevirtual 112, 3) := by decide +kernel
theorem dX11_isPossible_115 : decode cX11_isPossible 115 = .ok (.ifCond .ne 7, 3) := by decide +kernel
theorem dX11_isPossible_118 : decode cX11_isPossible 118 = .ok (.iconst 1, 1) := by decide +kernel
theorem dX11_isPossible_119 : decode cX11_isPossible 119 = .ok (.goto 4, 3) := by decide +kernel
theorem dX11_isPossible_122 : decode cX11_isPossible 122 = .ok (.iconst 0, 1) := by decide +kernel
theorem dX11_isPossible_123 : decode cX11_isPossible 123 = .ok (.ireturn, 1) := by decide +kernel
theorem dX11_isPossible_124 : decode cX11_isPossible 124 = .ok (.aload_n 0, 1) := by decide +kernel
theorem dX11_isPossible_125 : decode cX11_isPossible 125 = .ok (.getfield 10, 3) := by decide +kernel
theorem dX11_isPossible_128 : decode cX11_isPossible 128 = .ok (.getfield 108, 3) := by decide +kernel
theorem dX11_isPossible_131 : decode cX11_isPossible 131 = .ok (.iload 4, 2) := by decide +kernel
theorem dX11_isPossible_133 : decode cX11_isPossible 133 = .ok (.invokevirtual 438, 3) := by decide +kernel
theorem dX11_isPossible_136 : decode cX11_isPossible 136 = .ok (.iconst (-1), 1) := by decide +kernel
theorem dX11_isPossible_137 : decode cX11_isPossible 137 = .ok (.if_icmp .eq 7, 3) := by decide +kernel
theorem dX11_isPossible_140 : decode cX11_isPossible 140 = .ok (.iconst 1, 1) := by decide +kernel
theorem dX11_isPossible_141 : decode cX11_isPossible 141 = .ok (.goto 4, 3) := by decide +kernel
theorem dX11_isPossible_144 : decode cX11_isPossible 144 = .ok (.iconst 0, 1) := by decide +kernel
theorem dX11_isPossible_145 : decode cX11_isPossible 145 = .ok (.ireturn, 1) := by decide +kernel
theorem dX11_isPossible_146 : decode cX11_isPossible 146 = .ok (.aload_n 0, 1) := by decide +kernel
theorem dX11_isPossible_147 : decode cX11_isPossible 147 = .ok (.getfield 10, 3) := by decide +kernel
theorem dX11_isPossible_150 : decode cX11_isPossible 150 = .ok (.getfield 68, 3) := by decide +kernel
theorem dX11_isPossible_153 : decode cX11_isPossible 153 = .ok (.iload 4, 2) := by decide +kernel
theorem dX11_isPossible_155 : decode cX11_isPossible 155 = .ok (.invokevirtual 199, 3) := by decide +kernel
theorem dX11_isPossible_158 : decode cX11_isPossible 158 = .ok (.ifCond .eq 44, 3) := by decide +kernel
theorem dX11_isPossible_161 : decode cX11_isPossible 161 = .ok (.aload_n 0, 1) := by decide +kernel
theorem dX11_isPossible_162 : decode cX11_isPossible 162 = .ok (.getfield 10, 3) := by decide +kernel
theorem dX11_isPossible_165 : decode cX11_isPossible 165 = .ok (.getfield 68, 3) := by decide +kernel
theorem dX11_isPossible_168 : decode cX11_isPossible 168 = .ok (.aload_n 2, 1) := by decide +kernel
theorem dX11_isPossible_169 : decode cX11_isPossible 169 = .ok (.iconst 1, 1) := by decide +kernel
theorem dX11_isPossible_170 : decode cX11_isPossible 170 = .ok (.iaload, 1) := by decide +kernel
theorem dX11_isPossible_171 : decode cX11_isPossible 171 = .ok (.invokevirtual 199, 3) := by decide +kernel
theorem dX11_isPossible_174 : decode cX11_isPossible 174 = .ok (.ifCond .eq 28, 3) := by decide +kernel
theorem dX11_isPossible_177 : decode cX11_isPossible 177 = .ok (.iload 4, 2) := by decide +kernel
theorem dX11_isPossible_179 : decode cX11_isPossible 179 = .ok (.aload_n 2, 1) := by decide +kernel
theorem dX11_isPossible_180 : decode cX11_isPossible 180 = .ok (.iconst 1, 1) := by decide +kernel
theorem dX11_isPossible_181 : decode cX11_isPossible 181 = .ok (.iaload, 1) := by decide +kernel
theorem dX11_isPossible_182 : decode cX11_isPossible 182 = .ok (.if_icmp .eq 20, 3) := by decide +kernel
theorem dX11_isPossible_185 : decode cX11_isPossible 185 = .ok (.aload_n 0, 1) := by decide +kernel
theorem dX11_isPossible_186 : decode cX11_isPossible 186 = .ok (.getfield 10, 3) := by decide +kernel
theorem dX11_isPossible_189 : decode cX11_isPossible 189 = .ok (.getfield 128, 3) := by decide +kernel
theorem dX11_isPossible_192 : decode cX11_isPossible 192 = .ok (.invokevirtual 132, 3) := by decide +kernel
theorem dX11_isPossible_195 : decode cX11_isPossible 195 = .ok (.ifCond .ne 7, 3) := by decide +kernel
theorem dX11_isPossible_198 : decode cX11_isPossible 198 = .ok (.iconst 1, 1) := by decide +kernel
theorem dX11_isPossible_199 : decode cX11_isPossible 199 = .ok (.goto 4, 3) := by decide +kernel
theorem dX11_isPossible_202 : decode cX11_isPossible 202 = .ok (.iconst 0, 1) := by decide +kernel
theorem dX11_isPossible_203 : decode cX11_isPossible 203 = .ok (.ireturn, 1) := by decide +kernel
theorem dX11_isPossible_204 : decode cX11_isPossible 204 = .ok (.aload_n 0, 1) := by decide +kernel
theorem dX11_isPossible_205 : decode cX11_isPossible 205 = .ok (.getfield 10, 3) := by decide +kernel
theorem dX11_isPossible_208 : decode cX11_isPossible 208 = .ok (.getfield 128, 3) := by decide +kernel
theorem dX11_isPossible_211 : decode cX11_isPossible 211 = .ok (.iload 4, 2) := by decide +kernel
theorem dX11_isPossible_213 : decode cX11_isPossible 213 = .ok (.invokevirtual 435, 3) := by decide +kernel
theorem dX11_isPossible_216 : decode cX11_isPossible 216 = .ok (.ireturn, 1) := by decide +kernel
theorem dX11_isPossible_217 : decode cX11_isPossible 217 = .ok (.aload_n 0, 1) := by decide +kernel
theorem dX11_isPossible_218 : decode cX11_isPossible 218 = .ok (.getfield 10, 3) := by decide +kernel
theorem dX11_isPossible_221 : decode cX11_isPossible 221 = .ok (.getfield 68, 3) := by decide +kernel
theorem dX11_isPossible_224 : decode cX11_isPossible 224 = .ok (.iload 4, 2) := by decide +kernel
theorem dX11_isPossible_226 : decode cX11_isPossible 226 = .ok (.invokevirtual 199, 3) := by decide +kernel
theorem dX11_isPossible_229 : decode cX11_isPossible 229 = .ok (.ifCond .eq 23, 3) := by decide +kernel
theorem dX11_isPossible_232 : decode cX11_isPossible 232 = .ok (.aload_n 0, 1) := by decide +kernel
theorem dX11_isPossible_233 : decode cX11_isPossible 233 = .ok (.getfield 10, 3) := by decide +kernel
theorem dX11_isPossible_236 : decode cX11_isPossible 236 = .ok (.getfield 68, 3) := by decide +kernel
theorem dX11_isPossible_239 : decode cX11_isPossible 239 = .ok (.iload 4, 2) := by decide +kernel
theorem dX11_isPossible_241 : decode cX11_isPossible 241 = .ok (.iload_n 3, 1) := by decide +kernel
theorem dX11_isPossible_242 : decode cX11_isPossible 242 = .ok (.invokevirtual 146, 3) := by decide +kernel
theorem dX11_isPossible_245 : decode cX11_isPossible 245 = .ok (.ifCond .ne 7, 3) := by decide +kernel
theorem dX11_isPossible_248 : decode cX11_isPossible 248 = .ok (.iconst 1, 1) := by decide +kernel
theorem dX11_isPossible_249 : decode cX11_isPossible 249 = .ok (.goto 4, 3) := by decide +kernel
theorem dX11_isPossible_252 : decode cX11_isPossible 252 = .ok (.iconst 0, 1) := by decide +kernel
theorem dX11_isPossible_253 : decode cX11_isPossible 253 = .ok (.ireturn, 1) := by decide +kernel
theorem dX11_isPossible_254 : decode cX11_isPossible 254 = .ok (.aload_n 0, 1) := by decide +kernel
theorem dX11_isPossible_255 : decode cX11_isPossible 255 = .ok (.getfield 10, 3) := by decide +kernel
theorem dX11_isPossible_258 : decode cX11_isPossible 258 = .ok (.getfield 68, 3) := by decide +kernel
theorem dX11_isPossible_261 : decode cX11_isPossible 261 = .ok (.iload 4, 2) := by decide +kernel
theorem dX11_isPossible_263 : decode cX11_isPossible 263 = .ok (.invokevirtual 199, 3) := by decide +kernel
theorem dX11_isPossible_266 : decode cX11_isPossible 266 = .ok (.ifCond .eq 22, 3) := by decide +kernel
theorem dX11_isPossible_269 : decode cX11_isPossible 269 = .ok (.aload_n 0, 1) := by decide +kernel
theorem dX11_isPossible_270 : decode cX11_isPossible 270 = .ok (.getfield 10, 3) := by decide +kernel
theorem dX11_isPossible_273 : decode cX11_isPossible 273 = .ok (.getfield 68, 3) := by decide +kernel
theorem dX11_isPossible_276 : decode cX11_isPossible 276 = .ok (.iload 4, 2) := by decide +kernel
theorem dX11_isPossible_278 : decode cX11_isPossible 278 = .ok (.invokevirtual 430, 3) := by decide +kernel
theorem dX11_isPossible_281 : decode cX11_isPossible 281 = .ok (.ifCond .eq 7, 3) := by decide +kernel
theorem dX11_isPossible_284 : decode cX11_isPossible 284 = .ok (.iconst 1, 1) := by decide +kernel
theorem dX11_isPossible_285 : decode cX11_isPossible 285 = .ok (.goto 4, 3) := by decide +kernel
theorem dX11_isPossible_288 : decode cX11_isPossible 288 = .ok (.iconst 0, 1) := by decide +kernel
theorem dX11_isPossible_289 : decode cX11_isPossible 289 = .ok (.ireturn, 1) := by decide +kernel
theorem dX11_isPossible_290 : decode cX11_isPossible 290 = .ok (.iload 4, 2) := by decide +kernel
theorem dX11_isPossible_292 : decode cX11_isPossible 292 = .ok (.invokestatic 165, 3) := by decide +kernel
theorem dX11_isPossible_295 : decode cX11_isPossible 295 = .ok (.ireturn, 1) := by decide +kernel
theorem dX12_init_0 : decode cX12_init 0 = .ok (.aload_n 0, 1) := by decide +kernel
theorem dX12_init_1 : decode cX12_init 1 = .ok (.invokespecial 1, 3) := by decide +kernel
theorem dX12_init_4 : decode cX12_init 4 = .ok (.aload_n 0, 1) := by decide +kernel
theorem dX12_init_5 : decode cX12_init 5 = .ok (.sipush 187, 3) := by decide +kernel
theorem dX12_init_8 : decode cX12_init 8 = .ok (.newarray .int, 2) := by decide +kernel
theorem dX12_init_10 : decode cX12_init 10 = .ok (.putfield 7, 3) := by decide +kernel
theorem dX12_init_13 : decode cX12_init 13 = .ok (.aload_n 0, 1) := by decide +kernel
theorem dX12_init_14 : decode cX12_init 14 = .ok (.sipush 1496, 3) := by decide +kernel
theorem dX12_init_17 : decode cX12_init 17 = .ok (.newarray .int, 2) := by decide +kernel
theorem dX12_init_19 : decode cX12_init 19 = .ok (.putfield 13, 3) := by decide +kernel
theorem dX12_init_22 : decode cX12_init 22 = .ok (.aload_n 0, 1) := by decide +kernel
theorem dX12_init_23 : decode cX12_init 23 = .ok (.sipush 187, 3) := by decide +kernel
theorem dX12_init_26 : decode cX12_init 26 = .ok (.newarray .int, 2) := by decide +kernel
theorem dX12_init_28 : decode cX12_init 28 = .ok (.putfield 16, 3) := by decide +kernel
theorem dX12_init_31 : decode cX12_init 31 = .ok (.aload_n 0, 1) := by decide +kernel
theorem dX12_init_32 : decode cX12_init 32 = .ok (.sipush 187, 3) := by decide +kernel
theorem dX12_init_35 : decode cX12_init 35 = .ok (.newarray .int, 2) := by decide +kernel
theorem dX12_init_37 : decode cX12_init 37 = .ok (.putfield 19, 3) := by decide +kernel
theorem dX12_init_40 : decode cX12_init 40 = .ok (.aload_n 0, 1) := by decide +kernel
theorem dX12_init_41 : decode cX12_init 41 = .ok (.bipush 60, 2) := by decide +kernel
theorem dX12_init_43 : decode cX12_init 43 = .ok (.newarray .int, 2) := by decide +kernel
theorem dX12_init_45 : decode cX12_init 45 = .ok (.putfield 22, 3) := by decide +kernel
theorem dX12_init_48 : decode cX12_init 48 = .ok (.aload_n 0, 1) := by decide +kernel
theorem dX12_init_49 : decode cX12_init 49 = .ok (.iconst (-1), 1) := by decide +kernel
theorem dX12_init_50 : decode cX12_init 50 = .ok (.putfield 25, 3) := by decide +kernel
theorem dX12_init_53 : decode cX12_init 53 = .ok (.aload_n 0, 1) := by decide +kernel
theorem dX12_init_54 : decode cX12_init 54 = .ok (.iconst (-1), 1) := by decide +kernel
theorem dX12_init_55 : decode cX12_init 55 = .ok (.putfield 29, 3) := by decide +kernel
theorem dX12_init_58 : decode cX12_init 58 = .ok (.aload_n 0, 1) := by decide +kernel
theorem dX12_init_59 : decode cX12_init 59 = .ok (.bipush 60, 2) := by decide +kernel
theorem dX12_init_61 : decode cX12_init 61 = .ok (.newarray .char, 2) := by decide +kernel
theorem dX12_init_63 : decode cX12_init 63 = .ok (.putfield 32, 3) := by decide +kernel
theorem dX12_init_66 : decode cX12_init 66 = .ok (.aload_n 0, 1) := by decide +kernel
theorem dX12_init_67 : decode cX12_init 67 = .ok (.sipush 155, 3) := by decide +kernel
theorem dX12_init_70 : decode cX12_init 70 = .ok (.newarray .int, 2) := by decide +kernel
theorem dX12_init_72 : decode cX12_init 72 = .ok (.putfield 36, 3) := by decide +kernel
theorem dX12_init_75 : decode cX12_init 75 = .ok (.return_, 1) := by decide +kernel
theorem dX12_thrown_0 : decode cX12_thrown 0 = .ok (.aload_n 0, 1) := by decide +kernel
theorem dX12_thrown_1 : decode cX12_thrown 1 = .ok (.getfield 39, 3) := by decide +kernel
theorem dX12_thrown_4 : decode cX12_thrown 4 = .ok (.ireturn, 1) := by decide +kernel
theorem dX12_fails_0 : decode cX12_fails 0 = .ok (.aload_n 0, 1) := by decide +kernel
theorem dX12_fails_1 : decode cX12_fails 1 = .ok (.iload_n 1, 1) := by decide +kernel
theorem dX12_fails_2 : decode cX12_fails 2 = .ok (.putfield 39, 3) := by decide +kernel
theorem dX12_fails_5 : decode cX12_fails 5 = .ok (.iload_n 1, 1) := by decide +kernel
theorem dX12_fails_6 : decode cX12_fails 6 = .ok (.ifCond .le 7, 3) := by decide +kernel
theorem dX12_fails_9 : decode cX12_fails 9 = .ok (.iconst 1, 1) := by decide +kernel
theorem dX12_fails_10 : decode cX12_fails 10 = .ok (.goto 4, 3) := by decide +kernel
theorem dX12_fails_13 : decode cX12_fails 13 = .ok (.iconst 0, 1) := by decide +kernel
theorem dX12_fails_14 : decode cX12_fails 14 = .ok (.ireturn, 1) := by decide +kernel
theorem dX12_in_0 : decode cX12_in 0 = .ok (.iload_n 0, 1) := by decide +kernel
theorem dX12_in_1 : decode cX12_in 1 = .ok (.iload_n 1, 1) := by decide +kernel
theorem dX12_in_2 : decode cX12_in 2 = .ok (.if_icmp .lt 12, 3) := by decide +kernel
theorem dX12_in_5 : decode cX12_in 5 = .ok (.iload_n 0, 1) := by decide +kernel
theorem dX12_in_6 : decode cX12_in 6 = .ok (.iload_n 2, 1) := by decide +kernel
theorem dX12_in_7 : decode cX12_in 7 = .ok (.if_icmp .gt 7, 3) := by decide +kernel
theorem dX12_in_10 : decode cX12_in 10 = .ok (.iconst 1, 1) := by decide +kernel
theorem dX12_in_11 : decode cX12_in 11 = .ok (.goto 4, 3) := by decide +kernel
theorem dX12_in_14 : decode cX12_in 14 = .ok (.iconst 0, 1) := by decide +kernel
theorem dX12_in_15 : decode cX12_in 15 = .ok (.ireturn, 1) := by decide +kernel
theorem dX12_copies_0 : decode cX12_copies 0 = .ok (.iconst 0, 1) := by decide +kernel
theorem dX12_copies_1 : decode cX12_copies 1 = .ok (.istore 4, 2) := by decide +kernel
theorem dX12_copies_3 : decode cX12_copies 3 = .ok (.iload 4, 2) := by decide +kernel
theorem dX12_copies_5 : decode cX12_copies 5 = .ok (.sipush 187, 3) := by decide +kernel
theorem dX12_copies_8 : decode cX12_copies 8 = .ok (.if_icmp .ge 21, 3) := by decide +kernel
theorem dX12_copies_11 : decode cX12_copies 11 = .ok (.aload_n 2, 1) := by decide +kernel
theorem dX12_copies_12 : decode cX12_copies 12 = .ok (.iload_n 3, 1) := by decide +kernel
theorem dX12_copies_13 : decode cX12_copies 13 = .ok (.iload 4, 2) := by decide +kernel
theorem dX12_copies_15 : decode cX12_copies 15 = .ok (.iadd, 1) := by decide +kernel
theorem dX12_copies_16 : decode cX12_copies 16 = .ok (.aload_n 0, 1) := by decide +kernel
theorem dX12_copies_17 : decode cX12_copies 17 = .ok (.iload_n 1, 1) := by decide +kernel
theorem dX12_copies_18 : decode cX12_copies 18 = .ok (.iload 4, 2) := by decide +kernel
theorem dX12_copies_20 : decode cX12_copies 20 = .ok (.iadd, 1) := by decide +kernel
theorem dX12_copies_21 : decode cX12_copies 21 = .ok (.iaload, 1) := by decide +kernel
theorem dX12_copies_22 : decode cX12_copies 22 = .ok (.iastore, 1) := by decide +kernel
theorem dX12_copies_23 : decode cX12_copies 23 = .ok (.iinc 4 1, 3) := by decide +kernel
theorem dX12_copies_26 : decode cX12_copies 26 = .ok (.goto (-23), 3) := by decide +kernel
theorem dX12_copies_29 : decode cX12_copies 29 = .ok (.return_, 1) := by decide +kernel
theorem dX12_keeps_0 : decode cX12_keeps 0 = .ok (.aload_n 0, 1) := by decide +kernel
theorem dX12_keeps_1 : decode cX12_keeps 1 = .ok (.iconst 0, 1) := by decide +kernel
theorem dX12_keeps_2 : decode cX12_keeps 2 = .ok (.putfield 39, 3) := by decide +kernel
theorem dX12_keeps_5 : decode cX12_keeps 5 = .ok (.aload_n 0, 1) := by decide +kernel
theorem dX12_keeps_6 : decode cX12_keeps 6 = .ok (.getfield 42, 3) := by decide +kernel
theorem dX12_keeps_9 : decode cX12_keeps 9 = .ok (.ifCond .eq 4, 3) := by decide +kernel
theorem dX12_keeps_12 : decode cX12_keeps 12 = .ok (.return_, 1) := by decide +kernel
theorem dX12_keeps_13 : decode cX12_keeps 13 = .ok (.aload_n 0, 1) := by decide +kernel
theorem dX12_keeps_14 : decode cX12_keeps 14 = .ok (.getfield 46, 3) := by decide +kernel
theorem dX12_keeps_17 : decode cX12_keeps 17 = .ok (.bipush 8, 2) := by decide +kernel
theorem dX12_keeps_19 : decode cX12_keeps 19 = .ok (.if_icmp .ne 44, 3) := by decide +kernel
theorem dX12_keeps_22 : decode cX12_keeps 22 = .ok (.iconst 0, 1) := by decide +kernel
theorem dX12_keeps_23 : decode cX12_keeps 23 = .ok (.istore_n 2, 1) := by decide +kernel
theorem dX12_keeps_24 : decode cX12_keeps 24 = .ok (.iload_n 2, 1) := by decide +kernel
theorem dX12_keeps_25 : decode cX12_keeps 25 = .ok (.sipush 1309, 3) := by decide +kernel
theorem dX12_keeps_28 : decode cX12_keeps 28 = .ok (.if_icmp .ge 25, 3) := by decide +kernel
theorem dX12_keeps_31 : decode cX12_keeps 31 = .ok (.aload_n 0, 1) := by decide +kernel
theorem dX12_keeps_32 : decode cX12_keeps 32 = .ok (.getfield 13, 3) := by decide +kernel
theorem dX12_keeps_35 : decode cX12_keeps 35 = .ok (.iload_n 2, 1) := by decide +kernel
theorem dX12_keeps_36 : decode cX12_keeps 36 = .ok (.aload_n 0, 1) := by decide +kernel
theorem dX12_keeps_37 : decode cX12_keeps 37 = .ok (.getfield 13, 3) := by decide +kernel
theorem dX12_keeps_40 : decode cX12_keeps 40 = .ok (.iload_n 2, 1) := by decide +kernel
theorem dX12_keeps_41 : decode cX12_keeps 41 = .ok (.sipush 187, 3) := by decide +kernel
theorem dX12_keeps_44 : decode cX12_keeps 44 = .ok (.iadd, 1) := by decide +kernel
theorem dX12_keeps_45 : decode cX12_keeps 45 = .ok (.iaload, 1) := by decide +kernel
theorem dX12_keeps_46 : decode cX12_keeps 46 = .ok (.iastore, 1) := by decide +kernel
theorem dX12_keeps_47 : decode cX12_keeps 47 = .ok (.iinc 2 1, 3) := by decide +kernel
theorem dX12_keeps_50 : decode cX12_keeps 50 = .ok (.goto (-26), 3) := by decide +kernel
theorem dX12_keeps_53 : decode cX12_keeps 53 = .ok (.aload_n 0, 1) := by decide +kernel
theorem dX12_keeps_54 : decode cX12_keeps 54 = .ok (.dup, 1) := by decide +kernel
theorem dX12_keeps_55 : decode cX12_keeps 55 = .ok (.getfield 46, 3) := by decide +kernel
theorem dX12_keeps_58 : decode cX12_keeps 58 = .ok (.iconst 1, 1) := by decide +kernel
theorem dX12_keeps_59 : decode cX12_keeps 59 = .ok (.isub, 1) := by decide +kernel
theorem dX12_keeps_60 : decode cX12_keeps 60 = .ok (.putfield 46, 3) := by decide +kernel
theorem dX12_keeps_63 : decode cX12_keeps 63 = .ok (.aload_n 1, 1) := by decide +kernel
theorem dX12_keeps_64 : decode cX12_keeps 64 = .ok (.iconst 0, 1) := by decide +kernel
theorem dX12_keeps_65 : decode cX12_keeps 65 = .ok (.aload_n 0, 1) := by decide +kernel
theorem dX12_keeps_66 : decode cX12_keeps 66 = .ok (.getfield 13, 3) := by decide +kernel
theorem dX12_keeps_69 : decode cX12_keeps 69 = .ok (.sipush 187, 3) := by decide +kernel
theorem dX12_keeps_72 : decode cX12_keeps 72 = .ok (.aload_n 0, 1) := by decide +kernel
theorem dX12_keeps_73 : decode cX12_keeps 73 = .ok (.getfield 46, 3) := by decide +kernel
theorem dX12_keeps_76 : decode cX12_keeps 76 = .ok (.imul, 1) := by decide +kernel
theorem dX12_keeps_77 : decode cX12_keeps 77 = .ok (.invokestatic 49, 3) := by decide +kernel
theorem dX12_keeps_80 : decode cX12_keeps 80 = .ok (.aload_n 0, 1) := by decide +kernel
theorem dX12_keeps_81 : decode cX12_keeps 81 = .ok (.dup, 1) := by decide +kernel
theorem dX12_keeps_82 : decode cX12_keeps 82 = .ok (.getfield 46, 3) := by decide +kernel
theorem dX12_keeps_85 : decode cX12_keeps 85 = .ok (.iconst 1, 1) := by decide +kernel
theorem dX12_keeps_86 : decode cX12_keeps 86 = .ok (.iadd, 1) := by decide +kernel
theorem dX12_keeps_87 : decode cX12_keeps 87 = .ok (.putfield 46, 3) := by decide +kernel
theorem dX12_keeps_90 : decode cX12_keeps 90 = .ok (.return_, 1) := by decide +kernel
theorem dX12_bits_0 : decode cX12_bits 0 = .ok (.iconst 0, 1) := by decide +kernel
theorem dX12_bits_1 : decode cX12_bits 1 = .ok (.istore_n 1, 1) := by decide +kernel
theorem dX12_bits_2 : decode cX12_bits 2 = .ok (.iconst 0, 1) := by decide +kernel
theorem dX12_bits_3 : decode cX12_bits 3 = .ok (.istore_n 2, 1) := by decide +kernel
theorem dX12_bits_4 : decode cX12_bits 4 = .ok (.iload_n 2, 1) := by decide +kernel
theorem dX12_bits_5 : decode cX12_bits 5 = .ok (.bipush 12, 2) := by decide +kernel
theorem dX12_bits_7 : decode cX12_bits 7 = .ok (.if_icmp .ge 17, 3) := by decide +kernel
theorem dX12_bits_10 : decode cX12_bits 10 = .ok (.iload_n 1, 1) := by decide +kernel
theorem dX12_bits_11 : decode cX12_bits 11 = .ok (.iload_n 0, 1) := by decide +kernel
theorem dX12_bits_12 : decode cX12_bits 12 = .ok (.iload_n 2, 1) := by decide +kernel
theorem dX12_bits_13 : decode cX12_bits 13 = .ok (.ishr, 1) := by decide +kernel
theorem dX12_bits_14 : decode cX12_bits 14 = .ok (.iconst 1, 1) := by decide +kernel
theorem dX12_bits_15 : decode cX12_bits 15 = .ok (.iand, 1) := by decide +kernel
theorem dX12_bits_16 : decode cX12_bits 16 = .ok (.iadd, 1) := by decide +kernel
theorem dX12_bits_17 : decode cX12_bits 17 = .ok (.istore_n 1, 1) := by decide +kernel
theorem dX12_bits_18 : decode cX12_bits 18 = .ok (.iinc 2 1, 3) := by decide +kernel
theorem dX12_bits_21 : decode cX12_bits 21 = .ok (.goto (-17), 3) := by decide +kernel
theorem dX12_bits_24 : decode cX12_bits 24 = .ok (.iload_n 1, 1) := by decide +kernel
theorem dX12_bits_25 : decode cX12_bits 25 = .ok (.ireturn, 1) := by decide +kernel
theorem dX12_isLantern_0 : decode cX12_isLantern 0 = .ok (.iload_n 1, 1) := by decide +kernel
theorem dX12_isLantern_1 : decode cX12_isLantern 1 = .ok (.iconst 0, 1) := by decide +kernel
theorem dX12_isLantern_2 : decode cX12_isLantern 2 = .ok (.aload_n 0, 1) := by decide +kernel
theorem dX12_isLantern_3 : decode cX12_isLantern 3 = .ok (.getfield 7, 3) := by decide +kernel
theorem dX12_isLantern_6 : decode cX12_isLantern 6 = .ok (.iconst 0, 1) := by decide +kernel
theorem dX12_isLantern_7 : decode cX12_isLantern 7 = .ok (.iaload, 1) := by decide +kernel
theorem dX12_isLantern_8 : decode cX12_isLantern 8 = .ok (.iconst 1, 1) := by decide +kernel
theorem dX12_isLantern_9 : decode cX12_isLantern 9 = .ok (.isub, 1) := by decide +kernel
theorem dX12_isLantern_10 : decode cX12_isLantern 10 = .ok (.invokestatic 53, 3) := by decide +kernel
theorem dX12_isLantern_13 : decode cX12_isLantern 13 = .ok (.ireturn, 1) := by decide +kernel
theorem dX12_isNone_0 : decode cX12_isNone 0 = .ok (.aload_n 0, 1) := by decide +kernel
theorem dX12_isNone_1 : decode cX12_isNone 1 = .ok (.aload_n 0, 1) := by decide +kernel
theorem dX12_isNone_2 : decode cX12_isNone 2 = .ok (.iload_n 1, 1) := by decide +kernel
theorem dX12_isNone_3 : decode cX12_isNone 3 = .ok (.invokevirtual 57, 3) := by decide +kernel
theorem dX12_isNone_6 : decode cX12_isNone 6 = .ok (.ifCond .eq 7, 3) := by decide +kernel
theorem dX12_isNone_9 : decode cX12_isNone 9 = .ok (.iconst 0, 1) := by decide +kernel
theorem dX12_isNone_10 : decode cX12_isNone 10 = .ok (.goto 4, 3) := by decide +kernel
theorem dX12_isNone_13 : decode cX12_isNone 13 = .ok (.iconst 1, 1) := by decide +kernel
theorem dX12_isNone_14 : decode cX12_isNone 14 = .ok (.invokevirtual 61, 3) := by decide +kernel
theorem dX12_isNone_17 : decode cX12_isNone 17 = .ok (.ireturn, 1) := by decide +kernel
theorem dX12_of_0 : decode cX12_of 0 = .ok (.aload_n 0, 1) := by decide +kernel
theorem dX12_of_1 : decode cX12_of 1 = .ok (.getfield 7, 3) := by decide +kernel
theorem dX12_of_4 : decode cX12_of 4 = .ok (.bipush 13, 2) := by decide +kernel
theorem dX12_of_6 : decode cX12_of 6 = .ok (.bipush 11, 2) := by decide +kernel
theorem dX12_of_8 : decode cX12_of 8 = .ok (.iload_n 1, 1) := by decide +kernel
theorem dX12_of_9 : decode cX12_of 9 = .ok (.imul, 1) := by decide +kernel
theorem dX12_of_10 : decode cX12_of 10 = .ok (.iadd, 1) := by decide +kernel
theorem dX12_of_11 : decode cX12_of 11 = .ok (.iload_n 2, 1) := by decide +kernel
theorem dX12_of_12 : decode cX12_of 12 = .ok (.iadd, 1) := by decide +kernel
theorem dX12_of_13 : decode cX12_of 13 = .ok (.iaload, 1) := by decide +kernel
theorem dX12_of_14 : decode cX12_of 14 = .ok (.ireturn, 1) := by decide +kernel
theorem dX12_lays_0 : decode cX12_lays 0 = .ok (.aload_n 0, 1) := by decide +kernel
theorem dX12_lays_1 : decode cX12_lays 1 = .ok (.getfield 7, 3) := by decide +kernel
theorem dX12_lays_4 : decode cX12_lays 4 = .ok (.bipush 13, 2) := by decide +kernel
theorem dX12_lays_6 : decode cX12_lays 6 = .ok (.bipush 11, 2) := by decide +kernel
theorem dX12_lays_8 : decode cX12_lays 8 = .ok (.iload_n 1, 1) := by decide +kernel
theorem dX12_lays_9 : decode cX12_lays 9 = .ok (.imul, 1) := by decide +kernel
theorem dX12_lays_10 : decode cX12_lays 10 = .ok (.iadd, 1) := by decide +kernel
theorem dX12_lays_11 : decode cX12_lays 11 = .ok (.iload_n 2, 1) := by decide +kernel
theorem dX12_lays_12 : decode cX12_lays 12 = .ok (.iadd, 1) := by decide +kernel
theorem dX12_lays_13 : decode cX12_lays 13 = .ok (.iload_n 3, 1) := by decide +kernel
theorem dX12_lays_14 : decode cX12_lays 14 = .ok (.iastore, 1) := by decide +kernel
theorem dX12_lays_15 : decode cX12_lays 15 = .ok (.return_, 1) := by decide +kernel
theorem dX12_addLantern_0 : decode cX12_addLantern 0 = .ok (.aload_n 0, 1) := by decide +kernel
theorem dX12_addLantern_1 : decode cX12_addLantern 1 = .ok (.aload_n 0, 1) := by decide +kernel
theorem dX12_addLantern_2 : decode cX12_addLantern 2 = .ok (.getfield 7, 3) := by decide +kernel
theorem dX12_addLantern_5 : decode cX12_addLantern 5 = .ok (.iconst 0, 1) := by decide +kernel
theorem dX12_addLantern_6 : decode cX12_addLantern 6 = .ok (.iaload, 1) := by decide +kernel
theorem dX12_addLantern_7 : decode cX12_addLantern 7 = .ok (.bipush 8, 2) := by decide +kernel
theorem dX12_addLantern_9 : decode cX12_addLantern 9 = .ok (.if_icmp .ne 7, 3) := by decide +kernel
theorem dX12_addLantern_12 : decode cX12_addLantern 12 = .ok (.iconst 1, 1) := by decide +kernel
theorem dX12_addLantern_13 : decode cX12_addLantern 13 = .ok (.goto 4, 3) := by decide +kernel
theorem dX12_addLantern_16 : decode cX12_addLantern 16 = .ok (.iconst 0, 1) := by decide +kernel
theorem dX12_addLantern_17 : decode cX12_addLantern 17 = .ok (.invokevirtual 61, 3) := by decide +kernel
theorem dX12_addLantern_20 : decode cX12_addLantern 20 = .ok (.ifCond .eq 5, 3) := by decide +kernel
theorem dX12_addLantern_23 : decode cX12_addLantern 23 = .ok (.iconst 0, 1) := by decide +kernel
theorem dX12_addLantern_24 : decode cX12_addLantern 24 = .ok (.ireturn, 1) := by decide +kernel
theorem dX12_addLantern_25 : decode cX12_addLantern 25 = .ok (.aload_n 0, 1) := by decide +kernel
theorem dX12_addLantern_26 : decode cX12_addLantern 26 = .ok (.aload_n 0, 1) := by decide +kernel
theorem dX12_addLantern_27 : decode cX12_addLantern 27 = .ok (.getfield 7, 3) := by decide +kernel
theorem dX12_addLantern_30 : decode cX12_addLantern 30 = .ok (.invokevirtual 64, 3) := by decide +kernel
theorem dX12_addLantern_33 : decode cX12_addLantern 33 = .ok (.aload_n 0, 1) := by decide +kernel
theorem dX12_addLantern_34 : decode cX12_addLantern 34 = .ok (.getfield 7, 3) := by decide +kernel
theorem dX12_addLantern_37 : decode cX12_addLantern 37 = .ok (.iconst 0, 1) := by decide +kernel
theorem dX12_addLantern_38 : decode cX12_addLantern 38 = .ok (.iaload, 1) := by decide +kernel
theorem dX12_addLantern_39 : decode cX12_addLantern 39 = .ok (.istore_n 1, 1) := by decide +kernel
theorem dX12_addLantern_40 : decode cX12_addLantern 40 = .ok (.aload_n 0, 1) := by decide +kernel
theorem dX12_addLantern_41 : decode cX12_addLantern 41 = .ok (.getfield 7, 3) := by decide +kernel
theorem dX12_addLantern_44 : decode cX12_addLantern 44 = .ok (.iconst 0, 1) := by decide +kernel
theorem dX12_addLantern_45 : decode cX12_addLantern 45 = .ok (.dup2, 1) := by decide +kernel
theorem dX12_addLantern_46 : decode cX12_addLantern 46 = .ok (.iaload, 1) := by decide +kernel
theorem dX12_addLantern_47 : decode cX12_addLantern 47 = .ok (.iconst 1, 1) := by decide +kernel
theorem dX12_addLantern_48 : decode cX12_addLantern 48 = .ok (.iadd, 1) := by decide +kernel
theorem dX12_addLantern_49 : decode cX12_addLantern 49 = .ok (.iastore, 1) := by decide +kernel
theorem dX12_addLantern_50 : decode cX12_addLantern 50 = .ok (.iconst 0, 1) := by decide +kernel
theorem dX12_addLantern_51 : decode cX12_addLantern 51 = .ok (.istore_n 2, 1) := by decide +kernel
theorem dX12_addLantern_52 : decode cX12_addLantern 52 = .ok (.iload_n 2, 1) := by decide +kernel
theorem dX12_addLantern_53 : decode cX12_addLantern 53 = .ok (.bipush 11, 2) := by decide +kernel
theorem dX12_addLantern_55 : decode cX12_addLantern 55 = .ok (.if_icmp .ge 16, 3) := by decide +kernel
theorem dX12_addLantern_58 : decode cX12_addLantern 58 = .ok (.aload_n 0, 1) := by decide +kernel
theorem dX12_addLantern_59 : decode cX12_addLantern 59 = .ok (.iload_n 1, 1) := by decide +kernel
theorem dX12_addLantern_60 : decode cX12_addLantern 60 = .ok (.iload_n 2, 1) := by decide +kernel
theorem dX12_addLantern_61 : decode cX12_addLantern 61 = .ok (.iconst 0, 1) := by decide +kernel
theorem dX12_addLantern_62 : decode cX12_addLantern 62 = .ok (.invokevirtual 68, 3) := by decide +kernel
theorem dX12_addLantern_65 : decode cX12_addLantern 65 = .ok (.iinc 2 1, 3) := by decide +kernel
theorem dX12_addLantern_68 : decode cX12_addLantern 68 = .ok (.goto (-16), 3) := by decide +kernel
theorem dX12_addLantern_71 : decode cX12_addLantern 71 = .ok (.aload_n 0, 1) := by decide +kernel
theorem dX12_addLantern_72 : decode cX12_addLantern 72 = .ok (.iload_n 1, 1) := by decide +kernel
theorem dX12_addLantern_73 : decode cX12_addLantern 73 = .ok (.iconst 0, 1) := by decide +kernel
theorem dX12_addLantern_74 : decode cX12_addLantern 74 = .ok (.bipush 9, 2) := by decide +kernel
theorem dX12_addLantern_76 : decode cX12_addLantern 76 = .ok (.invokevirtual 68, 3) := by decide +kernel
theorem dX12_addLantern_79 : decode cX12_addLantern 79 = .ok (.iload_n 1, 1) := by decide +kernel
theorem dX12_addLantern_80 : decode cX12_addLantern 80 = .ok (.ireturn, 1) := by decide +kernel
theorem dX12_brief_0 : decode cX12_brief 0 = .ok (.aload_n 0, 1) := by decide +kernel
theorem dX12_brief_1 : decode cX12_brief 1 = .ok (.getfield 7, 3) := by decide +kernel
theorem dX12_brief_4 : decode cX12_brief 4 = .ok (.bipush 101, 2) := by decide +kernel
theorem dX12_brief_6 : decode cX12_brief 6 = .ok (.iconst 5, 1) := by decide +kernel
theorem dX12_brief_7 : decode cX12_brief 7 = .ok (.iload_n 1, 1) := by decide +kernel
theorem dX12_brief_8 : decode cX12_brief 8 = .ok (.imul, 1) := by decide +kernel
theorem dX12_brief_9 : decode cX12_brief 9 = .ok (.iadd, 1) := by decide +kernel
theorem dX12_brief_10 : decode cX12_brief 10 = .ok (.iload_n 2, 1) := by decide +kernel
theorem dX12_brief_11 : decode cX12_brief 11 = .ok (.iadd, 1) := by decide +kernel
theorem dX12_brief_12 : decode cX12_brief 12 = .ok (.iaload, 1) := by decide +kernel
theorem dX12_brief_13 : decode cX12_brief 13 = .ok (.ireturn, 1) := by decide +kernel
theorem dX12_placeOf_0 : decode cX12_placeOf 0 = .ok (.iconst 0, 1) := by decide +kernel
theorem dX12_placeOf_1 : decode cX12_placeOf 1 = .ok (.istore_n 2, 1) := by decide +kernel
theorem dX12_placeOf_2 : decode cX12_placeOf 2 = .ok (.iload_n 2, 1) := by decide +kernel
theorem dX12_placeOf_3 : decode cX12_placeOf 3 = .ok (.aload_n 0, 1) := by decide +kernel
theorem dX12_placeOf_4 : decode cX12_placeOf 4 = .ok (.getfield 7, 3) := by decide +kernel
theorem dX12_placeOf_7 : decode cX12_placeOf 7 = .ok (.iconst 3, 1) := by decide +kernel
theorem dX12_placeOf_8 : decode cX12_placeOf 8 = .ok (.iaload, 1) := by decide +kernel
theorem dX12_placeOf_9 : decode cX12_placeOf 9 = .ok (.if_icmp .ge 21, 3) := by decide +kernel
theorem dX12_placeOf_12 : decode cX12_placeOf 12 = .ok (.aload_n 0, 1) := by decide +kernel
theorem dX12_placeOf_13 : decode cX12_placeOf 13 = .ok (.iload_n 2, 1) := by decide +kernel
theorem dX12_placeOf_14 : decode cX12_placeOf 14 = .ok (.iconst 0, 1) := by decide +kernel
theorem dX12_placeOf_15 : decode cX12_placeOf 15 = .ok (.invokevirtual 72, 3) := by decide +kernel
theorem dX12_placeOf_18 : decode cX12_placeOf 18 = .ok (.iload_n 1, 1) := by decide +kernel
theorem dX12_placeOf_19 : decode cX12_placeOf 19 = .ok (.if_icmp .ne 5, 3) := by decide +kernel
theorem dX12_placeOf_22 : decode cX12_placeOf 22 = .ok (.iload_n 2, 1) := by decide +kernel
theorem dX12_placeOf_23 : decode cX12_placeOf 23 = .ok (.ireturn, 1) := by decide +kernel
theorem dX12_placeOf_24 : decode cX12_placeOf 24 = .ok (.iinc 2 1, 3) := by decide +kernel
theorem dX12_placeOf_27 : decode cX12_placeOf 27 = .ok (.goto (-25), 3) := by decide +kernel
theorem dX12_placeOf_30 : decode cX12_placeOf 30 = .ok (.iconst (-1), 1) := by decide +kernel
theorem dX12_placeOf_31 : decode cX12_placeOf 31 = .ok (.ireturn, 1) := by decide +kernel
theorem dX12_file_0 : decode cX12_file 0 = .ok (.aload_n 0, 1) := by decide +kernel
theorem dX12_file_1 : decode cX12_file 1 = .ok (.aload_n 0, 1) := by decide +kernel
theorem dX12_file_2 : decode cX12_file 2 = .ok (.iload_n 1, 1) := by decide +kernel
theorem dX12_file_3 : decode cX12_file 3 = .ok (.invokevirtual 57, 3) := by decide +kernel
theorem dX12_file_6 : decode cX12_file 6 = .ok (.ifCond .ne 7, 3) := by decide +kernel
theorem dX12_file_9 : decode cX12_file 9 = .ok (.iconst 1, 1) := by decide +kernel
theorem dX12_file_10 : decode cX12_file 10 = .ok (.goto 54, 3) := by decide +kernel
theorem dX12_file_13 : decode cX12_file 13 = .ok (.iload_n 2, 1) := by decide +kernel
theorem dX12_file_14 : decode cX12_file 14 = .ok (.iconst 1, 1) := by decide +kernel
theorem dX12_file_15 : decode cX12_file 15 = .ok (.bipush 12, 2) := by decide +kernel
theorem dX12_file_17 : decode cX12_file 17 = .ok (.invokestatic 53, 3) := by decide +kernel
theorem dX12_file_20 : decode cX12_file 20 = .ok (.ifCond .eq 24, 3) := by decide +kernel
theorem dX12_file_23 : decode cX12_file 23 = .ok (.iload_n 3, 1) := by decide +kernel
theorem dX12_file_24 : decode cX12_file 24 = .ok (.iconst 1, 1) := by decide +kernel
theorem dX12_file_25 : decode cX12_file 25 = .ok (.bipush 50, 2) := by decide +kernel
theorem dX12_file_27 : decode cX12_file 27 = .ok (.invokestatic 53, 3) := by decide +kernel
theorem dX12_file_30 : decode cX12_file 30 = .ok (.ifCond .eq 14, 3) := by decide +kernel
theorem dX12_file_33 : decode cX12_file 33 = .ok (.iload 4, 2) := by decide +kernel
theorem dX12_file_35 : decode cX12_file 35 = .ok (.iconst 1, 1) := by decide +kernel
theorem dX12_file_36 : decode cX12_file 36 = .ok (.bipush 9, 2) := by decide +kernel
theorem dX12_file_38 : decode cX12_file 38 = .ok (.invokestatic 53, 3) := by decide +kernel
theorem dX12_file_41 : decode cX12_file 41 = .ok (.ifCond .ne 7, 3) := by decide +kernel
theorem dX12_file_44 : decode cX12_file 44 = .ok (.iconst 2, 1) := by decide +kernel
theorem dX12_file_45 : decode cX12_file 45 = .ok (.goto 19, 3) := by decide +kernel
theorem dX12_file_48 : decode cX12_file 48 = .ok (.aload_n 0, 1) := by decide +kernel
theorem dX12_file_49 : decode cX12_file 49 = .ok (.getfield 7, 3) := by decide +kernel
theorem dX12_file_52 : decode cX12_file 52 = .ok (.iconst 3, 1) := by decide +kernel
theorem dX12_file_53 : decode cX12_file 53 = .ok (.iaload, 1) := by decide +kernel
theorem dX12_file_54 : decode cX12_file 54 = .ok (.bipush 10, 2) := by decide +kernel
theorem dX12_file_56 : decode cX12_file 56 = .ok (.if_icmp .ne 7, 3) := by decide +kernel
theorem dX12_file_59 : decode cX12_file 59 = .ok (.iconst 3, 1) := by decide +kernel
theorem dX12_file_60 : decode cX12_file 60 = .ok (.goto 4, 3) := by decide +kernel
theorem dX12_file_63 : decode cX12_file 63 = .ok (.iconst 0, 1) := by decide +kernel
theorem dX12_file_64 : decode cX12_file 64 = .ok (.invokevirtual 61, 3) := by decide +kernel
theorem dX12_file_67 : decode cX12_file 67 = .ok (.ifCond .eq 5, 3) := by decide +kernel
theorem dX12_file_70 : decode cX12_file 70 = .ok (.iconst 0, 1) := by decide +kernel
theorem dX12_file_71 : decode cX12_file 71 = .ok (.ireturn, 1) := by decide +kernel
theorem dX12_file_72 : decode cX12_file 72 = .ok (.aload_n 0, 1) := by decide +kernel
theorem dX12_file_73 : decode cX12_file 73 = .ok (.aload_n 0, 1) := by decide +kernel
theorem dX12_file_74 : decode cX12_file 74 = .ok (.getfield 7, 3) := by decide +kernel
theorem dX12_file_77 : decode cX12_file 77 = .ok (.invokevirtual 64, 3) := by decide +kernel
theorem dX12_file_80 : decode cX12_file 80 = .ok (.bipush 101, 2) := by decide +kernel
theorem dX12_file_82 : decode cX12_file 82 = .ok (.iconst 5, 1) := by decide +kernel
theorem dX12_file_83 : decode cX12_file 83 = .ok (.aload_n 0, 1) := by decide +kernel
theorem dX12_file_84 : decode cX12_file 84 = .ok (.getfield 7, 3) := by decide +kernel
theorem dX12_file_87 : decode cX12_file 87 = .ok (.iconst 3, 1) := by decide +kernel
theorem dX12_file_88 : decode cX12_file 88 = .ok (.iaload, 1) := by decide +kernel
theorem dX12_file_89 : decode cX12_file 89 = .ok (.imul, 1) := by decide +kernel
theorem dX12_file_90 : decode cX12_file 90 = .ok (.iadd, 1) := by decide +kernel
theorem dX12_file_91 : decode cX12_file 91 = .ok (.istore 5, 2) := by decide +kernel
theorem dX12_file_93 : decode cX12_file 93 = .ok (.aload_n 0, 1) := by decide +kernel
theorem dX12_file_94 : decode cX12_file 94 = .ok (.getfield 7, 3) := by decide +kernel
theorem dX12_file_97 : decode cX12_file 97 = .ok (.iload 5, 2) := by decide +kernel
theorem dX12_file_99 : decode cX12_file 99 = .ok (.iconst 0, 1) := by decide +kernel
theorem dX12_file_100 : decode cX12_file 100 = .ok (.iadd, 1) := by decide +kernel
theorem dX12_file_101 : decode cX12_file 101 = .ok (.aload_n 0, 1) := by decide +kernel
theorem dX12_file_102 : decode cX12_file 102 = .ok (.getfield 7, 3) := by decide +kernel
theorem dX12_file_105 : decode cX12_file 105 = .ok (.iconst 2, 1) := by decide +kernel
theorem dX12_file_106 : decode cX12_file 106 = .ok (.iaload, 1) := by decide +kernel
theorem dX12_file_107 : decode cX12_file 107 = .ok (.iastore, 1) := by decide +kernel
theorem dX12_file_108 : decode cX12_file 108 = .ok (.aload_n 0, 1) := by decide +kernel
theorem dX12_file_109 : decode cX12_file 109 = .ok (.getfield 7, 3) := by decide +kernel
theorem dX12_file_112 : decode cX12_file 112 = .ok (.iload 5, 2) := by decide +kernel
theorem dX12_file_114 : decode cX12_file 114 = .ok (.iconst 1, 1) := by decide +kernel
theorem dX12_file_115 : decode cX12_file 115 = .ok (.iadd, 1) := by decide +kernel
theorem dX12_file_116 : decode cX12_file 116 = .ok (.iload_n 1, 1) := by decide +kernel
theorem dX12_file_117 : decode cX12_file 117 = .ok (.iastore, 1) := by decide +kernel
theorem dX12_file_118 : decode cX12_file 118 = .ok (.aload_n 0, 1) := by decide +kernel
theorem dX12_file_119 : decode cX12_file 119 = .ok (.getfield 7, 3) := by decide +kernel
theorem dX12_file_122 : decode cX12_file 122 = .ok (.iload 5, 2) := by decide +kernel
theorem dX12_file_124 : decode cX12_file 124 = .ok (.iconst 2, 1) := by decide +kernel
theorem dX12_file_125 : decode cX12_file 125 = .ok (.iadd, 1) := by decide +kernel
theorem dX12_file_126 : decode cX12_file 126 = .ok (.aload_n 0, 1) := by decide +kernel
theorem dX12_file_127 : decode cX12_file 127 = .ok (.getfield 7, 3) := by decide +kernel
theorem dX12_file_130 : decode cX12_file 130 = .ok (.iconst 1, 1) := by decide +kernel
theorem dX12_file_131 : decode cX12_file 131 = .ok (.iaload, 1) := by decide +kernel
theorem dX12_file_132 : decode cX12_file 132 = .ok (.iload_n 2, 1) := by decide +kernel
theorem dX12_file_133 : decode cX12_file 133 = .ok (.iadd, 1) := by decide +kernel
theorem dX12_file_134 : decode cX12_file 134 = .ok (.iastore, 1) := by decide +kernel
theorem dX12_file_135 : decode cX12_file 135 = .ok (.aload_n 0, 1) := by decide +kernel
theorem dX12_file_136 : decode cX12_file 136 = .ok (.getfield 7, 3) := by decide +kernel
theorem dX12_file_139 : decode cX12_file 139 = .ok (.iload 5, 2) := by decide +kernel
theorem dX12_file_141 : decode cX12_file 141 = .ok (.iconst 3, 1) := by decide +kernel
theorem dX12_file_142 : decode cX12_file 142 = .ok (.iadd, 1) := by decide +kernel
theorem dX12_file_143 : decode cX12_file 143 = .ok (.iload_n 3, 1) := by decide +kernel
theorem dX12_file_144 : decode cX12_file 144 = .ok (.iastore, 1) := by decide +kernel
theorem dX12_file_145 : decode cX12_file 145 = .ok (.aload_n 0, 1) := by decide +kernel
theorem dX12_file_146 : decode cX12_file 146 = .ok (.getfield 7, 3) := by decide +kernel
theorem dX12_file_149 : decode cX12_file 149 = .ok (.iload 5, 2) := by decide +kernel
theorem dX12_file_151 : decode cX12_file 151 = .ok (.iconst 4, 1) := by decide +kernel
theorem dX12_file_152 : decode cX12_file 152 = .ok (.iadd, 1) := by decide +kernel
theorem dX12_file_153 : decode cX12_file 153 = .ok (.iload 4, 2) := by decide +kernel
theorem dX12_file_155 : decode cX12_file 155 = .ok (.iastore, 1) := by decide +kernel
theorem dX12_file_156 : decode cX12_file 156 = .ok (.aload_n 0, 1) := by decide +kernel
theorem dX12_file_157 : decode cX12_file 157 = .ok (.getfield 7, 3) := by decide +kernel
theorem dX12_file_160 : decode cX12_file 160 = .ok (.iconst 3, 1) := by decide +kernel
theorem dX12_file_161 : decode cX12_file 161 = .ok (.dup2, 1) := by decide +kernel
theorem dX12_file_162 : decode cX12_file 162 = .ok (.iaload, 1) := by decide +kernel
theorem dX12_file_163 : decode cX12_file 163 = .ok (.iconst 1, 1) := by decide +kernel
theorem dX12_file_164 : decode cX12_file 164 = .ok (.iadd, 1) := by decide +kernel
theorem dX12_file_165 : decode cX12_file 165 = .ok (.iastore, 1) := by decide +kernel
theorem dX12_file_166 : decode cX12_file 166 = .ok (.aload_n 0, 1) := by decide +kernel
theorem dX12_file_167 : decode cX12_file 167 = .ok (.getfield 7, 3) := by decide +kernel
theorem dX12_file_170 : decode cX12_file 170 = .ok (.iconst 2, 1) := by decide +kernel
theorem dX12_file_171 : decode cX12_file 171 = .ok (.dup2, 1) := by decide +kernel
theorem dX12_file_172 : decode cX12_file 172 = .ok (.iaload, 1) := by decide +kernel
theorem dX12_file_173 : decode cX12_file 173 = .ok (.iconst 1, 1) := by decide +kernel
theorem dX12_file_174 : decode cX12_file 174 = .ok (.iadd, 1) := by decide +kernel
theorem dX12_file_175 : decode cX12_file 175 = .ok (.iastore, 1) := by decide +kernel
theorem dX12_file_176 : decode cX12_file 176 = .ok (.aload_n 0, 1) := by decide +kernel
theorem dX12_file_177 : decode cX12_file 177 = .ok (.getfield 7, 3) := by decide +kernel
theorem dX12_file_180 : decode cX12_file 180 = .ok (.bipush 6, 2) := by decide +kernel
theorem dX12_file_182 : decode cX12_file 182 = .ok (.dup2, 1) := by decide +kernel
theorem dX12_file_183 : decode cX12_file 183 = .ok (.iaload, 1) := by decide +kernel
theorem dX12_file_184 : decode cX12_file 184 = .ok (.iload_n 3, 1) := by decide +kernel
theorem dX12_file_185 : decode cX12_file 185 = .ok (.iadd, 1) := by decide +kernel
theorem dX12_file_186 : decode cX12_file 186 = .ok (.iastore, 1) := by decide +kernel
theorem dX12_file_187 : decode cX12_file 187 = .ok (.aload_n 0, 1) := by decide +kernel
theorem dX12_file_188 : decode cX12_file 188 = .ok (.getfield 7, 3) := by decide +kernel
theorem dX12_file_191 : decode cX12_file 191 = .ok (.iconst 2, 1) := by decide +kernel
theorem dX12_file_192 : decode cX12_file 192 = .ok (.iaload, 1) := by decide +kernel
theorem dX12_file_193 : decode cX12_file 193 = .ok (.iconst 1, 1) := by decide +kernel
theorem dX12_file_194 : decode cX12_file 194 = .ok (.isub, 1) := by decide +kernel
theorem dX12_file_195 : decode cX12_file 195 = .ok (.ireturn, 1) := by decide +kernel
theorem dX12_goes_0 : decode cX12_goes 0 = .ok (.aload_n 0, 1) := by decide +kernel
theorem dX12_goes_1 : decode cX12_goes 1 = .ok (.getfield 7, 3) := by decide +kernel
theorem dX12_goes_4 : decode cX12_goes 4 = .ok (.iconst 3, 1) := by decide +kernel
theorem dX12_goes_5 : decode cX12_goes 5 = .ok (.dup2, 1) := by decide +kernel
theorem dX12_goes_6 : decode cX12_goes 6 = .ok (.iaload, 1) := by decide +kernel
theorem dX12_goes_7 : decode cX12_goes 7 = .ok (.iconst 1, 1) := by decide +kernel
theorem dX12_goes_8 : decode cX12_goes 8 = .ok (.isub, 1) := by decide +kernel
theorem dX12_goes_9 : decode cX12_goes 9 = .ok (.iastore, 1) := by decide +kernel
theorem dX12_goes_10 : decode cX12_goes 10 = .ok (.bipush 101, 2) := by decide +kernel
theorem dX12_goes_12 : decode cX12_goes 12 = .ok (.iconst 5, 1) := by decide +kernel
theorem dX12_goes_13 : decode cX12_goes 13 = .ok (.iload_n 1, 1) := by decide +kernel
theorem dX12_goes_14 : decode cX12_goes 14 = .ok (.imul, 1) := by decide +kernel
theorem dX12_goes_15 : decode cX12_goes 15 = .ok (.iadd, 1) := by decide +kernel
theorem dX12_goes_16 : decode cX12_goes 16 = .ok (.istore_n 2, 1) := by decide +kernel
theorem dX12_goes_17 : decode cX12_goes 17 = .ok (.iload_n 2, 1) := by decide +kernel
theorem dX12_goes_18 : decode cX12_goes 18 = .ok (.bipush 101, 2) := by decide +kernel
theorem dX12_goes_20 : decode cX12_goes 20 = .ok (.iconst 5, 1) := by decide +kernel
theorem dX12_goes_21 : decode cX12_goes 21 = .ok (.aload_n 0, 1) := by decide +kernel
theorem dX12_goes_22 : decode cX12_goes 22 = .ok (.getfield 7, 3) := by decide +kernel
theorem dX12_goes_25 : decode cX12_goes 25 = .ok (.iconst 3, 1) := by decide +kernel
theorem dX12_goes_26 : decode cX12_goes 26 = .ok (.iaload, 1) := by decide +kernel
theorem dX12_goes_27 : decode cX12_goes 27 = .ok (.imul, 1) := by decide +kernel
theorem dX12_goes_28 : decode cX12_goes 28 = .ok (.iadd, 1) := by decide +kernel
theorem dX12_goes_29 : decode cX12_goes 29 = .ok (.if_icmp .ge 23, 3) := by decide +kernel
theorem dX12_goes_32 : decode cX12_goes 32 = .ok (.aload_n 0, 1) := by decide +kernel
theorem dX12_goes_33 : decode cX12_goes 33 = .ok (.getfield 7, 3) := by decide +kernel
theorem dX12_goes_36 : decode cX12_goes 36 = .ok (.iload_n 2, 1) := by decide +kernel
theorem dX12_goes_37 : decode cX12_goes 37 = .ok (.aload_n 0, 1) := by decide +kernel
theorem dX12_goes_38 : decode cX12_goes 38 = .ok (.getfield 7, 3) := by decide +kernel
theorem dX12_goes_41 : decode cX12_goes 41 = .ok (.iload_n 2, 1) := by decide +kernel
theorem dX12_goes_42 : decode cX12_goes 42 = .ok (.iconst 5, 1) := by decide +kernel
theorem dX12_goes_43 : decode cX12_goes 43 = .ok (.iadd, 1) := by decide +kernel
theorem dX12_goes_44 : decode cX12_goes 44 = .ok (.iaload, 1) := by decide +kernel
theorem dX12_goes_45 : decode cX12_goes 45 = .ok (.iastore, 1) := by decide +kernel
theorem dX12_goes_46 : decode cX12_goes 46 = .ok (.iinc 2 1, 3) := by decide +kernel
theorem dX12_goes_49 : decode cX12_goes 49 = .ok (.goto (-32), 3) := by decide +kernel
theorem dX12_goes_52 : decode cX12_goes 52 = .ok (.iconst 0, 1) := by decide +kernel
theorem dX12_goes_53 : decode cX12_goes 53 = .ok (.istore_n 2, 1) := by decide +kernel
theorem dX12_goes_54 : decode cX12_goes 54 = .ok (.iload_n 2, 1) := by decide +kernel
theorem dX12_goes_55 : decode cX12_goes 55 = .ok (.iconst 5, 1) := by decide +kernel
theorem dX12_goes_56 : decode cX12_goes 56 = .ok (.if_icmp .ge 28, 3) := by decide +kernel
theorem dX12_goes_59 : decode cX12_goes 59 = .ok (.aload_n 0, 1) := by decide +kernel
theorem dX12_goes_60 : decode cX12_goes 60 = .ok (.getfield 7, 3) := by decide +kernel
theorem dX12_goes_63 : decode cX12_goes 63 = .ok (.bipush 101, 2) := by decide +kernel
theorem dX12_goes_65 : decode cX12_goes 65 = .ok (.iconst 5, 1) := by decide +kernel
theorem dX12_goes_66 : decode cX12_goes 66 = .ok (.aload_n 0, 1) := by decide +kernel
theorem dX12_goes_67 : decode cX12_goes 67 = .ok (.getfield 7, 3) := by decide +kernel
theorem dX12_goes_70 : decode cX12_goes 70 = .ok (.iconst 3, 1) := by decide +kernel
theorem dX12_goes_71 : decode cX12_goes 71 = .ok (.iaload, 1) := by decide +kernel
theorem dX12_goes_72 : decode cX12_goes 72 = .ok (.imul, 1) := by decide +kernel
theorem dX12_goes_73 : decode cX12_goes 73 = .ok (.iadd, 1) := by decide +kernel
theorem dX12_goes_74 : decode cX12_goes 74 = .ok (.iload_n 2, 1) := by decide +kernel
theorem dX12_goes_75 : decode cX12_goes 75 = .ok (.iadd, 1) := by decide +kernel
theorem dX12_goes_76 : decode cX12_goes 76 = .ok (.iconst 0, 1) := by decide +kernel
theorem dX12_goes_77 : decode cX12_goes 77 = .ok (.iastore, 1) := by decide +kernel
theorem dX12_goes_78 : decode cX12_goes 78 = .ok (.iinc 2 1, 3) := by decide +kernel
theorem dX12_goes_81 : decode cX12_goes 81 = .ok (.goto (-27), 3) := by decide +kernel
theorem dX12_goes_84 : decode cX12_goes 84 = .ok (.return_, 1) := by decide +kernel
theorem dX12_withdraw_0 : decode cX12_withdraw 0 = .ok (.aload_n 0, 1) := by decide +kernel
theorem dX12_withdraw_1 : decode cX12_withdraw 1 = .ok (.iload_n 1, 1) := by decide +kernel
theorem dX12_withdraw_2 : decode cX12_withdraw 2 = .ok (.invokevirtual 76, 3) := by decide +kernel
theorem dX12_withdraw_5 : decode cX12_withdraw 5 = .ok (.istore_n 2, 1) := by decide +kernel
theorem dX12_withdraw_6 : decode cX12_withdraw 6 = .ok (.aload_n 0, 1) := by decide +kernel
theorem dX12_withdraw_7 : decode cX12_withdraw 7 = .ok (.iload_n 2, 1) := by decide +kernel
theorem dX12_withdraw_8 : decode cX12_withdraw 8 = .ok (.ifCond .ge 7, 3) := by decide +kernel
theorem dX12_withdraw_11 : decode cX12_withdraw 11 = .ok (.iconst 1, 1) := by decide +kernel
theorem dX12_withdraw_12 : decode cX12_withdraw 12 = .ok (.goto 4, 3) := by decide +kernel
theorem dX12_withdraw_15 : decode cX12_withdraw 15 = .ok (.iconst 0, 1) := by decide +kernel
theorem dX12_withdraw_16 : decode cX12_withdraw 16 = .ok (.invokevirtual 61, 3) := by decide +kernel
theorem dX12_withdraw_19 : decode cX12_withdraw 19 = .ok (.ifCond .eq 5, 3) := by decide +kernel
theorem dX12_withdraw_22 : decode cX12_withdraw 22 = .ok (.iconst 0, 1) := by decide +kernel
theorem dX12_withdraw_23 : decode cX12_withdraw 23 = .ok (.ireturn, 1) := by decide +kernel
theorem dX12_withdraw_24 : decode cX12_withdraw 24 = .ok (.aload_n 0, 1) := by decide +kernel
theorem dX12_withdraw_25 : decode cX12_withdraw 25 = .ok (.aload_n 0, 1) := by decide +kernel
theorem dX12_withdraw_26 : decode cX12_withdraw 26 = .ok (.getfield 7, 3) := by decide +kernel
theorem dX12_withdraw_29 : decode cX12_withdraw 29 = .ok (.invokevirtual 64, 3) := by decide +kernel
theorem dX12_withdraw_32 : decode cX12_withdraw 32 = .ok (.aload_n 0, 1) := by decide +kernel
theorem dX12_withdraw_33 : decode cX12_withdraw 33 = .ok (.iload_n 2, 1) := by decide +kernel
theorem dX12_withdraw_34 : decode cX12_withdraw 34 = .ok (.iconst 3, 1) := by decide +kernel
theorem dX12_withdraw_35 : decode cX12_withdraw 35 = .ok (.invokevirtual 72, 3) := by decide +kernel
theorem dX12_withdraw_38 : decode cX12_withdraw 38 = .ok (.iconst 2, 1) := by decide +kernel
theorem dX12_withdraw_39 : decode cX12_withdraw 39 = .ok (.idiv, 1) := by decide +kernel
theorem dX12_withdraw_40 : decode cX12_withdraw 40 = .ok (.istore_n 3, 1) := by decide +kernel
theorem dX12_withdraw_41 : decode cX12_withdraw 41 = .ok (.aload_n 0, 1) := by decide +kernel
theorem dX12_withdraw_42 : decode cX12_withdraw 42 = .ok (.getfield 7, 3) := by decide +kernel
theorem dX12_withdraw_45 : decode cX12_withdraw 45 = .ok (.iconst 5, 1) := by decide +kernel
theorem dX12_withdraw_46 : decode cX12_withdraw 46 = .ok (.dup2, 1) := by decide +kernel
theorem dX12_withdraw_47 : decode cX12_withdraw 47 = .ok (.iaload, 1) := by decide +kernel
theorem dX12_withdraw_48 : decode cX12_withdraw 48 = .ok (.iload_n 3, 1) := by decide +kernel
theorem dX12_withdraw_49 : decode cX12_withdraw 49 = .ok (.iadd, 1) := by decide +kernel
theorem dX12_withdraw_50 : decode cX12_withdraw 50 = .ok (.iastore, 1) := by decide +kernel
theorem dX12_withdraw_51 : decode cX12_withdraw 51 = .ok (.aload_n 0, 1) := by decide +kernel
theorem dX12_withdraw_52 : decode cX12_withdraw 52 = .ok (.iload_n 2, 1) := by decide +kernel
theorem dX12_withdraw_53 : decode cX12_withdraw 53 = .ok (.invokevirtual 80, 3) := by decide +kernel
theorem dX12_withdraw_56 : decode cX12_withdraw 56 = .ok (.iload_n 3, 1) := by decide +kernel
theorem dX12_withdraw_57 : decode cX12_withdraw 57 = .ok (.ireturn, 1) := by decide +kernel
theorem dX12_isStatement_0 : decode cX12_isStatement 0 = .ok (.iload_n 1, 1) := by decide +kernel
theorem dX12_isStatement_1 : decode cX12_isStatement 1 = .ok (.iconst 0, 1) := by decide +kernel
theorem dX12_isStatement_2 : decode cX12_isStatement 2 = .ok (.aload_n 0, 1) := by decide +kernel
theorem dX12_isStatement_3 : decode cX12_isStatement 3 = .ok (.getfield 7, 3) := by decide +kernel
theorem dX12_isStatement_6 : decode cX12_isStatement 6 = .ok (.iconst 4, 1) := by decide +kernel
theorem dX12_isStatement_7 : decode cX12_isStatement 7 = .ok (.iaload, 1) := by decide +kernel
theorem dX12_isStatement_8 : decode cX12_isStatement 8 = .ok (.iconst 1, 1) := by decide +kernel
theorem dX12_isStatement_9 : decode cX12_isStatement 9 = .ok (.isub, 1) := by decide +kernel
theorem dX12_isStatement_10 : decode cX12_isStatement 10 = .ok (.invokestatic 53, 3) := by decide +kernel
theorem dX12_isStatement_13 : decode cX12_isStatement 13 = .ok (.ireturn, 1) := by decide +kernel
theorem dX12_says_0 : decode cX12_says 0 = .ok (.aload_n 0, 1) := by decide +kernel
theorem dX12_says_1 : decode cX12_says 1 = .ok (.getfield 7, 3) := by decide +kernel
theorem dX12_says_4 : decode cX12_says 4 = .ok (.sipush 151, 3) := by decide +kernel
theorem dX12_says_7 : decode cX12_says 7 = .ok (.iconst 3, 1) := by decide +kernel
theorem dX12_says_8 : decode cX12_says 8 = .ok (.iload_n 1, 1) := by decide +kernel
theorem dX12_says_9 : decode cX12_says 9 = .ok (.imul, 1) := by decide +kernel
theorem dX12_says_10 : decode cX12_says 10 = .ok (.iadd, 1) := by decide +kernel
theorem dX12_says_11 : decode cX12_says 11 = .ok (.iload_n 2, 1) := by decide +kernel
theorem dX12_says_12 : decode cX12_says 12 = .ok (.iadd, 1) := by decide +kernel
theorem dX12_says_13 : decode cX12_says 13 = .ok (.iaload, 1) := by decide +kernel
theorem dX12_says_14 : decode cX12_says 14 = .ok (.ireturn, 1) := by decide +kernel
theorem dX12_makeStatement_0 : decode cX12_makeStatement 0 = .ok (.aload_n 0, 1) := by decide +kernel
theorem dX12_makeStatement_1 : decode cX12_makeStatement 1 = .ok (.aload_n 0, 1) := by decide +kernel
theorem dX12_makeStatement_2 : decode cX12_makeStatement 2 = .ok (.iload_n 1, 1) := by decide +kernel
theorem dX12_makeStatement_3 : decode cX12_makeStatement 3 = .ok (.invokevirtual 57, 3) := by decide +kernel
theorem dX12_makeStatement_6 : decode cX12_makeStatement 6 = .ok (.ifCond .eq 11, 3) := by decide +kernel
theorem dX12_makeStatement_9 : decode cX12_makeStatement 9 = .ok (.aload_n 0, 1) := by decide +kernel
theorem dX12_makeStatement_10 : decode cX12_makeStatement 10 = .ok (.iload_n 2, 1) := by decide +kernel
theorem dX12_makeStatement_11 : decode cX12_makeStatement 11 = .ok (.invokevirtual 57, 3) := by decide +kernel
theorem dX12_makeStatement_14 : decode cX12_makeStatement 14 = .ok (.ifCond .ne 7, 3) := by decide +kernel
theorem dX12_makeStatement_17 : decode cX12_makeStatement 17 = .ok (.iconst 1, 1) := by decide +kernel
theorem dX12_makeStatement_18 : decode cX12_makeStatement 18 = .ok (.goto 28, 3) := by decide +kernel
theorem dX12_makeStatement_21 : decode cX12_makeStatement 21 = .ok (.iload_n 1, 1) := by decide +kernel
theorem dX12_makeStatement_22 : decode cX12_makeStatement 22 = .ok (.iload_n 2, 1) := by decide +kernel
theorem dX12_makeStatement_23 : decode cX12_makeStatement 23 = .ok (.if_icmp .ne 7, 3) := by decide +kernel
theorem dX12_makeStatement_26 : decode cX12_makeStatement 26 = .ok (.iconst 2, 1) := by decide +kernel
theorem dX12_makeStatement_27 : decode cX12_makeStatement 27 = .ok (.goto 19, 3) := by decide +kernel
theorem dX12_makeStatement_30 : decode cX12_makeStatement 30 = .ok (.aload_n 0, 1) := by decide +kernel
theorem dX12_makeStatement_31 : decode cX12_makeStatement 31 = .ok (.getfield 7, 3) := by decide +kernel
theorem dX12_makeStatement_34 : decode cX12_makeStatement 34 = .ok (.iconst 4, 1) := by decide +kernel
theorem dX12_makeStatement_35 : decode cX12_makeStatement 35 = .ok (.iaload, 1) := by decide +kernel
theorem dX12_makeStatement_36 : decode cX12_makeStatement 36 = .ok (.bipush 12, 2) := by decide +kernel
theorem dX12_makeStatement_38 : decode cX12_makeStatement 38 = .ok (.if_icmp .ne 7, 3) := by decide +kernel
theorem dX12_makeStatement_41 : decode cX12_makeStatement 41 = .ok (.iconst 3, 1) := by decide +kernel
theorem dX12_makeStatement_42 : decode cX12_makeStatement 42 = .ok (.goto 4, 3) := by decide +kernel
theorem dX12_makeStatement_45 : decode cX12_makeStatement 45 = .ok (.iconst 0, 1) := by decide +kernel
theorem dX12_makeStatement_46 : decode cX12_makeStatement 46 = .ok (.invokevirtual 61, 3) := by decide +kernel
theorem dX12_makeStatement_49 : decode cX12_makeStatement 49 = .ok (.ifCond .eq 5, 3) := by decide +kernel
theorem dX12_makeStatement_52 : decode cX12_makeStatement 52 = .ok (.iconst 0, 1) := by decide +kernel
theorem dX12_makeStatement_53 : decode cX12_makeStatement 53 = .ok (.ireturn, 1) := by decide +kernel
theorem dX12_makeStatement_54 : decode cX12_makeStatement 54 = .ok (.aload_n 0, 1) := by decide +kernel
theorem dX12_makeStatement_55 : decode cX12_makeStatement 55 = .ok (.aload_n 0, 1) := by decide +kernel
theorem dX12_makeStatement_56 : decode cX12_makeStatement 56 = .ok (.getfield 7, 3) := by decide +kernel
theorem dX12_makeStatement_59 : decode cX12_makeStatement 59 = .ok (.invokevirtual 64, 3) := by decide +kernel
theorem dX12_makeStatement_62 : decode cX12_makeStatement 62 = .ok (.sipush 151, 3) := by decide +kernel
theorem dX12_makeStatement_65 : decode cX12_makeStatement 65 = .ok (.iconst 3, 1) := by decide +kernel
theorem dX12_makeStatement_66 : decode cX12_makeStatement 66 = .ok (.aload_n 0, 1) := by decide +kernel
theorem dX12_makeStatement_67 : decode cX12_makeStatement 67 = .ok (.getfield 7, 3) := by decide +kernel
theorem dX12_makeStatement_70 : decode cX12_makeStatement 70 = .ok (.iconst 4, 1) := by decide +kernel
theorem dX12_makeStatement_71 : decode cX12_makeStatement 71 = .ok (.iaload, 1) := by decide +kernel
theorem dX12_makeStatement_72 : decode cX12_makeStatement 72 = .ok (.imul, 1) := by decide +kernel
theorem dX12_makeStatement_73 : decode cX12_makeStatement 73 = .ok (.iadd, 1) := by decide +kernel
theorem dX12_makeStatement_74 : decode cX12_makeStatement 74 = .ok (.istore 4, 2) := by decide +kernel
theorem dX12_makeStatement_76 : decode cX12_makeStatement 76 = .ok (.aload_n 0, 1) := by decide +kernel
theorem dX12_makeStatement_77 : decode cX12_makeStatement 77 = .ok (.getfield 7, 3) := by decide +kernel
theorem dX12_makeStatement_80 : decode cX12_makeStatement 80 = .ok (.iload 4, 2) := by decide +kernel
theorem dX12_makeStatement_82 : decode cX12_makeStatement 82 = .ok (.iconst 0, 1) := by decide +kernel
theorem dX12_makeStatement_83 : decode cX12_makeStatement 83 = .ok (.iadd, 1) := by decide +kernel
theorem dX12_makeStatement_84 : decode cX12_makeStatement 84 = .ok (.iload_n 1, 1) := by decide +kernel
theorem dX12_makeStatement_85 : decode cX12_makeStatement 85 = .ok (.iastore, 1) := by decide +kernel
theorem dX12_makeStatement_86 : decode cX12_makeStatement 86 = .ok (.aload_n 0, 1) := by decide +kernel
theorem dX12_makeStatement_87 : decode cX12_makeStatement 87 = .ok (.getfield 7, 3) := by decide +kernel
theorem dX12_makeStatement_90 : decode cX12_makeStatement 90 = .ok (.iload 4, 2) := by decide +kernel
theorem dX12_makeStatement_92 : decode cX12_makeStatement 92 = .ok (.iconst 1, 1) := by decide +kernel
theorem dX12_makeStatement_93 : decode cX12_makeStatement 93 = .ok (.iadd, 1) := by decide +kernel
theorem dX12_makeStatement_94 : decode cX12_makeStatement 94 = .ok (.iload_n 2, 1) := by decide +kernel
theorem dX12_makeStatement_95 : decode cX12_makeStatement 95 = .ok (.iastore, 1) := by decide +kernel
theorem dX12_makeStatement_96 : decode cX12_makeStatement 96 = .ok (.aload_n 0, 1) := by decide +kernel
theorem dX12_makeStatement_97 : decode cX12_makeStatement 97 = .ok (.getfield 7, 3) := by decide +kernel
theorem dX12_makeStatement_100 : decode cX12_makeStatement 100 = .ok (.iload 4, 2) := by decide +kernel
theorem dX12_makeStatement_102 : decode cX12_makeStatement 102 = .ok (.iconst 2, 1) := by decide +kernel
theorem dX12_makeStatement_103 : decode cX12_makeStatement 103 = .ok (.iadd, 1) := by decide +kernel
theorem dX12_makeStatement_104 : decode cX12_makeStatement 104 = .ok (.iload_n 3, 1) := by decide +kernel
theorem dX12_makeStatement_105 : decode cX12_makeStatement 105 = .ok (.ifCond .eq 7, 3) := by decide +kernel
theorem dX12_makeStatement_108 : decode cX12_makeStatement 108 = .ok (.iconst 1, 1) := by decide +kernel
theorem dX12_makeStatement_109 : decode cX12_makeStatement 109 = .ok (.goto 4, 3) := by decide +kernel
theorem dX12_makeStatement_112 : decode cX12_makeStatement 112 = .ok (.iconst 0, 1) := by decide +kernel
theorem dX12_makeStatement_113 : decode cX12_makeStatement 113 = .ok (.iastore, 1) := by decide +kernel
theorem dX12_makeStatement_114 : decode cX12_makeStatement 114 = .ok (.aload_n 0, 1) := by decide +kernel
theorem dX12_makeStatement_115 : decode cX12_makeStatement 115 = .ok (.getfield 7, 3) := by decide +kernel
theorem dX12_makeStatement_118 : decode cX12_makeStatement 118 = .ok (.iconst 4, 1) := by decide +kernel
theorem dX12_makeStatement_119 : decode cX12_makeStatement 119 = .ok (.dup2, 1) := by decide +kernel
theorem dX12_makeStatement_120 : decode cX12_makeStatement 120 = .ok (.iaload, 1) := by decide +kernel
theorem dX12_makeStatement_121 : decode cX12_makeStatement 121 = .ok (.iconst 1, 1) := by decide +kernel
theorem dX12_makeStatement_122 : decode cX12_makeStatement 122 = .ok (.iadd, 1) := by decide +kernel
theorem dX12_makeStatement_123 : decode cX12_makeStatement 123 = .ok (.iastore, 1) := by decide +kernel
theorem dX12_makeStatement_124 : decode cX12_makeStatement 124 = .ok (.aload_n 0, 1) := by decide +kernel
theorem dX12_makeStatement_125 : decode cX12_makeStatement 125 = .ok (.getfield 7, 3) := by decide +kernel
theorem dX12_makeStatement_128 : decode cX12_makeStatement 128 = .ok (.iconst 4, 1) := by decide +kernel
theorem dX12_makeStatement_129 : decode cX12_makeStatement 129 = .ok (.iaload, 1) := by decide +kernel
theorem dX12_makeStatement_130 : decode cX12_makeStatement 130 = .ok (.iconst 1, 1) := by decide +kernel
theorem dX12_makeStatement_131 : decode cX12_makeStatement 131 = .ok (.isub, 1) := by decide +kernel
theorem dX12_makeStatement_132 : decode cX12_makeStatement 132 = .ok (.ireturn, 1) := by decide +kernel
theorem dX12_dropStatement_0 : decode cX12_dropStatement 0 = .ok (.aload_n 0, 1) := by decide +kernel
theorem dX12_dropStatement_1 : decode cX12_dropStatement 1 = .ok (.aload_n 0, 1) := by decide +kernel
theorem dX12_dropStatement_2 : decode cX12_dropStatement 2 = .ok (.iload_n 1, 1) := by decide +kernel
theorem dX12_dropStatement_3 : decode cX12_dropStatement 3 = .ok (.invokevirtual 84, 3) := by decide +kernel
theorem dX12_dropStatement_6 : decode cX12_dropStatement 6 = .ok (.ifCond .eq 7, 3) := by decide +kernel
theorem dX12_dropStatement_9 : decode cX12_dropStatement 9 = .ok (.iconst 0, 1) := by decide +kernel
theorem dX12_dropStatement_10 : decode cX12_dropStatement 10 = .ok (.goto 4, 3) := by decide +kernel
theorem dX12_dropStatement_13 : decode cX12_dropStatement 13 = .ok (.iconst 1, 1) := by decide +kernel
theorem dX12_dropStatement_14 : decode cX12_dropStatement 14 = .ok (.invokevirtual 61, 3) := by decide +kernel
theorem dX12_dropStatement_17 : decode cX12_dropStatement 17 = .ok (.ifCond .eq 5, 3) := by decide +kernel
theorem dX12_dropStatement_20 : decode cX12_dropStatement 20 = .ok (.iconst 0, 1) := by decide +kernel
theorem dX12_dropStatement_21 : decode cX12_dropStatement 21 = .ok (.ireturn, 1) := by decide +kernel
theorem dX12_dropStatement_22 : decode cX12_dropStatement 22 = .ok (.aload_n 0, 1) := by decide +kernel
theorem dX12_dropStatement_23 : decode cX12_dropStatement 23 = .ok (.aload_n 0, 1) := by decide +kernel
theorem dX12_dropStatement_24 : decode cX12_dropStatement 24 = .ok (.getfield 7, 3) := by decide +kernel
theorem dX12_dropStatement_27 : decode cX12_dropStatement 27 = .ok (.invokevirtual 64, 3) := by decide +kernel
theorem dX12_dropStatement_30 : decode cX12_dropStatement 30 = .ok (.aload_n 0, 1) := by decide +kernel
theorem dX12_dropStatement_31 : decode cX12_dropStatement 31 = .ok (.getfield 7, 3) := by decide +kernel
theorem dX12_dropStatement_34 : decode cX12_dropStatement 34 = .ok (.iconst 4, 1) := by decide +kernel
theorem dX12_dropStatement_35 : decode cX12_dropStatement 35 = .ok (.dup2, 1) := by decide +kernel
theorem dX12_dropStatement_36 : decode cX12_dropStatement 36 = .ok (.iaload, 1) := by decide +kernel
theorem dX12_dropStatement_37 : decode cX12_dropStatement 37 = .ok (.iconst 1, 1) := by decide +kernel
theorem dX12_dropStatement_38 : decode cX12_dropStatement 38 = .ok (.isub, 1) := by decide +kernel
theorem dX12_dropStatement_39 : decode cX12_dropStatement 39 = .ok (.iastore, 1) := by decide +kernel
theorem dX12_dropStatement_40 : decode cX12_dropStatement 40 = .ok (.sipush 151, 3) := by decide +kernel
theorem dX12_dropStatement_43 : decode cX12_dropStatement 43 = .ok (.iconst 3, 1) := by decide +kernel
theorem dX12_dropStatement_44 : decode cX12_dropStatement 44 = .ok (.iload_n 1, 1) := by decide +kernel
theorem dX12_dropStatement_45 : decode cX12_dropStatement 45 = .ok (.imul, 1) := by decide +kernel
theorem dX12_dropStatement_46 : decode cX12_dropStatement 46 = .ok (.iadd, 1) := by decide +kernel
theorem dX12_dropStatement_47 : decode cX12_dropStatement 47 = .ok (.istore_n 2, 1) := by decide +kernel
theorem dX12_dropStatement_48 : decode cX12_dropStatement 48 = .ok (.iload_n 2, 1) := by decide +kernel
theorem dX12_dropStatement_49 : decode cX12_dropStatement 49 = .ok (.sipush 151, 3) := by decide +kernel
theorem dX12_dropStatement_52 : decode cX12_dropStatement 52 = .ok (.iconst 3, 1) := by decide +kernel
theorem dX12_dropStatement_53 : decode cX12_dropStatement 53 = .ok (.aload_n 0, 1) := by decide +kernel
theorem dX12_dropStatement_54 : decode cX12_dropStatement 54 = .ok (.getfield 7, 3) := by decide +kernel
theorem dX12_dropStatement_57 : decode cX12_dropStatement 57 = .ok (.iconst 4, 1) := by decide +kernel
theorem dX12_dropStatement_58 : decode cX12_dropStatement 58 = .ok (.iaload, 1) := by decide +kernel
theorem dX12_dropStatement_59 : decode cX12_dropStatement 59 = .ok (.imul, 1) := by decide +kernel
theorem dX12_dropStatement_60 : decode cX12_dropStatement 60 = .ok (.iadd, 1) := by decide +kernel
theorem dX12_dropStatement_61 : decode cX12_dropStatement 61 = .ok (.if_icmp .ge 23, 3) := by decide +kernel
theorem dX12_dropStatement_64 : decode cX12_dropStatement 64 = .ok (.aload_n 0, 1) := by decide +kernel
theorem dX12_dropStatement_65 : decode cX12_dropStatement 65 = .ok (.getfield 7, 3) := by decide +kernel
theorem dX12_dropStatement_68 : decode cX12_dropStatement 68 = .ok (.iload_n 2, 1) := by decide +kernel
theorem dX12_dropStatement_69 : decode cX12_dropStatement 69 = .ok (.aload_n 0, 1) := by decide +kernel
theorem dX12_dropStatement_70 : decode cX12_dropStatement 70 = .ok (.getfield 7, 3) := by decide +kernel
theorem dX12_dropStatement_73 : decode cX12_dropStatement 73 = .ok (.iload_n 2, 1) := by decide +kernel
theorem dX12_dropStatement_74 : decode cX12_dropStatement 74 = .ok (.iconst 3, 1) := by decide +kernel
theorem dX12_dropStatement_75 : decode cX12_dropStatement 75 = .ok (.iadd, 1) := by decide +kernel
theorem dX12_dropStatement_76 : decode cX12_dropStatement 76 = .ok (.iaload, 1) := by decide +kernel
theorem dX12_dropStatement_77 : decode cX12_dropStatement 77 = .ok (.iastore, 1) := by decide +kernel
theorem dX12_dropStatement_78 : decode cX12_dropStatement 78 = .ok (.iinc 2 1, 3) := by decide +kernel
theorem dX12_dropStatement_81 : decode cX12_dropStatement 81 = .ok (.goto (-33), 3) := by decide +kernel
theorem dX12_dropStatement_84 : decode cX12_dropStatement 84 = .ok (.iconst 0, 1) := by decide +kernel
theorem dX12_dropStatement_85 : decode cX12_dropStatement 85 = .ok (.istore_n 2, 1) := by decide +kernel
theorem dX12_dropStatement_86 : decode cX12_dropStatement 86 = .ok (.iload_n 2, 1) := by decide +kernel
theorem dX12_dropStatement_87 : decode cX12_dropStatement 87 = .ok (.iconst 3, 1) := by decide +kernel
theorem dX12_dropStatement_88 : decode cX12_dropStatement 88 = .ok (.if_icmp .ge 29, 3) := by decide +kernel
theorem dX12_dropStatement_91 : decode cX12_dropStatement 91 = .ok (.aload_n 0, 1) := by decide +kernel
theorem dX12_dropStatement_92 : decode cX12_dropStatement 92 = .ok (.getfield 7, 3) := by decide +kernel
theorem dX12_dropStatement_95 : decode cX12_dropStatement 95 = .ok (.sipush 151, 3) := by decide +kernel
theorem dX12_dropStatement_98 : decode cX12_dropStatement 98 = .ok (.iconst 3, 1) := by decide +kernel
theorem dX12_dropStatement_99 : decode cX12_dropStatement 99 = .ok (.aload_n 0, 1) := by decide +kernel
theorem dX12_dropStatement_100 : decode cX12_dropStatement 100 = .ok (.getfield 7, 3) := by decide +kernel
theorem dX12_dropStatement_103 : decode cX12_dropStatement 103 = .ok (.iconst 4, 1) := by decide +kernel
theorem dX12_dropStatement_104 : decode cX12_dropStatement 104 = .ok (.iaload, 1) := by decide +kernel
theorem dX12_dropStatement_105 : decode cX12_dropStatement 105 = .ok (.imul, 1) := by decide +kernel
theorem dX12_dropStatement_106 : decode cX12_dropStatement 106 = .ok (.iadd, 1) := by decide +kernel
theorem dX12_dropStatement_107 : decode cX12_dropStatement 107 = .ok (.iload_n 2, 1) := by decide +kernel
theorem dX12_dropStatement_108 : decode cX12_dropStatement 108 = .ok (.iadd, 1) := by decide +kernel
theorem dX12_dropStatement_109 : decode cX12_dropStatement 109 = .ok (.iconst 0, 1) := by decide +kernel
theorem dX12_dropStatement_110 : decode cX12_dropStatement 110 = .ok (.iastore, 1) := by decide +kernel
theorem dX12_dropStatement_111 : decode cX12_dropStatement 111 = .ok (.iinc 2 1, 3) := by decide +kernel
theorem dX12_dropStatement_114 : decode cX12_dropStatement 114 = .ok (.goto (-28), 3) := by decide +kernel
theorem dX12_dropStatement_117 : decode cX12_dropStatement 117 = .ok (.aload_n 0, 1) := by decide +kernel
theorem dX12_dropStatement_118 : decode cX12_dropStatement 118 = .ok (.getfield 7, 3) := by decide +kernel
theorem dX12_dropStatement_121 : decode cX12_dropStatement 121 = .ok (.iconst 4, 1) := by decide +kernel
theorem dX12_dropStatement_122 : decode cX12_dropStatement 122 = .ok (.iaload, 1) := by decide +kernel
theorem dX12_dropStatement_123 : decode cX12_dropStatement 123 = .ok (.ireturn, 1) := by decide +kernel
theorem dX12_admit_0 : decode cX12_admit 0 = .ok (.iload_n 2, 1) := by decide +kernel
theorem dX12_admit_1 : decode cX12_admit 1 = .ok (.ifCond .eq 7, 3) := by decide +kernel
theorem dX12_admit_4 : decode cX12_admit 4 = .ok (.iconst 1, 1) := by decide +kernel
theorem dX12_admit_5 : decode cX12_admit 5 = .ok (.goto 4, 3) := by decide +kernel
theorem dX12_admit_8 : decode cX12_admit 8 = .ok (.iconst 2, 1) := by decide +kernel
theorem dX12_admit_9 : decode cX12_admit 9 = .ok (.istore_n 3, 1) := by decide +kernel
theorem dX12_admit_10 : decode cX12_admit 10 = .ok (.aload_n 0, 1) := by decide +kernel
theorem dX12_admit_11 : decode cX12_admit 11 = .ok (.aload_n 0, 1) := by decide +kernel
theorem dX12_admit_12 : decode cX12_admit 12 = .ok (.iload_n 1, 1) := by decide +kernel
theorem dX12_admit_13 : decode cX12_admit 13 = .ok (.invokevirtual 57, 3) := by decide +kernel
theorem dX12_admit_16 : decode cX12_admit 16 = .ok (.ifCond .ne 7, 3) := by decide +kernel
theorem dX12_admit_19 : decode cX12_admit 19 = .ok (.iconst 1, 1) := by decide +kernel
theorem dX12_admit_20 : decode cX12_admit 20 = .ok (.goto 18, 3) := by decide +kernel
theorem dX12_admit_23 : decode cX12_admit 23 = .ok (.aload_n 0, 1) := by decide +kernel
theorem dX12_admit_24 : decode cX12_admit 24 = .ok (.iload_n 1, 1) := by decide +kernel
theorem dX12_admit_25 : decode cX12_admit 25 = .ok (.iconst 1, 1) := by decide +kernel
theorem dX12_admit_26 : decode cX12_admit 26 = .ok (.invokevirtual 87, 3) := by decide +kernel
theorem dX12_admit_29 : decode cX12_admit 29 = .ok (.iload_n 3, 1) := by decide +kernel
theorem dX12_admit_30 : decode cX12_admit 30 = .ok (.if_icmp .ne 7, 3) := by decide +kernel
theorem dX12_admit_33 : decode cX12_admit 33 = .ok (.iconst 2, 1) := by decide +kernel
theorem dX12_admit_34 : decode cX12_admit 34 = .ok (.goto 4, 3) := by decide +kernel
theorem dX12_admit_37 : decode cX12_admit 37 = .ok (.iconst 0, 1) := by decide +kernel
theorem dX12_admit_38 : decode cX12_admit 38 = .ok (.invokevirtual 61, 3) := by decide +kernel
theorem dX12_admit_41 : decode cX12_admit 41 = .ok (.ifCond .eq 5, 3) := by decide +kernel
theorem dX12_admit_44 : decode cX12_admit 44 = .ok (.iconst 0, 1) := by decide +kernel
theorem dX12_admit_45 : decode cX12_admit 45 = .ok (.ireturn, 1) := by decide +kernel
theorem dX12_admit_46 : decode cX12_admit 46 = .ok (.aload_n 0, 1) := by decide +kernel
theorem dX12_admit_47 : decode cX12_admit 47 = .ok (.iload_n 1, 1) := by decide +kernel
theorem dX12_admit_48 : decode cX12_admit 48 = .ok (.iconst 1, 1) := by decide +kernel
theorem dX12_admit_49 : decode cX12_admit 49 = .ok (.invokevirtual 87, 3) := by decide +kernel
theorem dX12_admit_52 : decode cX12_admit 52 = .ok (.istore 4, 2) := by decide +kernel
theorem dX12_admit_54 : decode cX12_admit 54 = .ok (.aload_n 0, 1) := by decide +kernel
theorem dX12_admit_55 : decode cX12_admit 55 = .ok (.aload_n 0, 1) := by decide +kernel
theorem dX12_admit_56 : decode cX12_admit 56 = .ok (.getfield 7, 3) := by decide +kernel
theorem dX12_admit_59 : decode cX12_admit 59 = .ok (.invokevirtual 64, 3) := by decide +kernel
theorem dX12_admit_62 : decode cX12_admit 62 = .ok (.aload_n 0, 1) := by decide +kernel
theorem dX12_admit_63 : decode cX12_admit 63 = .ok (.iload_n 1, 1) := by decide +kernel
theorem dX12_admit_64 : decode cX12_admit 64 = .ok (.iconst 1, 1) := by decide +kernel
theorem dX12_admit_65 : decode cX12_admit 65 = .ok (.iload_n 3, 1) := by decide +kernel
theorem dX12_admit_66 : decode cX12_admit 66 = .ok (.invokevirtual 68, 3) := by decide +kernel
theorem dX12_admit_69 : decode cX12_admit 69 = .ok (.iload 4, 2) := by decide +kernel
theorem dX12_admit_71 : decode cX12_admit 71 = .ok (.ifCond .le 7, 3) := by decide +kernel
theorem dX12_admit_74 : decode cX12_admit 74 = .ok (.iconst 1, 1) := by decide +kernel
theorem dX12_admit_75 : decode cX12_admit 75 = .ok (.goto 4, 3) := by decide +kernel
theorem dX12_admit_78 : decode cX12_admit 78 = .ok (.iconst 0, 1) := by decide +kernel
theorem dX12_admit_79 : decode cX12_admit 79 = .ok (.ireturn, 1) := by decide +kernel
theorem dX12_retract_0 : decode cX12_retract 0 = .ok (.aload_n 0, 1) := by decide +kernel
theorem dX12_retract_1 : decode cX12_retract 1 = .ok (.aload_n 0, 1) := by decide +kernel
theorem dX12_retract_2 : decode cX12_retract 2 = .ok (.iload_n 1, 1) := by decide +kernel
theorem dX12_retract_3 : decode cX12_retract 3 = .ok (.invokevirtual 57, 3) := by decide +kernel
theorem dX12_retract_6 : decode cX12_retract 6 = .ok (.ifCond .ne 7, 3) := by decide +kernel
theorem dX12_retract_9 : decode cX12_retract 9 = .ok (.iconst 1, 1) := by decide +kernel
theorem dX12_retract_10 : decode cX12_retract 10 = .ok (.goto 17, 3) := by decide +kernel
theorem dX12_retract_13 : decode cX12_retract 13 = .ok (.aload_n 0, 1) := by decide +kernel
theorem dX12_retract_14 : decode cX12_retract 14 = .ok (.iload_n 1, 1) := by decide +kernel
theorem dX12_retract_15 : decode cX12_retract 15 = .ok (.iconst 1, 1) := by decide +kernel
theorem dX12_retract_16 : decode cX12_retract 16 = .ok (.invokevirtual 87, 3) := by decide +kernel
theorem dX12_retract_19 : decode cX12_retract 19 = .ok (.ifCond .ne 7, 3) := by decide +kernel
theorem dX12_retract_22 : decode cX12_retract 22 = .ok (.iconst 2, 1) := by decide +kernel
theorem dX12_retract_23 : decode cX12_retract 23 = .ok (.goto 4, 3) := by decide +kernel
theorem dX12_retract_26 : decode cX12_retract 26 = .ok (.iconst 0, 1) := by decide +kernel
theorem dX12_retract_27 : decode cX12_retract 27 = .ok (.invokevirtual 61, 3) := by decide +kernel
theorem dX12_retract_30 : decode cX12_retract 30 = .ok (.ifCond .eq 5, 3) := by decide +kernel
theorem dX12_retract_33 : decode cX12_retract 33 = .ok (.iconst 0, 1) := by decide +kernel
theorem dX12_retract_34 : decode cX12_retract 34 = .ok (.ireturn, 1) := by decide +kernel
theorem dX12_retract_35 : decode cX12_retract 35 = .ok (.aload_n 0, 1) := by decide +kernel
theorem dX12_retract_36 : decode cX12_retract 36 = .ok (.iload_n 1, 1) := by decide +kernel
theorem dX12_retract_37 : decode cX12_retract 37 = .ok (.iconst 1, 1) := by decide +kernel
theorem dX12_retract_38 : decode cX12_retract 38 = .ok (.invokevirtual 87, 3) := by decide +kernel
theorem dX12_retract_41 : decode cX12_retract 41 = .ok (.istore_n 2, 1) := by decide +kernel
theorem dX12_retract_42 : decode cX12_retract 42 = .ok (.aload_n 0, 1) := by decide +kernel
theorem dX12_retract_43 : decode cX12_retract 43 = .ok (.aload_n 0, 1) := by decide +kernel
theorem dX12_retract_44 : decode cX12_retract 44 = .ok (.getfield 7, 3) := by decide +kernel
theorem dX12_retract_47 : decode cX12_retract 47 = .ok (.invokevirtual 64, 3) := by decide +kernel
theorem dX12_retract_50 : decode cX12_retract 50 = .ok (.aload_n 0, 1) := by decide +kernel
theorem dX12_retract_51 : decode cX12_retract 51 = .ok (.iload_n 1, 1) := by decide +kernel
theorem dX12_retract_52 : decode cX12_retract 52 = .ok (.iconst 1, 1) := by decide +kernel
theorem dX12_retract_53 : decode cX12_retract 53 = .ok (.iconst 0, 1) := by decide +kernel
theorem dX12_retract_54 : decode cX12_retract 54 = .ok (.invokevirtual 68, 3) := by decide +kernel
theorem dX12_retract_57 : decode cX12_retract 57 = .ok (.iload_n 2, 1) := by decide +kernel
theorem dX12_retract_58 : decode cX12_retract 58 = .ok (.iconst 1, 1) := by decide +kernel
theorem dX12_retract_59 : decode cX12_retract 59 = .ok (.if_icmp .ne 7, 3) := by decide +kernel
theorem dX12_retract_62 : decode cX12_retract 62 = .ok (.iconst 1, 1) := by decide +kernel
theorem dX12_retract_63 : decode cX12_retract 63 = .ok (.goto 4, 3) := by decide +kernel
theorem dX12_retract_66 : decode cX12_retract 66 = .ok (.iconst 0, 1) := by decide +kernel
theorem dX12_retract_67 : decode cX12_retract 67 = .ok (.ireturn, 1) := by decide +kernel
theorem dX12_isPossible_0 : decode cX12_isPossible 0 = .ok (.iconst 1, 1) := by decide +kernel
theorem dX12_isPossible_1 : decode cX12_isPossible 1 = .ok (.istore_n 2, 1) := by decide +kernel
theorem dX12_isPossible_2 : decode cX12_isPossible 2 = .ok (.iload_n 2, 1) := by decide +kernel
theorem dX12_isPossible_3 : decode cX12_isPossible 3 = .ok (.bipush 12, 2) := by decide +kernel
theorem dX12_isPossible_5 : decode cX12_isPossible 5 = .ok (.if_icmp .gt 74, 3) := by decide +kernel
theorem dX12_isPossible_8 : decode cX12_isPossible 8 = .ok (.iconst 0, 1) := by decide +kernel
theorem dX12_isPossible_9 : decode cX12_isPossible 9 = .ok (.istore_n 3, 1) := by decide +kernel
theorem dX12_isPossible_10 : decode cX12_isPossible 10 = .ok (.iconst 0, 1) := by decide +kernel
theorem dX12_isPossible_11 : decode cX12_isPossible 11 = .ok (.istore 4, 2) := by decide +kernel
theorem dX12_isPossible_13 : decode cX12_isPossible 13 = .ok (.iload 4, 2) := by decide +kernel
theorem dX12_isPossible_15 : decode cX12_isPossible 15 = .ok (.aload_n 0, 1) := by decide +kernel
theorem dX12_isPossible_16 : decode cX12_isPossible 16 = .ok (.getfield 7, 3) := by decide +kernel
theorem dX12_isPossible_19 : decode cX12_isPossible 19 = .ok (.iconst 3, 1) := by decide +kernel
theorem dX12_isPossible_20 : decode cX12_isPossible 20 = .ok (.iaload, 1) := by decide +kernel
theorem dX12_isPossible_21 : decode cX12_isPossible 21 = .ok (.if_icmp .ge 45, 3) := by decide +kernel
theorem dX12_isPossible_24 : decode cX12_isPossible 24 = .ok (.iload_n 3, 1) := by decide +kernel
theorem dX12_isPossible_25 : decode cX12_isPossible 25 = .ok (.iload_n 1, 1) := by decide +kernel
theorem dX12_isPossible_26 : decode cX12_isPossible 26 = .ok (.iload 4, 2) := by decide +kernel
theorem dX12_isPossible_28 : decode cX12_isPossible 28 = .ok (.ishr, 1) := by decide +kernel
theorem dX12_isPossible_29 : decode cX12_isPossible 29 = .ok (.iconst 1, 1) := by decide +kernel
theorem dX12_isPossible_30 : decode cX12_isPossible 30 = .ok (.iand, 1) := by decide +kernel
theorem dX12_isPossible_31 : decode cX12_isPossible 31 = .ok (.iconst 1, 1) := by decide +kernel
theorem dX12_isPossible_32 : decode cX12_isPossible 32 = .ok (.if_icmp .ne 25, 3) := by decide +kernel
theorem dX12_isPossible_35 : decode cX12_isPossible 35 = .ok (.aload_n 0, 1) := by decide +kernel
theorem dX12_isPossible_36 : decode cX12_isPossible 36 = .ok (.iload 4, 2) := by decide +kernel
theorem dX12_isPossible_38 : decode cX12_isPossible 38 = .ok (.iconst 2, 1) := by decide +kernel
theorem dX12_isPossible_39 : decode cX12_isPossible 39 = .ok (.invokevirtual 72, 3) := by decide +kernel
theorem dX12_isPossible_42 : decode cX12_isPossible 42 = .ok (.aload_n 0, 1) := by decide +kernel
theorem dX12_isPossible_43 : decode cX12_isPossible 43 = .ok (.getfield 7, 3) := by decide +kernel
theorem dX12_isPossible_46 : decode cX12_isPossible 46 = .ok (.iconst 1, 1) := by decide +kernel
theorem dX12_isPossible_47 : decode cX12_isPossible 47 = .ok (.iaload, 1) := by decide +kernel
theorem dX12_isPossible_48 : decode cX12_isPossible 48 = .ok (.iload_n 2, 1) := by decide +kernel
theorem dX12_isPossible_49 : decode cX12_isPossible 49 = .ok (.iadd, 1) := by decide +kernel
theorem dX12_isPossible_50 : decode cX12_isPossible 50 = .ok (.if_icmp .gt 7, 3) := by decide +kernel
theorem dX12_isPossible_53 : decode cX12_isPossible 53 = .ok (.iconst 1, 1) := by decide +kernel
theorem dX12_isPossible_54 : decode cX12_isPossible 54 = .ok (.goto 4, 3) := by decide +kernel
theorem dX12_isPossible_57 : decode cX12_isPossible 57 = .ok (.iconst 0, 1) := by decide +kernel
theorem dX12_isPossible_58 : decode cX12_isPossible 58 = .ok (.iadd, 1) := by decide +kernel
theorem dX12_isPossible_59 : decode cX12_isPossible 59 = .ok (.istore_n 3, 1) := by decide +kernel
theorem dX12_isPossible_60 : decode cX12_isPossible 60 = .ok (.iinc 4 1, 3) := by decide +kernel
theorem dX12_isPossible_63 : decode cX12_isPossible 63 = .ok (.goto (-50), 3) := by decide +kernel
theorem dX12_isPossible_66 : decode cX12_isPossible 66 = .ok (.iload_n 3, 1) := by decide +kernel
theorem dX12_isPossible_67 : decode cX12_isPossible 67 = .ok (.iload_n 2, 1) := by decide +kernel
theorem dX12_isPossible_68 : decode cX12_isPossible 68 = .ok (.if_icmp .le 5, 3) := by decide +kernel
theorem dX12_isPossible_71 : decode cX12_isPossible 71 = .ok (.iconst 0, 1) := by decide +kernel
theorem dX12_isPossible_72 : decode cX12_isPossible 72 = .ok (.ireturn, 1) := by decide +kernel
theorem dX12_isPossible_73 : decode cX12_isPossible 73 = .ok (.iinc 2 1, 3) := by decide +kernel
theorem dX12_isPossible_76 : decode cX12_isPossible 76 = .ok (.goto (-74), 3) := by decide +kernel
theorem dX12_isPossible_79 : decode cX12_isPossible 79 = .ok (.iconst 1, 1) := by decide +kernel
theorem dX12_isPossible_80 : decode cX12_isPossible 80 = .ok (.ireturn, 1) := by decide +kernel
theorem dX12_isDearer_0 : decode cX12_isDearer 0 = .ok (.aload_n 0, 1) := by decide +kernel
theorem dX12_isDearer_1 : decode cX12_isDearer 1 = .ok (.iload_n 1, 1) := by decide +kernel
theorem dX12_isDearer_2 : decode cX12_isDearer 2 = .ok (.iconst 3, 1) := by decide +kernel
theorem dX12_isDearer_3 : decode cX12_isDearer 3 = .ok (.invokevirtual 72, 3) := by decide +kernel
theorem dX12_isDearer_6 : decode cX12_isDearer 6 = .ok (.aload_n 0, 1) := by decide +kernel
theorem dX12_isDearer_7 : decode cX12_isDearer 7 = .ok (.iload_n 2, 1) := by decide +kernel
theorem dX12_isDearer_8 : decode cX12_isDearer 8 = .ok (.iconst 3, 1) := by decide +kernel
theorem dX12_isDearer_9 : decode cX12_isDearer 9 = .ok (.invokevirtual 72, 3) := by decide +kernel
theorem dX12_isDearer_12 : decode cX12_isDearer 12 = .ok (.if_icmp .eq 24, 3) := by decide +kernel
theorem dX12_isDearer_15 : decode cX12_isDearer 15 = .ok (.aload_n 0, 1) := by decide +kernel
theorem dX12_isDearer_16 : decode cX12_isDearer 16 = .ok (.iload_n 1, 1) := by decide +kernel
theorem dX12_isDearer_17 : decode cX12_isDearer 17 = .ok (.iconst 3, 1) := by decide +kernel
theorem dX12_isDearer_18 : decode cX12_isDearer 18 = .ok (.invokevirtual 72, 3) := by decide +kernel
theorem dX12_isDearer_21 : decode cX12_isDearer 21 = .ok (.aload_n 0, 1) := by decide +kernel
theorem dX12_isDearer_22 : decode cX12_isDearer 22 = .ok (.iload_n 2, 1) := by decide +kernel
theorem dX12_isDearer_23 : decode cX12_isDearer 23 = .ok (.iconst 3, 1) := by decide +kernel
theorem dX12_isDearer_24 : decode cX12_isDearer 24 = .ok (.invokevirtual 72, 3) := by decide +kernel
theorem dX12_isDearer_27 : decode cX12_isDearer 27 = .ok (.if_icmp .le 7, 3) := by decide +kernel
theorem dX12_isDearer_30 : decode cX12_isDearer 30 = .ok (.iconst 1, 1) := by decide +kernel
theorem dX12_isDearer_31 : decode cX12_isDearer 31 = .ok (.goto 4, 3) := by decide +kernel
theorem dX12_isDearer_34 : decode cX12_isDearer 34 = .ok (.iconst 0, 1) := by decide +kernel
theorem dX12_isDearer_35 : decode cX12_isDearer 35 = .ok (.ireturn, 1) := by decide +kernel
theorem dX12_isDearer_36 : decode cX12_isDearer 36 = .ok (.aload_n 0, 1) := by decide +kernel
theorem dX12_isDearer_37 : decode cX12_isDearer 37 = .ok (.iload_n 1, 1) := by decide +kernel
theorem dX12_isDearer_38 : decode cX12_isDearer 38 = .ok (.iconst 2, 1) := by decide +kernel
theorem dX12_isDearer_39 : decode cX12_isDearer 39 = .ok (.invokevirtual 72, 3) := by decide +kernel
theorem dX12_isDearer_42 : decode cX12_isDearer 42 = .ok (.aload_n 0, 1) := by decide +kernel
theorem dX12_isDearer_43 : decode cX12_isDearer 43 = .ok (.iload_n 2, 1) := by decide +kernel
theorem dX12_isDearer_44 : decode cX12_isDearer 44 = .ok (.iconst 2, 1) := by decide +kernel
theorem dX12_isDearer_45 : decode cX12_isDearer 45 = .ok (.invokevirtual 72, 3) := by decide +kernel
theorem dX12_isDearer_48 : decode cX12_isDearer 48 = .ok (.if_icmp .eq 26, 3) := by decide +kernel
theorem dX12_isDearer_51 : decode cX12_isDearer 51 = .ok (.aload_n 0, 1) := by decide +kernel
theorem dX12_isDearer_52 : decode cX12_isDearer 52 = .ok (.iload_n 1, 1) := by decide +kernel
theorem dX12_isDearer_53 : decode cX12_isDearer 53 = .ok (.iconst 2, 1) := by decide +kernel
theorem dX12_isDearer_54 : decode cX12_isDearer 54 = .ok (.invokevirtual 72, 3) := by decide +kernel
theorem dX12_isDearer_57 : decode cX12_isDearer 57 = .ok (.aload_n 0, 1) := by decide +kernel
theorem dX12_isDearer_58 : decode cX12_isDearer 58 = .ok (.iload_n 2, 1) := by decide +kernel
theorem dX12_isDearer_59 : decode cX12_isDearer 59 = .ok (.iconst 2, 1) := by decide +kernel
theorem dX12_isDearer_60 : decode cX12_isDearer 60 = .ok (.invokevirtual 72, 3) := by decide +kernel
theorem dX12_isDearer_63 : decode cX12_isDearer 63 = .ok (.if_icmp .ge 7, 3) := by decide +kernel
theorem dX12_isDearer_66 : decode cX12_isDearer 66 = .ok (.iconst 1, 1) := by decide +kernel
theorem dX12_isDearer_67 : decode cX12_isDearer 67 = .ok (.goto 27, 3) := by decide +kernel
theorem dX12_isDearer_70 : decode cX12_isDearer 70 = .ok (.iconst 0, 1) := by decide +kernel
theorem dX12_isDearer_71 : decode cX12_isDearer 71 = .ok (.goto 23, 3) := by decide +kernel
theorem dX12_isDearer_74 : decode cX12_isDearer 74 = .ok (.aload_n 0, 1) := by decide +kernel
theorem dX12_isDearer_75 : decode cX12_isDearer 75 = .ok (.iload_n 1, 1) := by decide +kernel
theorem dX12_isDearer_76 : decode cX12_isDearer 76 = .ok (.iconst 0, 1) := by decide +kernel
theorem dX12_isDearer_77 : decode cX12_isDearer 77 = .ok (.invokevirtual 72, 3) := by decide +kernel
theorem dX12_isDearer_80 : decode cX12_isDearer 80 = .ok (.aload_n 0, 1) := by decide +kernel
theorem dX12_isDearer_81 : decode cX12_isDearer 81 = .ok (.iload_n 2, 1) := by decide +kernel
theorem dX12_isDearer_82 : decode cX12_isDearer 82 = .ok (.iconst 0, 1) := by decide +kernel
theorem dX12_isDearer_83 : decode cX12_isDearer 83 = .ok (.invokevirtual 72, 3) := by decide +kernel
theorem dX12_isDearer_86 : decode cX12_isDearer 86 = .ok (.if_icmp .ge 7, 3) := by decide +kernel
theorem dX12_isDearer_89 : decode cX12_isDearer 89 = .ok (.iconst 1, 1) := by decide +kernel
theorem dX12_isDearer_90 : decode cX12_isDearer 90 = .ok (.goto 4, 3) := by decide +kernel
theorem dX12_isDearer_93 : decode cX12_isDearer 93 = .ok (.iconst 0, 1) := by decide +kernel
theorem dX12_isDearer_94 : decode cX12_isDearer 94 = .ok (.ireturn, 1) := by decide +kernel
theorem dX12_plan_0 : decode cX12_plan 0 = .ok (.iconst 0, 1) := by decide +kernel
theorem dX12_plan_1 : decode cX12_plan 1 = .ok (.istore_n 1, 1) := by decide +kernel
theorem dX12_plan_2 : decode cX12_plan 2 = .ok (.iconst 0, 1) := by decide +kernel
theorem dX12_plan_3 : decode cX12_plan 3 = .ok (.istore_n 2, 1) := by decide +kernel
theorem dX12_plan_4 : decode cX12_plan 4 = .ok (.iconst 0, 1) := by decide +kernel
theorem dX12_plan_5 : decode cX12_plan 5 = .ok (.istore_n 3, 1) := by decide +kernel
theorem dX12_plan_6 : decode cX12_plan 6 = .ok (.iload_n 3, 1) := by decide +kernel
theorem dX12_plan_7 : decode cX12_plan 7 = .ok (.aload_n 0, 1) := by decide +kernel
theorem dX12_plan_8 : decode cX12_plan 8 = .ok (.getfield 7, 3) := by decide +kernel
theorem dX12_plan_11 : decode cX12_plan 11 = .ok (.iconst 3, 1) := by decide +kernel
theorem dX12_plan_12 : decode cX12_plan 12 = .ok (.iaload, 1) := by decide +kernel
theorem dX12_plan_13 : decode cX12_plan 13 = .ok (.if_icmp .ge 88, 3) := by decide +kernel
theorem dX12_plan_16 : decode cX12_plan 16 = .ok (.iconst (-1), 1) := by decide +kernel
theorem dX12_plan_17 : decode cX12_plan 17 = .ok (.istore 4, 2) := by decide +kernel
theorem dX12_plan_19 : decode cX12_plan 19 = .ok (.iconst 0, 1) := by decide +kernel
theorem dX12_plan_20 : decode cX12_plan 20 = .ok (.istore 5, 2) := by decide +kernel
theorem dX12_plan_22 : decode cX12_plan 22 = .ok (.iload 5, 2) := by decide +kernel
theorem dX12_plan_24 : decode cX12_plan 24 = .ok (.aload_n 0, 1) := by decide +kernel
theorem dX12_plan_25 : decode cX12_plan 25 = .ok (.getfield 7, 3) := by decide +kernel
theorem dX12_plan_28 : decode cX12_plan 28 = .ok (.iconst 3, 1) := by decide +kernel
theorem dX12_plan_29 : decode cX12_plan 29 = .ok (.iaload, 1) := by decide +kernel
theorem dX12_plan_30 : decode cX12_plan 30 = .ok (.if_icmp .ge 38, 3) := by decide +kernel
theorem dX12_plan_33 : decode cX12_plan 33 = .ok (.iload_n 1, 1) := by decide +kernel
theorem dX12_plan_34 : decode cX12_plan 34 = .ok (.iload 5, 2) := by decide +kernel
theorem dX12_plan_36 : decode cX12_plan 36 = .ok (.ishr, 1) := by decide +kernel
theorem dX12_plan_37 : decode cX12_plan 37 = .ok (.iconst 1, 1) := by decide +kernel
theorem dX12_plan_38 : decode cX12_plan 38 = .ok (.iand, 1) := by decide +kernel
theorem dX12_plan_39 : decode cX12_plan 39 = .ok (.ifCond .ne 23, 3) := by decide +kernel
theorem dX12_plan_42 : decode cX12_plan 42 = .ok (.iload 4, 2) := by decide +kernel
theorem dX12_plan_44 : decode cX12_plan 44 = .ok (.ifCond .lt 14, 3) := by decide +kernel
theorem dX12_plan_47 : decode cX12_plan 47 = .ok (.aload_n 0, 1) := by decide +kernel
theorem dX12_plan_48 : decode cX12_plan 48 = .ok (.iload 5, 2) := by decide +kernel
theorem dX12_plan_50 : decode cX12_plan 50 = .ok (.iload 4, 2) := by decide +kernel
theorem dX12_plan_52 : decode cX12_plan 52 = .ok (.invokevirtual 90, 3) := by decide +kernel
theorem dX12_plan_55 : decode cX12_plan 55 = .ok (.ifCond .eq 7, 3) := by decide +kernel
theorem dX12_plan_58 : decode cX12_plan 58 = .ok (.iload 5, 2) := by decide +kernel
theorem dX12_plan_60 : decode cX12_plan 60 = .ok (.istore 4, 2) := by decide +kernel
theorem dX12_plan_62 : decode cX12_plan 62 = .ok (.iinc 5 1, 3) := by decide +kernel
theorem dX12_plan_65 : decode cX12_plan 65 = .ok (.goto (-43), 3) := by decide +kernel
theorem dX12_plan_68 : decode cX12_plan 68 = .ok (.iload_n 1, 1) := by decide +kernel
theorem dX12_plan_69 : decode cX12_plan 69 = .ok (.iconst 1, 1) := by decide +kernel
theorem dX12_plan_70 : decode cX12_plan 70 = .ok (.iload 4, 2) := by decide +kernel
theorem dX12_plan_72 : decode cX12_plan 72 = .ok (.ishl, 1) := by decide +kernel
theorem dX12_plan_73 : decode cX12_plan 73 = .ok (.ior, 1) := by decide +kernel
theorem dX12_plan_74 : decode cX12_plan 74 = .ok (.istore_n 1, 1) := by decide +kernel
theorem dX12_plan_75 : decode cX12_plan 75 = .ok (.aload_n 0, 1) := by decide +kernel
theorem dX12_plan_76 : decode cX12_plan 76 = .ok (.iload_n 2, 1) := by decide +kernel
theorem dX12_plan_77 : decode cX12_plan 77 = .ok (.iconst 1, 1) := by decide +kernel
theorem dX12_plan_78 : decode cX12_plan 78 = .ok (.iload 4, 2) := by decide +kernel
theorem dX12_plan_80 : decode cX12_plan 80 = .ok (.ishl, 1) := by decide +kernel
theorem dX12_plan_81 : decode cX12_plan 81 = .ok (.ior, 1) := by decide +kernel
theorem dX12_plan_82 : decode cX12_plan 82 = .ok (.invokevirtual 94, 3) := by decide +kernel
theorem dX12_plan_85 : decode cX12_plan 85 = .ok (.ifCond .eq 10, 3) := by decide +kernel
theorem dX12_plan_88 : decode cX12_plan 88 = .ok (.iload_n 2, 1) := by decide +kernel
theorem dX12_plan_89 : decode cX12_plan 89 = .ok (.iconst 1, 1) := by decide +kernel
theorem dX12_plan_90 : decode cX12_plan 90 = .ok (.iload 4, 2) := by decide +kernel
theorem dX12_plan_92 : decode cX12_plan 92 = .ok (.ishl, 1) := by decide +kernel
theorem dX12_plan_93 : decode cX12_plan 93 = .ok (.ior, 1) := by decide +kernel
theorem dX12_plan_94 : decode cX12_plan 94 = .ok (.istore_n 2, 1) := by decide +kernel
theorem dX12_plan_95 : decode cX12_plan 95 = .ok (.iinc 3 1, 3) := by decide +kernel
theorem dX12_plan_98 : decode cX12_plan 98 = .ok (.goto (-92), 3) := by decide +kernel
theorem dX12_plan_101 : decode cX12_plan 101 = .ok (.iload_n 2, 1) := by decide +kernel
theorem dX12_plan_102 : decode cX12_plan 102 = .ok (.ireturn, 1) := by decide +kernel
theorem dX12_hearing_0 : decode cX12_hearing 0 = .ok (.iconst 0, 1) := by decide +kernel
theorem dX12_hearing_1 : decode cX12_hearing 1 = .ok (.istore_n 3, 1) := by decide +kernel
theorem dX12_hearing_2 : decode cX12_hearing 2 = .ok (.iload_n 3, 1) := by decide +kernel
theorem dX12_hearing_3 : decode cX12_hearing 3 = .ok (.aload_n 0, 1) := by decide +kernel
theorem dX12_hearing_4 : decode cX12_hearing 4 = .ok (.getfield 7, 3) := by decide +kernel
theorem dX12_hearing_7 : decode cX12_hearing 7 = .ok (.iconst 3, 1) := by decide +kernel
theorem dX12_hearing_8 : decode cX12_hearing 8 = .ok (.iaload, 1) := by decide +kernel
theorem dX12_hearing_9 : decode cX12_hearing 9 = .ok (.if_icmp .ge 109, 3) := by decide +kernel
theorem dX12_hearing_12 : decode cX12_hearing 12 = .ok (.iload_n 1, 1) := by decide +kernel
theorem dX12_hearing_13 : decode cX12_hearing 13 = .ok (.iload_n 3, 1) := by decide +kernel
theorem dX12_hearing_14 : decode cX12_hearing 14 = .ok (.ishr, 1) := by decide +kernel
