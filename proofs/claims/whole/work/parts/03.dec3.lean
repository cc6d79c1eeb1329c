theorem dX12_hearing_15 : decode cX12_hearing 15 = .ok (.iconst 1, 1) := by decide +kernel
theorem dX12_hearing_16 : decode cX12_hearing 16 = .ok (.iand, 1) := by decide +kernel
theorem dX12_hearing_17 : decode cX12_hearing 17 = .ok (.ifCond .ne 6, 3) := by decide +kernel
theorem dX12_hearing_20 : decode cX12_hearing 20 = .ok (.goto 92, 3) := by decide +kernel
theorem dX12_hearing_23 : decode cX12_hearing 23 = .ok (.iconst 0, 1) := by decide +kernel
theorem dX12_hearing_24 : decode cX12_hearing 24 = .ok (.istore 4, 2) := by decide +kernel
theorem dX12_hearing_26 : decode cX12_hearing 26 = .ok (.iconst 0, 1) := by decide +kernel
theorem dX12_hearing_27 : decode cX12_hearing 27 = .ok (.istore 5, 2) := by decide +kernel
theorem dX12_hearing_29 : decode cX12_hearing 29 = .ok (.iload 5, 2) := by decide +kernel
theorem dX12_hearing_31 : decode cX12_hearing 31 = .ok (.aload_n 0, 1) := by decide +kernel
theorem dX12_hearing_32 : decode cX12_hearing 32 = .ok (.getfield 7, 3) := by decide +kernel
theorem dX12_hearing_35 : decode cX12_hearing 35 = .ok (.iconst 3, 1) := by decide +kernel
theorem dX12_hearing_36 : decode cX12_hearing 36 = .ok (.iaload, 1) := by decide +kernel
theorem dX12_hearing_37 : decode cX12_hearing 37 = .ok (.if_icmp .ge 67, 3) := by decide +kernel
theorem dX12_hearing_40 : decode cX12_hearing 40 = .ok (.iload 4, 2) := by decide +kernel
theorem dX12_hearing_42 : decode cX12_hearing 42 = .ok (.iload_n 1, 1) := by decide +kernel
theorem dX12_hearing_43 : decode cX12_hearing 43 = .ok (.iload 5, 2) := by decide +kernel
theorem dX12_hearing_45 : decode cX12_hearing 45 = .ok (.ishr, 1) := by decide +kernel
theorem dX12_hearing_46 : decode cX12_hearing 46 = .ok (.iconst 1, 1) := by decide +kernel
theorem dX12_hearing_47 : decode cX12_hearing 47 = .ok (.iand, 1) := by decide +kernel
theorem dX12_hearing_48 : decode cX12_hearing 48 = .ok (.iconst 1, 1) := by decide +kernel
theorem dX12_hearing_49 : decode cX12_hearing 49 = .ok (.if_icmp .ne 45, 3) := by decide +kernel
theorem dX12_hearing_52 : decode cX12_hearing 52 = .ok (.aload_n 0, 1) := by decide +kernel
theorem dX12_hearing_53 : decode cX12_hearing 53 = .ok (.iload 5, 2) := by decide +kernel
theorem dX12_hearing_55 : decode cX12_hearing 55 = .ok (.iconst 2, 1) := by decide +kernel
theorem dX12_hearing_56 : decode cX12_hearing 56 = .ok (.invokevirtual 72, 3) := by decide +kernel
theorem dX12_hearing_59 : decode cX12_hearing 59 = .ok (.aload_n 0, 1) := by decide +kernel
theorem dX12_hearing_60 : decode cX12_hearing 60 = .ok (.iload_n 3, 1) := by decide +kernel
theorem dX12_hearing_61 : decode cX12_hearing 61 = .ok (.iconst 2, 1) := by decide +kernel
theorem dX12_hearing_62 : decode cX12_hearing 62 = .ok (.invokevirtual 72, 3) := by decide +kernel
theorem dX12_hearing_65 : decode cX12_hearing 65 = .ok (.if_icmp .lt 25, 3) := by decide +kernel
theorem dX12_hearing_68 : decode cX12_hearing 68 = .ok (.aload_n 0, 1) := by decide +kernel
theorem dX12_hearing_69 : decode cX12_hearing 69 = .ok (.iload 5, 2) := by decide +kernel
theorem dX12_hearing_71 : decode cX12_hearing 71 = .ok (.iconst 2, 1) := by decide +kernel
theorem dX12_hearing_72 : decode cX12_hearing 72 = .ok (.invokevirtual 72, 3) := by decide +kernel
theorem dX12_hearing_75 : decode cX12_hearing 75 = .ok (.aload_n 0, 1) := by decide +kernel
theorem dX12_hearing_76 : decode cX12_hearing 76 = .ok (.iload_n 3, 1) := by decide +kernel
theorem dX12_hearing_77 : decode cX12_hearing 77 = .ok (.iconst 2, 1) := by decide +kernel
theorem dX12_hearing_78 : decode cX12_hearing 78 = .ok (.invokevirtual 72, 3) := by decide +kernel
theorem dX12_hearing_81 : decode cX12_hearing 81 = .ok (.if_icmp .ne 13, 3) := by decide +kernel
theorem dX12_hearing_84 : decode cX12_hearing 84 = .ok (.iload 5, 2) := by decide +kernel
theorem dX12_hearing_86 : decode cX12_hearing 86 = .ok (.iload_n 3, 1) := by decide +kernel
theorem dX12_hearing_87 : decode cX12_hearing 87 = .ok (.if_icmp .ge 7, 3) := by decide +kernel
theorem dX12_hearing_90 : decode cX12_hearing 90 = .ok (.iconst 1, 1) := by decide +kernel
theorem dX12_hearing_91 : decode cX12_hearing 91 = .ok (.goto 4, 3) := by decide +kernel
theorem dX12_hearing_94 : decode cX12_hearing 94 = .ok (.iconst 0, 1) := by decide +kernel
theorem dX12_hearing_95 : decode cX12_hearing 95 = .ok (.iadd, 1) := by decide +kernel
theorem dX12_hearing_96 : decode cX12_hearing 96 = .ok (.istore 4, 2) := by decide +kernel
theorem dX12_hearing_98 : decode cX12_hearing 98 = .ok (.iinc 5 1, 3) := by decide +kernel
theorem dX12_hearing_101 : decode cX12_hearing 101 = .ok (.goto (-72), 3) := by decide +kernel
theorem dX12_hearing_104 : decode cX12_hearing 104 = .ok (.iload 4, 2) := by decide +kernel
theorem dX12_hearing_106 : decode cX12_hearing 106 = .ok (.iload_n 2, 1) := by decide +kernel
theorem dX12_hearing_107 : decode cX12_hearing 107 = .ok (.if_icmp .ne 5, 3) := by decide +kernel
theorem dX12_hearing_110 : decode cX12_hearing 110 = .ok (.iload_n 3, 1) := by decide +kernel
theorem dX12_hearing_111 : decode cX12_hearing 111 = .ok (.ireturn, 1) := by decide +kernel
theorem dX12_hearing_112 : decode cX12_hearing 112 = .ok (.iinc 3 1, 3) := by decide +kernel
theorem dX12_hearing_115 : decode cX12_hearing 115 = .ok (.goto (-113), 3) := by decide +kernel
theorem dX12_hearing_118 : decode cX12_hearing 118 = .ok (.iconst (-1), 1) := by decide +kernel
theorem dX12_hearing_119 : decode cX12_hearing 119 = .ok (.ireturn, 1) := by decide +kernel
theorem dX12_feesOf_0 : decode cX12_feesOf 0 = .ok (.iconst 0, 1) := by decide +kernel
theorem dX12_feesOf_1 : decode cX12_feesOf 1 = .ok (.istore_n 2, 1) := by decide +kernel
theorem dX12_feesOf_2 : decode cX12_feesOf 2 = .ok (.iconst 0, 1) := by decide +kernel
theorem dX12_feesOf_3 : decode cX12_feesOf 3 = .ok (.istore_n 3, 1) := by decide +kernel
theorem dX12_feesOf_4 : decode cX12_feesOf 4 = .ok (.iload_n 3, 1) := by decide +kernel
theorem dX12_feesOf_5 : decode cX12_feesOf 5 = .ok (.aload_n 0, 1) := by decide +kernel
theorem dX12_feesOf_6 : decode cX12_feesOf 6 = .ok (.getfield 7, 3) := by decide +kernel
theorem dX12_feesOf_9 : decode cX12_feesOf 9 = .ok (.iconst 3, 1) := by decide +kernel
theorem dX12_feesOf_10 : decode cX12_feesOf 10 = .ok (.iaload, 1) := by decide +kernel
theorem dX12_feesOf_11 : decode cX12_feesOf 11 = .ok (.if_icmp .ge 24, 3) := by decide +kernel
theorem dX12_feesOf_14 : decode cX12_feesOf 14 = .ok (.iload_n 2, 1) := by decide +kernel
theorem dX12_feesOf_15 : decode cX12_feesOf 15 = .ok (.iload_n 1, 1) := by decide +kernel
theorem dX12_feesOf_16 : decode cX12_feesOf 16 = .ok (.iload_n 3, 1) := by decide +kernel
theorem dX12_feesOf_17 : decode cX12_feesOf 17 = .ok (.ishr, 1) := by decide +kernel
theorem dX12_feesOf_18 : decode cX12_feesOf 18 = .ok (.iconst 1, 1) := by decide +kernel
theorem dX12_feesOf_19 : decode cX12_feesOf 19 = .ok (.iand, 1) := by decide +kernel
theorem dX12_feesOf_20 : decode cX12_feesOf 20 = .ok (.aload_n 0, 1) := by decide +kernel
theorem dX12_feesOf_21 : decode cX12_feesOf 21 = .ok (.iload_n 3, 1) := by decide +kernel
theorem dX12_feesOf_22 : decode cX12_feesOf 22 = .ok (.iconst 3, 1) := by decide +kernel
theorem dX12_feesOf_23 : decode cX12_feesOf 23 = .ok (.invokevirtual 72, 3) := by decide +kernel
theorem dX12_feesOf_26 : decode cX12_feesOf 26 = .ok (.imul, 1) := by decide +kernel
theorem dX12_feesOf_27 : decode cX12_feesOf 27 = .ok (.iadd, 1) := by decide +kernel
theorem dX12_feesOf_28 : decode cX12_feesOf 28 = .ok (.istore_n 2, 1) := by decide +kernel
theorem dX12_feesOf_29 : decode cX12_feesOf 29 = .ok (.iinc 3 1, 3) := by decide +kernel
theorem dX12_feesOf_32 : decode cX12_feesOf 32 = .ok (.goto (-28), 3) := by decide +kernel
theorem dX12_feesOf_35 : decode cX12_feesOf 35 = .ok (.iload_n 2, 1) := by decide +kernel
theorem dX12_feesOf_36 : decode cX12_feesOf 36 = .ok (.ireturn, 1) := by decide +kernel
theorem dX12_isTrue_0 : decode cX12_isTrue 0 = .ok (.iload_n 2, 1) := by decide +kernel
theorem dX12_isTrue_1 : decode cX12_isTrue 1 = .ok (.aload_n 0, 1) := by decide +kernel
theorem dX12_isTrue_2 : decode cX12_isTrue 2 = .ok (.iload_n 1, 1) := by decide +kernel
theorem dX12_isTrue_3 : decode cX12_isTrue 3 = .ok (.iconst 0, 1) := by decide +kernel
theorem dX12_isTrue_4 : decode cX12_isTrue 4 = .ok (.invokevirtual 97, 3) := by decide +kernel
theorem dX12_isTrue_7 : decode cX12_isTrue 7 = .ok (.ishr, 1) := by decide +kernel
theorem dX12_isTrue_8 : decode cX12_isTrue 8 = .ok (.iconst 1, 1) := by decide +kernel
theorem dX12_isTrue_9 : decode cX12_isTrue 9 = .ok (.iand, 1) := by decide +kernel
theorem dX12_isTrue_10 : decode cX12_isTrue 10 = .ok (.iload_n 2, 1) := by decide +kernel
theorem dX12_isTrue_11 : decode cX12_isTrue 11 = .ok (.aload_n 0, 1) := by decide +kernel
theorem dX12_isTrue_12 : decode cX12_isTrue 12 = .ok (.iload_n 1, 1) := by decide +kernel
theorem dX12_isTrue_13 : decode cX12_isTrue 13 = .ok (.iconst 1, 1) := by decide +kernel
theorem dX12_isTrue_14 : decode cX12_isTrue 14 = .ok (.invokevirtual 97, 3) := by decide +kernel
theorem dX12_isTrue_17 : decode cX12_isTrue 17 = .ok (.ishr, 1) := by decide +kernel
theorem dX12_isTrue_18 : decode cX12_isTrue 18 = .ok (.iconst 1, 1) := by decide +kernel
theorem dX12_isTrue_19 : decode cX12_isTrue 19 = .ok (.iand, 1) := by decide +kernel
theorem dX12_isTrue_20 : decode cX12_isTrue 20 = .ok (.if_icmp .ne 7, 3) := by decide +kernel
theorem dX12_isTrue_23 : decode cX12_isTrue 23 = .ok (.iconst 1, 1) := by decide +kernel
theorem dX12_isTrue_24 : decode cX12_isTrue 24 = .ok (.goto 4, 3) := by decide +kernel
theorem dX12_isTrue_27 : decode cX12_isTrue 27 = .ok (.iconst 0, 1) := by decide +kernel
theorem dX12_isTrue_28 : decode cX12_isTrue 28 = .ok (.istore_n 3, 1) := by decide +kernel
theorem dX12_isTrue_29 : decode cX12_isTrue 29 = .ok (.iload_n 3, 1) := by decide +kernel
theorem dX12_isTrue_30 : decode cX12_isTrue 30 = .ok (.aload_n 0, 1) := by decide +kernel
theorem dX12_isTrue_31 : decode cX12_isTrue 31 = .ok (.iload_n 1, 1) := by decide +kernel
theorem dX12_isTrue_32 : decode cX12_isTrue 32 = .ok (.iconst 2, 1) := by decide +kernel
theorem dX12_isTrue_33 : decode cX12_isTrue 33 = .ok (.invokevirtual 97, 3) := by decide +kernel
theorem dX12_isTrue_36 : decode cX12_isTrue 36 = .ok (.iconst 1, 1) := by decide +kernel
theorem dX12_isTrue_37 : decode cX12_isTrue 37 = .ok (.if_icmp .ne 7, 3) := by decide +kernel
theorem dX12_isTrue_40 : decode cX12_isTrue 40 = .ok (.iconst 1, 1) := by decide +kernel
theorem dX12_isTrue_41 : decode cX12_isTrue 41 = .ok (.goto 4, 3) := by decide +kernel
theorem dX12_isTrue_44 : decode cX12_isTrue 44 = .ok (.iconst 0, 1) := by decide +kernel
theorem dX12_isTrue_45 : decode cX12_isTrue 45 = .ok (.if_icmp .ne 7, 3) := by decide +kernel
theorem dX12_isTrue_48 : decode cX12_isTrue 48 = .ok (.iconst 1, 1) := by decide +kernel
theorem dX12_isTrue_49 : decode cX12_isTrue 49 = .ok (.goto 4, 3) := by decide +kernel
theorem dX12_isTrue_52 : decode cX12_isTrue 52 = .ok (.iconst 0, 1) := by decide +kernel
theorem dX12_isTrue_53 : decode cX12_isTrue 53 = .ok (.ireturn, 1) := by decide +kernel
theorem dX12_areTrue_0 : decode cX12_areTrue 0 = .ok (.iconst 0, 1) := by decide +kernel
theorem dX12_areTrue_1 : decode cX12_areTrue 1 = .ok (.istore_n 3, 1) := by decide +kernel
theorem dX12_areTrue_2 : decode cX12_areTrue 2 = .ok (.iload_n 3, 1) := by decide +kernel
theorem dX12_areTrue_3 : decode cX12_areTrue 3 = .ok (.aload_n 0, 1) := by decide +kernel
theorem dX12_areTrue_4 : decode cX12_areTrue 4 = .ok (.getfield 7, 3) := by decide +kernel
theorem dX12_areTrue_7 : decode cX12_areTrue 7 = .ok (.iconst 4, 1) := by decide +kernel
theorem dX12_areTrue_8 : decode cX12_areTrue 8 = .ok (.iaload, 1) := by decide +kernel
theorem dX12_areTrue_9 : decode cX12_areTrue 9 = .ok (.if_icmp .ge 34, 3) := by decide +kernel
theorem dX12_areTrue_12 : decode cX12_areTrue 12 = .ok (.iload_n 1, 1) := by decide +kernel
theorem dX12_areTrue_13 : decode cX12_areTrue 13 = .ok (.aload_n 0, 1) := by decide +kernel
theorem dX12_areTrue_14 : decode cX12_areTrue 14 = .ok (.iload_n 3, 1) := by decide +kernel
theorem dX12_areTrue_15 : decode cX12_areTrue 15 = .ok (.iconst 0, 1) := by decide +kernel
theorem dX12_areTrue_16 : decode cX12_areTrue 16 = .ok (.invokevirtual 97, 3) := by decide +kernel
theorem dX12_areTrue_19 : decode cX12_areTrue 19 = .ok (.ishr, 1) := by decide +kernel
theorem dX12_areTrue_20 : decode cX12_areTrue 20 = .ok (.iconst 1, 1) := by decide +kernel
theorem dX12_areTrue_21 : decode cX12_areTrue 21 = .ok (.iand, 1) := by decide +kernel
theorem dX12_areTrue_22 : decode cX12_areTrue 22 = .ok (.iconst 1, 1) := by decide +kernel
theorem dX12_areTrue_23 : decode cX12_areTrue 23 = .ok (.if_icmp .ne 14, 3) := by decide +kernel
theorem dX12_areTrue_26 : decode cX12_areTrue 26 = .ok (.aload_n 0, 1) := by decide +kernel
theorem dX12_areTrue_27 : decode cX12_areTrue 27 = .ok (.iload_n 3, 1) := by decide +kernel
theorem dX12_areTrue_28 : decode cX12_areTrue 28 = .ok (.iload_n 2, 1) := by decide +kernel
theorem dX12_areTrue_29 : decode cX12_areTrue 29 = .ok (.invokevirtual 100, 3) := by decide +kernel
theorem dX12_areTrue_32 : decode cX12_areTrue 32 = .ok (.ifCond .ne 5, 3) := by decide +kernel
theorem dX12_areTrue_35 : decode cX12_areTrue 35 = .ok (.iconst 0, 1) := by decide +kernel
theorem dX12_areTrue_36 : decode cX12_areTrue 36 = .ok (.ireturn, 1) := by decide +kernel
theorem dX12_areTrue_37 : decode cX12_areTrue 37 = .ok (.iinc 3 1, 3) := by decide +kernel
theorem dX12_areTrue_40 : decode cX12_areTrue 40 = .ok (.goto (-38), 3) := by decide +kernel
theorem dX12_areTrue_43 : decode cX12_areTrue 43 = .ok (.iconst 1, 1) := by decide +kernel
theorem dX12_areTrue_44 : decode cX12_areTrue 44 = .ok (.ireturn, 1) := by decide +kernel
theorem dX12_isAdmitted_0 : decode cX12_isAdmitted 0 = .ok (.iconst 0, 1) := by decide +kernel
theorem dX12_isAdmitted_1 : decode cX12_isAdmitted 1 = .ok (.istore_n 3, 1) := by decide +kernel
theorem dX12_isAdmitted_2 : decode cX12_isAdmitted 2 = .ok (.iload_n 3, 1) := by decide +kernel
theorem dX12_isAdmitted_3 : decode cX12_isAdmitted 3 = .ok (.aload_n 0, 1) := by decide +kernel
theorem dX12_isAdmitted_4 : decode cX12_isAdmitted 4 = .ok (.getfield 7, 3) := by decide +kernel
theorem dX12_isAdmitted_7 : decode cX12_isAdmitted 7 = .ok (.iconst 0, 1) := by decide +kernel
theorem dX12_isAdmitted_8 : decode cX12_isAdmitted 8 = .ok (.iaload, 1) := by decide +kernel
theorem dX12_isAdmitted_9 : decode cX12_isAdmitted 9 = .ok (.if_icmp .ge 61, 3) := by decide +kernel
theorem dX12_isAdmitted_12 : decode cX12_isAdmitted 12 = .ok (.iload_n 1, 1) := by decide +kernel
theorem dX12_isAdmitted_13 : decode cX12_isAdmitted 13 = .ok (.iload_n 3, 1) := by decide +kernel
theorem dX12_isAdmitted_14 : decode cX12_isAdmitted 14 = .ok (.ishr, 1) := by decide +kernel
theorem dX12_isAdmitted_15 : decode cX12_isAdmitted 15 = .ok (.iconst 1, 1) := by decide +kernel
theorem dX12_isAdmitted_16 : decode cX12_isAdmitted 16 = .ok (.iand, 1) := by decide +kernel
theorem dX12_isAdmitted_17 : decode cX12_isAdmitted 17 = .ok (.iconst 1, 1) := by decide +kernel
theorem dX12_isAdmitted_18 : decode cX12_isAdmitted 18 = .ok (.if_icmp .ne 46, 3) := by decide +kernel
theorem dX12_isAdmitted_21 : decode cX12_isAdmitted 21 = .ok (.aload_n 0, 1) := by decide +kernel
theorem dX12_isAdmitted_22 : decode cX12_isAdmitted 22 = .ok (.iload_n 3, 1) := by decide +kernel
theorem dX12_isAdmitted_23 : decode cX12_isAdmitted 23 = .ok (.iconst 1, 1) := by decide +kernel
theorem dX12_isAdmitted_24 : decode cX12_isAdmitted 24 = .ok (.invokevirtual 87, 3) := by decide +kernel
theorem dX12_isAdmitted_27 : decode cX12_isAdmitted 27 = .ok (.ifCond .le 37, 3) := by decide +kernel
theorem dX12_isAdmitted_30 : decode cX12_isAdmitted 30 = .ok (.aload_n 0, 1) := by decide +kernel
theorem dX12_isAdmitted_31 : decode cX12_isAdmitted 31 = .ok (.iload_n 3, 1) := by decide +kernel
theorem dX12_isAdmitted_32 : decode cX12_isAdmitted 32 = .ok (.iconst 1, 1) := by decide +kernel
theorem dX12_isAdmitted_33 : decode cX12_isAdmitted 33 = .ok (.invokevirtual 87, 3) := by decide +kernel
theorem dX12_isAdmitted_36 : decode cX12_isAdmitted 36 = .ok (.iconst 1, 1) := by decide +kernel
theorem dX12_isAdmitted_37 : decode cX12_isAdmitted 37 = .ok (.if_icmp .ne 7, 3) := by decide +kernel
theorem dX12_isAdmitted_40 : decode cX12_isAdmitted 40 = .ok (.iconst 1, 1) := by decide +kernel
theorem dX12_isAdmitted_41 : decode cX12_isAdmitted 41 = .ok (.goto 4, 3) := by decide +kernel
theorem dX12_isAdmitted_44 : decode cX12_isAdmitted 44 = .ok (.iconst 0, 1) := by decide +kernel
theorem dX12_isAdmitted_45 : decode cX12_isAdmitted 45 = .ok (.iload_n 2, 1) := by decide +kernel
theorem dX12_isAdmitted_46 : decode cX12_isAdmitted 46 = .ok (.iload_n 3, 1) := by decide +kernel
theorem dX12_isAdmitted_47 : decode cX12_isAdmitted 47 = .ok (.ishr, 1) := by decide +kernel
theorem dX12_isAdmitted_48 : decode cX12_isAdmitted 48 = .ok (.iconst 1, 1) := by decide +kernel
theorem dX12_isAdmitted_49 : decode cX12_isAdmitted 49 = .ok (.iand, 1) := by decide +kernel
theorem dX12_isAdmitted_50 : decode cX12_isAdmitted 50 = .ok (.iconst 1, 1) := by decide +kernel
theorem dX12_isAdmitted_51 : decode cX12_isAdmitted 51 = .ok (.if_icmp .ne 7, 3) := by decide +kernel
theorem dX12_isAdmitted_54 : decode cX12_isAdmitted 54 = .ok (.iconst 1, 1) := by decide +kernel
theorem dX12_isAdmitted_55 : decode cX12_isAdmitted 55 = .ok (.goto 4, 3) := by decide +kernel
theorem dX12_isAdmitted_58 : decode cX12_isAdmitted 58 = .ok (.iconst 0, 1) := by decide +kernel
theorem dX12_isAdmitted_59 : decode cX12_isAdmitted 59 = .ok (.if_icmp .eq 5, 3) := by decide +kernel
theorem dX12_isAdmitted_62 : decode cX12_isAdmitted 62 = .ok (.iconst 0, 1) := by decide +kernel
theorem dX12_isAdmitted_63 : decode cX12_isAdmitted 63 = .ok (.ireturn, 1) := by decide +kernel
theorem dX12_isAdmitted_64 : decode cX12_isAdmitted 64 = .ok (.iinc 3 1, 3) := by decide +kernel
theorem dX12_isAdmitted_67 : decode cX12_isAdmitted 67 = .ok (.goto (-65), 3) := by decide +kernel
theorem dX12_isAdmitted_70 : decode cX12_isAdmitted 70 = .ok (.iconst 1, 1) := by decide +kernel
theorem dX12_isAdmitted_71 : decode cX12_isAdmitted 71 = .ok (.ireturn, 1) := by decide +kernel
theorem dX12_group_0 : decode cX12_group 0 = .ok (.iconst 1, 1) := by decide +kernel
theorem dX12_group_1 : decode cX12_group 1 = .ok (.iload_n 1, 1) := by decide +kernel
theorem dX12_group_2 : decode cX12_group 2 = .ok (.ishl, 1) := by decide +kernel
theorem dX12_group_3 : decode cX12_group 3 = .ok (.istore_n 2, 1) := by decide +kernel
theorem dX12_group_4 : decode cX12_group 4 = .ok (.iconst 0, 1) := by decide +kernel
theorem dX12_group_5 : decode cX12_group 5 = .ok (.istore_n 3, 1) := by decide +kernel
theorem dX12_group_6 : decode cX12_group 6 = .ok (.iload_n 2, 1) := by decide +kernel
theorem dX12_group_7 : decode cX12_group 7 = .ok (.iload_n 3, 1) := by decide +kernel
theorem dX12_group_8 : decode cX12_group 8 = .ok (.if_icmp .eq 61, 3) := by decide +kernel
theorem dX12_group_11 : decode cX12_group 11 = .ok (.iload_n 2, 1) := by decide +kernel
theorem dX12_group_12 : decode cX12_group 12 = .ok (.istore_n 3, 1) := by decide +kernel
theorem dX12_group_13 : decode cX12_group 13 = .ok (.iconst 0, 1) := by decide +kernel
theorem dX12_group_14 : decode cX12_group 14 = .ok (.istore 4, 2) := by decide +kernel
theorem dX12_group_16 : decode cX12_group 16 = .ok (.iload 4, 2) := by decide +kernel
theorem dX12_group_18 : decode cX12_group 18 = .ok (.aload_n 0, 1) := by decide +kernel
theorem dX12_group_19 : decode cX12_group 19 = .ok (.getfield 7, 3) := by decide +kernel
theorem dX12_group_22 : decode cX12_group 22 = .ok (.iconst 4, 1) := by decide +kernel
theorem dX12_group_23 : decode cX12_group 23 = .ok (.iaload, 1) := by decide +kernel
theorem dX12_group_24 : decode cX12_group 24 = .ok (.if_icmp .ge 42, 3) := by decide +kernel
theorem dX12_group_27 : decode cX12_group 27 = .ok (.iconst 1, 1) := by decide +kernel
theorem dX12_group_28 : decode cX12_group 28 = .ok (.aload_n 0, 1) := by decide +kernel
theorem dX12_group_29 : decode cX12_group 29 = .ok (.iload 4, 2) := by decide +kernel
theorem dX12_group_31 : decode cX12_group 31 = .ok (.iconst 0, 1) := by decide +kernel
theorem dX12_group_32 : decode cX12_group 32 = .ok (.invokevirtual 97, 3) := by decide +kernel
theorem dX12_group_35 : decode cX12_group 35 = .ok (.ishl, 1) := by decide +kernel
theorem dX12_group_36 : decode cX12_group 36 = .ok (.iconst 1, 1) := by decide +kernel
theorem dX12_group_37 : decode cX12_group 37 = .ok (.aload_n 0, 1) := by decide +kernel
theorem dX12_group_38 : decode cX12_group 38 = .ok (.iload 4, 2) := by decide +kernel
theorem dX12_group_40 : decode cX12_group 40 = .ok (.iconst 1, 1) := by decide +kernel
theorem dX12_group_41 : decode cX12_group 41 = .ok (.invokevirtual 97, 3) := by decide +kernel
theorem dX12_group_44 : decode cX12_group 44 = .ok (.ishl, 1) := by decide +kernel
theorem dX12_group_45 : decode cX12_group 45 = .ok (.ior, 1) := by decide +kernel
theorem dX12_group_46 : decode cX12_group 46 = .ok (.istore 5, 2) := by decide +kernel
theorem dX12_group_48 : decode cX12_group 48 = .ok (.iload_n 3, 1) := by decide +kernel
theorem dX12_group_49 : decode cX12_group 49 = .ok (.iload 5, 2) := by decide +kernel
theorem dX12_group_51 : decode cX12_group 51 = .ok (.iand, 1) := by decide +kernel
theorem dX12_group_52 : decode cX12_group 52 = .ok (.ifCond .eq 8, 3) := by decide +kernel
theorem dX12_group_55 : decode cX12_group 55 = .ok (.iload_n 2, 1) := by decide +kernel
theorem dX12_group_56 : decode cX12_group 56 = .ok (.iload 5, 2) := by decide +kernel
theorem dX12_group_58 : decode cX12_group 58 = .ok (.ior, 1) := by decide +kernel
theorem dX12_group_59 : decode cX12_group 59 = .ok (.istore_n 2, 1) := by decide +kernel
theorem dX12_group_60 : decode cX12_group 60 = .ok (.iinc 4 1, 3) := by decide +kernel
theorem dX12_group_63 : decode cX12_group 63 = .ok (.goto (-47), 3) := by decide +kernel
theorem dX12_group_66 : decode cX12_group 66 = .ok (.goto (-60), 3) := by decide +kernel
theorem dX12_group_69 : decode cX12_group 69 = .ok (.iload_n 2, 1) := by decide +kernel
theorem dX12_group_70 : decode cX12_group 70 = .ok (.ireturn, 1) := by decide +kernel
theorem dX12_judges_0 : decode cX12_judges 0 = .ok (.aload_n 0, 1) := by decide +kernel
theorem dX12_judges_1 : decode cX12_judges 1 = .ok (.iload_n 1, 1) := by decide +kernel
theorem dX12_judges_2 : decode cX12_judges 2 = .ok (.invokevirtual 103, 3) := by decide +kernel
theorem dX12_judges_5 : decode cX12_judges 5 = .ok (.istore_n 2, 1) := by decide +kernel
theorem dX12_judges_6 : decode cX12_judges 6 = .ok (.iconst 0, 1) := by decide +kernel
theorem dX12_judges_7 : decode cX12_judges 7 = .ok (.istore_n 3, 1) := by decide +kernel
theorem dX12_judges_8 : decode cX12_judges 8 = .ok (.iconst 0, 1) := by decide +kernel
theorem dX12_judges_9 : decode cX12_judges 9 = .ok (.istore 4, 2) := by decide +kernel
theorem dX12_judges_11 : decode cX12_judges 11 = .ok (.iconst 0, 1) := by decide +kernel
theorem dX12_judges_12 : decode cX12_judges 12 = .ok (.istore 5, 2) := by decide +kernel
theorem dX12_judges_14 : decode cX12_judges 14 = .ok (.iload 5, 2) := by decide +kernel
theorem dX12_judges_16 : decode cX12_judges 16 = .ok (.iconst 1, 1) := by decide +kernel
theorem dX12_judges_17 : decode cX12_judges 17 = .ok (.aload_n 0, 1) := by decide +kernel
theorem dX12_judges_18 : decode cX12_judges 18 = .ok (.getfield 7, 3) := by decide +kernel
theorem dX12_judges_21 : decode cX12_judges 21 = .ok (.iconst 0, 1) := by decide +kernel
theorem dX12_judges_22 : decode cX12_judges 22 = .ok (.iaload, 1) := by decide +kernel
theorem dX12_judges_23 : decode cX12_judges 23 = .ok (.ishl, 1) := by decide +kernel
theorem dX12_judges_24 : decode cX12_judges 24 = .ok (.if_icmp .ge 60, 3) := by decide +kernel
theorem dX12_judges_27 : decode cX12_judges 27 = .ok (.iload 5, 2) := by decide +kernel
theorem dX12_judges_29 : decode cX12_judges 29 = .ok (.iload_n 2, 1) := by decide +kernel
theorem dX12_judges_30 : decode cX12_judges 30 = .ok (.iconst (-1), 1) := by decide +kernel
theorem dX12_judges_31 : decode cX12_judges 31 = .ok (.ixor, 1) := by decide +kernel
theorem dX12_judges_32 : decode cX12_judges 32 = .ok (.iand, 1) := by decide +kernel
theorem dX12_judges_33 : decode cX12_judges 33 = .ok (.ifCond .ne 45, 3) := by decide +kernel
theorem dX12_judges_36 : decode cX12_judges 36 = .ok (.aload_n 0, 1) := by decide +kernel
theorem dX12_judges_37 : decode cX12_judges 37 = .ok (.iload_n 2, 1) := by decide +kernel
theorem dX12_judges_38 : decode cX12_judges 38 = .ok (.iload 5, 2) := by decide +kernel
theorem dX12_judges_40 : decode cX12_judges 40 = .ok (.invokevirtual 106, 3) := by decide +kernel
theorem dX12_judges_43 : decode cX12_judges 43 = .ok (.ifCond .eq 35, 3) := by decide +kernel
theorem dX12_judges_46 : decode cX12_judges 46 = .ok (.aload_n 0, 1) := by decide +kernel
theorem dX12_judges_47 : decode cX12_judges 47 = .ok (.iload_n 2, 1) := by decide +kernel
theorem dX12_judges_48 : decode cX12_judges 48 = .ok (.iload 5, 2) := by decide +kernel
theorem dX12_judges_50 : decode cX12_judges 50 = .ok (.invokevirtual 109, 3) := by decide +kernel
theorem dX12_judges_53 : decode cX12_judges 53 = .ok (.ifCond .ne 6, 3) := by decide +kernel
theorem dX12_judges_56 : decode cX12_judges 56 = .ok (.goto 22, 3) := by decide +kernel
theorem dX12_judges_59 : decode cX12_judges 59 = .ok (.iload 5, 2) := by decide +kernel
theorem dX12_judges_61 : decode cX12_judges 61 = .ok (.iload_n 1, 1) := by decide +kernel
theorem dX12_judges_62 : decode cX12_judges 62 = .ok (.ishr, 1) := by decide +kernel
theorem dX12_judges_63 : decode cX12_judges 63 = .ok (.iconst 1, 1) := by decide +kernel
theorem dX12_judges_64 : decode cX12_judges 64 = .ok (.iand, 1) := by decide +kernel
theorem dX12_judges_65 : decode cX12_judges 65 = .ok (.iconst 1, 1) := by decide +kernel
theorem dX12_judges_66 : decode cX12_judges 66 = .ok (.if_icmp .ne 9, 3) := by decide +kernel
theorem dX12_judges_69 : decode cX12_judges 69 = .ok (.iinc 3 1, 3) := by decide +kernel
theorem dX12_judges_72 : decode cX12_judges 72 = .ok (.goto 6, 3) := by decide +kernel
theorem dX12_judges_75 : decode cX12_judges 75 = .ok (.iinc 4 1, 3) := by decide +kernel
theorem dX12_judges_78 : decode cX12_judges 78 = .ok (.iinc 5 1, 3) := by decide +kernel
theorem dX12_judges_81 : decode cX12_judges 81 = .ok (.goto (-67), 3) := by decide +kernel
theorem dX12_judges_84 : decode cX12_judges 84 = .ok (.iload_n 3, 1) := by decide +kernel
theorem dX12_judges_85 : decode cX12_judges 85 = .ok (.iload 4, 2) := by decide +kernel
theorem dX12_judges_87 : decode cX12_judges 87 = .ok (.iadd, 1) := by decide +kernel
theorem dX12_judges_88 : decode cX12_judges 88 = .ok (.ifCond .ne 5, 3) := by decide +kernel
theorem dX12_judges_91 : decode cX12_judges 91 = .ok (.iconst 3, 1) := by decide +kernel
theorem dX12_judges_92 : decode cX12_judges 92 = .ok (.ireturn, 1) := by decide +kernel
theorem dX12_judges_93 : decode cX12_judges 93 = .ok (.iload 4, 2) := by decide +kernel
theorem dX12_judges_95 : decode cX12_judges 95 = .ok (.ifCond .ne 7, 3) := by decide +kernel
theorem dX12_judges_98 : decode cX12_judges 98 = .ok (.iconst 0, 1) := by decide +kernel
theorem dX12_judges_99 : decode cX12_judges 99 = .ok (.goto 12, 3) := by decide +kernel
theorem dX12_judges_102 : decode cX12_judges 102 = .ok (.iload_n 3, 1) := by decide +kernel
theorem dX12_judges_103 : decode cX12_judges 103 = .ok (.ifCond .ne 7, 3) := by decide +kernel
theorem dX12_judges_106 : decode cX12_judges 106 = .ok (.iconst 1, 1) := by decide +kernel
theorem dX12_judges_107 : decode cX12_judges 107 = .ok (.goto 4, 3) := by decide +kernel
theorem dX12_judges_110 : decode cX12_judges 110 = .ok (.iconst 2, 1) := by decide +kernel
theorem dX12_judges_111 : decode cX12_judges 111 = .ok (.ireturn, 1) := by decide +kernel
theorem dX12_hears_0 : decode cX12_hears 0 = .ok (.aload_n 0, 1) := by decide +kernel
theorem dX12_hears_1 : decode cX12_hears 1 = .ok (.aload_n 0, 1) := by decide +kernel
theorem dX12_hears_2 : decode cX12_hears 2 = .ok (.iload_n 1, 1) := by decide +kernel
theorem dX12_hears_3 : decode cX12_hears 3 = .ok (.iconst 1, 1) := by decide +kernel
theorem dX12_hears_4 : decode cX12_hears 4 = .ok (.invokevirtual 72, 3) := by decide +kernel
theorem dX12_hears_7 : decode cX12_hears 7 = .ok (.invokevirtual 112, 3) := by decide +kernel
theorem dX12_hears_10 : decode cX12_hears 10 = .ok (.istore_n 2, 1) := by decide +kernel
theorem dX12_hears_11 : decode cX12_hears 11 = .ok (.aload_n 0, 1) := by decide +kernel
theorem dX12_hears_12 : decode cX12_hears 12 = .ok (.iload_n 1, 1) := by decide +kernel
theorem dX12_hears_13 : decode cX12_hears 13 = .ok (.iconst 1, 1) := by decide +kernel
theorem dX12_hears_14 : decode cX12_hears 14 = .ok (.invokevirtual 72, 3) := by decide +kernel
theorem dX12_hears_17 : decode cX12_hears 17 = .ok (.istore_n 3, 1) := by decide +kernel
theorem dX12_hears_18 : decode cX12_hears 18 = .ok (.aload_n 0, 1) := by decide +kernel
theorem dX12_hears_19 : decode cX12_hears 19 = .ok (.getfield 7, 3) := by decide +kernel
theorem dX12_hears_22 : decode cX12_hears 22 = .ok (.bipush 7, 2) := by decide +kernel
theorem dX12_hears_24 : decode cX12_hears 24 = .ok (.iload_n 2, 1) := by decide +kernel
theorem dX12_hears_25 : decode cX12_hears 25 = .ok (.iadd, 1) := by decide +kernel
theorem dX12_hears_26 : decode cX12_hears 26 = .ok (.dup2, 1) := by decide +kernel
theorem dX12_hears_27 : decode cX12_hears 27 = .ok (.iaload, 1) := by decide +kernel
theorem dX12_hears_28 : decode cX12_hears 28 = .ok (.iconst 1, 1) := by decide +kernel
theorem dX12_hears_29 : decode cX12_hears 29 = .ok (.iadd, 1) := by decide +kernel
theorem dX12_hears_30 : decode cX12_hears 30 = .ok (.iastore, 1) := by decide +kernel
theorem dX12_hears_31 : decode cX12_hears 31 = .ok (.iload_n 2, 1) := by decide +kernel
theorem dX12_hears_32 : decode cX12_hears 32 = .ok (.ifCond .ne 47, 3) := by decide +kernel
theorem dX12_hears_35 : decode cX12_hears 35 = .ok (.aload_n 0, 1) := by decide +kernel
theorem dX12_hears_36 : decode cX12_hears 36 = .ok (.iload_n 3, 1) := by decide +kernel
theorem dX12_hears_37 : decode cX12_hears 37 = .ok (.iconst 2, 1) := by decide +kernel
theorem dX12_hears_38 : decode cX12_hears 38 = .ok (.invokevirtual 87, 3) := by decide +kernel
theorem dX12_hears_41 : decode cX12_hears 41 = .ok (.bipush 8, 2) := by decide +kernel
theorem dX12_hears_43 : decode cX12_hears 43 = .ok (.if_icmp .ge 36, 3) := by decide +kernel
theorem dX12_hears_46 : decode cX12_hears 46 = .ok (.aload_n 0, 1) := by decide +kernel
theorem dX12_hears_47 : decode cX12_hears 47 = .ok (.iload_n 3, 1) := by decide +kernel
theorem dX12_hears_48 : decode cX12_hears 48 = .ok (.iconst 3, 1) := by decide +kernel
theorem dX12_hears_49 : decode cX12_hears 49 = .ok (.aload_n 0, 1) := by decide +kernel
theorem dX12_hears_50 : decode cX12_hears 50 = .ok (.iload_n 3, 1) := by decide +kernel
theorem dX12_hears_51 : decode cX12_hears 51 = .ok (.iconst 2, 1) := by decide +kernel
theorem dX12_hears_52 : decode cX12_hears 52 = .ok (.invokevirtual 87, 3) := by decide +kernel
theorem dX12_hears_55 : decode cX12_hears 55 = .ok (.iadd, 1) := by decide +kernel
theorem dX12_hears_56 : decode cX12_hears 56 = .ok (.aload_n 0, 1) := by decide +kernel
theorem dX12_hears_57 : decode cX12_hears 57 = .ok (.iload_n 1, 1) := by decide +kernel
theorem dX12_hears_58 : decode cX12_hears 58 = .ok (.iconst 4, 1) := by decide +kernel
theorem dX12_hears_59 : decode cX12_hears 59 = .ok (.invokevirtual 72, 3) := by decide +kernel
theorem dX12_hears_62 : decode cX12_hears 62 = .ok (.invokevirtual 68, 3) := by decide +kernel
theorem dX12_hears_65 : decode cX12_hears 65 = .ok (.aload_n 0, 1) := by decide +kernel
theorem dX12_hears_66 : decode cX12_hears 66 = .ok (.iload_n 3, 1) := by decide +kernel
theorem dX12_hears_67 : decode cX12_hears 67 = .ok (.iconst 2, 1) := by decide +kernel
theorem dX12_hears_68 : decode cX12_hears 68 = .ok (.aload_n 0, 1) := by decide +kernel
theorem dX12_hears_69 : decode cX12_hears 69 = .ok (.iload_n 3, 1) := by decide +kernel
theorem dX12_hears_70 : decode cX12_hears 70 = .ok (.iconst 2, 1) := by decide +kernel
theorem dX12_hears_71 : decode cX12_hears 71 = .ok (.invokevirtual 87, 3) := by decide +kernel
theorem dX12_hears_74 : decode cX12_hears 74 = .ok (.iconst 1, 1) := by decide +kernel
theorem dX12_hears_75 : decode cX12_hears 75 = .ok (.iadd, 1) := by decide +kernel
theorem dX12_hears_76 : decode cX12_hears 76 = .ok (.invokevirtual 68, 3) := by decide +kernel
theorem dX12_hears_79 : decode cX12_hears 79 = .ok (.iload_n 2, 1) := by decide +kernel
theorem dX12_hears_80 : decode cX12_hears 80 = .ok (.iconst 3, 1) := by decide +kernel
theorem dX12_hears_81 : decode cX12_hears 81 = .ok (.if_icmp .ne 20, 3) := by decide +kernel
theorem dX12_hears_84 : decode cX12_hears 84 = .ok (.aload_n 0, 1) := by decide +kernel
theorem dX12_hears_85 : decode cX12_hears 85 = .ok (.getfield 7, 3) := by decide +kernel
theorem dX12_hears_88 : decode cX12_hears 88 = .ok (.iconst 5, 1) := by decide +kernel
theorem dX12_hears_89 : decode cX12_hears 89 = .ok (.dup2, 1) := by decide +kernel
theorem dX12_hears_90 : decode cX12_hears 90 = .ok (.iaload, 1) := by decide +kernel
theorem dX12_hears_91 : decode cX12_hears 91 = .ok (.aload_n 0, 1) := by decide +kernel
theorem dX12_hears_92 : decode cX12_hears 92 = .ok (.iload_n 1, 1) := by decide +kernel
theorem dX12_hears_93 : decode cX12_hears 93 = .ok (.iconst 3, 1) := by decide +kernel
theorem dX12_hears_94 : decode cX12_hears 94 = .ok (.invokevirtual 72, 3) := by decide +kernel
theorem dX12_hears_97 : decode cX12_hears 97 = .ok (.iconst 2, 1) := by decide +kernel
theorem dX12_hears_98 : decode cX12_hears 98 = .ok (.idiv, 1) := by decide +kernel
theorem dX12_hears_99 : decode cX12_hears 99 = .ok (.iadd, 1) := by decide +kernel
theorem dX12_hears_100 : decode cX12_hears 100 = .ok (.iastore, 1) := by decide +kernel
theorem dX12_hears_101 : decode cX12_hears 101 = .ok (.aload_n 0, 1) := by decide +kernel
theorem dX12_hears_102 : decode cX12_hears 102 = .ok (.iload_n 1, 1) := by decide +kernel
theorem dX12_hears_103 : decode cX12_hears 103 = .ok (.invokevirtual 80, 3) := by decide +kernel
theorem dX12_hears_106 : decode cX12_hears 106 = .ok (.return_, 1) := by decide +kernel
theorem dX12_ends_0 : decode cX12_ends 0 = .ok (.aload_n 0, 1) := by decide +kernel
theorem dX12_ends_1 : decode cX12_ends 1 = .ok (.iload_n 1, 1) := by decide +kernel
theorem dX12_ends_2 : decode cX12_ends 2 = .ok (.iconst 2, 1) := by decide +kernel
theorem dX12_ends_3 : decode cX12_ends 3 = .ok (.invokevirtual 87, 3) := by decide +kernel
theorem dX12_ends_6 : decode cX12_ends 6 = .ok (.iconst 1, 1) := by decide +kernel
theorem dX12_ends_7 : decode cX12_ends 7 = .ok (.isub, 1) := by decide +kernel
theorem dX12_ends_8 : decode cX12_ends 8 = .ok (.istore_n 2, 1) := by decide +kernel
theorem dX12_ends_9 : decode cX12_ends 9 = .ok (.iconst 0, 1) := by decide +kernel
theorem dX12_ends_10 : decode cX12_ends 10 = .ok (.istore_n 3, 1) := by decide +kernel
theorem dX12_ends_11 : decode cX12_ends 11 = .ok (.iload_n 3, 1) := by decide +kernel
theorem dX12_ends_12 : decode cX12_ends 12 = .ok (.iload_n 2, 1) := by decide +kernel
theorem dX12_ends_13 : decode cX12_ends 13 = .ok (.if_icmp .ge 27, 3) := by decide +kernel
theorem dX12_ends_16 : decode cX12_ends 16 = .ok (.aload_n 0, 1) := by decide +kernel
theorem dX12_ends_17 : decode cX12_ends 17 = .ok (.iload_n 1, 1) := by decide +kernel
theorem dX12_ends_18 : decode cX12_ends 18 = .ok (.iconst 3, 1) := by decide +kernel
theorem dX12_ends_19 : decode cX12_ends 19 = .ok (.iload_n 3, 1) := by decide +kernel
theorem dX12_ends_20 : decode cX12_ends 20 = .ok (.iadd, 1) := by decide +kernel
theorem dX12_ends_21 : decode cX12_ends 21 = .ok (.aload_n 0, 1) := by decide +kernel
theorem dX12_ends_22 : decode cX12_ends 22 = .ok (.iload_n 1, 1) := by decide +kernel
theorem dX12_ends_23 : decode cX12_ends 23 = .ok (.iconst 3, 1) := by decide +kernel
theorem dX12_ends_24 : decode cX12_ends 24 = .ok (.iload_n 3, 1) := by decide +kernel
theorem dX12_ends_25 : decode cX12_ends 25 = .ok (.iadd, 1) := by decide +kernel
theorem dX12_ends_26 : decode cX12_ends 26 = .ok (.iconst 1, 1) := by decide +kernel
theorem dX12_ends_27 : decode cX12_ends 27 = .ok (.iadd, 1) := by decide +kernel
theorem dX12_ends_28 : decode cX12_ends 28 = .ok (.invokevirtual 87, 3) := by decide +kernel
theorem dX12_ends_31 : decode cX12_ends 31 = .ok (.invokevirtual 68, 3) := by decide +kernel
theorem dX12_ends_34 : decode cX12_ends 34 = .ok (.iinc 3 1, 3) := by decide +kernel
theorem dX12_ends_37 : decode cX12_ends 37 = .ok (.goto (-26), 3) := by decide +kernel
theorem dX12_ends_40 : decode cX12_ends 40 = .ok (.aload_n 0, 1) := by decide +kernel
theorem dX12_ends_41 : decode cX12_ends 41 = .ok (.iload_n 1, 1) := by decide +kernel
theorem dX12_ends_42 : decode cX12_ends 42 = .ok (.iconst 3, 1) := by decide +kernel
theorem dX12_ends_43 : decode cX12_ends 43 = .ok (.iload_n 2, 1) := by decide +kernel
theorem dX12_ends_44 : decode cX12_ends 44 = .ok (.iadd, 1) := by decide +kernel
theorem dX12_ends_45 : decode cX12_ends 45 = .ok (.iconst 0, 1) := by decide +kernel
theorem dX12_ends_46 : decode cX12_ends 46 = .ok (.invokevirtual 68, 3) := by decide +kernel
theorem dX12_ends_49 : decode cX12_ends 49 = .ok (.aload_n 0, 1) := by decide +kernel
theorem dX12_ends_50 : decode cX12_ends 50 = .ok (.iload_n 1, 1) := by decide +kernel
theorem dX12_ends_51 : decode cX12_ends 51 = .ok (.iconst 2, 1) := by decide +kernel
theorem dX12_ends_52 : decode cX12_ends 52 = .ok (.iload_n 2, 1) := by decide +kernel
theorem dX12_ends_53 : decode cX12_ends 53 = .ok (.invokevirtual 68, 3) := by decide +kernel
theorem dX12_ends_56 : decode cX12_ends 56 = .ok (.return_, 1) := by decide +kernel
theorem dX12_serves_0 : decode cX12_serves 0 = .ok (.aload_n 0, 1) := by decide +kernel
theorem dX12_serves_1 : decode cX12_serves 1 = .ok (.iload_n 1, 1) := by decide +kernel
theorem dX12_serves_2 : decode cX12_serves 2 = .ok (.iconst 0, 1) := by decide +kernel
theorem dX12_serves_3 : decode cX12_serves 3 = .ok (.invokevirtual 87, 3) := by decide +kernel
theorem dX12_serves_6 : decode cX12_serves 6 = .ok (.istore_n 2, 1) := by decide +kernel
theorem dX12_serves_7 : decode cX12_serves 7 = .ok (.aload_n 0, 1) := by decide +kernel
theorem dX12_serves_8 : decode cX12_serves 8 = .ok (.iload_n 1, 1) := by decide +kernel
theorem dX12_serves_9 : decode cX12_serves 9 = .ok (.iconst 2, 1) := by decide +kernel
theorem dX12_serves_10 : decode cX12_serves 10 = .ok (.invokevirtual 87, 3) := by decide +kernel
theorem dX12_serves_13 : decode cX12_serves 13 = .ok (.ifCond .ne 24, 3) := by decide +kernel
theorem dX12_serves_16 : decode cX12_serves 16 = .ok (.aload_n 0, 1) := by decide +kernel
theorem dX12_serves_17 : decode cX12_serves 17 = .ok (.iload_n 1, 1) := by decide +kernel
theorem dX12_serves_18 : decode cX12_serves 18 = .ok (.iconst 0, 1) := by decide +kernel
theorem dX12_serves_19 : decode cX12_serves 19 = .ok (.iload_n 2, 1) := by decide +kernel
theorem dX12_serves_20 : decode cX12_serves 20 = .ok (.bipush 9, 2) := by decide +kernel
theorem dX12_serves_22 : decode cX12_serves 22 = .ok (.if_icmp .ge 9, 3) := by decide +kernel
theorem dX12_serves_25 : decode cX12_serves 25 = .ok (.iload_n 2, 1) := by decide +kernel
theorem dX12_serves_26 : decode cX12_serves 26 = .ok (.iconst 1, 1) := by decide +kernel
theorem dX12_serves_27 : decode cX12_serves 27 = .ok (.iadd, 1) := by decide +kernel
theorem dX12_serves_28 : decode cX12_serves 28 = .ok (.goto 5, 3) := by decide +kernel
theorem dX12_serves_31 : decode cX12_serves 31 = .ok (.bipush 9, 2) := by decide +kernel
theorem dX12_serves_33 : decode cX12_serves 33 = .ok (.invokevirtual 68, 3) := by decide +kernel
theorem dX12_serves_36 : decode cX12_serves 36 = .ok (.return_, 1) := by decide +kernel
theorem dX12_serves_37 : decode cX12_serves 37 = .ok (.aload_n 0, 1) := by decide +kernel
theorem dX12_serves_38 : decode cX12_serves 38 = .ok (.iload_n 1, 1) := by decide +kernel
theorem dX12_serves_39 : decode cX12_serves 39 = .ok (.iconst 0, 1) := by decide +kernel
theorem dX12_serves_40 : decode cX12_serves 40 = .ok (.iload_n 2, 1) := by decide +kernel
theorem dX12_serves_41 : decode cX12_serves 41 = .ok (.ifCond .le 9, 3) := by decide +kernel
theorem dX12_serves_44 : decode cX12_serves 44 = .ok (.iload_n 2, 1) := by decide +kernel
theorem dX12_serves_45 : decode cX12_serves 45 = .ok (.iconst 1, 1) := by decide +kernel
theorem dX12_serves_46 : decode cX12_serves 46 = .ok (.isub, 1) := by decide +kernel
theorem dX12_serves_47 : decode cX12_serves 47 = .ok (.goto 4, 3) := by decide +kernel
theorem dX12_serves_50 : decode cX12_serves 50 = .ok (.iconst 0, 1) := by decide +kernel
theorem dX12_serves_51 : decode cX12_serves 51 = .ok (.invokevirtual 68, 3) := by decide +kernel
theorem dX12_serves_54 : decode cX12_serves 54 = .ok (.aload_n 0, 1) := by decide +kernel
theorem dX12_serves_55 : decode cX12_serves 55 = .ok (.iload_n 1, 1) := by decide +kernel
theorem dX12_serves_56 : decode cX12_serves 56 = .ok (.iconst 3, 1) := by decide +kernel
theorem dX12_serves_57 : decode cX12_serves 57 = .ok (.aload_n 0, 1) := by decide +kernel
theorem dX12_serves_58 : decode cX12_serves 58 = .ok (.iload_n 1, 1) := by decide +kernel
theorem dX12_serves_59 : decode cX12_serves 59 = .ok (.iconst 3, 1) := by decide +kernel
theorem dX12_serves_60 : decode cX12_serves 60 = .ok (.invokevirtual 87, 3) := by decide +kernel
theorem dX12_serves_63 : decode cX12_serves 63 = .ok (.iconst 1, 1) := by decide +kernel
theorem dX12_serves_64 : decode cX12_serves 64 = .ok (.isub, 1) := by decide +kernel
theorem dX12_serves_65 : decode cX12_serves 65 = .ok (.invokevirtual 68, 3) := by decide +kernel
theorem dX12_serves_68 : decode cX12_serves 68 = .ok (.aload_n 0, 1) := by decide +kernel
theorem dX12_serves_69 : decode cX12_serves 69 = .ok (.getfield 7, 3) := by decide +kernel
theorem dX12_serves_72 : decode cX12_serves 72 = .ok (.bipush 12, 2) := by decide +kernel
theorem dX12_serves_74 : decode cX12_serves 74 = .ok (.dup2, 1) := by decide +kernel
theorem dX12_serves_75 : decode cX12_serves 75 = .ok (.iaload, 1) := by decide +kernel
theorem dX12_serves_76 : decode cX12_serves 76 = .ok (.iconst 1, 1) := by decide +kernel
theorem dX12_serves_77 : decode cX12_serves 77 = .ok (.iadd, 1) := by decide +kernel
theorem dX12_serves_78 : decode cX12_serves 78 = .ok (.iastore, 1) := by decide +kernel
theorem dX12_serves_79 : decode cX12_serves 79 = .ok (.aload_n 0, 1) := by decide +kernel
theorem dX12_serves_80 : decode cX12_serves 80 = .ok (.iload_n 1, 1) := by decide +kernel
theorem dX12_serves_81 : decode cX12_serves 81 = .ok (.iconst 3, 1) := by decide +kernel
theorem dX12_serves_82 : decode cX12_serves 82 = .ok (.invokevirtual 87, 3) := by decide +kernel
theorem dX12_serves_85 : decode cX12_serves 85 = .ok (.ifCond .ne 8, 3) := by decide +kernel
theorem dX12_serves_88 : decode cX12_serves 88 = .ok (.aload_n 0, 1) := by decide +kernel
theorem dX12_serves_89 : decode cX12_serves 89 = .ok (.iload_n 1, 1) := by decide +kernel
theorem dX12_serves_90 : decode cX12_serves 90 = .ok (.invokevirtual 115, 3) := by decide +kernel
theorem dX12_serves_93 : decode cX12_serves 93 = .ok (.return_, 1) := by decide +kernel
theorem dX12_passes_0 : decode cX12_passes 0 = .ok (.aload_n 0, 1) := by decide +kernel
theorem dX12_passes_1 : decode cX12_passes 1 = .ok (.aload_n 0, 1) := by decide +kernel
theorem dX12_passes_2 : decode cX12_passes 2 = .ok (.invokevirtual 118, 3) := by decide +kernel
theorem dX12_passes_5 : decode cX12_passes 5 = .ok (.iconst 0, 1) := by decide +kernel
theorem dX12_passes_6 : decode cX12_passes 6 = .ok (.invokevirtual 122, 3) := by decide +kernel
theorem dX12_passes_9 : decode cX12_passes 9 = .ok (.istore_n 1, 1) := by decide +kernel
theorem dX12_passes_10 : decode cX12_passes 10 = .ok (.aload_n 0, 1) := by decide +kernel
theorem dX12_passes_11 : decode cX12_passes 11 = .ok (.getfield 7, 3) := by decide +kernel
theorem dX12_passes_14 : decode cX12_passes 14 = .ok (.iconst 1, 1) := by decide +kernel
theorem dX12_passes_15 : decode cX12_passes 15 = .ok (.dup2, 1) := by decide +kernel
theorem dX12_passes_16 : decode cX12_passes 16 = .ok (.iaload, 1) := by decide +kernel
theorem dX12_passes_17 : decode cX12_passes 17 = .ok (.iconst 1, 1) := by decide +kernel
theorem dX12_passes_18 : decode cX12_passes 18 = .ok (.iadd, 1) := by decide +kernel
theorem dX12_passes_19 : decode cX12_passes 19 = .ok (.iastore, 1) := by decide +kernel
theorem dX12_passes_20 : decode cX12_passes 20 = .ok (.iload_n 1, 1) := by decide +kernel
theorem dX12_passes_21 : decode cX12_passes 21 = .ok (.ifCond .lt 8, 3) := by decide +kernel
theorem dX12_passes_24 : decode cX12_passes 24 = .ok (.aload_n 0, 1) := by decide +kernel
theorem dX12_passes_25 : decode cX12_passes 25 = .ok (.iload_n 1, 1) := by decide +kernel
theorem dX12_passes_26 : decode cX12_passes 26 = .ok (.invokevirtual 125, 3) := by decide +kernel
theorem dX12_passes_29 : decode cX12_passes 29 = .ok (.aload_n 0, 1) := by decide +kernel
theorem dX12_passes_30 : decode cX12_passes 30 = .ok (.getfield 7, 3) := by decide +kernel
theorem dX12_passes_33 : decode cX12_passes 33 = .ok (.iconst 3, 1) := by decide +kernel
theorem dX12_passes_34 : decode cX12_passes 34 = .ok (.iaload, 1) := by decide +kernel
theorem dX12_passes_35 : decode cX12_passes 35 = .ok (.iconst 1, 1) := by decide +kernel
theorem dX12_passes_36 : decode cX12_passes 36 = .ok (.isub, 1) := by decide +kernel
theorem dX12_passes_37 : decode cX12_passes 37 = .ok (.istore_n 2, 1) := by decide +kernel
theorem dX12_passes_38 : decode cX12_passes 38 = .ok (.iload_n 2, 1) := by decide +kernel
theorem dX12_passes_39 : decode cX12_passes 39 = .ok (.ifCond .lt 58, 3) := by decide +kernel
theorem dX12_passes_42 : decode cX12_passes 42 = .ok (.aload_n 0, 1) := by decide +kernel
theorem dX12_passes_43 : decode cX12_passes 43 = .ok (.iload_n 2, 1) := by decide +kernel
theorem dX12_passes_44 : decode cX12_passes 44 = .ok (.iconst 2, 1) := by decide +kernel
theorem dX12_passes_45 : decode cX12_passes 45 = .ok (.invokevirtual 72, 3) := by decide +kernel
theorem dX12_passes_48 : decode cX12_passes 48 = .ok (.aload_n 0, 1) := by decide +kernel
theorem dX12_passes_49 : decode cX12_passes 49 = .ok (.getfield 7, 3) := by decide +kernel
theorem dX12_passes_52 : decode cX12_passes 52 = .ok (.iconst 1, 1) := by decide +kernel
theorem dX12_passes_53 : decode cX12_passes 53 = .ok (.iaload, 1) := by decide +kernel
theorem dX12_passes_54 : decode cX12_passes 54 = .ok (.if_icmp .le 6, 3) := by decide +kernel
theorem dX12_passes_57 : decode cX12_passes 57 = .ok (.goto 34, 3) := by decide +kernel
theorem dX12_passes_60 : decode cX12_passes 60 = .ok (.aload_n 0, 1) := by decide +kernel
theorem dX12_passes_61 : decode cX12_passes 61 = .ok (.getfield 7, 3) := by decide +kernel
theorem dX12_passes_64 : decode cX12_passes 64 = .ok (.iconst 5, 1) := by decide +kernel
theorem dX12_passes_65 : decode cX12_passes 65 = .ok (.dup2, 1) := by decide +kernel
theorem dX12_passes_66 : decode cX12_passes 66 = .ok (.iaload, 1) := by decide +kernel
theorem dX12_passes_67 : decode cX12_passes 67 = .ok (.aload_n 0, 1) := by decide +kernel
theorem dX12_passes_68 : decode cX12_passes 68 = .ok (.iload_n 2, 1) := by decide +kernel
theorem dX12_passes_69 : decode cX12_passes 69 = .ok (.iconst 3, 1) := by decide +kernel
theorem dX12_passes_70 : decode cX12_passes 70 = .ok (.invokevirtual 72, 3) := by decide +kernel
theorem dX12_passes_73 : decode cX12_passes 73 = .ok (.iadd, 1) := by decide +kernel
theorem dX12_passes_74 : decode cX12_passes 74 = .ok (.iastore, 1) := by decide +kernel
theorem dX12_passes_75 : decode cX12_passes 75 = .ok (.aload_n 0, 1) := by decide +kernel
theorem dX12_passes_76 : decode cX12_passes 76 = .ok (.getfield 7, 3) := by decide +kernel
theorem dX12_passes_79 : decode cX12_passes 79 = .ok (.bipush 11, 2) := by decide +kernel
theorem dX12_passes_81 : decode cX12_passes 81 = .ok (.dup2, 1) := by decide +kernel
theorem dX12_passes_82 : decode cX12_passes 82 = .ok (.iaload, 1) := by decide +kernel
theorem dX12_passes_83 : decode cX12_passes 83 = .ok (.iconst 1, 1) := by decide +kernel
theorem dX12_passes_84 : decode cX12_passes 84 = .ok (.iadd, 1) := by decide +kernel
theorem dX12_passes_85 : decode cX12_passes 85 = .ok (.iastore, 1) := by decide +kernel
theorem dX12_passes_86 : decode cX12_passes 86 = .ok (.aload_n 0, 1) := by decide +kernel
theorem dX12_passes_87 : decode cX12_passes 87 = .ok (.iload_n 2, 1) := by decide +kernel
theorem dX12_passes_88 : decode cX12_passes 88 = .ok (.invokevirtual 80, 3) := by decide +kernel
theorem dX12_passes_91 : decode cX12_passes 91 = .ok (.iinc 2 (-1), 3) := by decide +kernel
theorem dX12_passes_94 : decode cX12_passes 94 = .ok (.goto (-56), 3) := by decide +kernel
theorem dX12_passes_97 : decode cX12_passes 97 = .ok (.iconst 0, 1) := by decide +kernel
theorem dX12_passes_98 : decode cX12_passes 98 = .ok (.istore_n 2, 1) := by decide +kernel
theorem dX12_passes_99 : decode cX12_passes 99 = .ok (.iload_n 2, 1) := by decide +kernel
theorem dX12_passes_100 : decode cX12_passes 100 = .ok (.aload_n 0, 1) := by decide +kernel
theorem dX12_passes_101 : decode cX12_passes 101 = .ok (.getfield 7, 3) := by decide +kernel
theorem dX12_passes_104 : decode cX12_passes 104 = .ok (.iconst 0, 1) := by decide +kernel
theorem dX12_passes_105 : decode cX12_passes 105 = .ok (.iaload, 1) := by decide +kernel
theorem dX12_passes_106 : decode cX12_passes 106 = .ok (.if_icmp .ge 14, 3) := by decide +kernel
theorem dX12_passes_109 : decode cX12_passes 109 = .ok (.aload_n 0, 1) := by decide +kernel
theorem dX12_passes_110 : decode cX12_passes 110 = .ok (.iload_n 2, 1) := by decide +kernel
theorem dX12_passes_111 : decode cX12_passes 111 = .ok (.invokevirtual 128, 3) := by decide +kernel
theorem dX12_passes_114 : decode cX12_passes 114 = .ok (.iinc 2 1, 3) := by decide +kernel
theorem dX12_passes_117 : decode cX12_passes 117 = .ok (.goto (-18), 3) := by decide +kernel
theorem dX12_passes_120 : decode cX12_passes 120 = .ok (.iload_n 1, 1) := by decide +kernel
theorem dX12_passes_121 : decode cX12_passes 121 = .ok (.ifCond .lt 7, 3) := by decide +kernel
theorem dX12_passes_124 : decode cX12_passes 124 = .ok (.iconst 1, 1) := by decide +kernel
theorem dX12_passes_125 : decode cX12_passes 125 = .ok (.goto 4, 3) := by decide +kernel
theorem dX12_passes_128 : decode cX12_passes 128 = .ok (.iconst 0, 1) := by decide +kernel
theorem dX12_passes_129 : decode cX12_passes 129 = .ok (.ireturn, 1) := by decide +kernel
theorem dX12_passDays_0 : decode cX12_passDays 0 = .ok (.aload_n 0, 1) := by decide +kernel
theorem dX12_passDays_1 : decode cX12_passDays 1 = .ok (.iload_n 1, 1) := by decide +kernel
theorem dX12_passDays_2 : decode cX12_passDays 2 = .ok (.iconst 1, 1) := by decide +kernel
theorem dX12_passDays_3 : decode cX12_passDays 3 = .ok (.bipush 9, 2) := by decide +kernel
theorem dX12_passDays_5 : decode cX12_passDays 5 = .ok (.invokestatic 53, 3) := by decide +kernel
theorem dX12_passDays_8 : decode cX12_passDays 8 = .ok (.ifCond .eq 7, 3) := by decide +kernel
theorem dX12_passDays_11 : decode cX12_passDays 11 = .ok (.iconst 0, 1) := by decide +kernel
theorem dX12_passDays_12 : decode cX12_passDays 12 = .ok (.goto 4, 3) := by decide +kernel
theorem dX12_passDays_15 : decode cX12_passDays 15 = .ok (.iconst 1, 1) := by decide +kernel
theorem dX12_passDays_16 : decode cX12_passDays 16 = .ok (.invokevirtual 61, 3) := by decide +kernel
theorem dX12_passDays_19 : decode cX12_passDays 19 = .ok (.ifCond .eq 5, 3) := by decide +kernel
theorem dX12_passDays_22 : decode cX12_passDays 22 = .ok (.iconst 0, 1) := by decide +kernel
theorem dX12_passDays_23 : decode cX12_passDays 23 = .ok (.ireturn, 1) := by decide +kernel
theorem dX12_passDays_24 : decode cX12_passDays 24 = .ok (.aload_n 0, 1) := by decide +kernel
theorem dX12_passDays_25 : decode cX12_passDays 25 = .ok (.aload_n 0, 1) := by decide +kernel
theorem dX12_passDays_26 : decode cX12_passDays 26 = .ok (.getfield 7, 3) := by decide +kernel
theorem dX12_passDays_29 : decode cX12_passDays 29 = .ok (.invokevirtual 64, 3) := by decide +kernel
theorem dX12_passDays_32 : decode cX12_passDays 32 = .ok (.iconst 0, 1) := by decide +kernel
theorem dX12_passDays_33 : decode cX12_passDays 33 = .ok (.istore_n 2, 1) := by decide +kernel
theorem dX12_passDays_34 : decode cX12_passDays 34 = .ok (.iconst 0, 1) := by decide +kernel
theorem dX12_passDays_35 : decode cX12_passDays 35 = .ok (.istore_n 3, 1) := by decide +kernel
theorem dX12_passDays_36 : decode cX12_passDays 36 = .ok (.iload_n 3, 1) := by decide +kernel
theorem dX12_passDays_37 : decode cX12_passDays 37 = .ok (.iload_n 1, 1) := by decide +kernel
theorem dX12_passDays_38 : decode cX12_passDays 38 = .ok (.if_icmp .ge 16, 3) := by decide +kernel
theorem dX12_passDays_41 : decode cX12_passDays 41 = .ok (.iload_n 2, 1) := by decide +kernel
theorem dX12_passDays_42 : decode cX12_passDays 42 = .ok (.aload_n 0, 1) := by decide +kernel
theorem dX12_passDays_43 : decode cX12_passDays 43 = .ok (.invokevirtual 131, 3) := by decide +kernel
theorem dX12_passDays_46 : decode cX12_passDays 46 = .ok (.iadd, 1) := by decide +kernel
theorem dX12_passDays_47 : decode cX12_passDays 47 = .ok (.istore_n 2, 1) := by decide +kernel
theorem dX12_passDays_48 : decode cX12_passDays 48 = .ok (.iinc 3 1, 3) := by decide +kernel
theorem dX12_passDays_51 : decode cX12_passDays 51 = .ok (.goto (-15), 3) := by decide +kernel
theorem dX12_passDays_54 : decode cX12_passDays 54 = .ok (.iload_n 2, 1) := by decide +kernel
theorem dX12_passDays_55 : decode cX12_passDays 55 = .ok (.ireturn, 1) := by decide +kernel
theorem dX12_pardon_0 : decode cX12_pardon 0 = .ok (.aload_n 0, 1) := by decide +kernel
theorem dX12_pardon_1 : decode cX12_pardon 1 = .ok (.aload_n 0, 1) := by decide +kernel
theorem dX12_pardon_2 : decode cX12_pardon 2 = .ok (.iload_n 1, 1) := by decide +kernel
theorem dX12_pardon_3 : decode cX12_pardon 3 = .ok (.invokevirtual 57, 3) := by decide +kernel
theorem dX12_pardon_6 : decode cX12_pardon 6 = .ok (.ifCond .ne 7, 3) := by decide +kernel
theorem dX12_pardon_9 : decode cX12_pardon 9 = .ok (.iconst 1, 1) := by decide +kernel
theorem dX12_pardon_10 : decode cX12_pardon 10 = .ok (.goto 17, 3) := by decide +kernel
theorem dX12_pardon_13 : decode cX12_pardon 13 = .ok (.aload_n 0, 1) := by decide +kernel
theorem dX12_pardon_14 : decode cX12_pardon 14 = .ok (.iload_n 1, 1) := by decide +kernel
theorem dX12_pardon_15 : decode cX12_pardon 15 = .ok (.iconst 2, 1) := by decide +kernel
theorem dX12_pardon_16 : decode cX12_pardon 16 = .ok (.invokevirtual 87, 3) := by decide +kernel
theorem dX12_pardon_19 : decode cX12_pardon 19 = .ok (.ifCond .ne 7, 3) := by decide +kernel
theorem dX12_pardon_22 : decode cX12_pardon 22 = .ok (.iconst 2, 1) := by decide +kernel
theorem dX12_pardon_23 : decode cX12_pardon 23 = .ok (.goto 4, 3) := by decide +kernel
theorem dX12_pardon_26 : decode cX12_pardon 26 = .ok (.iconst 0, 1) := by decide +kernel
theorem dX12_pardon_27 : decode cX12_pardon 27 = .ok (.invokevirtual 61, 3) := by decide +kernel
theorem dX12_pardon_30 : decode cX12_pardon 30 = .ok (.ifCond .eq 5, 3) := by decide +kernel
theorem dX12_pardon_33 : decode cX12_pardon 33 = .ok (.iconst 0, 1) := by decide +kernel
theorem dX12_pardon_34 : decode cX12_pardon 34 = .ok (.ireturn, 1) := by decide +kernel
theorem dX12_pardon_35 : decode cX12_pardon 35 = .ok (.aload_n 0, 1) := by decide +kernel
theorem dX12_pardon_36 : decode cX12_pardon 36 = .ok (.iload_n 1, 1) := by decide +kernel
theorem dX12_pardon_37 : decode cX12_pardon 37 = .ok (.iconst 3, 1) := by decide +kernel
theorem dX12_pardon_38 : decode cX12_pardon 38 = .ok (.invokevirtual 87, 3) := by decide +kernel
theorem dX12_pardon_41 : decode cX12_pardon 41 = .ok (.istore_n 2, 1) := by decide +kernel
theorem dX12_pardon_42 : decode cX12_pardon 42 = .ok (.aload_n 0, 1) := by decide +kernel
theorem dX12_pardon_43 : decode cX12_pardon 43 = .ok (.aload_n 0, 1) := by decide +kernel
theorem dX12_pardon_44 : decode cX12_pardon 44 = .ok (.getfield 7, 3) := by decide +kernel
theorem dX12_pardon_47 : decode cX12_pardon 47 = .ok (.invokevirtual 64, 3) := by decide +kernel
theorem dX12_pardon_50 : decode cX12_pardon 50 = .ok (.aload_n 0, 1) := by decide +kernel
theorem dX12_pardon_51 : decode cX12_pardon 51 = .ok (.iload_n 1, 1) := by decide +kernel
theorem dX12_pardon_52 : decode cX12_pardon 52 = .ok (.invokevirtual 115, 3) := by decide +kernel
theorem dX12_pardon_55 : decode cX12_pardon 55 = .ok (.iload_n 2, 1) := by decide +kernel
theorem dX12_pardon_56 : decode cX12_pardon 56 = .ok (.ireturn, 1) := by decide +kernel
theorem dX12_day_0 : decode cX12_day 0 = .ok (.aload_n 0, 1) := by decide +kernel
theorem dX12_day_1 : decode cX12_day 1 = .ok (.iconst 0, 1) := by decide +kernel
theorem dX12_day_2 : decode cX12_day 2 = .ok (.putfield 39, 3) := by decide +kernel
theorem dX12_day_5 : decode cX12_day 5 = .ok (.aload_n 0, 1) := by decide +kernel
theorem dX12_day_6 : decode cX12_day 6 = .ok (.getfield 7, 3) := by decide +kernel
theorem dX12_day_9 : decode cX12_day 9 = .ok (.iconst 1, 1) := by decide +kernel
theorem dX12_day_10 : decode cX12_day 10 = .ok (.iaload, 1) := by decide +kernel
theorem dX12_day_11 : decode cX12_day 11 = .ok (.ireturn, 1) := by decide +kernel
theorem dX12_lanternCount_0 : decode cX12_lanternCount 0 = .ok (.aload_n 0, 1) := by decide +kernel
theorem dX12_lanternCount_1 : decode cX12_lanternCount 1 = .ok (.iconst 0, 1) := by decide +kernel
theorem dX12_lanternCount_2 : decode cX12_lanternCount 2 = .ok (.putfield 39, 3) := by decide +kernel
theorem dX12_lanternCount_5 : decode cX12_lanternCount 5 = .ok (.aload_n 0, 1) := by decide +kernel
theorem dX12_lanternCount_6 : decode cX12_lanternCount 6 = .ok (.getfield 7, 3) := by decide +kernel
theorem dX12_lanternCount_9 : decode cX12_lanternCount 9 = .ok (.iconst 0, 1) := by decide +kernel
theorem dX12_lanternCount_10 : decode cX12_lanternCount 10 = .ok (.iaload, 1) := by decide +kernel
theorem dX12_lanternCount_11 : decode cX12_lanternCount 11 = .ok (.ireturn, 1) := by decide +kernel
theorem dX12_brightness_0 : decode cX12_brightness 0 = .ok (.aload_n 0, 1) := by decide +kernel
theorem dX12_brightness_1 : decode cX12_brightness 1 = .ok (.iload_n 1, 1) := by decide +kernel
theorem dX12_brightness_2 : decode cX12_brightness 2 = .ok (.invokevirtual 134, 3) := by decide +kernel
theorem dX12_brightness_5 : decode cX12_brightness 5 = .ok (.ifCond .eq 7, 3) := by decide +kernel
theorem dX12_brightness_8 : decode cX12_brightness 8 = .ok (.iconst 0, 1) := by decide +kernel
theorem dX12_brightness_9 : decode cX12_brightness 9 = .ok (.goto 9, 3) := by decide +kernel
theorem dX12_brightness_12 : decode cX12_brightness 12 = .ok (.aload_n 0, 1) := by decide +kernel
theorem dX12_brightness_13 : decode cX12_brightness 13 = .ok (.iload_n 1, 1) := by decide +kernel
theorem dX12_brightness_14 : decode cX12_brightness 14 = .ok (.iconst 0, 1) := by decide +kernel
theorem dX12_brightness_15 : decode cX12_brightness 15 = .ok (.invokevirtual 87, 3) := by decide +kernel
theorem dX12_brightness_18 : decode cX12_brightness 18 = .ok (.ireturn, 1) := by decide +kernel
theorem dX12_hasAdmitted_0 : decode cX12_hasAdmitted 0 = .ok (.aload_n 0, 1) := by decide +kernel
theorem dX12_hasAdmitted_1 : decode cX12_hasAdmitted 1 = .ok (.iload_n 1, 1) := by decide +kernel
theorem dX12_hasAdmitted_2 : decode cX12_hasAdmitted 2 = .ok (.invokevirtual 134, 3) := by decide +kernel
theorem dX12_hasAdmitted_5 : decode cX12_hasAdmitted 5 = .ok (.ifCond .ne 25, 3) := by decide +kernel
theorem dX12_hasAdmitted_8 : decode cX12_hasAdmitted 8 = .ok (.aload_n 0, 1) := by decide +kernel
theorem dX12_hasAdmitted_9 : decode cX12_hasAdmitted 9 = .ok (.iload_n 1, 1) := by decide +kernel
theorem dX12_hasAdmitted_10 : decode cX12_hasAdmitted 10 = .ok (.iconst 1, 1) := by decide +kernel
theorem dX12_hasAdmitted_11 : decode cX12_hasAdmitted 11 = .ok (.invokevirtual 87, 3) := by decide +kernel
theorem dX12_hasAdmitted_14 : decode cX12_hasAdmitted 14 = .ok (.iload_n 2, 1) := by decide +kernel
theorem dX12_hasAdmitted_15 : decode cX12_hasAdmitted 15 = .ok (.ifCond .eq 7, 3) := by decide +kernel
theorem dX12_hasAdmitted_18 : decode cX12_hasAdmitted 18 = .ok (.iconst 1, 1) := by decide +kernel
theorem dX12_hasAdmitted_19 : decode cX12_hasAdmitted 19 = .ok (.goto 4, 3) := by decide +kernel
theorem dX12_hasAdmitted_22 : decode cX12_hasAdmitted 22 = .ok (.iconst 2, 1) := by decide +kernel
theorem dX12_hasAdmitted_23 : decode cX12_hasAdmitted 23 = .ok (.if_icmp .ne 7, 3) := by decide +kernel
theorem dX12_hasAdmitted_26 : decode cX12_hasAdmitted 26 = .ok (.iconst 1, 1) := by decide +kernel
theorem dX12_hasAdmitted_27 : decode cX12_hasAdmitted 27 = .ok (.goto 4, 3) := by decide +kernel
theorem dX12_hasAdmitted_30 : decode cX12_hasAdmitted 30 = .ok (.iconst 0, 1) := by decide +kernel
theorem dX12_hasAdmitted_31 : decode cX12_hasAdmitted 31 = .ok (.ireturn, 1) := by decide +kernel
theorem dX12_sentenceCount_0 : decode cX12_sentenceCount 0 = .ok (.aload_n 0, 1) := by decide +kernel
theorem dX12_sentenceCount_1 : decode cX12_sentenceCount 1 = .ok (.iload_n 1, 1) := by decide +kernel
theorem dX12_sentenceCount_2 : decode cX12_sentenceCount 2 = .ok (.invokevirtual 134, 3) := by decide +kernel
theorem dX12_sentenceCount_5 : decode cX12_sentenceCount 5 = .ok (.ifCond .eq 7, 3) := by decide +kernel
theorem dX12_sentenceCount_8 : decode cX12_sentenceCount 8 = .ok (.iconst 0, 1) := by decide +kernel
theorem dX12_sentenceCount_9 : decode cX12_sentenceCount 9 = .ok (.goto 9, 3) := by decide +kernel
theorem dX12_sentenceCount_12 : decode cX12_sentenceCount 12 = .ok (.aload_n 0, 1) := by decide +kernel
theorem dX12_sentenceCount_13 : decode cX12_sentenceCount 13 = .ok (.iload_n 1, 1) := by decide +kernel
theorem dX12_sentenceCount_14 : decode cX12_sentenceCount 14 = .ok (.iconst 2, 1) := by decide +kernel
theorem dX12_sentenceCount_15 : decode cX12_sentenceCount 15 = .ok (.invokevirtual 87, 3) := by decide +kernel
theorem dX12_sentenceCount_18 : decode cX12_sentenceCount 18 = .ok (.ireturn, 1) := by decide +kernel
theorem dX12_daysLeft_0 : decode cX12_daysLeft 0 = .ok (.aload_n 0, 1) := by decide +kernel
theorem dX12_daysLeft_1 : decode cX12_daysLeft 1 = .ok (.aload_n 0, 1) := by decide +kernel
theorem dX12_daysLeft_2 : decode cX12_daysLeft 2 = .ok (.iload_n 1, 1) := by decide +kernel
theorem dX12_daysLeft_3 : decode cX12_daysLeft 3 = .ok (.invokevirtual 57, 3) := by decide +kernel
theorem dX12_daysLeft_6 : decode cX12_daysLeft 6 = .ok (.ifCond .ne 7, 3) := by decide +kernel
theorem dX12_daysLeft_9 : decode cX12_daysLeft 9 = .ok (.iconst 1, 1) := by decide +kernel
theorem dX12_daysLeft_10 : decode cX12_daysLeft 10 = .ok (.goto 17, 3) := by decide +kernel
theorem dX12_daysLeft_13 : decode cX12_daysLeft 13 = .ok (.aload_n 0, 1) := by decide +kernel
theorem dX12_daysLeft_14 : decode cX12_daysLeft 14 = .ok (.iload_n 1, 1) := by decide +kernel
theorem dX12_daysLeft_15 : decode cX12_daysLeft 15 = .ok (.iconst 2, 1) := by decide +kernel
theorem dX12_daysLeft_16 : decode cX12_daysLeft 16 = .ok (.invokevirtual 87, 3) := by decide +kernel
theorem dX12_daysLeft_19 : decode cX12_daysLeft 19 = .ok (.ifCond .ne 7, 3) := by decide +kernel
theorem dX12_daysLeft_22 : decode cX12_daysLeft 22 = .ok (.iconst 2, 1) := by decide +kernel
theorem dX12_daysLeft_23 : decode cX12_daysLeft 23 = .ok (.goto 4, 3) := by decide +kernel
theorem dX12_daysLeft_26 : decode cX12_daysLeft 26 = .ok (.iconst 0, 1) := by decide +kernel
theorem dX12_daysLeft_27 : decode cX12_daysLeft 27 = .ok (.invokevirtual 61, 3) := by decide +kernel
theorem dX12_daysLeft_30 : decode cX12_daysLeft 30 = .ok (.ifCond .eq 7, 3) := by decide +kernel
theorem dX12_daysLeft_33 : decode cX12_daysLeft 33 = .ok (.iconst 0, 1) := by decide +kernel
theorem dX12_daysLeft_34 : decode cX12_daysLeft 34 = .ok (.goto 9, 3) := by decide +kernel
theorem dX12_daysLeft_37 : decode cX12_daysLeft 37 = .ok (.aload_n 0, 1) := by decide +kernel
theorem dX12_daysLeft_38 : decode cX12_daysLeft 38 = .ok (.iload_n 1, 1) := by decide +kernel
theorem dX12_daysLeft_39 : decode cX12_daysLeft 39 = .ok (.iconst 3, 1) := by decide +kernel
theorem dX12_daysLeft_40 : decode cX12_daysLeft 40 = .ok (.invokevirtual 87, 3) := by decide +kernel
theorem dX12_daysLeft_43 : decode cX12_daysLeft 43 = .ok (.ireturn, 1) := by decide +kernel
theorem dX12_toServe_0 : decode cX12_toServe 0 = .ok (.iconst 0, 1) := by decide +kernel
theorem dX12_toServe_1 : decode cX12_toServe 1 = .ok (.istore_n 2, 1) := by decide +kernel
theorem dX12_toServe_2 : decode cX12_toServe 2 = .ok (.iconst 0, 1) := by decide +kernel
theorem dX12_toServe_3 : decode cX12_toServe 3 = .ok (.istore_n 3, 1) := by decide +kernel
theorem dX12_toServe_4 : decode cX12_toServe 4 = .ok (.iload_n 3, 1) := by decide +kernel
theorem dX12_toServe_5 : decode cX12_toServe 5 = .ok (.aload_n 0, 1) := by decide +kernel
theorem dX12_toServe_6 : decode cX12_toServe 6 = .ok (.iload_n 1, 1) := by decide +kernel
theorem dX12_toServe_7 : decode cX12_toServe 7 = .ok (.iconst 2, 1) := by decide +kernel
theorem dX12_toServe_8 : decode cX12_toServe 8 = .ok (.invokevirtual 87, 3) := by decide +kernel
theorem dX12_toServe_11 : decode cX12_toServe 11 = .ok (.if_icmp .ge 20, 3) := by decide +kernel
theorem dX12_toServe_14 : decode cX12_toServe 14 = .ok (.iload_n 2, 1) := by decide +kernel
theorem dX12_toServe_15 : decode cX12_toServe 15 = .ok (.aload_n 0, 1) := by decide +kernel
theorem dX12_toServe_16 : decode cX12_toServe 16 = .ok (.iload_n 1, 1) := by decide +kernel
theorem dX12_toServe_17 : decode cX12_toServe 17 = .ok (.iconst 3, 1) := by decide +kernel
theorem dX12_toServe_18 : decode cX12_toServe 18 = .ok (.iload_n 3, 1) := by decide +kernel
theorem dX12_toServe_19 : decode cX12_toServe 19 = .ok (.iadd, 1) := by decide +kernel
theorem dX12_toServe_20 : decode cX12_toServe 20 = .ok (.invokevirtual 87, 3) := by decide +kernel
theorem dX12_toServe_23 : decode cX12_toServe 23 = .ok (.iadd, 1) := by decide +kernel
theorem dX12_toServe_24 : decode cX12_toServe 24 = .ok (.istore_n 2, 1) := by decide +kernel
theorem dX12_toServe_25 : decode cX12_toServe 25 = .ok (.iinc 3 1, 3) := by decide +kernel
theorem dX12_toServe_28 : decode cX12_toServe 28 = .ok (.goto (-24), 3) := by decide +kernel
theorem dX12_toServe_31 : decode cX12_toServe 31 = .ok (.iload_n 2, 1) := by decide +kernel
theorem dX12_toServe_32 : decode cX12_toServe 32 = .ok (.ireturn, 1) := by decide +kernel
theorem dX12_daysUntilFree_0 : decode cX12_daysUntilFree 0 = .ok (.aload_n 0, 1) := by decide +kernel
theorem dX12_daysUntilFree_1 : decode cX12_daysUntilFree 1 = .ok (.iload_n 1, 1) := by decide +kernel
theorem dX12_daysUntilFree_2 : decode cX12_daysUntilFree 2 = .ok (.invokevirtual 134, 3) := by decide +kernel
theorem dX12_daysUntilFree_5 : decode cX12_daysUntilFree 5 = .ok (.ifCond .eq 7, 3) := by decide +kernel
theorem dX12_daysUntilFree_8 : decode cX12_daysUntilFree 8 = .ok (.iconst 0, 1) := by decide +kernel
theorem dX12_daysUntilFree_9 : decode cX12_daysUntilFree 9 = .ok (.goto 8, 3) := by decide +kernel
theorem dX12_daysUntilFree_12 : decode cX12_daysUntilFree 12 = .ok (.aload_n 0, 1) := by decide +kernel
theorem dX12_daysUntilFree_13 : decode cX12_daysUntilFree 13 = .ok (.iload_n 1, 1) := by decide +kernel
theorem dX12_daysUntilFree_14 : decode cX12_daysUntilFree 14 = .ok (.invokevirtual 137, 3) := by decide +kernel
theorem dX12_daysUntilFree_17 : decode cX12_daysUntilFree 17 = .ok (.ireturn, 1) := by decide +kernel
theorem dX12_briefCount_0 : decode cX12_briefCount 0 = .ok (.aload_n 0, 1) := by decide +kernel
theorem dX12_briefCount_1 : decode cX12_briefCount 1 = .ok (.iconst 0, 1) := by decide +kernel
theorem dX12_briefCount_2 : decode cX12_briefCount 2 = .ok (.putfield 39, 3) := by decide +kernel
theorem dX12_briefCount_5 : decode cX12_briefCount 5 = .ok (.aload_n 0, 1) := by decide +kernel
theorem dX12_briefCount_6 : decode cX12_briefCount 6 = .ok (.getfield 7, 3) := by decide +kernel
theorem dX12_briefCount_9 : decode cX12_briefCount 9 = .ok (.iconst 3, 1) := by decide +kernel
theorem dX12_briefCount_10 : decode cX12_briefCount 10 = .ok (.iaload, 1) := by decide +kernel
theorem dX12_briefCount_11 : decode cX12_briefCount 11 = .ok (.ireturn, 1) := by decide +kernel
theorem dX12_briefAt_0 : decode cX12_briefAt 0 = .ok (.aload_n 0, 1) := by decide +kernel
theorem dX12_briefAt_1 : decode cX12_briefAt 1 = .ok (.iload_n 1, 1) := by decide +kernel
theorem dX12_briefAt_2 : decode cX12_briefAt 2 = .ok (.iconst 0, 1) := by decide +kernel
theorem dX12_briefAt_3 : decode cX12_briefAt 3 = .ok (.aload_n 0, 1) := by decide +kernel
theorem dX12_briefAt_4 : decode cX12_briefAt 4 = .ok (.getfield 7, 3) := by decide +kernel
theorem dX12_briefAt_7 : decode cX12_briefAt 7 = .ok (.iconst 3, 1) := by decide +kernel
theorem dX12_briefAt_8 : decode cX12_briefAt 8 = .ok (.iaload, 1) := by decide +kernel
theorem dX12_briefAt_9 : decode cX12_briefAt 9 = .ok (.iconst 1, 1) := by decide +kernel
theorem dX12_briefAt_10 : decode cX12_briefAt 10 = .ok (.isub, 1) := by decide +kernel
theorem dX12_briefAt_11 : decode cX12_briefAt 11 = .ok (.invokestatic 53, 3) := by decide +kernel
theorem dX12_briefAt_14 : decode cX12_briefAt 14 = .ok (.ifCond .eq 7, 3) := by decide +kernel
theorem dX12_briefAt_17 : decode cX12_briefAt 17 = .ok (.iconst 0, 1) := by decide +kernel
theorem dX12_briefAt_18 : decode cX12_briefAt 18 = .ok (.goto 4, 3) := by decide +kernel
theorem dX12_briefAt_21 : decode cX12_briefAt 21 = .ok (.iconst 1, 1) := by decide +kernel
theorem dX12_briefAt_22 : decode cX12_briefAt 22 = .ok (.invokevirtual 61, 3) := by decide +kernel
theorem dX12_briefAt_25 : decode cX12_briefAt 25 = .ok (.ifCond .eq 7, 3) := by decide +kernel
theorem dX12_briefAt_28 : decode cX12_briefAt 28 = .ok (.iconst 0, 1) := by decide +kernel
theorem dX12_briefAt_29 : decode cX12_briefAt 29 = .ok (.goto 9, 3) := by decide +kernel
theorem dX12_briefAt_32 : decode cX12_briefAt 32 = .ok (.aload_n 0, 1) := by decide +kernel
theorem dX12_briefAt_33 : decode cX12_briefAt 33 = .ok (.iload_n 1, 1) := by decide +kernel
theorem dX12_briefAt_34 : decode cX12_briefAt 34 = .ok (.iconst 0, 1) := by decide +kernel
theorem dX12_briefAt_35 : decode cX12_briefAt 35 = .ok (.invokevirtual 72, 3) := by decide +kernel
theorem dX12_briefAt_38 : decode cX12_briefAt 38 = .ok (.ireturn, 1) := by decide +kernel
theorem dX12_ofBrief_0 : decode cX12_ofBrief 0 = .ok (.aload_n 0, 1) := by decide +kernel
theorem dX12_ofBrief_1 : decode cX12_ofBrief 1 = .ok (.aload_n 0, 1) := by decide +kernel
theorem dX12_ofBrief_2 : decode cX12_ofBrief 2 = .ok (.iload_n 1, 1) := by decide +kernel
theorem dX12_ofBrief_3 : decode cX12_ofBrief 3 = .ok (.invokevirtual 76, 3) := by decide +kernel
theorem dX12_ofBrief_6 : decode cX12_ofBrief 6 = .ok (.ifCond .ge 7, 3) := by decide +kernel
theorem dX12_ofBrief_9 : decode cX12_ofBrief 9 = .ok (.iconst 1, 1) := by decide +kernel
theorem dX12_ofBrief_10 : decode cX12_ofBrief 10 = .ok (.goto 4, 3) := by decide +kernel
theorem dX12_ofBrief_13 : decode cX12_ofBrief 13 = .ok (.iconst 0, 1) := by decide +kernel
theorem dX12_ofBrief_14 : decode cX12_ofBrief 14 = .ok (.invokevirtual 61, 3) := by decide +kernel
theorem dX12_ofBrief_17 : decode cX12_ofBrief 17 = .ok (.ifCond .eq 7, 3) := by decide +kernel
theorem dX12_ofBrief_20 : decode cX12_ofBrief 20 = .ok (.iconst 0, 1) := by decide +kernel
theorem dX12_ofBrief_21 : decode cX12_ofBrief 21 = .ok (.goto 13, 3) := by decide +kernel
theorem dX12_ofBrief_24 : decode cX12_ofBrief 24 = .ok (.aload_n 0, 1) := by decide +kernel
theorem dX12_ofBrief_25 : decode cX12_ofBrief 25 = .ok (.aload_n 0, 1) := by decide +kernel
theorem dX12_ofBrief_26 : decode cX12_ofBrief 26 = .ok (.iload_n 1, 1) := by decide +kernel
theorem dX12_ofBrief_27 : decode cX12_ofBrief 27 = .ok (.invokevirtual 76, 3) := by decide +kernel
theorem dX12_ofBrief_30 : decode cX12_ofBrief 30 = .ok (.iload_n 2, 1) := by decide +kernel
theorem dX12_ofBrief_31 : decode cX12_ofBrief 31 = .ok (.invokevirtual 72, 3) := by decide +kernel
theorem dX12_ofBrief_34 : decode cX12_ofBrief 34 = .ok (.ireturn, 1) := by decide +kernel
theorem dX12_lanternOf_0 : decode cX12_lanternOf 0 = .ok (.aload_n 0, 1) := by decide +kernel
theorem dX12_lanternOf_1 : decode cX12_lanternOf 1 = .ok (.iload_n 1, 1) := by decide +kernel
theorem dX12_lanternOf_2 : decode cX12_lanternOf 2 = .ok (.iconst 1, 1) := by decide +kernel
theorem dX12_lanternOf_3 : decode cX12_lanternOf 3 = .ok (.invokevirtual 140, 3) := by decide +kernel
theorem dX12_lanternOf_6 : decode cX12_lanternOf 6 = .ok (.ireturn, 1) := by decide +kernel
theorem dX12_lastDay_0 : decode cX12_lastDay 0 = .ok (.aload_n 0, 1) := by decide +kernel
theorem dX12_lastDay_1 : decode cX12_lastDay 1 = .ok (.iload_n 1, 1) := by decide +kernel
theorem dX12_lastDay_2 : decode cX12_lastDay 2 = .ok (.iconst 2, 1) := by decide +kernel
theorem dX12_lastDay_3 : decode cX12_lastDay 3 = .ok (.invokevirtual 140, 3) := by decide +kernel
theorem dX12_lastDay_6 : decode cX12_lastDay 6 = .ok (.ireturn, 1) := by decide +kernel
theorem dX12_fee_0 : decode cX12_fee 0 = .ok (.aload_n 0, 1) := by decide +kernel
theorem dX12_fee_1 : decode cX12_fee 1 = .ok (.iload_n 1, 1) := by decide +kernel
theorem dX12_fee_2 : decode cX12_fee 2 = .ok (.iconst 3, 1) := by decide +kernel
theorem dX12_fee_3 : decode cX12_fee 3 = .ok (.invokevirtual 140, 3) := by decide +kernel
theorem dX12_fee_6 : decode cX12_fee 6 = .ok (.ireturn, 1) := by decide +kernel
theorem dX12_severity_0 : decode cX12_severity 0 = .ok (.aload_n 0, 1) := by decide +kernel
theorem dX12_severity_1 : decode cX12_severity 1 = .ok (.iload_n 1, 1) := by decide +kernel
theorem dX12_severity_2 : decode cX12_severity 2 = .ok (.iconst 4, 1) := by decide +kernel
theorem dX12_severity_3 : decode cX12_severity 3 = .ok (.invokevirtual 140, 3) := by decide +kernel
theorem dX12_severity_6 : decode cX12_severity 6 = .ok (.ireturn, 1) := by decide +kernel
theorem dX12_isInPlan_0 : decode cX12_isInPlan 0 = .ok (.aload_n 0, 1) := by decide +kernel
theorem dX12_isInPlan_1 : decode cX12_isInPlan 1 = .ok (.iload_n 1, 1) := by decide +kernel
theorem dX12_isInPlan_2 : decode cX12_isInPlan 2 = .ok (.invokevirtual 76, 3) := by decide +kernel
theorem dX12_isInPlan_5 : decode cX12_isInPlan 5 = .ok (.istore_n 2, 1) := by decide +kernel
theorem dX12_isInPlan_6 : decode cX12_isInPlan 6 = .ok (.aload_n 0, 1) := by decide +kernel
theorem dX12_isInPlan_7 : decode cX12_isInPlan 7 = .ok (.iload_n 2, 1) := by decide +kernel
theorem dX12_isInPlan_8 : decode cX12_isInPlan 8 = .ok (.ifCond .ge 7, 3) := by decide +kernel
theorem dX12_isInPlan_11 : decode cX12_isInPlan 11 = .ok (.iconst 1, 1) := by decide +kernel
theorem dX12_isInPlan_12 : decode cX12_isInPlan 12 = .ok (.goto 4, 3) := by decide +kernel
theorem dX12_isInPlan_15 : decode cX12_isInPlan 15 = .ok (.iconst 0, 1) := by decide +kernel
theorem dX12_isInPlan_16 : decode cX12_isInPlan 16 = .ok (.invokevirtual 61, 3) := by decide +kernel
theorem dX12_isInPlan_19 : decode cX12_isInPlan 19 = .ok (.ifCond .ne 19, 3) := by decide +kernel
theorem dX12_isInPlan_22 : decode cX12_isInPlan 22 = .ok (.aload_n 0, 1) := by decide +kernel
theorem dX12_isInPlan_23 : decode cX12_isInPlan 23 = .ok (.invokevirtual 118, 3) := by decide +kernel
theorem dX12_isInPlan_26 : decode cX12_isInPlan 26 = .ok (.iload_n 2, 1) := by decide +kernel
theorem dX12_isInPlan_27 : decode cX12_isInPlan 27 = .ok (.ishr, 1) := by decide +kernel
theorem dX12_isInPlan_28 : decode cX12_isInPlan 28 = .ok (.iconst 1, 1) := by decide +kernel
theorem dX12_isInPlan_29 : decode cX12_isInPlan 29 = .ok (.iand, 1) := by decide +kernel
theorem dX12_isInPlan_30 : decode cX12_isInPlan 30 = .ok (.iconst 1, 1) := by decide +kernel
theorem dX12_isInPlan_31 : decode cX12_isInPlan 31 = .ok (.if_icmp .ne 7, 3) := by decide +kernel
theorem dX12_isInPlan_34 : decode cX12_isInPlan 34 = .ok (.iconst 1, 1) := by decide +kernel
theorem dX12_isInPlan_35 : decode cX12_isInPlan 35 = .ok (.goto 4, 3) := by decide +kernel
theorem dX12_isInPlan_38 : decode cX12_isInPlan 38 = .ok (.iconst 0, 1) := by decide +kernel
theorem dX12_isInPlan_39 : decode cX12_isInPlan 39 = .ok (.ireturn, 1) := by decide +kernel
theorem dX12_hearingDay_0 : decode cX12_hearingDay 0 = .ok (.aload_n 0, 1) := by decide +kernel
theorem dX12_hearingDay_1 : decode cX12_hearingDay 1 = .ok (.iload_n 1, 1) := by decide +kernel
theorem dX12_hearingDay_2 : decode cX12_hearingDay 2 = .ok (.invokevirtual 76, 3) := by decide +kernel
theorem dX12_hearingDay_5 : decode cX12_hearingDay 5 = .ok (.istore_n 2, 1) := by decide +kernel
theorem dX12_hearingDay_6 : decode cX12_hearingDay 6 = .ok (.aload_n 0, 1) := by decide +kernel
theorem dX12_hearingDay_7 : decode cX12_hearingDay 7 = .ok (.invokevirtual 118, 3) := by decide +kernel
theorem dX12_hearingDay_10 : decode cX12_hearingDay 10 = .ok (.istore_n 3, 1) := by decide +kernel
theorem dX12_hearingDay_11 : decode cX12_hearingDay 11 = .ok (.aload_n 0, 1) := by decide +kernel
theorem dX12_hearingDay_12 : decode cX12_hearingDay 12 = .ok (.iload_n 2, 1) := by decide +kernel
theorem dX12_hearingDay_13 : decode cX12_hearingDay 13 = .ok (.ifCond .lt 11, 3) := by decide +kernel
theorem dX12_hearingDay_16 : decode cX12_hearingDay 16 = .ok (.iload_n 3, 1) := by decide +kernel
theorem dX12_hearingDay_17 : decode cX12_hearingDay 17 = .ok (.iload_n 2, 1) := by decide +kernel
theorem dX12_hearingDay_18 : decode cX12_hearingDay 18 = .ok (.ishr, 1) := by decide +kernel
theorem dX12_hearingDay_19 : decode cX12_hearingDay 19 = .ok (.iconst 1, 1) := by decide +kernel
theorem dX12_hearingDay_20 : decode cX12_hearingDay 20 = .ok (.iand, 1) := by decide +kernel
theorem dX12_hearingDay_21 : decode cX12_hearingDay 21 = .ok (.ifCond .ne 7, 3) := by decide +kernel
theorem dX12_hearingDay_24 : decode cX12_hearingDay 24 = .ok (.iconst 1, 1) := by decide +kernel
theorem dX12_hearingDay_25 : decode cX12_hearingDay 25 = .ok (.goto 4, 3) := by decide +kernel
theorem dX12_hearingDay_28 : decode cX12_hearingDay 28 = .ok (.iconst 0, 1) := by decide +kernel
theorem dX12_hearingDay_29 : decode cX12_hearingDay 29 = .ok (.invokevirtual 61, 3) := by decide +kernel
theorem dX12_hearingDay_32 : decode cX12_hearingDay 32 = .ok (.ifCond .eq 5, 3) := by decide +kernel
theorem dX12_hearingDay_35 : decode cX12_hearingDay 35 = .ok (.iconst 0, 1) := by decide +kernel
theorem dX12_hearingDay_36 : decode cX12_hearingDay 36 = .ok (.ireturn, 1) := by decide +kernel
theorem dX12_hearingDay_37 : decode cX12_hearingDay 37 = .ok (.iconst 0, 1) := by decide +kernel
theorem dX12_hearingDay_38 : decode cX12_hearingDay 38 = .ok (.istore 4, 2) := by decide +kernel
theorem dX12_hearingDay_40 : decode cX12_hearingDay 40 = .ok (.aload_n 0, 1) := by decide +kernel
theorem dX12_hearingDay_41 : decode cX12_hearingDay 41 = .ok (.iload_n 3, 1) := by decide +kernel
theorem dX12_hearingDay_42 : decode cX12_hearingDay 42 = .ok (.iload 4, 2) := by decide +kernel
theorem dX12_hearingDay_44 : decode cX12_hearingDay 44 = .ok (.invokevirtual 122, 3) := by decide +kernel
theorem dX12_hearingDay_47 : decode cX12_hearingDay 47 = .ok (.iload_n 2, 1) := by decide +kernel
theorem dX12_hearingDay_48 : decode cX12_hearingDay 48 = .ok (.if_icmp .eq 9, 3) := by decide +kernel
theorem dX12_hearingDay_51 : decode cX12_hearingDay 51 = .ok (.iinc 4 1, 3) := by decide +kernel
theorem dX12_hearingDay_54 : decode cX12_hearingDay 54 = .ok (.goto (-14), 3) := by decide +kernel
theorem dX12_hearingDay_57 : decode cX12_hearingDay 57 = .ok (.aload_n 0, 1) := by decide +kernel
theorem dX12_hearingDay_58 : decode cX12_hearingDay 58 = .ok (.getfield 7, 3) := by decide +kernel
theorem dX12_hearingDay_61 : decode cX12_hearingDay 61 = .ok (.iconst 1, 1) := by decide +kernel
theorem dX12_hearingDay_62 : decode cX12_hearingDay 62 = .ok (.iaload, 1) := by decide +kernel
theorem dX12_hearingDay_63 : decode cX12_hearingDay 63 = .ok (.iconst 1, 1) := by decide +kernel
theorem dX12_hearingDay_64 : decode cX12_hearingDay 64 = .ok (.iadd, 1) := by decide +kernel
theorem dX12_hearingDay_65 : decode cX12_hearingDay 65 = .ok (.iload 4, 2) := by decide +kernel
theorem dX12_hearingDay_67 : decode cX12_hearingDay 67 = .ok (.iadd, 1) := by decide +kernel
theorem dX12_hearingDay_68 : decode cX12_hearingDay 68 = .ok (.ireturn, 1) := by decide +kernel
theorem dX12_planFee_0 : decode cX12_planFee 0 = .ok (.aload_n 0, 1) := by decide +kernel
theorem dX12_planFee_1 : decode cX12_planFee 1 = .ok (.iconst 0, 1) := by decide +kernel
theorem dX12_planFee_2 : decode cX12_planFee 2 = .ok (.putfield 39, 3) := by decide +kernel
theorem dX12_planFee_5 : decode cX12_planFee 5 = .ok (.aload_n 0, 1) := by decide +kernel
theorem dX12_planFee_6 : decode cX12_planFee 6 = .ok (.aload_n 0, 1) := by decide +kernel
theorem dX12_planFee_7 : decode cX12_planFee 7 = .ok (.invokevirtual 118, 3) := by decide +kernel
theorem dX12_planFee_10 : decode cX12_planFee 10 = .ok (.invokevirtual 143, 3) := by decide +kernel
theorem dX12_planFee_13 : decode cX12_planFee 13 = .ok (.ireturn, 1) := by decide +kernel
theorem dX12_planFeeBySets_0 : decode cX12_planFeeBySets 0 = .ok (.aload_n 0, 1) := by decide +kernel
theorem dX12_planFeeBySets_1 : decode cX12_planFeeBySets 1 = .ok (.iconst 0, 1) := by decide +kernel
theorem dX12_planFeeBySets_2 : decode cX12_planFeeBySets 2 = .ok (.putfield 39, 3) := by decide +kernel
theorem dX12_planFeeBySets_5 : decode cX12_planFeeBySets 5 = .ok (.aload_n 0, 1) := by decide +kernel
theorem dX12_planFeeBySets_6 : decode cX12_planFeeBySets 6 = .ok (.aload_n 0, 1) := by decide +kernel
theorem dX12_planFeeBySets_7 : decode cX12_planFeeBySets 7 = .ok (.invokevirtual 118, 3) := by decide +kernel
theorem dX12_planFeeBySets_10 : decode cX12_planFeeBySets 10 = .ok (.invokevirtual 143, 3) := by decide +kernel
theorem dX12_planFeeBySets_13 : decode cX12_planFeeBySets 13 = .ok (.ireturn, 1) := by decide +kernel
theorem dX12_statementCount_0 : decode cX12_statementCount 0 = .ok (.aload_n 0, 1) := by decide +kernel
theorem dX12_statementCount_1 : decode cX12_statementCount 1 = .ok (.iconst 0, 1) := by decide +kernel
theorem dX12_statementCount_2 : decode cX12_statementCount 2 = .ok (.putfield 39, 3) := by decide +kernel
theorem dX12_statementCount_5 : decode cX12_statementCount 5 = .ok (.aload_n 0, 1) := by decide +kernel
theorem dX12_statementCount_6 : decode cX12_statementCount 6 = .ok (.getfield 7, 3) := by decide +kernel
theorem dX12_statementCount_9 : decode cX12_statementCount 9 = .ok (.iconst 4, 1) := by decide +kernel
theorem dX12_statementCount_10 : decode cX12_statementCount 10 = .ok (.iaload, 1) := by decide +kernel
theorem dX12_statementCount_11 : decode cX12_statementCount 11 = .ok (.ireturn, 1) := by decide +kernel
theorem dX12_firstOf_0 : decode cX12_firstOf 0 = .ok (.aload_n 0, 1) := by decide +kernel
theorem dX12_firstOf_1 : decode cX12_firstOf 1 = .ok (.aload_n 0, 1) := by decide +kernel
theorem dX12_firstOf_2 : decode cX12_firstOf 2 = .ok (.iload_n 1, 1) := by decide +kernel
theorem dX12_firstOf_3 : decode cX12_firstOf 3 = .ok (.invokevirtual 84, 3) := by decide +kernel
theorem dX12_firstOf_6 : decode cX12_firstOf 6 = .ok (.ifCond .eq 7, 3) := by decide +kernel
theorem dX12_firstOf_9 : decode cX12_firstOf 9 = .ok (.iconst 0, 1) := by decide +kernel
theorem dX12_firstOf_10 : decode cX12_firstOf 10 = .ok (.goto 4, 3) := by decide +kernel
theorem dX12_firstOf_13 : decode cX12_firstOf 13 = .ok (.iconst 1, 1) := by decide +kernel
theorem dX12_firstOf_14 : decode cX12_firstOf 14 = .ok (.invokevirtual 61, 3) := by decide +kernel
theorem dX12_firstOf_17 : decode cX12_firstOf 17 = .ok (.ifCond .eq 7, 3) := by decide +kernel
theorem dX12_firstOf_20 : decode cX12_firstOf 20 = .ok (.iconst 0, 1) := by decide +kernel
theorem dX12_firstOf_21 : decode cX12_firstOf 21 = .ok (.goto 9, 3) := by decide +kernel
theorem dX12_firstOf_24 : decode cX12_firstOf 24 = .ok (.aload_n 0, 1) := by decide +kernel
theorem dX12_firstOf_25 : decode cX12_firstOf 25 = .ok (.iload_n 1, 1) := by decide +kernel
theorem dX12_firstOf_26 : decode cX12_firstOf 26 = .ok (.iconst 0, 1) := by decide +kernel
theorem dX12_firstOf_27 : decode cX12_firstOf 27 = .ok (.invokevirtual 97, 3) := by decide +kernel
theorem dX12_firstOf_30 : decode cX12_firstOf 30 = .ok (.ireturn, 1) := by decide +kernel
theorem dX12_secondOf_0 : decode cX12_secondOf 0 = .ok (.aload_n 0, 1) := by decide +kernel
theorem dX12_secondOf_1 : decode cX12_secondOf 1 = .ok (.aload_n 0, 1) := by decide +kernel
theorem dX12_secondOf_2 : decode cX12_secondOf 2 = .ok (.iload_n 1, 1) := by decide +kernel
theorem dX12_secondOf_3 : decode cX12_secondOf 3 = .ok (.invokevirtual 84, 3) := by decide +kernel
theorem dX12_secondOf_6 : decode cX12_secondOf 6 = .ok (.ifCond .eq 7, 3) := by decide +kernel
theorem dX12_secondOf_9 : decode cX12_secondOf 9 = .ok (.iconst 0, 1) := by decide +kernel
theorem dX12_secondOf_10 : decode cX12_secondOf 10 = .ok (.goto 4, 3) := by decide +kernel
theorem dX12_secondOf_13 : decode cX12_secondOf 13 = .ok (.iconst 1, 1) := by decide +kernel
theorem dX12_secondOf_14 : decode cX12_secondOf 14 = .ok (.invokevirtual 61, 3) := by decide +kernel
theorem dX12_secondOf_17 : decode cX12_secondOf 17 = .ok (.ifCond .eq 7, 3) := by decide +kernel
theorem dX12_secondOf_20 : decode cX12_secondOf 20 = .ok (.iconst 0, 1) := by decide +kernel
theorem dX12_secondOf_21 : decode cX12_secondOf 21 = .ok (.goto 9, 3) := by decide +kernel
theorem dX12_secondOf_24 : decode cX12_secondOf 24 = .ok (.aload_n 0, 1) := by decide +kernel
theorem dX12_secondOf_25 : decode cX12_secondOf 25 = .ok (.iload_n 1, 1) := by decide +kernel
theorem dX12_secondOf_26 : decode cX12_secondOf 26 = .ok (.iconst 1, 1) := by decide +kernel
theorem dX12_secondOf_27 : decode cX12_secondOf 27 = .ok (.invokevirtual 97, 3) := by decide +kernel
theorem dX12_secondOf_30 : decode cX12_secondOf 30 = .ok (.ireturn, 1) := by decide +kernel
theorem dX12_isTogether_0 : decode cX12_isTogether 0 = .ok (.aload_n 0, 1) := by decide +kernel
theorem dX12_isTogether_1 : decode cX12_isTogether 1 = .ok (.aload_n 0, 1) := by decide +kernel
theorem dX12_isTogether_2 : decode cX12_isTogether 2 = .ok (.iload_n 1, 1) := by decide +kernel
theorem dX12_isTogether_3 : decode cX12_isTogether 3 = .ok (.invokevirtual 84, 3) := by decide +kernel
theorem dX12_isTogether_6 : decode cX12_isTogether 6 = .ok (.ifCond .eq 7, 3) := by decide +kernel
theorem dX12_isTogether_9 : decode cX12_isTogether 9 = .ok (.iconst 0, 1) := by decide +kernel
theorem dX12_isTogether_10 : decode cX12_isTogether 10 = .ok (.goto 4, 3) := by decide +kernel
theorem dX12_isTogether_13 : decode cX12_isTogether 13 = .ok (.iconst 1, 1) := by decide +kernel
theorem dX12_isTogether_14 : decode cX12_isTogether 14 = .ok (.invokevirtual 61, 3) := by decide +kernel
theorem dX12_isTogether_17 : decode cX12_isTogether 17 = .ok (.ifCond .ne 17, 3) := by decide +kernel
theorem dX12_isTogether_20 : decode cX12_isTogether 20 = .ok (.aload_n 0, 1) := by decide +kernel
theorem dX12_isTogether_21 : decode cX12_isTogether 21 = .ok (.iload_n 1, 1) := by decide +kernel
theorem dX12_isTogether_22 : decode cX12_isTogether 22 = .ok (.iconst 2, 1) := by decide +kernel
theorem dX12_isTogether_23 : decode cX12_isTogether 23 = .ok (.invokevirtual 97, 3) := by decide +kernel
theorem dX12_isTogether_26 : decode cX12_isTogether 26 = .ok (.iconst 1, 1) := by decide +kernel
theorem dX12_isTogether_27 : decode cX12_isTogether 27 = .ok (.if_icmp .ne 7, 3) := by decide +kernel
theorem dX12_isTogether_30 : decode cX12_isTogether 30 = .ok (.iconst 1, 1) := by decide +kernel
theorem dX12_isTogether_31 : decode cX12_isTogether 31 = .ok (.goto 4, 3) := by decide +kernel
theorem dX12_isTogether_34 : decode cX12_isTogether 34 = .ok (.iconst 0, 1) := by decide +kernel
theorem dX12_isTogether_35 : decode cX12_isTogether 35 = .ok (.ireturn, 1) := by decide +kernel
theorem dX12_groupCount_0 : decode cX12_groupCount 0 = .ok (.aload_n 0, 1) := by decide +kernel
theorem dX12_groupCount_1 : decode cX12_groupCount 1 = .ok (.iconst 0, 1) := by decide +kernel
theorem dX12_groupCount_2 : decode cX12_groupCount 2 = .ok (.putfield 39, 3) := by decide +kernel
theorem dX12_groupCount_5 : decode cX12_groupCount 5 = .ok (.iconst 0, 1) := by decide +kernel
theorem dX12_groupCount_6 : decode cX12_groupCount 6 = .ok (.istore_n 1, 1) := by decide +kernel
theorem dX12_groupCount_7 : decode cX12_groupCount 7 = .ok (.iconst 0, 1) := by decide +kernel
theorem dX12_groupCount_8 : decode cX12_groupCount 8 = .ok (.istore_n 2, 1) := by decide +kernel
theorem dX12_groupCount_9 : decode cX12_groupCount 9 = .ok (.iload_n 2, 1) := by decide +kernel
theorem dX12_groupCount_10 : decode cX12_groupCount 10 = .ok (.aload_n 0, 1) := by decide +kernel
theorem dX12_groupCount_11 : decode cX12_groupCount 11 = .ok (.getfield 7, 3) := by decide +kernel
theorem dX12_groupCount_14 : decode cX12_groupCount 14 = .ok (.iconst 0, 1) := by decide +kernel
theorem dX12_groupCount_15 : decode cX12_groupCount 15 = .ok (.iaload, 1) := by decide +kernel
theorem dX12_groupCount_16 : decode cX12_groupCount 16 = .ok (.if_icmp .ge 31, 3) := by decide +kernel
theorem dX12_groupCount_19 : decode cX12_groupCount 19 = .ok (.iload_n 1, 1) := by decide +kernel
theorem dX12_groupCount_20 : decode cX12_groupCount 20 = .ok (.aload_n 0, 1) := by decide +kernel
theorem dX12_groupCount_21 : decode cX12_groupCount 21 = .ok (.iload_n 2, 1) := by decide +kernel
theorem dX12_groupCount_22 : decode cX12_groupCount 22 = .ok (.invokevirtual 103, 3) := by decide +kernel
theorem dX12_groupCount_25 : decode cX12_groupCount 25 = .ok (.iconst 1, 1) := by decide +kernel
theorem dX12_groupCount_26 : decode cX12_groupCount 26 = .ok (.iload_n 2, 1) := by decide +kernel
theorem dX12_groupCount_27 : decode cX12_groupCount 27 = .ok (.ishl, 1) := by decide +kernel
theorem dX12_groupCount_28 : decode cX12_groupCount 28 = .ok (.iconst 1, 1) := by decide +kernel
theorem dX12_groupCount_29 : decode cX12_groupCount 29 = .ok (.isub, 1) := by decide +kernel
theorem dX12_groupCount_30 : decode cX12_groupCount 30 = .ok (.iand, 1) := by decide +kernel
theorem dX12_groupCount_31 : decode cX12_groupCount 31 = .ok (.ifCond .ne 7, 3) := by decide +kernel
theorem dX12_groupCount_34 : decode cX12_groupCount 34 = .ok (.iconst 1, 1) := by decide +kernel
theorem dX12_groupCount_35 : decode cX12_groupCount 35 = .ok (.goto 4, 3) := by decide +kernel
theorem dX12_groupCount_38 : decode cX12_groupCount 38 = .ok (.iconst 0, 1) := by decide +kernel
theorem dX12_groupCount_39 : decode cX12_groupCount 39 = .ok (.iadd, 1) := by decide +kernel
theorem dX12_groupCount_40 : decode cX12_groupCount 40 = .ok (.istore_n 1, 1) := by decide +kernel
theorem dX12_groupCount_41 : decode cX12_groupCount 41 = .ok (.iinc 2 1, 3) := by decide +kernel
theorem dX12_groupCount_44 : decode cX12_groupCount 44 = .ok (.goto (-35), 3) := by decide +kernel
theorem dX12_groupCount_47 : decode cX12_groupCount 47 = .ok (.iload_n 1, 1) := by decide +kernel
theorem dX12_groupCount_48 : decode cX12_groupCount 48 = .ok (.ireturn, 1) := by decide +kernel
theorem dX12_isContradictory_0 : decode cX12_isContradictory 0 = .ok (.aload_n 0, 1) := by decide +kernel
theorem dX12_isContradictory_1 : decode cX12_isContradictory 1 = .ok (.iload_n 1, 1) := by decide +kernel
theorem dX12_isContradictory_2 : decode cX12_isContradictory 2 = .ok (.invokevirtual 134, 3) := by decide +kernel
theorem dX12_isContradictory_5 : decode cX12_isContradictory 5 = .ok (.ifCond .ne 16, 3) := by decide +kernel
theorem dX12_isContradictory_8 : decode cX12_isContradictory 8 = .ok (.aload_n 0, 1) := by decide +kernel
theorem dX12_isContradictory_9 : decode cX12_isContradictory 9 = .ok (.iload_n 1, 1) := by decide +kernel
theorem dX12_isContradictory_10 : decode cX12_isContradictory 10 = .ok (.invokevirtual 112, 3) := by decide +kernel
theorem dX12_isContradictory_13 : decode cX12_isContradictory 13 = .ok (.iconst 3, 1) := by decide +kernel
theorem dX12_isContradictory_14 : decode cX12_isContradictory 14 = .ok (.if_icmp .ne 7, 3) := by decide +kernel
theorem dX12_isContradictory_17 : decode cX12_isContradictory 17 = .ok (.iconst 1, 1) := by decide +kernel
theorem dX12_isContradictory_18 : decode cX12_isContradictory 18 = .ok (.goto 4, 3) := by decide +kernel
theorem dX12_isContradictory_21 : decode cX12_isContradictory 21 = .ok (.iconst 0, 1) := by decide +kernel
theorem dX12_isContradictory_22 : decode cX12_isContradictory 22 = .ok (.ireturn, 1) := by decide +kernel
theorem dX12_relation_0 : decode cX12_relation 0 = .ok (.aload_n 0, 1) := by decide +kernel
theorem dX12_relation_1 : decode cX12_relation 1 = .ok (.aload_n 0, 1) := by decide +kernel
theorem dX12_relation_2 : decode cX12_relation 2 = .ok (.iload_n 1, 1) := by decide +kernel
theorem dX12_relation_3 : decode cX12_relation 3 = .ok (.invokevirtual 57, 3) := by decide +kernel
theorem dX12_relation_6 : decode cX12_relation 6 = .ok (.ifCond .eq 15, 3) := by decide +kernel
theorem dX12_relation_9 : decode cX12_relation 9 = .ok (.aload_n 0, 1) := by decide +kernel
theorem dX12_relation_10 : decode cX12_relation 10 = .ok (.iload_n 2, 1) := by decide +kernel
theorem dX12_relation_11 : decode cX12_relation 11 = .ok (.invokevirtual 57, 3) := by decide +kernel
theorem dX12_relation_14 : decode cX12_relation 14 = .ok (.ifCond .eq 7, 3) := by decide +kernel
theorem dX12_relation_17 : decode cX12_relation 17 = .ok (.iconst 0, 1) := by decide +kernel
theorem dX12_relation_18 : decode cX12_relation 18 = .ok (.goto 4, 3) := by decide +kernel
theorem dX12_relation_21 : decode cX12_relation 21 = .ok (.iconst 1, 1) := by decide +kernel
theorem dX12_relation_22 : decode cX12_relation 22 = .ok (.invokevirtual 61, 3) := by decide +kernel
theorem dX12_relation_25 : decode cX12_relation 25 = .ok (.ifCond .eq 6, 3) := by decide +kernel
theorem dX12_relation_28 : decode cX12_relation 28 = .ok (.bipush 32, 2) := by decide +kernel
theorem dX12_relation_30 : decode cX12_relation 30 = .ok (.ireturn, 1) := by decide +kernel
theorem dX12_relation_31 : decode cX12_relation 31 = .ok (.aload_n 0, 1) := by decide +kernel
theorem dX12_relation_32 : decode cX12_relation 32 = .ok (.iload_n 1, 1) := by decide +kernel
theorem dX12_relation_33 : decode cX12_relation 33 = .ok (.invokevirtual 103, 3) := by decide +kernel
theorem dX12_relation_36 : decode cX12_relation 36 = .ok (.istore_n 3, 1) := by decide +kernel
theorem dX12_relation_37 : decode cX12_relation 37 = .ok (.iload_n 3, 1) := by decide +kernel
theorem dX12_relation_38 : decode cX12_relation 38 = .ok (.iload_n 2, 1) := by decide +kernel
theorem dX12_relation_39 : decode cX12_relation 39 = .ok (.ishr, 1) := by decide +kernel
theorem dX12_relation_40 : decode cX12_relation 40 = .ok (.iconst 1, 1) := by decide +kernel
theorem dX12_relation_41 : decode cX12_relation 41 = .ok (.iand, 1) := by decide +kernel
theorem dX12_relation_42 : decode cX12_relation 42 = .ok (.ifCond .ne 6, 3) := by decide +kernel
theorem dX12_relation_45 : decode cX12_relation 45 = .ok (.bipush 63, 2) := by decide +kernel
theorem dX12_relation_47 : decode cX12_relation 47 = .ok (.ireturn, 1) := by decide +kernel
theorem dX12_relation_48 : decode cX12_relation 48 = .ok (.iconst 0, 1) := by decide +kernel
theorem dX12_relation_49 : decode cX12_relation 49 = .ok (.istore 4, 2) := by decide +kernel
theorem dX12_relation_51 : decode cX12_relation 51 = .ok (.iload 4, 2) := by decide +kernel
theorem dX12_relation_53 : decode cX12_relation 53 = .ok (.iconst 1, 1) := by decide +kernel
theorem dX12_relation_54 : decode cX12_relation 54 = .ok (.aload_n 0, 1) := by decide +kernel
theorem dX12_relation_55 : decode cX12_relation 55 = .ok (.getfield 7, 3) := by decide +kernel
theorem dX12_relation_58 : decode cX12_relation 58 = .ok (.iconst 0, 1) := by decide +kernel
theorem dX12_relation_59 : decode cX12_relation 59 = .ok (.iaload, 1) := by decide +kernel
theorem dX12_relation_60 : decode cX12_relation 60 = .ok (.ishl, 1) := by decide +kernel
theorem dX12_relation_61 : decode cX12_relation 61 = .ok (.if_icmp .ge 51, 3) := by decide +kernel
theorem dX12_relation_64 : decode cX12_relation 64 = .ok (.iload 4, 2) := by decide +kernel
theorem dX12_relation_66 : decode cX12_relation 66 = .ok (.iload_n 3, 1) := by decide +kernel
theorem dX12_relation_67 : decode cX12_relation 67 = .ok (.iconst (-1), 1) := by decide +kernel
theorem dX12_relation_68 : decode cX12_relation 68 = .ok (.ixor, 1) := by decide +kernel
theorem dX12_relation_69 : decode cX12_relation 69 = .ok (.iand, 1) := by decide +kernel
theorem dX12_relation_70 : decode cX12_relation 70 = .ok (.ifCond .ne 36, 3) := by decide +kernel
theorem dX12_relation_73 : decode cX12_relation 73 = .ok (.aload_n 0, 1) := by decide +kernel
theorem dX12_relation_74 : decode cX12_relation 74 = .ok (.iload_n 3, 1) := by decide +kernel
theorem dX12_relation_75 : decode cX12_relation 75 = .ok (.iload 4, 2) := by decide +kernel
theorem dX12_relation_77 : decode cX12_relation 77 = .ok (.invokevirtual 106, 3) := by decide +kernel
theorem dX12_relation_80 : decode cX12_relation 80 = .ok (.ifCond .eq 26, 3) := by decide +kernel
theorem dX12_relation_83 : decode cX12_relation 83 = .ok (.iload 4, 2) := by decide +kernel
theorem dX12_relation_85 : decode cX12_relation 85 = .ok (.iload_n 1, 1) := by decide +kernel
theorem dX12_relation_86 : decode cX12_relation 86 = .ok (.ishr, 1) := by decide +kernel
theorem dX12_relation_87 : decode cX12_relation 87 = .ok (.iconst 1, 1) := by decide +kernel
theorem dX12_relation_88 : decode cX12_relation 88 = .ok (.iand, 1) := by decide +kernel
theorem dX12_relation_89 : decode cX12_relation 89 = .ok (.iload 4, 2) := by decide +kernel
theorem dX12_relation_91 : decode cX12_relation 91 = .ok (.iload_n 2, 1) := by decide +kernel
theorem dX12_relation_92 : decode cX12_relation 92 = .ok (.ishr, 1) := by decide +kernel
theorem dX12_relation_93 : decode cX12_relation 93 = .ok (.iconst 1, 1) := by decide +kernel
theorem dX12_relation_94 : decode cX12_relation 94 = .ok (.iand, 1) := by decide +kernel
theorem dX12_relation_95 : decode cX12_relation 95 = .ok (.if_icmp .ne 8, 3) := by decide +kernel
theorem dX12_relation_98 : decode cX12_relation 98 = .ok (.bipush 43, 2) := by decide +kernel
theorem dX12_relation_100 : decode cX12_relation 100 = .ok (.goto 5, 3) := by decide +kernel
theorem dX12_relation_103 : decode cX12_relation 103 = .ok (.bipush 45, 2) := by decide +kernel
theorem dX12_relation_105 : decode cX12_relation 105 = .ok (.ireturn, 1) := by decide +kernel
theorem dX12_relation_106 : decode cX12_relation 106 = .ok (.iinc 4 1, 3) := by decide +kernel
theorem dX12_relation_109 : decode cX12_relation 109 = .ok (.goto (-58), 3) := by decide +kernel
theorem dX12_relation_112 : decode cX12_relation 112 = .ok (.aload_n 0, 1) := by decide +kernel
theorem dX12_relation_113 : decode cX12_relation 113 = .ok (.iconst 2, 1) := by decide +kernel
theorem dX12_relation_114 : decode cX12_relation 114 = .ok (.putfield 39, 3) := by decide +kernel
theorem dX12_relation_117 : decode cX12_relation 117 = .ok (.bipush 32, 2) := by decide +kernel
theorem dX12_relation_119 : decode cX12_relation 119 = .ok (.ireturn, 1) := by decide +kernel
theorem dX12_verdictOf_0 : decode cX12_verdictOf 0 = .ok (.aload_n 0, 1) := by decide +kernel
theorem dX12_verdictOf_1 : decode cX12_verdictOf 1 = .ok (.iload_n 1, 1) := by decide +kernel
theorem dX12_verdictOf_2 : decode cX12_verdictOf 2 = .ok (.invokevirtual 134, 3) := by decide +kernel
theorem dX12_verdictOf_5 : decode cX12_verdictOf 5 = .ok (.ifCond .eq 8, 3) := by decide +kernel
theorem dX12_verdictOf_8 : decode cX12_verdictOf 8 = .ok (.bipush 32, 2) := by decide +kernel
theorem dX12_verdictOf_10 : decode cX12_verdictOf 10 = .ok (.goto 13, 3) := by decide +kernel
theorem dX12_verdictOf_13 : decode cX12_verdictOf 13 = .ok (.ldc 146, 2) := by decide +kernel
theorem dX12_verdictOf_15 : decode cX12_verdictOf 15 = .ok (.aload_n 0, 1) := by decide +kernel
theorem dX12_verdictOf_16 : decode cX12_verdictOf 16 = .ok (.iload_n 1, 1) := by decide +kernel
theorem dX12_verdictOf_17 : decode cX12_verdictOf 17 = .ok (.invokevirtual 112, 3) := by decide +kernel
theorem dX12_verdictOf_20 : decode cX12_verdictOf 20 = .ok (.invokevirtual 148, 3) := by decide +kernel
theorem dX12_verdictOf_23 : decode cX12_verdictOf 23 = .ok (.ireturn, 1) := by decide +kernel
theorem dX12_verdict_0 : decode cX12_verdict 0 = .ok (.aload_n 0, 1) := by decide +kernel
theorem dX12_verdict_1 : decode cX12_verdict 1 = .ok (.iload_n 1, 1) := by decide +kernel
theorem dX12_verdict_2 : decode cX12_verdict 2 = .ok (.invokevirtual 154, 3) := by decide +kernel
theorem dX12_verdict_5 : decode cX12_verdict 5 = .ok (.ireturn, 1) := by decide +kernel
theorem dX12_verdictByExplanations_0 : decode cX12_verdictByExplanations 0 = .ok (.aload_n 0, 1) := by decide +kernel
theorem dX12_verdictByExplanations_1 : decode cX12_verdictByExplanations 1 = .ok (.iload_n 1, 1) := by decide +kernel
theorem dX12_verdictByExplanations_2 : decode cX12_verdictByExplanations 2 = .ok (.invokevirtual 154, 3) := by decide +kernel
theorem dX12_verdictByExplanations_5 : decode cX12_verdictByExplanations 5 = .ok (.ireturn, 1) := by decide +kernel
theorem dX12_ways_0 : decode cX12_ways 0 = .ok (.iconst 1, 1) := by decide +kernel
theorem dX12_ways_1 : decode cX12_ways 1 = .ok (.aload_n 0, 1) := by decide +kernel
theorem dX12_ways_2 : decode cX12_ways 2 = .ok (.getfield 7, 3) := by decide +kernel
theorem dX12_ways_5 : decode cX12_ways 5 = .ok (.iconst 0, 1) := by decide +kernel
theorem dX12_ways_6 : decode cX12_ways 6 = .ok (.iaload, 1) := by decide +kernel
theorem dX12_ways_7 : decode cX12_ways 7 = .ok (.ishl, 1) := by decide +kernel
theorem dX12_ways_8 : decode cX12_ways 8 = .ok (.iconst 1, 1) := by decide +kernel
theorem dX12_ways_9 : decode cX12_ways 9 = .ok (.isub, 1) := by decide +kernel
theorem dX12_ways_10 : decode cX12_ways 10 = .ok (.istore_n 1, 1) := by decide +kernel
theorem dX12_ways_11 : decode cX12_ways 11 = .ok (.iconst 0, 1) := by decide +kernel
theorem dX12_ways_12 : decode cX12_ways 12 = .ok (.istore_n 2, 1) := by decide +kernel
theorem dX12_ways_13 : decode cX12_ways 13 = .ok (.iconst 0, 1) := by decide +kernel
theorem dX12_ways_14 : decode cX12_ways 14 = .ok (.istore_n 3, 1) := by decide +kernel
theorem dX12_ways_15 : decode cX12_ways 15 = .ok (.iload_n 3, 1) := by decide +kernel
theorem dX12_ways_16 : decode cX12_ways 16 = .ok (.iload_n 1, 1) := by decide +kernel
theorem dX12_ways_17 : decode cX12_ways 17 = .ok (.if_icmp .gt 35, 3) := by decide +kernel
theorem dX12_ways_20 : decode cX12_ways 20 = .ok (.iload_n 2, 1) := by decide +kernel
theorem dX12_ways_21 : decode cX12_ways 21 = .ok (.aload_n 0, 1) := by decide +kernel
theorem dX12_ways_22 : decode cX12_ways 22 = .ok (.iload_n 1, 1) := by decide +kernel
theorem dX12_ways_23 : decode cX12_ways 23 = .ok (.iload_n 3, 1) := by decide +kernel
theorem dX12_ways_24 : decode cX12_ways 24 = .ok (.invokevirtual 106, 3) := by decide +kernel
theorem dX12_ways_27 : decode cX12_ways 27 = .ok (.ifCond .eq 16, 3) := by decide +kernel
theorem dX12_ways_30 : decode cX12_ways 30 = .ok (.aload_n 0, 1) := by decide +kernel
theorem dX12_ways_31 : decode cX12_ways 31 = .ok (.iload_n 1, 1) := by decide +kernel
theorem dX12_ways_32 : decode cX12_ways 32 = .ok (.iload_n 3, 1) := by decide +kernel
theorem dX12_ways_33 : decode cX12_ways 33 = .ok (.invokevirtual 109, 3) := by decide +kernel
theorem dX12_ways_36 : decode cX12_ways 36 = .ok (.ifCond .eq 7, 3) := by decide +kernel
theorem dX12_ways_39 : decode cX12_ways 39 = .ok (.iconst 1, 1) := by decide +kernel
theorem dX12_ways_40 : decode cX12_ways 40 = .ok (.goto 4, 3) := by decide +kernel
theorem dX12_ways_43 : decode cX12_ways 43 = .ok (.iconst 0, 1) := by decide +kernel
theorem dX12_ways_44 : decode cX12_ways 44 = .ok (.iadd, 1) := by decide +kernel
theorem dX12_ways_45 : decode cX12_ways 45 = .ok (.istore_n 2, 1) := by decide +kernel
theorem dX12_ways_46 : decode cX12_ways 46 = .ok (.iinc 3 1, 3) := by decide +kernel
theorem dX12_ways_49 : decode cX12_ways 49 = .ok (.goto (-34), 3) := by decide +kernel
theorem dX12_ways_52 : decode cX12_ways 52 = .ok (.iload_n 2, 1) := by decide +kernel
theorem dX12_ways_53 : decode cX12_ways 53 = .ok (.ireturn, 1) := by decide +kernel
theorem dX12_explanations_0 : decode cX12_explanations 0 = .ok (.aload_n 0, 1) := by decide +kernel
theorem dX12_explanations_1 : decode cX12_explanations 1 = .ok (.iconst 0, 1) := by decide +kernel
theorem dX12_explanations_2 : decode cX12_explanations 2 = .ok (.putfield 39, 3) := by decide +kernel
theorem dX12_explanations_5 : decode cX12_explanations 5 = .ok (.aload_n 0, 1) := by decide +kernel
theorem dX12_explanations_6 : decode cX12_explanations 6 = .ok (.invokevirtual 157, 3) := by decide +kernel
theorem dX12_explanations_9 : decode cX12_explanations 9 = .ok (.ireturn, 1) := by decide +kernel
theorem dX12_explanationsByTrial_0 : decode cX12_explanationsByTrial 0 = .ok (.aload_n 0, 1) := by decide +kernel
theorem dX12_explanationsByTrial_1 : decode cX12_explanationsByTrial 1 = .ok (.iconst 0, 1) := by decide +kernel
theorem dX12_explanationsByTrial_2 : decode cX12_explanationsByTrial 2 = .ok (.putfield 39, 3) := by decide +kernel
theorem dX12_explanationsByTrial_5 : decode cX12_explanationsByTrial 5 = .ok (.aload_n 0, 1) := by decide +kernel
theorem dX12_explanationsByTrial_6 : decode cX12_explanationsByTrial 6 = .ok (.invokevirtual 157, 3) := by decide +kernel
theorem dX12_explanationsByTrial_9 : decode cX12_explanationsByTrial 9 = .ok (.ireturn, 1) := by decide +kernel
theorem dX12_fewestFalse_0 : decode cX12_fewestFalse 0 = .ok (.iconst 1, 1) := by decide +kernel
theorem dX12_fewestFalse_1 : decode cX12_fewestFalse 1 = .ok (.aload_n 0, 1) := by decide +kernel
theorem dX12_fewestFalse_2 : decode cX12_fewestFalse 2 = .ok (.getfield 7, 3) := by decide +kernel
theorem dX12_fewestFalse_5 : decode cX12_fewestFalse 5 = .ok (.iconst 0, 1) := by decide +kernel
theorem dX12_fewestFalse_6 : decode cX12_fewestFalse 6 = .ok (.iaload, 1) := by decide +kernel
theorem dX12_fewestFalse_7 : decode cX12_fewestFalse 7 = .ok (.ishl, 1) := by decide +kernel
theorem dX12_fewestFalse_8 : decode cX12_fewestFalse 8 = .ok (.iconst 1, 1) := by decide +kernel
theorem dX12_fewestFalse_9 : decode cX12_fewestFalse 9 = .ok (.isub, 1) := by decide +kernel
theorem dX12_fewestFalse_10 : decode cX12_fewestFalse 10 = .ok (.istore_n 1, 1) := by decide +kernel
theorem dX12_fewestFalse_11 : decode cX12_fewestFalse 11 = .ok (.bipush 12, 2) := by decide +kernel
theorem dX12_fewestFalse_13 : decode cX12_fewestFalse 13 = .ok (.istore_n 2, 1) := by decide +kernel
theorem dX12_fewestFalse_14 : decode cX12_fewestFalse 14 = .ok (.iconst 0, 1) := by decide +kernel
theorem dX12_fewestFalse_15 : decode cX12_fewestFalse 15 = .ok (.istore_n 3, 1) := by decide +kernel
theorem dX12_fewestFalse_16 : decode cX12_fewestFalse 16 = .ok (.iload_n 3, 1) := by decide +kernel
theorem dX12_fewestFalse_17 : decode cX12_fewestFalse 17 = .ok (.iload_n 1, 1) := by decide +kernel
theorem dX12_fewestFalse_18 : decode cX12_fewestFalse 18 = .ok (.if_icmp .gt 73, 3) := by decide +kernel
theorem dX12_fewestFalse_21 : decode cX12_fewestFalse 21 = .ok (.aload_n 0, 1) := by decide +kernel
theorem dX12_fewestFalse_22 : decode cX12_fewestFalse 22 = .ok (.iload_n 1, 1) := by decide +kernel
theorem dX12_fewestFalse_23 : decode cX12_fewestFalse 23 = .ok (.iload_n 3, 1) := by decide +kernel
theorem dX12_fewestFalse_24 : decode cX12_fewestFalse 24 = .ok (.invokevirtual 109, 3) := by decide +kernel
theorem dX12_fewestFalse_27 : decode cX12_fewestFalse 27 = .ok (.ifCond .ne 6, 3) := by decide +kernel
theorem dX12_fewestFalse_30 : decode cX12_fewestFalse 30 = .ok (.goto 55, 3) := by decide +kernel
theorem dX12_fewestFalse_33 : decode cX12_fewestFalse 33 = .ok (.iconst 0, 1) := by decide +kernel
theorem dX12_fewestFalse_34 : decode cX12_fewestFalse 34 = .ok (.istore 4, 2) := by decide +kernel
theorem dX12_fewestFalse_36 : decode cX12_fewestFalse 36 = .ok (.iconst 0, 1) := by decide +kernel
theorem dX12_fewestFalse_37 : decode cX12_fewestFalse 37 = .ok (.istore 5, 2) := by decide +kernel
theorem dX12_fewestFalse_39 : decode cX12_fewestFalse 39 = .ok (.iload 5, 2) := by decide +kernel
theorem dX12_fewestFalse_41 : decode cX12_fewestFalse 41 = .ok (.aload_n 0, 1) := by decide +kernel
theorem dX12_fewestFalse_42 : decode cX12_fewestFalse 42 = .ok (.getfield 7, 3) := by decide +kernel
theorem dX12_fewestFalse_45 : decode cX12_fewestFalse 45 = .ok (.iconst 4, 1) := by decide +kernel
theorem dX12_fewestFalse_46 : decode cX12_fewestFalse 46 = .ok (.iaload, 1) := by decide +kernel
theorem dX12_fewestFalse_47 : decode cX12_fewestFalse 47 = .ok (.if_icmp .ge 29, 3) := by decide +kernel
theorem dX12_fewestFalse_50 : decode cX12_fewestFalse 50 = .ok (.iload 4, 2) := by decide +kernel
theorem dX12_fewestFalse_52 : decode cX12_fewestFalse 52 = .ok (.aload_n 0, 1) := by decide +kernel
theorem dX12_fewestFalse_53 : decode cX12_fewestFalse 53 = .ok (.iload 5, 2) := by decide +kernel
theorem dX12_fewestFalse_55 : decode cX12_fewestFalse 55 = .ok (.iload_n 3, 1) := by decide +kernel
theorem dX12_fewestFalse_56 : decode cX12_fewestFalse 56 = .ok (.invokevirtual 100, 3) := by decide +kernel
theorem dX12_fewestFalse_59 : decode cX12_fewestFalse 59 = .ok (.ifCond .eq 7, 3) := by decide +kernel
theorem dX12_fewestFalse_62 : decode cX12_fewestFalse 62 = .ok (.iconst 0, 1) := by decide +kernel
theorem dX12_fewestFalse_63 : decode cX12_fewestFalse 63 = .ok (.goto 4, 3) := by decide +kernel
theorem dX12_fewestFalse_66 : decode cX12_fewestFalse 66 = .ok (.iconst 1, 1) := by decide +kernel
theorem dX12_fewestFalse_67 : decode cX12_fewestFalse 67 = .ok (.iadd, 1) := by decide +kernel
theorem dX12_fewestFalse_68 : decode cX12_fewestFalse 68 = .ok (.istore 4, 2) := by decide +kernel
theorem dX12_fewestFalse_70 : decode cX12_fewestFalse 70 = .ok (.iinc 5 1, 3) := by decide +kernel
theorem dX12_fewestFalse_73 : decode cX12_fewestFalse 73 = .ok (.goto (-34), 3) := by decide +kernel
theorem dX12_fewestFalse_76 : decode cX12_fewestFalse 76 = .ok (.iload 4, 2) := by decide +kernel
theorem dX12_fewestFalse_78 : decode cX12_fewestFalse 78 = .ok (.iload_n 2, 1) := by decide +kernel
theorem dX12_fewestFalse_79 : decode cX12_fewestFalse 79 = .ok (.if_icmp .ge 6, 3) := by decide +kernel
theorem dX12_fewestFalse_82 : decode cX12_fewestFalse 82 = .ok (.iload 4, 2) := by decide +kernel
theorem dX12_fewestFalse_84 : decode cX12_fewestFalse 84 = .ok (.istore_n 2, 1) := by decide +kernel
theorem dX12_fewestFalse_85 : decode cX12_fewestFalse 85 = .ok (.iinc 3 1, 3) := by decide +kernel
theorem dX12_fewestFalse_88 : decode cX12_fewestFalse 88 = .ok (.goto (-72), 3) := by decide +kernel
theorem dX12_fewestFalse_91 : decode cX12_fewestFalse 91 = .ok (.iload_n 2, 1) := by decide +kernel
theorem dX12_fewestFalse_92 : decode cX12_fewestFalse 92 = .ok (.ireturn, 1) := by decide +kernel
theorem dX12_leastFalse_0 : decode cX12_leastFalse 0 = .ok (.aload_n 0, 1) := by decide +kernel
theorem dX12_leastFalse_1 : decode cX12_leastFalse 1 = .ok (.iconst 0, 1) := by decide +kernel
theorem dX12_leastFalse_2 : decode cX12_leastFalse 2 = .ok (.putfield 39, 3) := by decide +kernel
theorem dX12_leastFalse_5 : decode cX12_leastFalse 5 = .ok (.aload_n 0, 1) := by decide +kernel
theorem dX12_leastFalse_6 : decode cX12_leastFalse 6 = .ok (.invokevirtual 160, 3) := by decide +kernel
theorem dX12_leastFalse_9 : decode cX12_leastFalse 9 = .ok (.ireturn, 1) := by decide +kernel
theorem dX12_leastFalseBySets_0 : decode cX12_leastFalseBySets 0 = .ok (.aload_n 0, 1) := by decide +kernel
theorem dX12_leastFalseBySets_1 : decode cX12_leastFalseBySets 1 = .ok (.iconst 0, 1) := by decide +kernel
theorem dX12_leastFalseBySets_2 : decode cX12_leastFalseBySets 2 = .ok (.putfield 39, 3) := by decide +kernel
theorem dX12_leastFalseBySets_5 : decode cX12_leastFalseBySets 5 = .ok (.aload_n 0, 1) := by decide +kernel
theorem dX12_leastFalseBySets_6 : decode cX12_leastFalseBySets 6 = .ok (.invokevirtual 160, 3) := by decide +kernel
theorem dX12_leastFalseBySets_9 : decode cX12_leastFalseBySets 9 = .ok (.ireturn, 1) := by decide +kernel
theorem dX12_isAhead_0 : decode cX12_isAhead 0 = .ok (.aload_n 0, 1) := by decide +kernel
theorem dX12_isAhead_1 : decode cX12_isAhead 1 = .ok (.iload_n 1, 1) := by decide +kernel
theorem dX12_isAhead_2 : decode cX12_isAhead 2 = .ok (.iconst 0, 1) := by decide +kernel
theorem dX12_isAhead_3 : decode cX12_isAhead 3 = .ok (.invokevirtual 87, 3) := by decide +kernel
theorem dX12_isAhead_6 : decode cX12_isAhead 6 = .ok (.aload_n 0, 1) := by decide +kernel
theorem dX12_isAhead_7 : decode cX12_isAhead 7 = .ok (.iload_n 2, 1) := by decide +kernel
theorem dX12_isAhead_8 : decode cX12_isAhead 8 = .ok (.iconst 0, 1) := by decide +kernel
theorem dX12_isAhead_9 : decode cX12_isAhead 9 = .ok (.invokevirtual 87, 3) := by decide +kernel
theorem dX12_isAhead_12 : decode cX12_isAhead 12 = .ok (.if_icmp .eq 24, 3) := by decide +kernel
theorem dX12_isAhead_15 : decode cX12_isAhead 15 = .ok (.aload_n 0, 1) := by decide +kernel
theorem dX12_isAhead_16 : decode cX12_isAhead 16 = .ok (.iload_n 1, 1) := by decide +kernel
theorem dX12_isAhead_17 : decode cX12_isAhead 17 = .ok (.iconst 0, 1) := by decide +kernel
theorem dX12_isAhead_18 : decode cX12_isAhead 18 = .ok (.invokevirtual 87, 3) := by decide +kernel
theorem dX12_isAhead_21 : decode cX12_isAhead 21 = .ok (.aload_n 0, 1) := by decide +kernel
theorem dX12_isAhead_22 : decode cX12_isAhead 22 = .ok (.iload_n 2, 1) := by decide +kernel
theorem dX12_isAhead_23 : decode cX12_isAhead 23 = .ok (.iconst 0, 1) := by decide +kernel
theorem dX12_isAhead_24 : decode cX12_isAhead 24 = .ok (.invokevirtual 87, 3) := by decide +kernel
theorem dX12_isAhead_27 : decode cX12_isAhead 27 = .ok (.if_icmp .ge 7, 3) := by decide +kernel
theorem dX12_isAhead_30 : decode cX12_isAhead 30 = .ok (.iconst 1, 1) := by decide +kernel
theorem dX12_isAhead_31 : decode cX12_isAhead 31 = .ok (.goto 4, 3) := by decide +kernel
theorem dX12_isAhead_34 : decode cX12_isAhead 34 = .ok (.iconst 0, 1) := by decide +kernel
theorem dX12_isAhead_35 : decode cX12_isAhead 35 = .ok (.ireturn, 1) := by decide +kernel
theorem dX12_isAhead_36 : decode cX12_isAhead 36 = .ok (.aload_n 0, 1) := by decide +kernel
theorem dX12_isAhead_37 : decode cX12_isAhead 37 = .ok (.iload_n 1, 1) := by decide +kernel
theorem dX12_isAhead_38 : decode cX12_isAhead 38 = .ok (.invokevirtual 137, 3) := by decide +kernel
theorem dX12_isAhead_41 : decode cX12_isAhead 41 = .ok (.aload_n 0, 1) := by decide +kernel
theorem dX12_isAhead_42 : decode cX12_isAhead 42 = .ok (.iload_n 2, 1) := by decide +kernel
theorem dX12_isAhead_43 : decode cX12_isAhead 43 = .ok (.invokevirtual 137, 3) := by decide +kernel
theorem dX12_isAhead_46 : decode cX12_isAhead 46 = .ok (.if_icmp .eq 24, 3) := by decide +kernel
theorem dX12_isAhead_49 : decode cX12_isAhead 49 = .ok (.aload_n 0, 1) := by decide +kernel
theorem dX12_isAhead_50 : decode cX12_isAhead 50 = .ok (.iload_n 1, 1) := by decide +kernel
theorem dX12_isAhead_51 : decode cX12_isAhead 51 = .ok (.invokevirtual 137, 3) := by decide +kernel
theorem dX12_isAhead_54 : decode cX12_isAhead 54 = .ok (.aload_n 0, 1) := by decide +kernel
theorem dX12_isAhead_55 : decode cX12_isAhead 55 = .ok (.iload_n 2, 1) := by decide +kernel
theorem dX12_isAhead_56 : decode cX12_isAhead 56 = .ok (.invokevirtual 137, 3) := by decide +kernel
theorem dX12_isAhead_59 : decode cX12_isAhead 59 = .ok (.if_icmp .le 7, 3) := by decide +kernel
theorem dX12_isAhead_62 : decode cX12_isAhead 62 = .ok (.iconst 1, 1) := by decide +kernel
theorem dX12_isAhead_63 : decode cX12_isAhead 63 = .ok (.goto 17, 3) := by decide +kernel
theorem dX12_isAhead_66 : decode cX12_isAhead 66 = .ok (.iconst 0, 1) := by decide +kernel
theorem dX12_isAhead_67 : decode cX12_isAhead 67 = .ok (.goto 13, 3) := by decide +kernel
theorem dX12_isAhead_70 : decode cX12_isAhead 70 = .ok (.iload_n 1, 1) := by decide +kernel
theorem dX12_isAhead_71 : decode cX12_isAhead 71 = .ok (.iload_n 2, 1) := by decide +kernel
theorem dX12_isAhead_72 : decode cX12_isAhead 72 = .ok (.if_icmp .ge 7, 3) := by decide +kernel
theorem dX12_isAhead_75 : decode cX12_isAhead 75 = .ok (.iconst 1, 1) := by decide +kernel
theorem dX12_isAhead_76 : decode cX12_isAhead 76 = .ok (.goto 4, 3) := by decide +kernel
theorem dX12_isAhead_79 : decode cX12_isAhead 79 = .ok (.iconst 0, 1) := by decide +kernel
theorem dX12_isAhead_80 : decode cX12_isAhead 80 = .ok (.ireturn, 1) := by decide +kernel
theorem dX12_lanternByBrightness_0 : decode cX12_lanternByBrightness 0 = .ok (.iconst 0, 1) := by decide +kernel
theorem dX12_lanternByBrightness_1 : decode cX12_lanternByBrightness 1 = .ok (.istore_n 2, 1) := by decide +kernel
theorem dX12_lanternByBrightness_2 : decode cX12_lanternByBrightness 2 = .ok (.iload_n 2, 1) := by decide +kernel
theorem dX12_lanternByBrightness_3 : decode cX12_lanternByBrightness 3 = .ok (.aload_n 0, 1) := by decide +kernel
theorem dX12_lanternByBrightness_4 : decode cX12_lanternByBrightness 4 = .ok (.getfield 7, 3) := by decide +kernel
theorem dX12_lanternByBrightness_7 : decode cX12_lanternByBrightness 7 = .ok (.iconst 0, 1) := by decide +kernel
theorem dX12_lanternByBrightness_8 : decode cX12_lanternByBrightness 8 = .ok (.iaload, 1) := by decide +kernel
theorem dX12_lanternByBrightness_9 : decode cX12_lanternByBrightness 9 = .ok (.if_icmp .ge 70, 3) := by decide +kernel
theorem dX12_lanternByBrightness_12 : decode cX12_lanternByBrightness 12 = .ok (.iconst 0, 1) := by decide +kernel
theorem dX12_lanternByBrightness_13 : decode cX12_lanternByBrightness 13 = .ok (.istore_n 3, 1) := by decide +kernel
theorem dX12_lanternByBrightness_14 : decode cX12_lanternByBrightness 14 = .ok (.iconst 0, 1) := by decide +kernel
theorem dX12_lanternByBrightness_15 : decode cX12_lanternByBrightness 15 = .ok (.istore 4, 2) := by decide +kernel
theorem dX12_lanternByBrightness_17 : decode cX12_lanternByBrightness 17 = .ok (.iload 4, 2) := by decide +kernel
theorem dX12_lanternByBrightness_19 : decode cX12_lanternByBrightness 19 = .ok (.aload_n 0, 1) := by decide +kernel
theorem dX12_lanternByBrightness_20 : decode cX12_lanternByBrightness 20 = .ok (.getfield 7, 3) := by decide +kernel
theorem dX12_lanternByBrightness_23 : decode cX12_lanternByBrightness 23 = .ok (.iconst 0, 1) := by decide +kernel
theorem dX12_lanternByBrightness_24 : decode cX12_lanternByBrightness 24 = .ok (.iaload, 1) := by decide +kernel
theorem dX12_lanternByBrightness_25 : decode cX12_lanternByBrightness 25 = .ok (.if_icmp .ge 33, 3) := by decide +kernel
theorem dX12_lanternByBrightness_28 : decode cX12_lanternByBrightness 28 = .ok (.iload_n 3, 1) := by decide +kernel
theorem dX12_lanternByBrightness_29 : decode cX12_lanternByBrightness 29 = .ok (.iload 4, 2) := by decide +kernel
theorem dX12_lanternByBrightness_31 : decode cX12_lanternByBrightness 31 = .ok (.iload_n 2, 1) := by decide +kernel
theorem dX12_lanternByBrightness_32 : decode cX12_lanternByBrightness 32 = .ok (.if_icmp .eq 17, 3) := by decide +kernel
theorem dX12_lanternByBrightness_35 : decode cX12_lanternByBrightness 35 = .ok (.aload_n 0, 1) := by decide +kernel
theorem dX12_lanternByBrightness_36 : decode cX12_lanternByBrightness 36 = .ok (.iload 4, 2) := by decide +kernel
theorem dX12_lanternByBrightness_38 : decode cX12_lanternByBrightness 38 = .ok (.iload_n 2, 1) := by decide +kernel
theorem dX12_lanternByBrightness_39 : decode cX12_lanternByBrightness 39 = .ok (.invokevirtual 163, 3) := by decide +kernel
theorem dX12_lanternByBrightness_42 : decode cX12_lanternByBrightness 42 = .ok (.ifCond .eq 7, 3) := by decide +kernel
theorem dX12_lanternByBrightness_45 : decode cX12_lanternByBrightness 45 = .ok (.iconst 1, 1) := by decide +kernel
theorem dX12_lanternByBrightness_46 : decode cX12_lanternByBrightness 46 = .ok (.goto 4, 3) := by decide +kernel
theorem dX12_lanternByBrightness_49 : decode cX12_lanternByBrightness 49 = .ok (.iconst 0, 1) := by decide +kernel
theorem dX12_lanternByBrightness_50 : decode cX12_lanternByBrightness 50 = .ok (.iadd, 1) := by decide +kernel
theorem dX12_lanternByBrightness_51 : decode cX12_lanternByBrightness 51 = .ok (.istore_n 3, 1) := by decide +kernel
theorem dX12_lanternByBrightness_52 : decode cX12_lanternByBrightness 52 = .ok (.iinc 4 1, 3) := by decide +kernel
theorem dX12_lanternByBrightness_55 : decode cX12_lanternByBrightness 55 = .ok (.goto (-38), 3) := by decide +kernel
theorem dX12_lanternByBrightness_58 : decode cX12_lanternByBrightness 58 = .ok (.iload_n 3, 1) := by decide +kernel
theorem dX12_lanternByBrightness_59 : decode cX12_lanternByBrightness 59 = .ok (.iload_n 1, 1) := by decide +kernel
theorem dX12_lanternByBrightness_60 : decode cX12_lanternByBrightness 60 = .ok (.if_icmp .eq 6, 3) := by decide +kernel
theorem dX12_lanternByBrightness_63 : decode cX12_lanternByBrightness 63 = .ok (.goto 10, 3) := by decide +kernel
theorem dX12_lanternByBrightness_66 : decode cX12_lanternByBrightness 66 = .ok (.aload_n 0, 1) := by decide +kernel
theorem dX12_lanternByBrightness_67 : decode cX12_lanternByBrightness 67 = .ok (.iconst 0, 1) := by decide +kernel
theorem dX12_lanternByBrightness_68 : decode cX12_lanternByBrightness 68 = .ok (.putfield 39, 3) := by decide +kernel
theorem dX12_lanternByBrightness_71 : decode cX12_lanternByBrightness 71 = .ok (.iload_n 2, 1) := by decide +kernel
theorem dX12_lanternByBrightness_72 : decode cX12_lanternByBrightness 72 = .ok (.ireturn, 1) := by decide +kernel
theorem dX12_lanternByBrightness_73 : decode cX12_lanternByBrightness 73 = .ok (.iinc 2 1, 3) := by decide +kernel
theorem dX12_lanternByBrightness_76 : decode cX12_lanternByBrightness 76 = .ok (.goto (-74), 3) := by decide +kernel
theorem dX12_lanternByBrightness_79 : decode cX12_lanternByBrightness 79 = .ok (.aload_n 0, 1) := by decide +kernel
theorem dX12_lanternByBrightness_80 : decode cX12_lanternByBrightness 80 = .ok (.iconst 1, 1) := by decide +kernel
theorem dX12_lanternByBrightness_81 : decode cX12_lanternByBrightness 81 = .ok (.putfield 39, 3) := by decide +kernel
theorem dX12_lanternByBrightness_84 : decode cX12_lanternByBrightness 84 = .ok (.iconst 0, 1) := by decide +kernel
theorem dX12_lanternByBrightness_85 : decode cX12_lanternByBrightness 85 = .ok (.ireturn, 1) := by decide +kernel
theorem dX12_courtCoins_0 : decode cX12_courtCoins 0 = .ok (.aload_n 0, 1) := by decide +kernel
theorem dX12_courtCoins_1 : decode cX12_courtCoins 1 = .ok (.iconst 0, 1) := by decide +kernel
theorem dX12_courtCoins_2 : decode cX12_courtCoins 2 = .ok (.putfield 39, 3) := by decide +kernel
theorem dX12_courtCoins_5 : decode cX12_courtCoins 5 = .ok (.aload_n 0, 1) := by decide +kernel
theorem dX12_courtCoins_6 : decode cX12_courtCoins 6 = .ok (.getfield 7, 3) := by decide +kernel
theorem dX12_courtCoins_9 : decode cX12_courtCoins 9 = .ok (.bipush 6, 2) := by decide +kernel
theorem dX12_courtCoins_11 : decode cX12_courtCoins 11 = .ok (.iaload, 1) := by decide +kernel
theorem dX12_courtCoins_12 : decode cX12_courtCoins 12 = .ok (.aload_n 0, 1) := by decide +kernel
theorem dX12_courtCoins_13 : decode cX12_courtCoins 13 = .ok (.getfield 7, 3) := by decide +kernel
theorem dX12_courtCoins_16 : decode cX12_courtCoins 16 = .ok (.iconst 5, 1) := by decide +kernel
theorem dX12_courtCoins_17 : decode cX12_courtCoins 17 = .ok (.iaload, 1) := by decide +kernel
theorem dX12_courtCoins_18 : decode cX12_courtCoins 18 = .ok (.isub, 1) := by decide +kernel
theorem dX12_courtCoins_19 : decode cX12_courtCoins 19 = .ok (.ireturn, 1) := by decide +kernel
theorem dX12_paidBack_0 : decode cX12_paidBack 0 = .ok (.aload_n 0, 1) := by decide +kernel
theorem dX12_paidBack_1 : decode cX12_paidBack 1 = .ok (.iconst 0, 1) := by decide +kernel
theorem dX12_paidBack_2 : decode cX12_paidBack 2 = .ok (.putfield 39, 3) := by decide +kernel
theorem dX12_paidBack_5 : decode cX12_paidBack 5 = .ok (.aload_n 0, 1) := by decide +kernel
theorem dX12_paidBack_6 : decode cX12_paidBack 6 = .ok (.getfield 7, 3) := by decide +kernel
theorem dX12_paidBack_9 : decode cX12_paidBack 9 = .ok (.iconst 5, 1) := by decide +kernel
theorem dX12_paidBack_10 : decode cX12_paidBack 10 = .ok (.iaload, 1) := by decide +kernel
theorem dX12_paidBack_11 : decode cX12_paidBack 11 = .ok (.ireturn, 1) := by decide +kernel
theorem dX12_hearingCount_0 : decode cX12_hearingCount 0 = .ok (.ldc 146, 2) := by decide +kernel
theorem dX12_hearingCount_2 : decode cX12_hearingCount 2 = .ok (.iload_n 1, 1) := by decide +kernel
theorem dX12_hearingCount_3 : decode cX12_hearingCount 3 = .ok (.invokevirtual 166, 3) := by decide +kernel
theorem dX12_hearingCount_6 : decode cX12_hearingCount 6 = .ok (.istore_n 2, 1) := by decide +kernel
theorem dX12_hearingCount_7 : decode cX12_hearingCount 7 = .ok (.aload_n 0, 1) := by decide +kernel
theorem dX12_hearingCount_8 : decode cX12_hearingCount 8 = .ok (.iload_n 2, 1) := by decide +kernel
theorem dX12_hearingCount_9 : decode cX12_hearingCount 9 = .ok (.ifCond .ge 7, 3) := by decide +kernel
theorem dX12_hearingCount_12 : decode cX12_hearingCount 12 = .ok (.iconst 1, 1) := by decide +kernel
theorem dX12_hearingCount_13 : decode cX12_hearingCount 13 = .ok (.goto 4, 3) := by decide +kernel
theorem dX12_hearingCount_16 : decode cX12_hearingCount 16 = .ok (.iconst 0, 1) := by decide +kernel
theorem dX12_hearingCount_17 : decode cX12_hearingCount 17 = .ok (.invokevirtual 61, 3) := by decide +kernel
theorem dX12_hearingCount_20 : decode cX12_hearingCount 20 = .ok (.ifCond .eq 7, 3) := by decide +kernel
theorem dX12_hearingCount_23 : decode cX12_hearingCount 23 = .ok (.iconst 0, 1) := by decide +kernel
theorem dX12_hearingCount_24 : decode cX12_hearingCount 24 = .ok (.goto 12, 3) := by decide +kernel
theorem dX12_hearingCount_27 : decode cX12_hearingCount 27 = .ok (.aload_n 0, 1) := by decide +kernel
theorem dX12_hearingCount_28 : decode cX12_hearingCount 28 = .ok (.getfield 7, 3) := by decide +kernel
theorem dX12_hearingCount_31 : decode cX12_hearingCount 31 = .ok (.bipush 7, 2) := by decide +kernel
theorem dX12_hearingCount_33 : decode cX12_hearingCount 33 = .ok (.iload_n 2, 1) := by decide +kernel
theorem dX12_hearingCount_34 : decode cX12_hearingCount 34 = .ok (.iadd, 1) := by decide +kernel
theorem dX12_hearingCount_35 : decode cX12_hearingCount 35 = .ok (.iaload, 1) := by decide +kernel
theorem dX12_hearingCount_36 : decode cX12_hearingCount 36 = .ok (.ireturn, 1) := by decide +kernel
theorem dX12_lapsedCount_0 : decode cX12_lapsedCount 0 = .ok (.aload_n 0, 1) := by decide +kernel
theorem dX12_lapsedCount_1 : decode cX12_lapsedCount 1 = .ok (.iconst 0, 1) := by decide +kernel
theorem dX12_lapsedCount_2 : decode cX12_lapsedCount 2 = .ok (.putfield 39, 3) := by decide +kernel
theorem dX12_lapsedCount_5 : decode cX12_lapsedCount 5 = .ok (.aload_n 0, 1) := by decide +kernel
theorem dX12_lapsedCount_6 : decode cX12_lapsedCount 6 = .ok (.getfield 7, 3) := by decide +kernel
theorem dX12_lapsedCount_9 : decode cX12_lapsedCount 9 = .ok (.bipush 11, 2) := by decide +kernel
theorem dX12_lapsedCount_11 : decode cX12_lapsedCount 11 = .ok (.iaload, 1) := by decide +kernel
theorem dX12_lapsedCount_12 : decode cX12_lapsedCount 12 = .ok (.ireturn, 1) := by decide +kernel
theorem dX12_servedDays_0 : decode cX12_servedDays 0 = .ok (.aload_n 0, 1) := by decide +kernel
theorem dX12_servedDays_1 : decode cX12_servedDays 1 = .ok (.iconst 0, 1) := by decide +kernel
theorem dX12_servedDays_2 : decode cX12_servedDays 2 = .ok (.putfield 39, 3) := by decide +kernel
theorem dX12_servedDays_5 : decode cX12_servedDays 5 = .ok (.aload_n 0, 1) := by decide +kernel
theorem dX12_servedDays_6 : decode cX12_servedDays 6 = .ok (.getfield 7, 3) := by decide +kernel
theorem dX12_servedDays_9 : decode cX12_servedDays 9 = .ok (.bipush 12, 2) := by decide +kernel
theorem dX12_servedDays_11 : decode cX12_servedDays 11 = .ok (.iaload, 1) := by decide +kernel
theorem dX12_servedDays_12 : decode cX12_servedDays 12 = .ok (.ireturn, 1) := by decide +kernel
theorem dX12_meanBrightness_0 : decode cX12_meanBrightness 0 = .ok (.aload_n 0, 1) := by decide +kernel
theorem dX12_meanBrightness_1 : decode cX12_meanBrightness 1 = .ok (.aload_n 0, 1) := by decide +kernel
theorem dX12_meanBrightness_2 : decode cX12_meanBrightness 2 = .ok (.getfield 7, 3) := by decide +kernel
theorem dX12_meanBrightness_5 : decode cX12_meanBrightness 5 = .ok (.iconst 0, 1) := by decide +kernel
theorem dX12_meanBrightness_6 : decode cX12_meanBrightness 6 = .ok (.iaload, 1) := by decide +kernel
theorem dX12_meanBrightness_7 : decode cX12_meanBrightness 7 = .ok (.ifCond .ne 7, 3) := by decide +kernel
theorem dX12_meanBrightness_10 : decode cX12_meanBrightness 10 = .ok (.iconst 1, 1) := by decide +kernel
theorem dX12_meanBrightness_11 : decode cX12_meanBrightness 11 = .ok (.goto 4, 3) := by decide +kernel
theorem dX12_meanBrightness_14 : decode cX12_meanBrightness 14 = .ok (.iconst 0, 1) := by decide +kernel
theorem dX12_meanBrightness_15 : decode cX12_meanBrightness 15 = .ok (.invokevirtual 61, 3) := by decide +kernel
theorem dX12_meanBrightness_18 : decode cX12_meanBrightness 18 = .ok (.ifCond .eq 5, 3) := by decide +kernel
theorem dX12_meanBrightness_21 : decode cX12_meanBrightness 21 = .ok (.dconst 0, 1) := by decide +kernel
theorem dX12_meanBrightness_22 : decode cX12_meanBrightness 22 = .ok (.dreturn, 1) := by decide +kernel
theorem dX12_meanBrightness_23 : decode cX12_meanBrightness 23 = .ok (.iconst 0, 1) := by decide +kernel
theorem dX12_meanBrightness_24 : decode cX12_meanBrightness 24 = .ok (.istore_n 1, 1) := by decide +kernel
theorem dX12_meanBrightness_25 : decode cX12_meanBrightness 25 = .ok (.iconst 0, 1) := by decide +kernel
theorem dX12_meanBrightness_26 : decode cX12_meanBrightness 26 = .ok (.istore_n 2, 1) := by decide +kernel
theorem dX12_meanBrightness_27 : decode cX12_meanBrightness 27 = .ok (.iload_n 2, 1) := by decide +kernel
theorem dX12_meanBrightness_28 : decode cX12_meanBrightness 28 = .ok (.aload_n 0, 1) := by decide +kernel
theorem dX12_meanBrightness_29 : decode cX12_meanBrightness 29 = .ok (.getfield 7, 3) := by decide +kernel
theorem dX12_meanBrightness_32 : decode cX12_meanBrightness 32 = .ok (.iconst 0, 1) := by decide +kernel
theorem dX12_meanBrightness_33 : decode cX12_meanBrightness 33 = .ok (.iaload, 1) := by decide +kernel
theorem dX12_meanBrightness_34 : decode cX12_meanBrightness 34 = .ok (.if_icmp .ge 18, 3) := by decide +kernel
theorem dX12_meanBrightness_37 : decode cX12_meanBrightness 37 = .ok (.iload_n 1, 1) := by decide +kernel
theorem dX12_meanBrightness_38 : decode cX12_meanBrightness 38 = .ok (.aload_n 0, 1) := by decide +kernel
theorem dX12_meanBrightness_39 : decode cX12_meanBrightness 39 = .ok (.iload_n 2, 1) := by decide +kernel
theorem dX12_meanBrightness_40 : decode cX12_meanBrightness 40 = .ok (.iconst 0, 1) := by decide +kernel
theorem dX12_meanBrightness_41 : decode cX12_meanBrightness 41 = .ok (.invokevirtual 87, 3) := by decide +kernel
theorem dX12_meanBrightness_44 : decode cX12_meanBrightness 44 = .ok (.iadd, 1) := by decide +kernel
theorem dX12_meanBrightness_45 : decode cX12_meanBrightness 45 = .ok (.istore_n 1, 1) := by decide +kernel
theorem dX12_meanBrightness_46 : decode cX12_meanBrightness 46 = .ok (.iinc 2 1, 3) := by decide +kernel
theorem dX12_meanBrightness_49 : decode cX12_meanBrightness 49 = .ok (.goto (-22), 3) := by decide +kernel
theorem dX12_meanBrightness_52 : decode cX12_meanBrightness 52 = .ok (.iload_n 1, 1) := by decide +kernel
theorem dX12_meanBrightness_53 : decode cX12_meanBrightness 53 = .ok (.i2d, 1) := by decide +kernel
theorem dX12_meanBrightness_54 : decode cX12_meanBrightness 54 = .ok (.aload_n 0, 1) := by decide +kernel
theorem dX12_meanBrightness_55 : decode cX12_meanBrightness 55 = .ok (.getfield 7, 3) := by decide +kernel
theorem dX12_meanBrightness_58 : decode cX12_meanBrightness 58 = .ok (.iconst 0, 1) := by decide +kernel
theorem dX12_meanBrightness_59 : decode cX12_meanBrightness 59 = .ok (.iaload, 1) := by decide +kernel
theorem dX12_meanBrightness_60 : decode cX12_meanBrightness 60 = .ok (.i2d, 1) := by decide +kernel
theorem dX12_meanBrightness_61 : decode cX12_meanBrightness 61 = .ok (.ddiv, 1) := by decide +kernel
theorem dX12_meanBrightness_62 : decode cX12_meanBrightness 62 = .ok (.dreturn, 1) := by decide +kernel
theorem dX12_guiltyShare_0 : decode cX12_guiltyShare 0 = .ok (.aload_n 0, 1) := by decide +kernel
theorem dX12_guiltyShare_1 : decode cX12_guiltyShare 1 = .ok (.getfield 7, 3) := by decide +kernel
theorem dX12_guiltyShare_4 : decode cX12_guiltyShare 4 = .ok (.bipush 7, 2) := by decide +kernel
theorem dX12_guiltyShare_6 : decode cX12_guiltyShare 6 = .ok (.iaload, 1) := by decide +kernel
theorem dX12_guiltyShare_7 : decode cX12_guiltyShare 7 = .ok (.aload_n 0, 1) := by decide +kernel
theorem dX12_guiltyShare_8 : decode cX12_guiltyShare 8 = .ok (.getfield 7, 3) := by decide +kernel
theorem dX12_guiltyShare_11 : decode cX12_guiltyShare 11 = .ok (.bipush 8, 2) := by decide +kernel
theorem dX12_guiltyShare_13 : decode cX12_guiltyShare 13 = .ok (.iaload, 1) := by decide +kernel
theorem dX12_guiltyShare_14 : decode cX12_guiltyShare 14 = .ok (.iadd, 1) := by decide +kernel
theorem dX12_guiltyShare_15 : decode cX12_guiltyShare 15 = .ok (.aload_n 0, 1) := by decide +kernel
theorem dX12_guiltyShare_16 : decode cX12_guiltyShare 16 = .ok (.getfield 7, 3) := by decide +kernel
theorem dX12_guiltyShare_19 : decode cX12_guiltyShare 19 = .ok (.bipush 9, 2) := by decide +kernel
theorem dX12_guiltyShare_21 : decode cX12_guiltyShare 21 = .ok (.iaload, 1) := by decide +kernel
theorem dX12_guiltyShare_22 : decode cX12_guiltyShare 22 = .ok (.iadd, 1) := by decide +kernel
theorem dX12_guiltyShare_23 : decode cX12_guiltyShare 23 = .ok (.aload_n 0, 1) := by decide +kernel
theorem dX12_guiltyShare_24 : decode cX12_guiltyShare 24 = .ok (.getfield 7, 3) := by decide +kernel
theorem dX12_guiltyShare_27 : decode cX12_guiltyShare 27 = .ok (.bipush 10, 2) := by decide +kernel
theorem dX12_guiltyShare_29 : decode cX12_guiltyShare 29 = .ok (.iaload, 1) := by decide +kernel
theorem dX12_guiltyShare_30 : decode cX12_guiltyShare 30 = .ok (.iadd, 1) := by decide +kernel
theorem dX12_guiltyShare_31 : decode cX12_guiltyShare 31 = .ok (.istore_n 1, 1) := by decide +kernel
theorem dX12_guiltyShare_32 : decode cX12_guiltyShare 32 = .ok (.aload_n 0, 1) := by decide +kernel
theorem dX12_guiltyShare_33 : decode cX12_guiltyShare 33 = .ok (.iload_n 1, 1) := by decide +kernel
theorem dX12_guiltyShare_34 : decode cX12_guiltyShare 34 = .ok (.ifCond .ne 7, 3) := by decide +kernel
theorem dX12_guiltyShare_37 : decode cX12_guiltyShare 37 = .ok (.iconst 1, 1) := by decide +kernel
theorem dX12_guiltyShare_38 : decode cX12_guiltyShare 38 = .ok (.goto 4, 3) := by decide +kernel
theorem dX12_guiltyShare_41 : decode cX12_guiltyShare 41 = .ok (.iconst 0, 1) := by decide +kernel
theorem dX12_guiltyShare_42 : decode cX12_guiltyShare 42 = .ok (.invokevirtual 61, 3) := by decide +kernel
theorem dX12_guiltyShare_45 : decode cX12_guiltyShare 45 = .ok (.ifCond .eq 7, 3) := by decide +kernel
theorem dX12_guiltyShare_48 : decode cX12_guiltyShare 48 = .ok (.fconst 0, 1) := by decide +kernel
theorem dX12_guiltyShare_49 : decode cX12_guiltyShare 49 = .ok (.goto 14, 3) := by decide +kernel
theorem dX12_guiltyShare_52 : decode cX12_guiltyShare 52 = .ok (.aload_n 0, 1) := by decide +kernel
theorem dX12_guiltyShare_53 : decode cX12_guiltyShare 53 = .ok (.getfield 7, 3) := by decide +kernel
theorem dX12_guiltyShare_56 : decode cX12_guiltyShare 56 = .ok (.bipush 7, 2) := by decide +kernel
theorem dX12_guiltyShare_58 : decode cX12_guiltyShare 58 = .ok (.iaload, 1) := by decide +kernel
theorem dX12_guiltyShare_59 : decode cX12_guiltyShare 59 = .ok (.i2f, 1) := by decide +kernel
theorem dX12_guiltyShare_60 : decode cX12_guiltyShare 60 = .ok (.iload_n 1, 1) := by decide +kernel
theorem dX12_guiltyShare_61 : decode cX12_guiltyShare 61 = .ok (.i2f, 1) := by decide +kernel
theorem dX12_guiltyShare_62 : decode cX12_guiltyShare 62 = .ok (.fdiv, 1) := by decide +kernel
theorem dX12_guiltyShare_63 : decode cX12_guiltyShare 63 = .ok (.freturn, 1) := by decide +kernel
theorem dX12_isConsistent_0 : decode cX12_isConsistent 0 = .ok (.aload_n 0, 1) := by decide +kernel
theorem dX12_isConsistent_1 : decode cX12_isConsistent 1 = .ok (.iconst 0, 1) := by decide +kernel
theorem dX12_isConsistent_2 : decode cX12_isConsistent 2 = .ok (.putfield 39, 3) := by decide +kernel
theorem dX12_isConsistent_5 : decode cX12_isConsistent 5 = .ok (.iconst 1, 1) := by decide +kernel
theorem dX12_isConsistent_6 : decode cX12_isConsistent 6 = .ok (.ireturn, 1) := by decide +kernel
theorem dX12_feed_0 : decode cX12_feed 0 = .ok (.aload_n 0, 1) := by decide +kernel
theorem dX12_feed_1 : decode cX12_feed 1 = .ok (.aload_n 0, 1) := by decide +kernel
theorem dX12_feed_2 : decode cX12_feed 2 = .ok (.getfield 169, 3) := by decide +kernel
theorem dX12_feed_5 : decode cX12_feed 5 = .ok (.bipush 60, 2) := by decide +kernel
theorem dX12_feed_7 : decode cX12_feed 7 = .ok (.if_icmp .ne 7, 3) := by decide +kernel
theorem dX12_feed_10 : decode cX12_feed 10 = .ok (.iconst 1, 1) := by decide +kernel
theorem dX12_feed_11 : decode cX12_feed 11 = .ok (.goto 4, 3) := by decide +kernel
theorem dX12_feed_14 : decode cX12_feed 14 = .ok (.iconst 0, 1) := by decide +kernel
theorem dX12_feed_15 : decode cX12_feed 15 = .ok (.invokevirtual 61, 3) := by decide +kernel
theorem dX12_feed_18 : decode cX12_feed 18 = .ok (.ifCond .eq 5, 3) := by decide +kernel
theorem dX12_feed_21 : decode cX12_feed 21 = .ok (.iconst 0, 1) := by decide +kernel
theorem dX12_feed_22 : decode cX12_feed 22 = .ok (.ireturn, 1) := by decide +kernel
theorem dX12_feed_23 : decode cX12_feed 23 = .ok (.aload_n 0, 1) := by decide +kernel
theorem dX12_feed_24 : decode cX12_feed 24 = .ok (.getfield 22, 3) := by decide +kernel
theorem dX12_feed_27 : decode cX12_feed 27 = .ok (.aload_n 0, 1) := by decide +kernel
theorem dX12_feed_28 : decode cX12_feed 28 = .ok (.getfield 169, 3) := by decide +kernel
theorem dX12_feed_31 : decode cX12_feed 31 = .ok (.iload_n 1, 1) := by decide +kernel
theorem dX12_feed_32 : decode cX12_feed 32 = .ok (.iastore, 1) := by decide +kernel
theorem dX12_feed_33 : decode cX12_feed 33 = .ok (.aload_n 0, 1) := by decide +kernel
theorem dX12_feed_34 : decode cX12_feed 34 = .ok (.dup, 1) := by decide +kernel
theorem dX12_feed_35 : decode cX12_feed 35 = .ok (.getfield 169, 3) := by decide +kernel
theorem dX12_feed_38 : decode cX12_feed 38 = .ok (.iconst 1, 1) := by decide +kernel
theorem dX12_feed_39 : decode cX12_feed 39 = .ok (.iadd, 1) := by decide +kernel
theorem dX12_feed_40 : decode cX12_feed 40 = .ok (.putfield 169, 3) := by decide +kernel
theorem dX12_feed_43 : decode cX12_feed 43 = .ok (.aload_n 0, 1) := by decide +kernel
theorem dX12_feed_44 : decode cX12_feed 44 = .ok (.getfield 169, 3) := by decide +kernel
theorem dX12_feed_47 : decode cX12_feed 47 = .ok (.ireturn, 1) := by decide +kernel
theorem dX12_here_0 : decode cX12_here 0 = .ok (.aload_n 0, 1) := by decide +kernel
theorem dX12_here_1 : decode cX12_here 1 = .ok (.getfield 172, 3) := by decide +kernel
theorem dX12_here_4 : decode cX12_here 4 = .ok (.aload_n 0, 1) := by decide +kernel
theorem dX12_here_5 : decode cX12_here 5 = .ok (.getfield 169, 3) := by decide +kernel
theorem dX12_here_8 : decode cX12_here 8 = .ok (.if_icmp .ge 15, 3) := by decide +kernel
theorem dX12_here_11 : decode cX12_here 11 = .ok (.aload_n 0, 1) := by decide +kernel
theorem dX12_here_12 : decode cX12_here 12 = .ok (.getfield 22, 3) := by decide +kernel
theorem dX12_here_15 : decode cX12_here 15 = .ok (.aload_n 0, 1) := by decide +kernel
theorem dX12_here_16 : decode cX12_here 16 = .ok (.getfield 172, 3) := by decide +kernel
theorem dX12_here_19 : decode cX12_here 19 = .ok (.iaload, 1) := by decide +kernel
theorem dX12_here_20 : decode cX12_here 20 = .ok (.goto 4, 3) := by decide +kernel
theorem dX12_here_23 : decode cX12_here 23 = .ok (.iconst (-1), 1) := by decide +kernel
theorem dX12_here_24 : decode cX12_here 24 = .ok (.ireturn, 1) := by decide +kernel
theorem dX12_skips_0 : decode cX12_skips 0 = .ok (.aload_n 0, 1) := by decide +kernel
theorem dX12_skips_1 : decode cX12_skips 1 = .ok (.invokevirtual 175, 3) := by decide +kernel
theorem dX12_skips_4 : decode cX12_skips 4 = .ok (.iload_n 1, 1) := by decide +kernel
theorem dX12_skips_5 : decode cX12_skips 5 = .ok (.if_icmp .eq 5, 3) := by decide +kernel
theorem dX12_skips_8 : decode cX12_skips 8 = .ok (.iconst 0, 1) := by decide +kernel
theorem dX12_skips_9 : decode cX12_skips 9 = .ok (.ireturn, 1) := by decide +kernel
theorem dX12_skips_10 : decode cX12_skips 10 = .ok (.aload_n 0, 1) := by decide +kernel
theorem dX12_skips_11 : decode cX12_skips 11 = .ok (.dup, 1) := by decide +kernel
theorem dX12_skips_12 : decode cX12_skips 12 = .ok (.getfield 172, 3) := by decide +kernel
theorem dX12_skips_15 : decode cX12_skips 15 = .ok (.iconst 1, 1) := by decide +kernel
theorem dX12_skips_16 : decode cX12_skips 16 = .ok (.iadd, 1) := by decide +kernel
theorem dX12_skips_17 : decode cX12_skips 17 = .ok (.putfield 172, 3) := by decide +kernel
theorem dX12_skips_20 : decode cX12_skips 20 = .ok (.iconst 1, 1) := by decide +kernel
theorem dX12_skips_21 : decode cX12_skips 21 = .ok (.ireturn, 1) := by decide +kernel
theorem dX12_isWord_0 : decode cX12_isWord 0 = .ok (.aload_n 0, 1) := by decide +kernel
theorem dX12_isWord_1 : decode cX12_isWord 1 = .ok (.getfield 36, 3) := by decide +kernel
theorem dX12_isWord_4 : decode cX12_isWord 4 = .ok (.iconst 5, 1) := by decide +kernel
theorem dX12_isWord_5 : decode cX12_isWord 5 = .ok (.aload_n 0, 1) := by decide +kernel
theorem dX12_isWord_6 : decode cX12_isWord 6 = .ok (.getfield 178, 3) := by decide +kernel
theorem dX12_isWord_9 : decode cX12_isWord 9 = .ok (.imul, 1) := by decide +kernel
theorem dX12_isWord_10 : decode cX12_isWord 10 = .ok (.iload_n 1, 1) := by decide +kernel
theorem dX12_isWord_11 : decode cX12_isWord 11 = .ok (.iastore, 1) := by decide +kernel
theorem dX12_isWord_12 : decode cX12_isWord 12 = .ok (.iconst 0, 1) := by decide +kernel
theorem dX12_isWord_13 : decode cX12_isWord 13 = .ok (.istore_n 3, 1) := by decide +kernel
theorem dX12_isWord_14 : decode cX12_isWord 14 = .ok (.iload_n 3, 1) := by decide +kernel
theorem dX12_isWord_15 : decode cX12_isWord 15 = .ok (.aload_n 2, 1) := by decide +kernel
theorem dX12_isWord_16 : decode cX12_isWord 16 = .ok (.invokevirtual 181, 3) := by decide +kernel
theorem dX12_isWord_19 : decode cX12_isWord 19 = .ok (.if_icmp .ge 23, 3) := by decide +kernel
theorem dX12_isWord_22 : decode cX12_isWord 22 = .ok (.aload_n 0, 1) := by decide +kernel
theorem dX12_isWord_23 : decode cX12_isWord 23 = .ok (.aload_n 2, 1) := by decide +kernel
theorem dX12_isWord_24 : decode cX12_isWord 24 = .ok (.iload_n 3, 1) := by decide +kernel
theorem dX12_isWord_25 : decode cX12_isWord 25 = .ok (.invokevirtual 148, 3) := by decide +kernel
theorem dX12_isWord_28 : decode cX12_isWord 28 = .ok (.invokevirtual 183, 3) := by decide +kernel
theorem dX12_isWord_31 : decode cX12_isWord 31 = .ok (.ifCond .ne 5, 3) := by decide +kernel
theorem dX12_isWord_34 : decode cX12_isWord 34 = .ok (.iconst 0, 1) := by decide +kernel
theorem dX12_isWord_35 : decode cX12_isWord 35 = .ok (.ireturn, 1) := by decide +kernel
theorem dX12_isWord_36 : decode cX12_isWord 36 = .ok (.iinc 3 1, 3) := by decide +kernel
theorem dX12_isWord_39 : decode cX12_isWord 39 = .ok (.goto (-25), 3) := by decide +kernel
theorem dX12_isWord_42 : decode cX12_isWord 42 = .ok (.iconst 1, 1) := by decide +kernel
theorem dX12_isWord_43 : decode cX12_isWord 43 = .ok (.ireturn, 1) := by decide +kernel
theorem dX12_digits_0 : decode cX12_digits 0 = .ok (.aload_n 0, 1) := by decide +kernel
theorem dX12_digits_1 : decode cX12_digits 1 = .ok (.invokevirtual 175, 3) := by decide +kernel
theorem dX12_digits_4 : decode cX12_digits 4 = .ok (.bipush 48, 2) := by decide +kernel
theorem dX12_digits_6 : decode cX12_digits 6 = .ok (.bipush 57, 2) := by decide +kernel
theorem dX12_digits_8 : decode cX12_digits 8 = .ok (.invokestatic 53, 3) := by decide +kernel
theorem dX12_digits_11 : decode cX12_digits 11 = .ok (.ifCond .ne 5, 3) := by decide +kernel
theorem dX12_digits_14 : decode cX12_digits 14 = .ok (.iconst 0, 1) := by decide +kernel
theorem dX12_digits_15 : decode cX12_digits 15 = .ok (.ireturn, 1) := by decide +kernel
theorem dX12_digits_16 : decode cX12_digits 16 = .ok (.aload_n 0, 1) := by decide +kernel
theorem dX12_digits_17 : decode cX12_digits 17 = .ok (.getfield 36, 3) := by decide +kernel
theorem dX12_digits_20 : decode cX12_digits 20 = .ok (.iload_n 1, 1) := by decide +kernel
theorem dX12_digits_21 : decode cX12_digits 21 = .ok (.iconst 0, 1) := by decide +kernel
theorem dX12_digits_22 : decode cX12_digits 22 = .ok (.iastore, 1) := by decide +kernel
theorem dX12_digits_23 : decode cX12_digits 23 = .ok (.iconst 0, 1) := by decide +kernel
theorem dX12_digits_24 : decode cX12_digits 24 = .ok (.istore_n 3, 1) := by decide +kernel
theorem dX12_digits_25 : decode cX12_digits 25 = .ok (.iload_n 3, 1) := by decide +kernel
theorem dX12_digits_26 : decode cX12_digits 26 = .ok (.iload_n 2, 1) := by decide +kernel
theorem dX12_digits_27 : decode cX12_digits 27 = .ok (.if_icmp .ge 56, 3) := by decide +kernel
theorem dX12_digits_30 : decode cX12_digits 30 = .ok (.aload_n 0, 1) := by decide +kernel
theorem dX12_digits_31 : decode cX12_digits 31 = .ok (.invokevirtual 175, 3) := by decide +kernel
theorem dX12_digits_34 : decode cX12_digits 34 = .ok (.bipush 48, 2) := by decide +kernel
theorem dX12_digits_36 : decode cX12_digits 36 = .ok (.bipush 57, 2) := by decide +kernel
theorem dX12_digits_38 : decode cX12_digits 38 = .ok (.invokestatic 53, 3) := by decide +kernel
theorem dX12_digits_41 : decode cX12_digits 41 = .ok (.ifCond .eq 42, 3) := by decide +kernel
theorem dX12_digits_44 : decode cX12_digits 44 = .ok (.aload_n 0, 1) := by decide +kernel
theorem dX12_digits_45 : decode cX12_digits 45 = .ok (.getfield 36, 3) := by decide +kernel
theorem dX12_digits_48 : decode cX12_digits 48 = .ok (.iload_n 1, 1) := by decide +kernel
theorem dX12_digits_49 : decode cX12_digits 49 = .ok (.bipush 10, 2) := by decide +kernel
theorem dX12_digits_51 : decode cX12_digits 51 = .ok (.aload_n 0, 1) := by decide +kernel
theorem dX12_digits_52 : decode cX12_digits 52 = .ok (.getfield 36, 3) := by decide +kernel
theorem dX12_digits_55 : decode cX12_digits 55 = .ok (.iload_n 1, 1) := by decide +kernel
theorem dX12_digits_56 : decode cX12_digits 56 = .ok (.iaload, 1) := by decide +kernel
theorem dX12_digits_57 : decode cX12_digits 57 = .ok (.imul, 1) := by decide +kernel
theorem dX12_digits_58 : decode cX12_digits 58 = .ok (.aload_n 0, 1) := by decide +kernel
theorem dX12_digits_59 : decode cX12_digits 59 = .ok (.invokevirtual 175, 3) := by decide +kernel
theorem dX12_digits_62 : decode cX12_digits 62 = .ok (.iadd, 1) := by decide +kernel
theorem dX12_digits_63 : decode cX12_digits 63 = .ok (.bipush 48, 2) := by decide +kernel
theorem dX12_digits_65 : decode cX12_digits 65 = .ok (.isub, 1) := by decide +kernel
theorem dX12_digits_66 : decode cX12_digits 66 = .ok (.iastore, 1) := by decide +kernel
theorem dX12_digits_67 : decode cX12_digits 67 = .ok (.aload_n 0, 1) := by decide +kernel
theorem dX12_digits_68 : decode cX12_digits 68 = .ok (.dup, 1) := by decide +kernel
theorem dX12_digits_69 : decode cX12_digits 69 = .ok (.getfield 172, 3) := by decide +kernel
theorem dX12_digits_72 : decode cX12_digits 72 = .ok (.iconst 1, 1) := by decide +kernel
theorem dX12_digits_73 : decode cX12_digits 73 = .ok (.iadd, 1) := by decide +kernel
theorem dX12_digits_74 : decode cX12_digits 74 = .ok (.putfield 172, 3) := by decide +kernel
theorem dX12_digits_77 : decode cX12_digits 77 = .ok (.iinc 3 1, 3) := by decide +kernel
theorem dX12_digits_80 : decode cX12_digits 80 = .ok (.goto (-55), 3) := by decide +kernel
theorem dX12_digits_83 : decode cX12_digits 83 = .ok (.iconst 1, 1) := by decide +kernel
theorem dX12_digits_84 : decode cX12_digits 84 = .ok (.ireturn, 1) := by decide +kernel
theorem dX12_figures_0 : decode cX12_figures 0 = .ok (.aload_n 0, 1) := by decide +kernel
theorem dX12_figures_1 : decode cX12_figures 1 = .ok (.bipush 32, 2) := by decide +kernel
theorem dX12_figures_3 : decode cX12_figures 3 = .ok (.invokevirtual 183, 3) := by decide +kernel
theorem dX12_figures_6 : decode cX12_figures 6 = .ok (.ifCond .eq 16, 3) := by decide +kernel
theorem dX12_figures_9 : decode cX12_figures 9 = .ok (.aload_n 0, 1) := by decide +kernel
theorem dX12_figures_10 : decode cX12_figures 10 = .ok (.iload_n 1, 1) := by decide +kernel
theorem dX12_figures_11 : decode cX12_figures 11 = .ok (.iload_n 2, 1) := by decide +kernel
theorem dX12_figures_12 : decode cX12_figures 12 = .ok (.invokevirtual 186, 3) := by decide +kernel
theorem dX12_figures_15 : decode cX12_figures 15 = .ok (.ifCond .eq 7, 3) := by decide +kernel
theorem dX12_figures_18 : decode cX12_figures 18 = .ok (.iconst 1, 1) := by decide +kernel
theorem dX12_figures_19 : decode cX12_figures 19 = .ok (.goto 4, 3) := by decide +kernel
theorem dX12_figures_22 : decode cX12_figures 22 = .ok (.iconst 0, 1) := by decide +kernel
theorem dX12_figures_23 : decode cX12_figures 23 = .ok (.ireturn, 1) := by decide +kernel
theorem dX12_isOneOf_0 : decode cX12_isOneOf 0 = .ok (.aload_n 0, 1) := by decide +kernel
theorem dX12_isOneOf_1 : decode cX12_isOneOf 1 = .ok (.getfield 36, 3) := by decide +kernel
theorem dX12_isOneOf_4 : decode cX12_isOneOf 4 = .ok (.iload_n 1, 1) := by decide +kernel
theorem dX12_isOneOf_5 : decode cX12_isOneOf 5 = .ok (.aload_n 0, 1) := by decide +kernel
theorem dX12_isOneOf_6 : decode cX12_isOneOf 6 = .ok (.invokevirtual 175, 3) := by decide +kernel
theorem dX12_isOneOf_9 : decode cX12_isOneOf 9 = .ok (.iload_n 2, 1) := by decide +kernel
theorem dX12_isOneOf_10 : decode cX12_isOneOf 10 = .ok (.if_icmp .ne 7, 3) := by decide +kernel
theorem dX12_isOneOf_13 : decode cX12_isOneOf 13 = .ok (.iconst 1, 1) := by decide +kernel
theorem dX12_isOneOf_14 : decode cX12_isOneOf 14 = .ok (.goto 4, 3) := by decide +kernel
theorem dX12_isOneOf_17 : decode cX12_isOneOf 17 = .ok (.iconst 0, 1) := by decide +kernel
theorem dX12_isOneOf_18 : decode cX12_isOneOf 18 = .ok (.iastore, 1) := by decide +kernel
theorem dX12_isOneOf_19 : decode cX12_isOneOf 19 = .ok (.aload_n 0, 1) := by decide +kernel
theorem dX12_isOneOf_20 : decode cX12_isOneOf 20 = .ok (.iload_n 2, 1) := by decide +kernel
theorem dX12_isOneOf_21 : decode cX12_isOneOf 21 = .ok (.invokevirtual 183, 3) := by decide +kernel
theorem dX12_isOneOf_24 : decode cX12_isOneOf 24 = .ok (.ifCond .ne 11, 3) := by decide +kernel
theorem dX12_isOneOf_27 : decode cX12_isOneOf 27 = .ok (.aload_n 0, 1) := by decide +kernel
theorem dX12_isOneOf_28 : decode cX12_isOneOf 28 = .ok (.iload_n 3, 1) := by decide +kernel
theorem dX12_isOneOf_29 : decode cX12_isOneOf 29 = .ok (.invokevirtual 183, 3) := by decide +kernel
theorem dX12_isOneOf_32 : decode cX12_isOneOf 32 = .ok (.ifCond .eq 7, 3) := by decide +kernel
theorem dX12_isOneOf_35 : decode cX12_isOneOf 35 = .ok (.iconst 1, 1) := by decide +kernel
theorem dX12_isOneOf_36 : decode cX12_isOneOf 36 = .ok (.goto 4, 3) := by decide +kernel
theorem dX12_isOneOf_39 : decode cX12_isOneOf 39 = .ok (.iconst 0, 1) := by decide +kernel
theorem dX12_isOneOf_40 : decode cX12_isOneOf 40 = .ok (.ireturn, 1) := by decide +kernel
theorem dX12_commandHere_0 : decode cX12_commandHere 0 = .ok (.iconst 5, 1) := by decide +kernel
theorem dX12_commandHere_1 : decode cX12_commandHere 1 = .ok (.aload_n 0, 1) := by decide +kernel
theorem dX12_commandHere_2 : decode cX12_commandHere 2 = .ok (.getfield 178, 3) := by decide +kernel
theorem dX12_commandHere_5 : decode cX12_commandHere 5 = .ok (.imul, 1) := by decide +kernel
theorem dX12_commandHere_6 : decode cX12_commandHere 6 = .ok (.iconst 1, 1) := by decide +kernel
theorem dX12_commandHere_7 : decode cX12_commandHere 7 = .ok (.iadd, 1) := by decide +kernel
theorem dX12_commandHere_8 : decode cX12_commandHere 8 = .ok (.istore_n 1, 1) := by decide +kernel
theorem dX12_commandHere_9 : decode cX12_commandHere 9 = .ok (.aload_n 0, 1) := by decide +kernel
theorem dX12_commandHere_10 : decode cX12_commandHere 10 = .ok (.bipush 108, 2) := by decide +kernel
theorem dX12_commandHere_12 : decode cX12_commandHere 12 = .ok (.invokevirtual 183, 3) := by decide +kernel
theorem dX12_commandHere_15 : decode cX12_commandHere 15 = .ok (.ifCond .eq 11, 3) := by decide +kernel
theorem dX12_commandHere_18 : decode cX12_commandHere 18 = .ok (.aload_n 0, 1) := by decide +kernel
theorem dX12_commandHere_19 : decode cX12_commandHere 19 = .ok (.iconst 0, 1) := by decide +kernel
theorem dX12_commandHere_20 : decode cX12_commandHere 20 = .ok (.ldc 189, 2) := by decide +kernel
theorem dX12_commandHere_22 : decode cX12_commandHere 22 = .ok (.invokevirtual 191, 3) := by decide +kernel
theorem dX12_commandHere_25 : decode cX12_commandHere 25 = .ok (.ireturn, 1) := by decide +kernel
theorem dX12_commandHere_26 : decode cX12_commandHere 26 = .ok (.aload_n 0, 1) := by decide +kernel
theorem dX12_commandHere_27 : decode cX12_commandHere 27 = .ok (.bipush 99, 2) := by decide +kernel
theorem dX12_commandHere_29 : decode cX12_commandHere 29 = .ok (.invokevirtual 183, 3) := by decide +kernel
theorem dX12_commandHere_32 : decode cX12_commandHere 32 = .ok (.ifCond .eq 28, 3) := by decide +kernel
theorem dX12_commandHere_35 : decode cX12_commandHere 35 = .ok (.aload_n 0, 1) := by decide +kernel
theorem dX12_commandHere_36 : decode cX12_commandHere 36 = .ok (.iconst 2, 1) := by decide +kernel
theorem dX12_commandHere_37 : decode cX12_commandHere 37 = .ok (.ldc 195, 2) := by decide +kernel
theorem dX12_commandHere_39 : decode cX12_commandHere 39 = .ok (.invokevirtual 191, 3) := by decide +kernel
theorem dX12_commandHere_42 : decode cX12_commandHere 42 = .ok (.ifCond .eq 16, 3) := by decide +kernel
theorem dX12_commandHere_45 : decode cX12_commandHere 45 = .ok (.aload_n 0, 1) := by decide +kernel
theorem dX12_commandHere_46 : decode cX12_commandHere 46 = .ok (.iload_n 1, 1) := by decide +kernel
theorem dX12_commandHere_47 : decode cX12_commandHere 47 = .ok (.iconst 3, 1) := by decide +kernel
theorem dX12_commandHere_48 : decode cX12_commandHere 48 = .ok (.invokevirtual 197, 3) := by decide +kernel
theorem dX12_commandHere_51 : decode cX12_commandHere 51 = .ok (.ifCond .eq 7, 3) := by decide +kernel
theorem dX12_commandHere_54 : decode cX12_commandHere 54 = .ok (.iconst 1, 1) := by decide +kernel
theorem dX12_commandHere_55 : decode cX12_commandHere 55 = .ok (.goto 4, 3) := by decide +kernel
theorem dX12_commandHere_58 : decode cX12_commandHere 58 = .ok (.iconst 0, 1) := by decide +kernel
theorem dX12_commandHere_59 : decode cX12_commandHere 59 = .ok (.ireturn, 1) := by decide +kernel
theorem dX12_commandHere_60 : decode cX12_commandHere 60 = .ok (.aload_n 0, 1) := by decide +kernel
theorem dX12_commandHere_61 : decode cX12_commandHere 61 = .ok (.bipush 115, 2) := by decide +kernel
theorem dX12_commandHere_63 : decode cX12_commandHere 63 = .ok (.invokevirtual 183, 3) := by decide +kernel
theorem dX12_commandHere_66 : decode cX12_commandHere 66 = .ok (.ifCond .eq 53, 3) := by decide +kernel
theorem dX12_commandHere_69 : decode cX12_commandHere 69 = .ok (.aload_n 0, 1) := by decide +kernel
theorem dX12_commandHere_70 : decode cX12_commandHere 70 = .ok (.iconst 3, 1) := by decide +kernel
theorem dX12_commandHere_71 : decode cX12_commandHere 71 = .ok (.ldc 200, 2) := by decide +kernel
theorem dX12_commandHere_73 : decode cX12_commandHere 73 = .ok (.invokevirtual 191, 3) := by decide +kernel
theorem dX12_commandHere_76 : decode cX12_commandHere 76 = .ok (.ifCond .eq 41, 3) := by decide +kernel
theorem dX12_commandHere_79 : decode cX12_commandHere 79 = .ok (.aload_n 0, 1) := by decide +kernel
theorem dX12_commandHere_80 : decode cX12_commandHere 80 = .ok (.iload_n 1, 1) := by decide +kernel
theorem dX12_commandHere_81 : decode cX12_commandHere 81 = .ok (.iconst 1, 1) := by decide +kernel
theorem dX12_commandHere_82 : decode cX12_commandHere 82 = .ok (.invokevirtual 197, 3) := by decide +kernel
theorem dX12_commandHere_85 : decode cX12_commandHere 85 = .ok (.ifCond .eq 32, 3) := by decide +kernel
theorem dX12_commandHere_88 : decode cX12_commandHere 88 = .ok (.aload_n 0, 1) := by decide +kernel
theorem dX12_commandHere_89 : decode cX12_commandHere 89 = .ok (.iload_n 1, 1) := by decide +kernel
theorem dX12_commandHere_90 : decode cX12_commandHere 90 = .ok (.iconst 1, 1) := by decide +kernel
theorem dX12_commandHere_91 : decode cX12_commandHere 91 = .ok (.iadd, 1) := by decide +kernel
theorem dX12_commandHere_92 : decode cX12_commandHere 92 = .ok (.iconst 1, 1) := by decide +kernel
theorem dX12_commandHere_93 : decode cX12_commandHere 93 = .ok (.invokevirtual 186, 3) := by decide +kernel
theorem dX12_commandHere_96 : decode cX12_commandHere 96 = .ok (.ifCond .eq 21, 3) := by decide +kernel
theorem dX12_commandHere_99 : decode cX12_commandHere 99 = .ok (.aload_n 0, 1) := by decide +kernel
theorem dX12_commandHere_100 : decode cX12_commandHere 100 = .ok (.iload_n 1, 1) := by decide +kernel
theorem dX12_commandHere_101 : decode cX12_commandHere 101 = .ok (.iconst 2, 1) := by decide +kernel
theorem dX12_commandHere_102 : decode cX12_commandHere 102 = .ok (.iadd, 1) := by decide +kernel
theorem dX12_commandHere_103 : decode cX12_commandHere 103 = .ok (.bipush 43, 2) := by decide +kernel
theorem dX12_commandHere_105 : decode cX12_commandHere 105 = .ok (.bipush 45, 2) := by decide +kernel
theorem dX12_commandHere_107 : decode cX12_commandHere 107 = .ok (.invokevirtual 202, 3) := by decide +kernel
theorem dX12_commandHere_110 : decode cX12_commandHere 110 = .ok (.ifCond .eq 7, 3) := by decide +kernel
theorem dX12_commandHere_113 : decode cX12_commandHere 113 = .ok (.iconst 1, 1) := by decide +kernel
theorem dX12_commandHere_114 : decode cX12_commandHere 114 = .ok (.goto 4, 3) := by decide +kernel
theorem dX12_commandHere_117 : decode cX12_commandHere 117 = .ok (.iconst 0, 1) := by decide +kernel
theorem dX12_commandHere_118 : decode cX12_commandHere 118 = .ok (.ireturn, 1) := by decide +kernel
theorem dX12_commandHere_119 : decode cX12_commandHere 119 = .ok (.aload_n 0, 1) := by decide +kernel
theorem dX12_commandHere_120 : decode cX12_commandHere 120 = .ok (.bipush 100, 2) := by decide +kernel
theorem dX12_commandHere_122 : decode cX12_commandHere 122 = .ok (.invokevirtual 183, 3) := by decide +kernel
theorem dX12_commandHere_125 : decode cX12_commandHere 125 = .ok (.ifCond .eq 28, 3) := by decide +kernel
theorem dX12_commandHere_128 : decode cX12_commandHere 128 = .ok (.aload_n 0, 1) := by decide +kernel
theorem dX12_commandHere_129 : decode cX12_commandHere 129 = .ok (.iconst 4, 1) := by decide +kernel
theorem dX12_commandHere_130 : decode cX12_commandHere 130 = .ok (.ldc 205, 2) := by decide +kernel
theorem dX12_commandHere_132 : decode cX12_commandHere 132 = .ok (.invokevirtual 191, 3) := by decide +kernel
theorem dX12_commandHere_135 : decode cX12_commandHere 135 = .ok (.ifCond .eq 16, 3) := by decide +kernel
theorem dX12_commandHere_138 : decode cX12_commandHere 138 = .ok (.aload_n 0, 1) := by decide +kernel
theorem dX12_commandHere_139 : decode cX12_commandHere 139 = .ok (.iload_n 1, 1) := by decide +kernel
theorem dX12_commandHere_140 : decode cX12_commandHere 140 = .ok (.iconst 2, 1) := by decide +kernel
theorem dX12_commandHere_141 : decode cX12_commandHere 141 = .ok (.invokevirtual 197, 3) := by decide +kernel
theorem dX12_commandHere_144 : decode cX12_commandHere 144 = .ok (.ifCond .eq 7, 3) := by decide +kernel
theorem dX12_commandHere_147 : decode cX12_commandHere 147 = .ok (.iconst 1, 1) := by decide +kernel
theorem dX12_commandHere_148 : decode cX12_commandHere 148 = .ok (.goto 4, 3) := by decide +kernel
theorem dX12_commandHere_151 : decode cX12_commandHere 151 = .ok (.iconst 0, 1) := by decide +kernel
theorem dX12_commandHere_152 : decode cX12_commandHere 152 = .ok (.ireturn, 1) := by decide +kernel
theorem dX12_commandHere_153 : decode cX12_commandHere 153 = .ok (.aload_n 0, 1) := by decide +kernel
theorem dX12_commandHere_154 : decode cX12_commandHere 154 = .ok (.bipush 97, 2) := by decide +kernel
theorem dX12_commandHere_156 : decode cX12_commandHere 156 = .ok (.invokevirtual 183, 3) := by decide +kernel
theorem dX12_commandHere_159 : decode cX12_commandHere 159 = .ok (.ifCond .eq 51, 3) := by decide +kernel
theorem dX12_commandHere_162 : decode cX12_commandHere 162 = .ok (.aload_n 0, 1) := by decide +kernel
theorem dX12_commandHere_163 : decode cX12_commandHere 163 = .ok (.iconst 5, 1) := by decide +kernel
theorem dX12_commandHere_164 : decode cX12_commandHere 164 = .ok (.ldc 207, 2) := by decide +kernel
theorem dX12_commandHere_166 : decode cX12_commandHere 166 = .ok (.invokevirtual 191, 3) := by decide +kernel
theorem dX12_commandHere_169 : decode cX12_commandHere 169 = .ok (.ifCond .eq 39, 3) := by decide +kernel
theorem dX12_commandHere_172 : decode cX12_commandHere 172 = .ok (.aload_n 0, 1) := by decide +kernel
theorem dX12_commandHere_173 : decode cX12_commandHere 173 = .ok (.iload_n 1, 1) := by decide +kernel
theorem dX12_commandHere_174 : decode cX12_commandHere 174 = .ok (.iconst 1, 1) := by decide +kernel
theorem dX12_commandHere_175 : decode cX12_commandHere 175 = .ok (.invokevirtual 197, 3) := by decide +kernel
theorem dX12_commandHere_178 : decode cX12_commandHere 178 = .ok (.ifCond .eq 30, 3) := by decide +kernel
theorem dX12_commandHere_181 : decode cX12_commandHere 181 = .ok (.aload_n 0, 1) := by decide +kernel
theorem dX12_commandHere_182 : decode cX12_commandHere 182 = .ok (.bipush 32, 2) := by decide +kernel
theorem dX12_commandHere_184 : decode cX12_commandHere 184 = .ok (.invokevirtual 183, 3) := by decide +kernel
theorem dX12_commandHere_187 : decode cX12_commandHere 187 = .ok (.ifCond .eq 21, 3) := by decide +kernel
theorem dX12_commandHere_190 : decode cX12_commandHere 190 = .ok (.aload_n 0, 1) := by decide +kernel
theorem dX12_commandHere_191 : decode cX12_commandHere 191 = .ok (.iload_n 1, 1) := by decide +kernel
theorem dX12_commandHere_192 : decode cX12_commandHere 192 = .ok (.iconst 1, 1) := by decide +kernel
theorem dX12_commandHere_193 : decode cX12_commandHere 193 = .ok (.iadd, 1) := by decide +kernel
theorem dX12_commandHere_194 : decode cX12_commandHere 194 = .ok (.bipush 103, 2) := by decide +kernel
theorem dX12_commandHere_196 : decode cX12_commandHere 196 = .ok (.bipush 105, 2) := by decide +kernel
theorem dX12_commandHere_198 : decode cX12_commandHere 198 = .ok (.invokevirtual 202, 3) := by decide +kernel
theorem dX12_commandHere_201 : decode cX12_commandHere 201 = .ok (.ifCond .eq 7, 3) := by decide +kernel
theorem dX12_commandHere_204 : decode cX12_commandHere 204 = .ok (.iconst 1, 1) := by decide +kernel
theorem dX12_commandHere_205 : decode cX12_commandHere 205 = .ok (.goto 4, 3) := by decide +kernel
theorem dX12_commandHere_208 : decode cX12_commandHere 208 = .ok (.iconst 0, 1) := by decide +kernel
theorem dX12_commandHere_209 : decode cX12_commandHere 209 = .ok (.ireturn, 1) := by decide +kernel
theorem dX12_commandHere_210 : decode cX12_commandHere 210 = .ok (.aload_n 0, 1) := by decide +kernel
theorem dX12_commandHere_211 : decode cX12_commandHere 211 = .ok (.bipush 119, 2) := by decide +kernel
theorem dX12_commandHere_213 : decode cX12_commandHere 213 = .ok (.invokevirtual 183, 3) := by decide +kernel
theorem dX12_commandHere_216 : decode cX12_commandHere 216 = .ok (.ifCond .eq 47, 3) := by decide +kernel
theorem dX12_commandHere_219 : decode cX12_commandHere 219 = .ok (.aload_n 0, 1) := by decide +kernel
theorem dX12_commandHere_220 : decode cX12_commandHere 220 = .ok (.bipush 7, 2) := by decide +kernel
theorem dX12_commandHere_222 : decode cX12_commandHere 222 = .ok (.ldc 209, 2) := by decide +kernel
theorem dX12_commandHere_224 : decode cX12_commandHere 224 = .ok (.invokevirtual 191, 3) := by decide +kernel
theorem dX12_commandHere_227 : decode cX12_commandHere 227 = .ok (.ifCond .ne 5, 3) := by decide +kernel
theorem dX12_commandHere_230 : decode cX12_commandHere 230 = .ok (.iconst 0, 1) := by decide +kernel
theorem dX12_commandHere_231 : decode cX12_commandHere 231 = .ok (.ireturn, 1) := by decide +kernel
theorem dX12_commandHere_232 : decode cX12_commandHere 232 = .ok (.aload_n 0, 1) := by decide +kernel
theorem dX12_commandHere_233 : decode cX12_commandHere 233 = .ok (.getfield 36, 3) := by decide +kernel
theorem dX12_commandHere_236 : decode cX12_commandHere 236 = .ok (.iload_n 1, 1) := by decide +kernel
theorem dX12_commandHere_237 : decode cX12_commandHere 237 = .ok (.iconst 1, 1) := by decide +kernel
theorem dX12_commandHere_238 : decode cX12_commandHere 238 = .ok (.iastore, 1) := by decide +kernel
theorem dX12_commandHere_239 : decode cX12_commandHere 239 = .ok (.aload_n 0, 1) := by decide +kernel
theorem dX12_commandHere_240 : decode cX12_commandHere 240 = .ok (.invokevirtual 175, 3) := by decide +kernel
theorem dX12_commandHere_243 : decode cX12_commandHere 243 = .ok (.bipush 32, 2) := by decide +kernel
theorem dX12_commandHere_245 : decode cX12_commandHere 245 = .ok (.if_icmp .ne 12, 3) := by decide +kernel
theorem dX12_commandHere_248 : decode cX12_commandHere 248 = .ok (.aload_n 0, 1) := by decide +kernel
theorem dX12_commandHere_249 : decode cX12_commandHere 249 = .ok (.iload_n 1, 1) := by decide +kernel
theorem dX12_commandHere_250 : decode cX12_commandHere 250 = .ok (.iconst 1, 1) := by decide +kernel
theorem dX12_commandHere_251 : decode cX12_commandHere 251 = .ok (.invokevirtual 197, 3) := by decide +kernel
theorem dX12_commandHere_254 : decode cX12_commandHere 254 = .ok (.ifCond .eq 7, 3) := by decide +kernel
theorem dX12_commandHere_257 : decode cX12_commandHere 257 = .ok (.iconst 1, 1) := by decide +kernel
theorem dX12_commandHere_258 : decode cX12_commandHere 258 = .ok (.goto 4, 3) := by decide +kernel
theorem dX12_commandHere_261 : decode cX12_commandHere 261 = .ok (.iconst 0, 1) := by decide +kernel
theorem dX12_commandHere_262 : decode cX12_commandHere 262 = .ok (.ireturn, 1) := by decide +kernel
theorem dX12_commandHere_263 : decode cX12_commandHere 263 = .ok (.aload_n 0, 1) := by decide +kernel
theorem dX12_commandHere_264 : decode cX12_commandHere 264 = .ok (.bipush 102, 2) := by decide +kernel
theorem dX12_commandHere_266 : decode cX12_commandHere 266 = .ok (.invokevirtual 183, 3) := by decide +kernel
theorem dX12_commandHere_269 : decode cX12_commandHere 269 = .ok (.ifCond .ne 5, 3) := by decide +kernel
theorem dX12_commandHere_272 : decode cX12_commandHere 272 = .ok (.iconst 0, 1) := by decide +kernel
theorem dX12_commandHere_273 : decode cX12_commandHere 273 = .ok (.ireturn, 1) := by decide +kernel
theorem dX12_commandHere_274 : decode cX12_commandHere 274 = .ok (.aload_n 0, 1) := by decide +kernel
theorem dX12_commandHere_275 : decode cX12_commandHere 275 = .ok (.bipush 114, 2) := by decide +kernel
theorem dX12_commandHere_277 : decode cX12_commandHere 277 = .ok (.invokevirtual 183, 3) := by decide +kernel
theorem dX12_commandHere_280 : decode cX12_commandHere 280 = .ok (.ifCond .eq 29, 3) := by decide +kernel
theorem dX12_commandHere_283 : decode cX12_commandHere 283 = .ok (.aload_n 0, 1) := by decide +kernel
theorem dX12_commandHere_284 : decode cX12_commandHere 284 = .ok (.bipush 6, 2) := by decide +kernel
theorem dX12_commandHere_286 : decode cX12_commandHere 286 = .ok (.ldc 211, 2) := by decide +kernel
theorem dX12_commandHere_288 : decode cX12_commandHere 288 = .ok (.invokevirtual 191, 3) := by decide +kernel
theorem dX12_commandHere_291 : decode cX12_commandHere 291 = .ok (.ifCond .eq 16, 3) := by decide +kernel
theorem dX12_commandHere_294 : decode cX12_commandHere 294 = .ok (.aload_n 0, 1) := by decide +kernel
theorem dX12_commandHere_295 : decode cX12_commandHere 295 = .ok (.iload_n 1, 1) := by decide +kernel
theorem dX12_commandHere_296 : decode cX12_commandHere 296 = .ok (.iconst 1, 1) := by decide +kernel
theorem dX12_commandHere_297 : decode cX12_commandHere 297 = .ok (.invokevirtual 197, 3) := by decide +kernel
theorem dX12_commandHere_300 : decode cX12_commandHere 300 = .ok (.ifCond .eq 7, 3) := by decide +kernel
theorem dX12_commandHere_303 : decode cX12_commandHere 303 = .ok (.iconst 1, 1) := by decide +kernel
theorem dX12_commandHere_304 : decode cX12_commandHere 304 = .ok (.goto 4, 3) := by decide +kernel
theorem dX12_commandHere_307 : decode cX12_commandHere 307 = .ok (.iconst 0, 1) := by decide +kernel
theorem dX12_commandHere_308 : decode cX12_commandHere 308 = .ok (.ireturn, 1) := by decide +kernel
theorem dX12_commandHere_309 : decode cX12_commandHere 309 = .ok (.aload_n 0, 1) := by decide +kernel
theorem dX12_commandHere_310 : decode cX12_commandHere 310 = .ok (.iconst 1, 1) := by decide +kernel
theorem dX12_commandHere_311 : decode cX12_commandHere 311 = .ok (.ldc 213, 2) := by decide +kernel
theorem dX12_commandHere_313 : decode cX12_commandHere 313 = .ok (.invokevirtual 191, 3) := by decide +kernel
theorem dX12_commandHere_316 : decode cX12_commandHere 316 = .ok (.ifCond .eq 49, 3) := by decide +kernel
theorem dX12_commandHere_319 : decode cX12_commandHere 319 = .ok (.aload_n 0, 1) := by decide +kernel
theorem dX12_commandHere_320 : decode cX12_commandHere 320 = .ok (.iload_n 1, 1) := by decide +kernel
theorem dX12_commandHere_321 : decode cX12_commandHere 321 = .ok (.iconst 1, 1) := by decide +kernel
theorem dX12_commandHere_322 : decode cX12_commandHere 322 = .ok (.invokevirtual 197, 3) := by decide +kernel
theorem dX12_commandHere_325 : decode cX12_commandHere 325 = .ok (.ifCond .eq 40, 3) := by decide +kernel
theorem dX12_commandHere_328 : decode cX12_commandHere 328 = .ok (.aload_n 0, 1) := by decide +kernel
theorem dX12_commandHere_329 : decode cX12_commandHere 329 = .ok (.iload_n 1, 1) := by decide +kernel
theorem dX12_commandHere_330 : decode cX12_commandHere 330 = .ok (.iconst 1, 1) := by decide +kernel
theorem dX12_commandHere_331 : decode cX12_commandHere 331 = .ok (.iadd, 1) := by decide +kernel
theorem dX12_commandHere_332 : decode cX12_commandHere 332 = .ok (.iconst 2, 1) := by decide +kernel
theorem dX12_commandHere_333 : decode cX12_commandHere 333 = .ok (.invokevirtual 197, 3) := by decide +kernel
theorem dX12_commandHere_336 : decode cX12_commandHere 336 = .ok (.ifCond .eq 29, 3) := by decide +kernel
theorem dX12_commandHere_339 : decode cX12_commandHere 339 = .ok (.aload_n 0, 1) := by decide +kernel
theorem dX12_commandHere_340 : decode cX12_commandHere 340 = .ok (.iload_n 1, 1) := by decide +kernel
theorem dX12_commandHere_341 : decode cX12_commandHere 341 = .ok (.iconst 2, 1) := by decide +kernel
theorem dX12_commandHere_342 : decode cX12_commandHere 342 = .ok (.iadd, 1) := by decide +kernel
theorem dX12_commandHere_343 : decode cX12_commandHere 343 = .ok (.iconst 2, 1) := by decide +kernel
theorem dX12_commandHere_344 : decode cX12_commandHere 344 = .ok (.invokevirtual 197, 3) := by decide +kernel
theorem dX12_commandHere_347 : decode cX12_commandHere 347 = .ok (.ifCond .eq 18, 3) := by decide +kernel
theorem dX12_commandHere_350 : decode cX12_commandHere 350 = .ok (.aload_n 0, 1) := by decide +kernel
theorem dX12_commandHere_351 : decode cX12_commandHere 351 = .ok (.iload_n 1, 1) := by decide +kernel
theorem dX12_commandHere_352 : decode cX12_commandHere 352 = .ok (.iconst 3, 1) := by decide +kernel
theorem dX12_commandHere_353 : decode cX12_commandHere 353 = .ok (.iadd, 1) := by decide +kernel
theorem dX12_commandHere_354 : decode cX12_commandHere 354 = .ok (.iconst 1, 1) := by decide +kernel
theorem dX12_commandHere_355 : decode cX12_commandHere 355 = .ok (.invokevirtual 197, 3) := by decide +kernel
theorem dX12_commandHere_358 : decode cX12_commandHere 358 = .ok (.ifCond .eq 7, 3) := by decide +kernel
theorem dX12_commandHere_361 : decode cX12_commandHere 361 = .ok (.iconst 1, 1) := by decide +kernel
theorem dX12_commandHere_362 : decode cX12_commandHere 362 = .ok (.goto 4, 3) := by decide +kernel
theorem dX12_commandHere_365 : decode cX12_commandHere 365 = .ok (.iconst 0, 1) := by decide +kernel
theorem dX12_commandHere_366 : decode cX12_commandHere 366 = .ok (.ireturn, 1) := by decide +kernel
theorem dX12_isText_0 : decode cX12_isText 0 = .ok (.aload_n 0, 1) := by decide +kernel
theorem dX12_isText_1 : decode cX12_isText 1 = .ok (.iconst 0, 1) := by decide +kernel
theorem dX12_isText_2 : decode cX12_isText 2 = .ok (.putfield 172, 3) := by decide +kernel
theorem dX12_isText_5 : decode cX12_isText 5 = .ok (.aload_n 0, 1) := by decide +kernel
theorem dX12_isText_6 : decode cX12_isText 6 = .ok (.iconst 0, 1) := by decide +kernel
theorem dX12_isText_7 : decode cX12_isText 7 = .ok (.putfield 178, 3) := by decide +kernel
theorem dX12_isText_10 : decode cX12_isText 10 = .ok (.aload_n 0, 1) := by decide +kernel
theorem dX12_isText_11 : decode cX12_isText 11 = .ok (.invokevirtual 215, 3) := by decide +kernel
theorem dX12_isText_14 : decode cX12_isText 14 = .ok (.ifCond .ne 5, 3) := by decide +kernel
theorem dX12_isText_17 : decode cX12_isText 17 = .ok (.iconst 0, 1) := by decide +kernel
theorem dX12_isText_18 : decode cX12_isText 18 = .ok (.ireturn, 1) := by decide +kernel
theorem dX12_isText_19 : decode cX12_isText 19 = .ok (.aload_n 0, 1) := by decide +kernel
theorem dX12_isText_20 : decode cX12_isText 20 = .ok (.dup, 1) := by decide +kernel
theorem dX12_isText_21 : decode cX12_isText 21 = .ok (.getfield 178, 3) := by decide +kernel
theorem dX12_isText_24 : decode cX12_isText 24 = .ok (.iconst 1, 1) := by decide +kernel
theorem dX12_isText_25 : decode cX12_isText 25 = .ok (.iadd, 1) := by decide +kernel
theorem dX12_isText_26 : decode cX12_isText 26 = .ok (.putfield 178, 3) := by decide +kernel
theorem dX12_isText_29 : decode cX12_isText 29 = .ok (.aload_n 0, 1) := by decide +kernel
theorem dX12_isText_30 : decode cX12_isText 30 = .ok (.bipush 59, 2) := by decide +kernel
theorem dX12_isText_32 : decode cX12_isText 32 = .ok (.invokevirtual 183, 3) := by decide +kernel
theorem dX12_isText_35 : decode cX12_isText 35 = .ok (.ifCond .ne (-25), 3) := by decide +kernel
theorem dX12_isText_38 : decode cX12_isText 38 = .ok (.aload_n 0, 1) := by decide +kernel
theorem dX12_isText_39 : decode cX12_isText 39 = .ok (.getfield 172, 3) := by decide +kernel
theorem dX12_isText_42 : decode cX12_isText 42 = .ok (.aload_n 0, 1) := by decide +kernel
theorem dX12_isText_43 : decode cX12_isText 43 = .ok (.getfield 169, 3) := by decide +kernel
theorem dX12_isText_46 : decode cX12_isText 46 = .ok (.if_icmp .ne 7, 3) := by decide +kernel
theorem dX12_isText_49 : decode cX12_isText 49 = .ok (.iconst 1, 1) := by decide +kernel
theorem dX12_isText_50 : decode cX12_isText 50 = .ok (.goto 4, 3) := by decide +kernel
theorem dX12_isText_53 : decode cX12_isText 53 = .ok (.iconst 0, 1) := by decide +kernel
theorem dX12_isText_54 : decode cX12_isText 54 = .ok (.ireturn, 1) := by decide +kernel
theorem dX12_carries_0 : decode cX12_carries 0 = .ok (.aload_n 0, 1) := by decide +kernel
theorem dX12_carries_1 : decode cX12_carries 1 = .ok (.getfield 36, 3) := by decide +kernel
theorem dX12_carries_4 : decode cX12_carries 4 = .ok (.iload_n 1, 1) := by decide +kernel
theorem dX12_carries_5 : decode cX12_carries 5 = .ok (.iconst 1, 1) := by decide +kernel
theorem dX12_carries_6 : decode cX12_carries 6 = .ok (.iadd, 1) := by decide +kernel
theorem dX12_carries_7 : decode cX12_carries 7 = .ok (.iaload, 1) := by decide +kernel
theorem dX12_carries_8 : decode cX12_carries 8 = .ok (.istore_n 2, 1) := by decide +kernel
theorem dX12_carries_9 : decode cX12_carries 9 = .ok (.aload_n 0, 1) := by decide +kernel
theorem dX12_carries_10 : decode cX12_carries 10 = .ok (.getfield 36, 3) := by decide +kernel
theorem dX12_carries_13 : decode cX12_carries 13 = .ok (.iload_n 1, 1) := by decide +kernel
theorem dX12_carries_14 : decode cX12_carries 14 = .ok (.iconst 2, 1) := by decide +kernel
theorem dX12_carries_15 : decode cX12_carries 15 = .ok (.iadd, 1) := by decide +kernel
theorem dX12_carries_16 : decode cX12_carries 16 = .ok (.iaload, 1) := by decide +kernel
theorem dX12_carries_17 : decode cX12_carries 17 = .ok (.istore_n 3, 1) := by decide +kernel
theorem dX12_carries_18 : decode cX12_carries 18 = .ok (.aload_n 0, 1) := by decide +kernel
theorem dX12_carries_19 : decode cX12_carries 19 = .ok (.getfield 36, 3) := by decide +kernel
theorem dX12_carries_22 : decode cX12_carries 22 = .ok (.iload_n 1, 1) := by decide +kernel
theorem dX12_carries_23 : decode cX12_carries 23 = .ok (.iaload, 1) := by decide +kernel
theorem dX12_carries_24 : decode cX12_carries 24 = .ok (.tableswitch 138 0 6 #[44, 49, 72, 78, 102, 108, 132], 44) := by decide +kernel
theorem dX12_carries_68 : decode cX12_carries 68 = .ok (.aload_n 0, 1) := by decide +kernel
theorem dX12_carries_69 : decode cX12_carries 69 = .ok (.invokevirtual 219, 3) := by decide +kernel
theorem dX12_carries_72 : decode cX12_carries 72 = .ok (.ireturn, 1) := by decide +kernel
theorem dX12_carries_73 : decode cX12_carries 73 = .ok (.aload_n 0, 1) := by decide +kernel
theorem dX12_carries_74 : decode cX12_carries 74 = .ok (.iload_n 2, 1) := by decide +kernel
theorem dX12_carries_75 : decode cX12_carries 75 = .ok (.iload_n 3, 1) := by decide +kernel
theorem dX12_carries_76 : decode cX12_carries 76 = .ok (.aload_n 0, 1) := by decide +kernel
theorem dX12_carries_77 : decode cX12_carries 77 = .ok (.getfield 36, 3) := by decide +kernel
theorem dX12_carries_80 : decode cX12_carries 80 = .ok (.iload_n 1, 1) := by decide +kernel
theorem dX12_carries_81 : decode cX12_carries 81 = .ok (.iconst 3, 1) := by decide +kernel
theorem dX12_carries_82 : decode cX12_carries 82 = .ok (.iadd, 1) := by decide +kernel
theorem dX12_carries_83 : decode cX12_carries 83 = .ok (.iaload, 1) := by decide +kernel
theorem dX12_carries_84 : decode cX12_carries 84 = .ok (.aload_n 0, 1) := by decide +kernel
theorem dX12_carries_85 : decode cX12_carries 85 = .ok (.getfield 36, 3) := by decide +kernel
theorem dX12_carries_88 : decode cX12_carries 88 = .ok (.iload_n 1, 1) := by decide +kernel
theorem dX12_carries_89 : decode cX12_carries 89 = .ok (.iconst 4, 1) := by decide +kernel
theorem dX12_carries_90 : decode cX12_carries 90 = .ok (.iadd, 1) := by decide +kernel
theorem dX12_carries_91 : decode cX12_carries 91 = .ok (.iaload, 1) := by decide +kernel
theorem dX12_carries_92 : decode cX12_carries 92 = .ok (.invokevirtual 222, 3) := by decide +kernel
theorem dX12_carries_95 : decode cX12_carries 95 = .ok (.ireturn, 1) := by decide +kernel
theorem dX12_carries_96 : decode cX12_carries 96 = .ok (.aload_n 0, 1) := by decide +kernel
theorem dX12_carries_97 : decode cX12_carries 97 = .ok (.iload_n 2, 1) := by decide +kernel
theorem dX12_carries_98 : decode cX12_carries 98 = .ok (.invokevirtual 226, 3) := by decide +kernel
theorem dX12_carries_101 : decode cX12_carries 101 = .ok (.ireturn, 1) := by decide +kernel
theorem dX12_carries_102 : decode cX12_carries 102 = .ok (.aload_n 0, 1) := by decide +kernel
theorem dX12_carries_103 : decode cX12_carries 103 = .ok (.iload_n 2, 1) := by decide +kernel
theorem dX12_carries_104 : decode cX12_carries 104 = .ok (.iload_n 3, 1) := by decide +kernel
theorem dX12_carries_105 : decode cX12_carries 105 = .ok (.aload_n 0, 1) := by decide +kernel
theorem dX12_carries_106 : decode cX12_carries 106 = .ok (.getfield 36, 3) := by decide +kernel
theorem dX12_carries_109 : decode cX12_carries 109 = .ok (.iload_n 1, 1) := by decide +kernel
theorem dX12_carries_110 : decode cX12_carries 110 = .ok (.iconst 3, 1) := by decide +kernel
theorem dX12_carries_111 : decode cX12_carries 111 = .ok (.iadd, 1) := by decide +kernel
theorem dX12_carries_112 : decode cX12_carries 112 = .ok (.iaload, 1) := by decide +kernel
theorem dX12_carries_113 : decode cX12_carries 113 = .ok (.iconst 1, 1) := by decide +kernel
theorem dX12_carries_114 : decode cX12_carries 114 = .ok (.if_icmp .ne 7, 3) := by decide +kernel
theorem dX12_carries_117 : decode cX12_carries 117 = .ok (.iconst 1, 1) := by decide +kernel
theorem dX12_carries_118 : decode cX12_carries 118 = .ok (.goto 4, 3) := by decide +kernel
theorem dX12_carries_121 : decode cX12_carries 121 = .ok (.iconst 0, 1) := by decide +kernel
theorem dX12_carries_122 : decode cX12_carries 122 = .ok (.invokevirtual 229, 3) := by decide +kernel
theorem dX12_carries_125 : decode cX12_carries 125 = .ok (.ireturn, 1) := by decide +kernel
theorem dX12_carries_126 : decode cX12_carries 126 = .ok (.aload_n 0, 1) := by decide +kernel
theorem dX12_carries_127 : decode cX12_carries 127 = .ok (.iload_n 2, 1) := by decide +kernel
theorem dX12_carries_128 : decode cX12_carries 128 = .ok (.invokevirtual 233, 3) := by decide +kernel
theorem dX12_carries_131 : decode cX12_carries 131 = .ok (.ireturn, 1) := by decide +kernel
theorem dX12_carries_132 : decode cX12_carries 132 = .ok (.aload_n 0, 1) := by decide +kernel
theorem dX12_carries_133 : decode cX12_carries 133 = .ok (.iload_n 2, 1) := by decide +kernel
theorem dX12_carries_134 : decode cX12_carries 134 = .ok (.iload_n 3, 1) := by decide +kernel
theorem dX12_carries_135 : decode cX12_carries 135 = .ok (.iconst 1, 1) := by decide +kernel
theorem dX12_carries_136 : decode cX12_carries 136 = .ok (.if_icmp .ne 7, 3) := by decide +kernel
theorem dX12_carries_139 : decode cX12_carries 139 = .ok (.iconst 1, 1) := by decide +kernel
theorem dX12_carries_140 : decode cX12_carries 140 = .ok (.goto 4, 3) := by decide +kernel
theorem dX12_carries_143 : decode cX12_carries 143 = .ok (.iconst 0, 1) := by decide +kernel
theorem dX12_carries_144 : decode cX12_carries 144 = .ok (.invokevirtual 236, 3) := by decide +kernel
theorem dX12_carries_147 : decode cX12_carries 147 = .ok (.ifCond .eq 7, 3) := by decide +kernel
theorem dX12_carries_150 : decode cX12_carries 150 = .ok (.iconst 1, 1) := by decide +kernel
theorem dX12_carries_151 : decode cX12_carries 151 = .ok (.goto 4, 3) := by decide +kernel
theorem dX12_carries_154 : decode cX12_carries 154 = .ok (.iconst 0, 1) := by decide +kernel
theorem dX12_carries_155 : decode cX12_carries 155 = .ok (.ireturn, 1) := by decide +kernel
theorem dX12_carries_156 : decode cX12_carries 156 = .ok (.aload_n 0, 1) := by decide +kernel
theorem dX12_carries_157 : decode cX12_carries 157 = .ok (.iload_n 2, 1) := by decide +kernel
theorem dX12_carries_158 : decode cX12_carries 158 = .ok (.invokevirtual 240, 3) := by decide +kernel
theorem dX12_carries_161 : decode cX12_carries 161 = .ok (.ireturn, 1) := by decide +kernel
theorem dX12_carries_162 : decode cX12_carries 162 = .ok (.aload_n 0, 1) := by decide +kernel
theorem dX12_carries_163 : decode cX12_carries 163 = .ok (.iload_n 2, 1) := by decide +kernel
theorem dX12_carries_164 : decode cX12_carries 164 = .ok (.invokevirtual 243, 3) := by decide +kernel
theorem dX12_carries_167 : decode cX12_carries 167 = .ok (.ireturn, 1) := by decide +kernel
theorem dX12_runCommands_0 : decode cX12_runCommands 0 = .ok (.aload_n 0, 1) := by decide +kernel
theorem dX12_runCommands_1 : decode cX12_runCommands 1 = .ok (.invokevirtual 246, 3) := by decide +kernel
theorem dX12_runCommands_4 : decode cX12_runCommands 4 = .ok (.istore_n 1, 1) := by decide +kernel
theorem dX12_runCommands_5 : decode cX12_runCommands 5 = .ok (.iload_n 1, 1) := by decide +kernel
theorem dX12_runCommands_6 : decode cX12_runCommands 6 = .ok (.ifCond .ne 11, 3) := by decide +kernel
theorem dX12_runCommands_9 : decode cX12_runCommands 9 = .ok (.aload_n 0, 1) := by decide +kernel
theorem dX12_runCommands_10 : decode cX12_runCommands 10 = .ok (.aload_n 0, 1) := by decide +kernel
theorem dX12_runCommands_11 : decode cX12_runCommands 11 = .ok (.getfield 172, 3) := by decide +kernel
theorem dX12_runCommands_14 : decode cX12_runCommands 14 = .ok (.putfield 25, 3) := by decide +kernel
theorem dX12_runCommands_17 : decode cX12_runCommands 17 = .ok (.aload_n 0, 1) := by decide +kernel
theorem dX12_runCommands_18 : decode cX12_runCommands 18 = .ok (.iconst 0, 1) := by decide +kernel
theorem dX12_runCommands_19 : decode cX12_runCommands 19 = .ok (.putfield 169, 3) := by decide +kernel
theorem dX12_runCommands_22 : decode cX12_runCommands 22 = .ok (.aload_n 0, 1) := by decide +kernel
theorem dX12_runCommands_23 : decode cX12_runCommands 23 = .ok (.iload_n 1, 1) := by decide +kernel
theorem dX12_runCommands_24 : decode cX12_runCommands 24 = .ok (.ifCond .eq 7, 3) := by decide +kernel
theorem dX12_runCommands_27 : decode cX12_runCommands 27 = .ok (.iconst 0, 1) := by decide +kernel
theorem dX12_runCommands_28 : decode cX12_runCommands 28 = .ok (.goto 4, 3) := by decide +kernel
theorem dX12_runCommands_31 : decode cX12_runCommands 31 = .ok (.iconst 1, 1) := by decide +kernel
theorem dX12_runCommands_32 : decode cX12_runCommands 32 = .ok (.invokevirtual 61, 3) := by decide +kernel
theorem dX12_runCommands_35 : decode cX12_runCommands 35 = .ok (.ifCond .eq 5, 3) := by decide +kernel
theorem dX12_runCommands_38 : decode cX12_runCommands 38 = .ok (.iconst 0, 1) := by decide +kernel
theorem dX12_runCommands_39 : decode cX12_runCommands 39 = .ok (.ireturn, 1) := by decide +kernel
theorem dX12_runCommands_40 : decode cX12_runCommands 40 = .ok (.aload_n 0, 1) := by decide +kernel
theorem dX12_runCommands_41 : decode cX12_runCommands 41 = .ok (.getfield 7, 3) := by decide +kernel
theorem dX12_runCommands_44 : decode cX12_runCommands 44 = .ok (.iconst 0, 1) := by decide +kernel
theorem dX12_runCommands_45 : decode cX12_runCommands 45 = .ok (.aload_n 0, 1) := by decide +kernel
theorem dX12_runCommands_46 : decode cX12_runCommands 46 = .ok (.getfield 19, 3) := by decide +kernel
theorem dX12_runCommands_49 : decode cX12_runCommands 49 = .ok (.iconst 0, 1) := by decide +kernel
theorem dX12_runCommands_50 : decode cX12_runCommands 50 = .ok (.invokestatic 49, 3) := by decide +kernel
theorem dX12_runCommands_53 : decode cX12_runCommands 53 = .ok (.aload_n 0, 1) := by decide +kernel
theorem dX12_runCommands_54 : decode cX12_runCommands 54 = .ok (.iconst 1, 1) := by decide +kernel
theorem dX12_runCommands_55 : decode cX12_runCommands 55 = .ok (.putfield 42, 3) := by decide +kernel
theorem dX12_runCommands_58 : decode cX12_runCommands 58 = .ok (.iconst 0, 1) := by decide +kernel
theorem dX12_runCommands_59 : decode cX12_runCommands 59 = .ok (.istore_n 2, 1) := by decide +kernel
theorem dX12_runCommands_60 : decode cX12_runCommands 60 = .ok (.iconst 0, 1) := by decide +kernel
theorem dX12_runCommands_61 : decode cX12_runCommands 61 = .ok (.istore_n 3, 1) := by decide +kernel
theorem dX12_runCommands_62 : decode cX12_runCommands 62 = .ok (.iload_n 2, 1) := by decide +kernel
theorem dX12_runCommands_63 : decode cX12_runCommands 63 = .ok (.aload_n 0, 1) := by decide +kernel
theorem dX12_runCommands_64 : decode cX12_runCommands 64 = .ok (.getfield 178, 3) := by decide +kernel
theorem dX12_runCommands_67 : decode cX12_runCommands 67 = .ok (.if_icmp .ge 31, 3) := by decide +kernel
theorem dX12_runCommands_70 : decode cX12_runCommands 70 = .ok (.aload_n 0, 1) := by decide +kernel
theorem dX12_runCommands_71 : decode cX12_runCommands 71 = .ok (.getfield 39, 3) := by decide +kernel
theorem dX12_runCommands_74 : decode cX12_runCommands 74 = .ok (.ifCond .ne 24, 3) := by decide +kernel
theorem dX12_runCommands_77 : decode cX12_runCommands 77 = .ok (.aload_n 0, 1) := by decide +kernel
theorem dX12_runCommands_78 : decode cX12_runCommands 78 = .ok (.iconst 5, 1) := by decide +kernel
theorem dX12_runCommands_79 : decode cX12_runCommands 79 = .ok (.iload_n 2, 1) := by decide +kernel
theorem dX12_runCommands_80 : decode cX12_runCommands 80 = .ok (.imul, 1) := by decide +kernel
theorem dX12_runCommands_81 : decode cX12_runCommands 81 = .ok (.invokevirtual 249, 3) := by decide +kernel
theorem dX12_runCommands_84 : decode cX12_runCommands 84 = .ok (.istore_n 3, 1) := by decide +kernel
theorem dX12_runCommands_85 : decode cX12_runCommands 85 = .ok (.aload_n 0, 1) := by decide +kernel
theorem dX12_runCommands_86 : decode cX12_runCommands 86 = .ok (.getfield 39, 3) := by decide +kernel
theorem dX12_runCommands_89 : decode cX12_runCommands 89 = .ok (.ifCond .ne (-27), 3) := by decide +kernel
theorem dX12_runCommands_92 : decode cX12_runCommands 92 = .ok (.iinc 2 1, 3) := by decide +kernel
theorem dX12_runCommands_95 : decode cX12_runCommands 95 = .ok (.goto (-33), 3) := by decide +kernel
theorem dX12_runCommands_98 : decode cX12_runCommands 98 = .ok (.aload_n 0, 1) := by decide +kernel
theorem dX12_runCommands_99 : decode cX12_runCommands 99 = .ok (.iconst 0, 1) := by decide +kernel
theorem dX12_runCommands_100 : decode cX12_runCommands 100 = .ok (.putfield 42, 3) := by decide +kernel
theorem dX12_runCommands_103 : decode cX12_runCommands 103 = .ok (.aload_n 0, 1) := by decide +kernel
theorem dX12_runCommands_104 : decode cX12_runCommands 104 = .ok (.getfield 39, 3) := by decide +kernel
theorem dX12_runCommands_107 : decode cX12_runCommands 107 = .ok (.ifCond .le 36, 3) := by decide +kernel
theorem dX12_runCommands_110 : decode cX12_runCommands 110 = .ok (.aload_n 0, 1) := by decide +kernel
theorem dX12_runCommands_111 : decode cX12_runCommands 111 = .ok (.getfield 19, 3) := by decide +kernel
theorem dX12_runCommands_114 : decode cX12_runCommands 114 = .ok (.iconst 0, 1) := by decide +kernel
theorem dX12_runCommands_115 : decode cX12_runCommands 115 = .ok (.aload_n 0, 1) := by decide +kernel
theorem dX12_runCommands_116 : decode cX12_runCommands 116 = .ok (.getfield 7, 3) := by decide +kernel
theorem dX12_runCommands_119 : decode cX12_runCommands 119 = .ok (.iconst 0, 1) := by decide +kernel
theorem dX12_runCommands_120 : decode cX12_runCommands 120 = .ok (.invokestatic 49, 3) := by decide +kernel
theorem dX12_runCommands_123 : decode cX12_runCommands 123 = .ok (.aload_n 0, 1) := by decide +kernel
theorem dX12_runCommands_124 : decode cX12_runCommands 124 = .ok (.iload_n 2, 1) := by decide +kernel
theorem dX12_runCommands_125 : decode cX12_runCommands 125 = .ok (.putfield 29, 3) := by decide +kernel
theorem dX12_runCommands_128 : decode cX12_runCommands 128 = .ok (.aload_n 0, 1) := by decide +kernel
theorem dX12_runCommands_129 : decode cX12_runCommands 129 = .ok (.iconst 2, 1) := by decide +kernel
theorem dX12_runCommands_130 : decode cX12_runCommands 130 = .ok (.putfield 39, 3) := by decide +kernel
theorem dX12_runCommands_133 : decode cX12_runCommands 133 = .ok (.iload_n 3, 1) := by decide +kernel
theorem dX12_runCommands_134 : decode cX12_runCommands 134 = .ok (.ifCond .le 7, 3) := by decide +kernel
theorem dX12_runCommands_137 : decode cX12_runCommands 137 = .ok (.iconst 0, 1) := by decide +kernel
theorem dX12_runCommands_138 : decode cX12_runCommands 138 = .ok (.goto 4, 3) := by decide +kernel
theorem dX12_runCommands_141 : decode cX12_runCommands 141 = .ok (.iload_n 3, 1) := by decide +kernel
theorem dX12_runCommands_142 : decode cX12_runCommands 142 = .ok (.ireturn, 1) := by decide +kernel
theorem dX12_runCommands_143 : decode cX12_runCommands 143 = .ok (.aload_n 0, 1) := by decide +kernel
theorem dX12_runCommands_144 : decode cX12_runCommands 144 = .ok (.aload_n 0, 1) := by decide +kernel
theorem dX12_runCommands_145 : decode cX12_runCommands 145 = .ok (.getfield 19, 3) := by decide +kernel
theorem dX12_runCommands_148 : decode cX12_runCommands 148 = .ok (.invokevirtual 64, 3) := by decide +kernel
theorem dX12_runCommands_151 : decode cX12_runCommands 151 = .ok (.aload_n 0, 1) := by decide +kernel
theorem dX12_runCommands_152 : decode cX12_runCommands 152 = .ok (.getfield 178, 3) := by decide +kernel
theorem dX12_runCommands_155 : decode cX12_runCommands 155 = .ok (.ireturn, 1) := by decide +kernel
theorem dX12_errorPosition_0 : decode cX12_errorPosition 0 = .ok (.aload_n 0, 1) := by decide +kernel
theorem dX12_errorPosition_1 : decode cX12_errorPosition 1 = .ok (.aload_n 0, 1) := by decide +kernel
theorem dX12_errorPosition_2 : decode cX12_errorPosition 2 = .ok (.getfield 25, 3) := by decide +kernel
theorem dX12_errorPosition_5 : decode cX12_errorPosition 5 = .ok (.ifCond .ge 7, 3) := by decide +kernel
theorem dX12_errorPosition_8 : decode cX12_errorPosition 8 = .ok (.iconst 1, 1) := by decide +kernel
theorem dX12_errorPosition_9 : decode cX12_errorPosition 9 = .ok (.goto 4, 3) := by decide +kernel
theorem dX12_errorPosition_12 : decode cX12_errorPosition 12 = .ok (.iconst 0, 1) := by decide +kernel
theorem dX12_errorPosition_13 : decode cX12_errorPosition 13 = .ok (.invokevirtual 61, 3) := by decide +kernel
theorem dX12_errorPosition_16 : decode cX12_errorPosition 16 = .ok (.ifCond .eq 7, 3) := by decide +kernel
theorem dX12_errorPosition_19 : decode cX12_errorPosition 19 = .ok (.iconst 0, 1) := by decide +kernel
theorem dX12_errorPosition_20 : decode cX12_errorPosition 20 = .ok (.goto 7, 3) := by decide +kernel
theorem dX12_errorPosition_23 : decode cX12_errorPosition 23 = .ok (.aload_n 0, 1) := by decide +kernel
theorem dX12_errorPosition_24 : decode cX12_errorPosition 24 = .ok (.getfield 25, 3) := by decide +kernel
theorem dX12_errorPosition_27 : decode cX12_errorPosition 27 = .ok (.ireturn, 1) := by decide +kernel
theorem dX12_failedCommand_0 : decode cX12_failedCommand 0 = .ok (.aload_n 0, 1) := by decide +kernel
theorem dX12_failedCommand_1 : decode cX12_failedCommand 1 = .ok (.aload_n 0, 1) := by decide +kernel
theorem dX12_failedCommand_2 : decode cX12_failedCommand 2 = .ok (.getfield 29, 3) := by decide +kernel
theorem dX12_failedCommand_5 : decode cX12_failedCommand 5 = .ok (.ifCond .ge 7, 3) := by decide +kernel
theorem dX12_failedCommand_8 : decode cX12_failedCommand 8 = .ok (.iconst 1, 1) := by decide +kernel
theorem dX12_failedCommand_9 : decode cX12_failedCommand 9 = .ok (.goto 4, 3) := by decide +kernel
theorem dX12_failedCommand_12 : decode cX12_failedCommand 12 = .ok (.iconst 0, 1) := by decide +kernel
theorem dX12_failedCommand_13 : decode cX12_failedCommand 13 = .ok (.invokevirtual 61, 3) := by decide +kernel
theorem dX12_failedCommand_16 : decode cX12_failedCommand 16 = .ok (.ifCond .eq 7, 3) := by decide +kernel
theorem dX12_failedCommand_19 : decode cX12_failedCommand 19 = .ok (.iconst 0, 1) := by decide +kernel
theorem dX12_failedCommand_20 : decode cX12_failedCommand 20 = .ok (.goto 7, 3) := by decide +kernel
theorem dX12_failedCommand_23 : decode cX12_failedCommand 23 = .ok (.aload_n 0, 1) := by decide +kernel
theorem dX12_failedCommand_24 : decode cX12_failedCommand 24 = .ok (.getfield 29, 3) := by decide +kernel
theorem dX12_failedCommand_27 : decode cX12_failedCommand 27 = .ok (.ireturn, 1) := by decide +kernel
theorem dX12_writes_0 : decode cX12_writes 0 = .ok (.aload_n 0, 1) := by decide +kernel
theorem dX12_writes_1 : decode cX12_writes 1 = .ok (.getfield 32, 3) := by decide +kernel
theorem dX12_writes_4 : decode cX12_writes 4 = .ok (.aload_n 0, 1) := by decide +kernel
theorem dX12_writes_5 : decode cX12_writes 5 = .ok (.getfield 252, 3) := by decide +kernel
theorem dX12_writes_8 : decode cX12_writes 8 = .ok (.iload_n 1, 1) := by decide +kernel
theorem dX12_writes_9 : decode cX12_writes 9 = .ok (.i2c, 1) := by decide +kernel
theorem dX12_writes_10 : decode cX12_writes 10 = .ok (.castore, 1) := by decide +kernel
theorem dX12_writes_11 : decode cX12_writes 11 = .ok (.aload_n 0, 1) := by decide +kernel
theorem dX12_writes_12 : decode cX12_writes 12 = .ok (.dup, 1) := by decide +kernel
theorem dX12_writes_13 : decode cX12_writes 13 = .ok (.getfield 252, 3) := by decide +kernel
theorem dX12_writes_16 : decode cX12_writes 16 = .ok (.iconst 1, 1) := by decide +kernel
theorem dX12_writes_17 : decode cX12_writes 17 = .ok (.iadd, 1) := by decide +kernel
theorem dX12_writes_18 : decode cX12_writes 18 = .ok (.putfield 252, 3) := by decide +kernel
theorem dX12_writes_21 : decode cX12_writes 21 = .ok (.return_, 1) := by decide +kernel
theorem dX12_writesNumber_0 : decode cX12_writesNumber 0 = .ok (.iload_n 1, 1) := by decide +kernel
theorem dX12_writesNumber_1 : decode cX12_writesNumber 1 = .ok (.bipush 9, 2) := by decide +kernel
theorem dX12_writesNumber_3 : decode cX12_writesNumber 3 = .ok (.if_icmp .le 11, 3) := by decide +kernel
theorem dX12_writesNumber_6 : decode cX12_writesNumber 6 = .ok (.aload_n 0, 1) := by decide +kernel
theorem dX12_writesNumber_7 : decode cX12_writesNumber 7 = .ok (.iload_n 1, 1) := by decide +kernel
theorem dX12_writesNumber_8 : decode cX12_writesNumber 8 = .ok (.bipush 10, 2) := by decide +kernel
theorem dX12_writesNumber_10 : decode cX12_writesNumber 10 = .ok (.idiv, 1) := by decide +kernel
theorem dX12_writesNumber_11 : decode cX12_writesNumber 11 = .ok (.invokevirtual 255, 3) := by decide +kernel
theorem dX12_writesNumber_14 : decode cX12_writesNumber 14 = .ok (.aload_n 0, 1) := by decide +kernel
theorem dX12_writesNumber_15 : decode cX12_writesNumber 15 = .ok (.bipush 48, 2) := by decide +kernel
theorem dX12_writesNumber_17 : decode cX12_writesNumber 17 = .ok (.iload_n 1, 1) := by decide +kernel
theorem dX12_writesNumber_18 : decode cX12_writesNumber 18 = .ok (.bipush 10, 2) := by decide +kernel
theorem dX12_writesNumber_20 : decode cX12_writesNumber 20 = .ok (.irem, 1) := by decide +kernel
theorem dX12_writesNumber_21 : decode cX12_writesNumber 21 = .ok (.iadd, 1) := by decide +kernel
theorem dX12_writesNumber_22 : decode cX12_writesNumber 22 = .ok (.invokevirtual 258, 3) := by decide +kernel
theorem dX12_writesNumber_25 : decode cX12_writesNumber 25 = .ok (.return_, 1) := by decide +kernel
theorem dX12_writeLantern_0 : decode cX12_writeLantern 0 = .ok (.aload_n 0, 1) := by decide +kernel
theorem dX12_writeLantern_1 : decode cX12_writeLantern 1 = .ok (.iload_n 1, 1) := by decide +kernel
theorem dX12_writeLantern_2 : decode cX12_writeLantern 2 = .ok (.invokevirtual 134, 3) := by decide +kernel
theorem dX12_writeLantern_5 : decode cX12_writeLantern 5 = .ok (.ifCond .eq 5, 3) := by decide +kernel
theorem dX12_writeLantern_8 : decode cX12_writeLantern 8 = .ok (.iconst 0, 1) := by decide +kernel
theorem dX12_writeLantern_9 : decode cX12_writeLantern 9 = .ok (.ireturn, 1) := by decide +kernel
theorem dX12_writeLantern_10 : decode cX12_writeLantern 10 = .ok (.aload_n 0, 1) := by decide +kernel
theorem dX12_writeLantern_11 : decode cX12_writeLantern 11 = .ok (.iconst 0, 1) := by decide +kernel
theorem dX12_writeLantern_12 : decode cX12_writeLantern 12 = .ok (.putfield 252, 3) := by decide +kernel
theorem dX12_writeLantern_15 : decode cX12_writeLantern 15 = .ok (.aload_n 0, 1) := by decide +kernel
theorem dX12_writeLantern_16 : decode cX12_writeLantern 16 = .ok (.iload_n 1, 1) := by decide +kernel
theorem dX12_writeLantern_17 : decode cX12_writeLantern 17 = .ok (.invokevirtual 255, 3) := by decide +kernel
theorem dX12_writeLantern_20 : decode cX12_writeLantern 20 = .ok (.iconst 0, 1) := by decide +kernel
theorem dX12_writeLantern_21 : decode cX12_writeLantern 21 = .ok (.istore_n 2, 1) := by decide +kernel
theorem dX12_writeLantern_22 : decode cX12_writeLantern 22 = .ok (.iload_n 2, 1) := by decide +kernel
theorem dX12_writeLantern_23 : decode cX12_writeLantern 23 = .ok (.aload_n 0, 1) := by decide +kernel
theorem dX12_writeLantern_24 : decode cX12_writeLantern 24 = .ok (.iload_n 1, 1) := by decide +kernel
theorem dX12_writeLantern_25 : decode cX12_writeLantern 25 = .ok (.iconst 0, 1) := by decide +kernel
theorem dX12_writeLantern_26 : decode cX12_writeLantern 26 = .ok (.invokevirtual 87, 3) := by decide +kernel
theorem dX12_writeLantern_29 : decode cX12_writeLantern 29 = .ok (.if_icmp .ge 15, 3) := by decide +kernel
theorem dX12_writeLantern_32 : decode cX12_writeLantern 32 = .ok (.aload_n 0, 1) := by decide +kernel
theorem dX12_writeLantern_33 : decode cX12_writeLantern 33 = .ok (.bipush 42, 2) := by decide +kernel
theorem dX12_writeLantern_35 : decode cX12_writeLantern 35 = .ok (.invokevirtual 258, 3) := by decide +kernel
theorem dX12_writeLantern_38 : decode cX12_writeLantern 38 = .ok (.iinc 2 1, 3) := by decide +kernel
theorem dX12_writeLantern_41 : decode cX12_writeLantern 41 = .ok (.goto (-19), 3) := by decide +kernel
theorem dX12_writeLantern_44 : decode cX12_writeLantern 44 = .ok (.aload_n 0, 1) := by decide +kernel
theorem dX12_writeLantern_45 : decode cX12_writeLantern 45 = .ok (.iload_n 1, 1) := by decide +kernel
theorem dX12_writeLantern_46 : decode cX12_writeLantern 46 = .ok (.iconst 1, 1) := by decide +kernel
theorem dX12_writeLantern_47 : decode cX12_writeLantern 47 = .ok (.invokevirtual 87, 3) := by decide +kernel
theorem dX12_writeLantern_50 : decode cX12_writeLantern 50 = .ok (.ifCond .le 24, 3) := by decide +kernel
theorem dX12_writeLantern_53 : decode cX12_writeLantern 53 = .ok (.aload_n 0, 1) := by decide +kernel
theorem dX12_writeLantern_54 : decode cX12_writeLantern 54 = .ok (.aload_n 0, 1) := by decide +kernel
theorem dX12_writeLantern_55 : decode cX12_writeLantern 55 = .ok (.iload_n 1, 1) := by decide +kernel
theorem dX12_writeLantern_56 : decode cX12_writeLantern 56 = .ok (.iconst 1, 1) := by decide +kernel
theorem dX12_writeLantern_57 : decode cX12_writeLantern 57 = .ok (.invokevirtual 87, 3) := by decide +kernel
theorem dX12_writeLantern_60 : decode cX12_writeLantern 60 = .ok (.iconst 1, 1) := by decide +kernel
theorem dX12_writeLantern_61 : decode cX12_writeLantern 61 = .ok (.if_icmp .ne 8, 3) := by decide +kernel
theorem dX12_writeLantern_64 : decode cX12_writeLantern 64 = .ok (.bipush 103, 2) := by decide +kernel
theorem dX12_writeLantern_66 : decode cX12_writeLantern 66 = .ok (.goto 5, 3) := by decide +kernel
theorem dX12_writeLantern_69 : decode cX12_writeLantern 69 = .ok (.bipush 105, 2) := by decide +kernel
theorem dX12_writeLantern_71 : decode cX12_writeLantern 71 = .ok (.invokevirtual 258, 3) := by decide +kernel
theorem dX12_writeLantern_74 : decode cX12_writeLantern 74 = .ok (.iconst 0, 1) := by decide +kernel
theorem dX12_writeLantern_75 : decode cX12_writeLantern 75 = .ok (.istore_n 2, 1) := by decide +kernel
theorem dX12_writeLantern_76 : decode cX12_writeLantern 76 = .ok (.iload_n 2, 1) := by decide +kernel
theorem dX12_writeLantern_77 : decode cX12_writeLantern 77 = .ok (.aload_n 0, 1) := by decide +kernel
theorem dX12_writeLantern_78 : decode cX12_writeLantern 78 = .ok (.iload_n 1, 1) := by decide +kernel
theorem dX12_writeLantern_79 : decode cX12_writeLantern 79 = .ok (.iconst 2, 1) := by decide +kernel
theorem dX12_writeLantern_80 : decode cX12_writeLantern 80 = .ok (.invokevirtual 87, 3) := by decide +kernel
theorem dX12_writeLantern_83 : decode cX12_writeLantern 83 = .ok (.if_icmp .ge 27, 3) := by decide +kernel
theorem dX12_writeLantern_86 : decode cX12_writeLantern 86 = .ok (.aload_n 0, 1) := by decide +kernel
theorem dX12_writeLantern_87 : decode cX12_writeLantern 87 = .ok (.bipush 47, 2) := by decide +kernel
theorem dX12_writeLantern_89 : decode cX12_writeLantern 89 = .ok (.invokevirtual 258, 3) := by decide +kernel
theorem dX12_writeLantern_92 : decode cX12_writeLantern 92 = .ok (.aload_n 0, 1) := by decide +kernel
theorem dX12_writeLantern_93 : decode cX12_writeLantern 93 = .ok (.aload_n 0, 1) := by decide +kernel
theorem dX12_writeLantern_94 : decode cX12_writeLantern 94 = .ok (.iload_n 1, 1) := by decide +kernel
theorem dX12_writeLantern_95 : decode cX12_writeLantern 95 = .ok (.iconst 3, 1) := by decide +kernel
theorem dX12_writeLantern_96 : decode cX12_writeLantern 96 = .ok (.iload_n 2, 1) := by decide +kernel
theorem dX12_writeLantern_97 : decode cX12_writeLantern 97 = .ok (.iadd, 1) := by decide +kernel
theorem dX12_writeLantern_98 : decode cX12_writeLantern 98 = .ok (.invokevirtual 87, 3) := by decide +kernel
theorem dX12_writeLantern_101 : decode cX12_writeLantern 101 = .ok (.invokevirtual 255, 3) := by decide +kernel
theorem dX12_writeLantern_104 : decode cX12_writeLantern 104 = .ok (.iinc 2 1, 3) := by decide +kernel
theorem dX12_writeLantern_107 : decode cX12_writeLantern 107 = .ok (.goto (-31), 3) := by decide +kernel
theorem dX12_writeLantern_110 : decode cX12_writeLantern 110 = .ok (.aload_n 0, 1) := by decide +kernel
theorem dX12_writeLantern_111 : decode cX12_writeLantern 111 = .ok (.getfield 252, 3) := by decide +kernel
theorem dX12_writeLantern_114 : decode cX12_writeLantern 114 = .ok (.ireturn, 1) := by decide +kernel
theorem dX12_writePlan_0 : decode cX12_writePlan 0 = .ok (.aload_n 0, 1) := by decide +kernel
theorem dX12_writePlan_1 : decode cX12_writePlan 1 = .ok (.iconst 0, 1) := by decide +kernel
theorem dX12_writePlan_2 : decode cX12_writePlan 2 = .ok (.putfield 39, 3) := by decide +kernel
theorem dX12_writePlan_5 : decode cX12_writePlan 5 = .ok (.aload_n 0, 1) := by decide +kernel
theorem dX12_writePlan_6 : decode cX12_writePlan 6 = .ok (.invokevirtual 118, 3) := by decide +kernel
theorem dX12_writePlan_9 : decode cX12_writePlan 9 = .ok (.istore_n 1, 1) := by decide +kernel
theorem dX12_writePlan_10 : decode cX12_writePlan 10 = .ok (.aload_n 0, 1) := by decide +kernel
theorem dX12_writePlan_11 : decode cX12_writePlan 11 = .ok (.iconst 0, 1) := by decide +kernel
theorem dX12_writePlan_12 : decode cX12_writePlan 12 = .ok (.putfield 252, 3) := by decide +kernel
theorem dX12_writePlan_15 : decode cX12_writePlan 15 = .ok (.iconst 0, 1) := by decide +kernel
theorem dX12_writePlan_16 : decode cX12_writePlan 16 = .ok (.istore_n 2, 1) := by decide +kernel
theorem dX12_writePlan_17 : decode cX12_writePlan 17 = .ok (.iload_n 2, 1) := by decide +kernel
theorem dX12_writePlan_18 : decode cX12_writePlan 18 = .ok (.iload_n 1, 1) := by decide +kernel
theorem dX12_writePlan_19 : decode cX12_writePlan 19 = .ok (.invokestatic 261, 3) := by decide +kernel
theorem dX12_writePlan_22 : decode cX12_writePlan 22 = .ok (.if_icmp .ge 34, 3) := by decide +kernel
theorem dX12_writePlan_25 : decode cX12_writePlan 25 = .ok (.iload_n 2, 1) := by decide +kernel
theorem dX12_writePlan_26 : decode cX12_writePlan 26 = .ok (.ifCond .le 9, 3) := by decide +kernel
theorem dX12_writePlan_29 : decode cX12_writePlan 29 = .ok (.aload_n 0, 1) := by decide +kernel
theorem dX12_writePlan_30 : decode cX12_writePlan 30 = .ok (.bipush 32, 2) := by decide +kernel
theorem dX12_writePlan_32 : decode cX12_writePlan 32 = .ok (.invokevirtual 258, 3) := by decide +kernel
theorem dX12_writePlan_35 : decode cX12_writePlan 35 = .ok (.aload_n 0, 1) := by decide +kernel
theorem dX12_writePlan_36 : decode cX12_writePlan 36 = .ok (.aload_n 0, 1) := by decide +kernel
theorem dX12_writePlan_37 : decode cX12_writePlan 37 = .ok (.aload_n 0, 1) := by decide +kernel
theorem dX12_writePlan_38 : decode cX12_writePlan 38 = .ok (.iload_n 1, 1) := by decide +kernel
theorem dX12_writePlan_39 : decode cX12_writePlan 39 = .ok (.iload_n 2, 1) := by decide +kernel
theorem dX12_writePlan_40 : decode cX12_writePlan 40 = .ok (.invokevirtual 122, 3) := by decide +kernel
theorem dX12_writePlan_43 : decode cX12_writePlan 43 = .ok (.iconst 0, 1) := by decide +kernel
theorem dX12_writePlan_44 : decode cX12_writePlan 44 = .ok (.invokevirtual 72, 3) := by decide +kernel
theorem dX12_writePlan_47 : decode cX12_writePlan 47 = .ok (.invokevirtual 255, 3) := by decide +kernel
theorem dX12_writePlan_50 : decode cX12_writePlan 50 = .ok (.iinc 2 1, 3) := by decide +kernel
theorem dX12_writePlan_53 : decode cX12_writePlan 53 = .ok (.goto (-36), 3) := by decide +kernel
theorem dX12_writePlan_56 : decode cX12_writePlan 56 = .ok (.aload_n 0, 1) := by decide +kernel
theorem dX12_writePlan_57 : decode cX12_writePlan 57 = .ok (.getfield 252, 3) := by decide +kernel
theorem dX12_writePlan_60 : decode cX12_writePlan 60 = .ok (.ireturn, 1) := by decide +kernel
theorem dX12_outputChar_0 : decode cX12_outputChar 0 = .ok (.aload_n 0, 1) := by decide +kernel
theorem dX12_outputChar_1 : decode cX12_outputChar 1 = .ok (.iload_n 1, 1) := by decide +kernel
theorem dX12_outputChar_2 : decode cX12_outputChar 2 = .ok (.iconst 0, 1) := by decide +kernel
theorem dX12_outputChar_3 : decode cX12_outputChar 3 = .ok (.aload_n 0, 1) := by decide +kernel
theorem dX12_outputChar_4 : decode cX12_outputChar 4 = .ok (.getfield 252, 3) := by decide +kernel
theorem dX12_outputChar_7 : decode cX12_outputChar 7 = .ok (.iconst 1, 1) := by decide +kernel
theorem dX12_outputChar_8 : decode cX12_outputChar 8 = .ok (.isub, 1) := by decide +kernel
theorem dX12_outputChar_9 : decode cX12_outputChar 9 = .ok (.invokestatic 53, 3) := by decide +kernel
theorem dX12_outputChar_12 : decode cX12_outputChar 12 = .ok (.ifCond .eq 7, 3) := by decide +kernel
theorem dX12_outputChar_15 : decode cX12_outputChar 15 = .ok (.iconst 0, 1) := by decide +kernel
theorem dX12_outputChar_16 : decode cX12_outputChar 16 = .ok (.goto 4, 3) := by decide +kernel
theorem dX12_outputChar_19 : decode cX12_outputChar 19 = .ok (.iconst 1, 1) := by decide +kernel
theorem dX12_outputChar_20 : decode cX12_outputChar 20 = .ok (.invokevirtual 61, 3) := by decide +kernel
theorem dX12_outputChar_23 : decode cX12_outputChar 23 = .ok (.ifCond .eq 8, 3) := by decide +kernel
theorem dX12_outputChar_26 : decode cX12_outputChar 26 = .ok (.bipush 32, 2) := by decide +kernel
theorem dX12_outputChar_28 : decode cX12_outputChar 28 = .ok (.goto 9, 3) := by decide +kernel
theorem dX12_outputChar_31 : decode cX12_outputChar 31 = .ok (.aload_n 0, 1) := by decide +kernel
theorem dX12_outputChar_32 : decode cX12_outputChar 32 = .ok (.getfield 32, 3) := by decide +kernel
theorem dX12_outputChar_35 : decode cX12_outputChar 35 = .ok (.iload_n 1, 1) := by decide +kernel
theorem dX12_outputChar_36 : decode cX12_outputChar 36 = .ok (.caload, 1) := by decide +kernel
theorem dX12_outputChar_37 : decode cX12_outputChar 37 = .ok (.ireturn, 1) := by decide +kernel
theorem dX12_undoCount_0 : decode cX12_undoCount 0 = .ok (.aload_n 0, 1) := by decide +kernel
theorem dX12_undoCount_1 : decode cX12_undoCount 1 = .ok (.iconst 0, 1) := by decide +kernel
theorem dX12_undoCount_2 : decode cX12_undoCount 2 = .ok (.putfield 39, 3) := by decide +kernel
theorem dX12_undoCount_5 : decode cX12_undoCount 5 = .ok (.aload_n 0, 1) := by decide +kernel
theorem dX12_undoCount_6 : decode cX12_undoCount 6 = .ok (.getfield 46, 3) := by decide +kernel
theorem dX12_undoCount_9 : decode cX12_undoCount 9 = .ok (.ireturn, 1) := by decide +kernel
theorem dX12_undo_0 : decode cX12_undo 0 = .ok (.aload_n 0, 1) := by decide +kernel
theorem dX12_undo_1 : decode cX12_undo 1 = .ok (.aload_n 0, 1) := by decide +kernel
theorem dX12_undo_2 : decode cX12_undo 2 = .ok (.getfield 46, 3) := by decide +kernel
theorem dX12_undo_5 : decode cX12_undo 5 = .ok (.ifCond .ne 7, 3) := by decide +kernel
theorem dX12_undo_8 : decode cX12_undo 8 = .ok (.iconst 1, 1) := by decide +kernel
theorem dX12_undo_9 : decode cX12_undo 9 = .ok (.goto 4, 3) := by decide +kernel
theorem dX12_undo_12 : decode cX12_undo 12 = .ok (.iconst 0, 1) := by decide +kernel
theorem dX12_undo_13 : decode cX12_undo 13 = .ok (.invokevirtual 61, 3) := by decide +kernel
theorem dX12_undo_16 : decode cX12_undo 16 = .ok (.ifCond .eq 5, 3) := by decide +kernel
theorem dX12_undo_19 : decode cX12_undo 19 = .ok (.iconst 0, 1) := by decide +kernel
theorem dX12_undo_20 : decode cX12_undo 20 = .ok (.ireturn, 1) := by decide +kernel
theorem dX12_undo_21 : decode cX12_undo 21 = .ok (.aload_n 0, 1) := by decide +kernel
theorem dX12_undo_22 : decode cX12_undo 22 = .ok (.dup, 1) := by decide +kernel
theorem dX12_undo_23 : decode cX12_undo 23 = .ok (.getfield 46, 3) := by decide +kernel
theorem dX12_undo_26 : decode cX12_undo 26 = .ok (.iconst 1, 1) := by decide +kernel
theorem dX12_undo_27 : decode cX12_undo 27 = .ok (.isub, 1) := by decide +kernel
theorem dX12_undo_28 : decode cX12_undo 28 = .ok (.putfield 46, 3) := by decide +kernel
theorem dX12_undo_31 : decode cX12_undo 31 = .ok (.aload_n 0, 1) := by decide +kernel
theorem dX12_undo_32 : decode cX12_undo 32 = .ok (.getfield 13, 3) := by decide +kernel
theorem dX12_undo_35 : decode cX12_undo 35 = .ok (.sipush 187, 3) := by decide +kernel
theorem dX12_undo_38 : decode cX12_undo 38 = .ok (.aload_n 0, 1) := by decide +kernel
theorem dX12_undo_39 : decode cX12_undo 39 = .ok (.getfield 46, 3) := by decide +kernel
theorem dX12_undo_42 : decode cX12_undo 42 = .ok (.imul, 1) := by decide +kernel
theorem dX12_undo_43 : decode cX12_undo 43 = .ok (.aload_n 0, 1) := by decide +kernel
theorem dX12_undo_44 : decode cX12_undo 44 = .ok (.getfield 7, 3) := by decide +kernel
theorem dX12_undo_47 : decode cX12_undo 47 = .ok (.iconst 0, 1) := by decide +kernel
theorem dX12_undo_48 : decode cX12_undo 48 = .ok (.invokestatic 49, 3) := by decide +kernel
theorem dX12_undo_51 : decode cX12_undo 51 = .ok (.aload_n 0, 1) := by decide +kernel
theorem dX12_undo_52 : decode cX12_undo 52 = .ok (.getfield 46, 3) := by decide +kernel
theorem dX12_undo_55 : decode cX12_undo 55 = .ok (.ireturn, 1) := by decide +kernel
theorem dX12_save_0 : decode cX12_save 0 = .ok (.aload_n 0, 1) := by decide +kernel
theorem dX12_save_1 : decode cX12_save 1 = .ok (.iconst 0, 1) := by decide +kernel
theorem dX12_save_2 : decode cX12_save 2 = .ok (.putfield 39, 3) := by decide +kernel
theorem dX12_save_5 : decode cX12_save 5 = .ok (.aload_n 0, 1) := by decide +kernel
theorem dX12_save_6 : decode cX12_save 6 = .ok (.iconst 1, 1) := by decide +kernel
theorem dX12_save_7 : decode cX12_save 7 = .ok (.putfield 264, 3) := by decide +kernel
theorem dX12_save_10 : decode cX12_save 10 = .ok (.aload_n 0, 1) := by decide +kernel
theorem dX12_save_11 : decode cX12_save 11 = .ok (.getfield 7, 3) := by decide +kernel
theorem dX12_save_14 : decode cX12_save 14 = .ok (.iconst 0, 1) := by decide +kernel
theorem dX12_save_15 : decode cX12_save 15 = .ok (.aload_n 0, 1) := by decide +kernel
theorem dX12_save_16 : decode cX12_save 16 = .ok (.getfield 16, 3) := by decide +kernel
theorem dX12_save_19 : decode cX12_save 19 = .ok (.iconst 0, 1) := by decide +kernel
theorem dX12_save_20 : decode cX12_save 20 = .ok (.invokestatic 49, 3) := by decide +kernel
theorem dX12_save_23 : decode cX12_save 23 = .ok (.aload_n 0, 1) := by decide +kernel
theorem dX12_save_24 : decode cX12_save 24 = .ok (.getfield 7, 3) := by decide +kernel
theorem dX12_save_27 : decode cX12_save 27 = .ok (.iconst 0, 1) := by decide +kernel
theorem dX12_save_28 : decode cX12_save 28 = .ok (.iaload, 1) := by decide +kernel
theorem dX12_save_29 : decode cX12_save 29 = .ok (.ireturn, 1) := by decide +kernel
theorem dX12_restore_0 : decode cX12_restore 0 = .ok (.aload_n 0, 1) := by decide +kernel
theorem dX12_restore_1 : decode cX12_restore 1 = .ok (.aload_n 0, 1) := by decide +kernel
theorem dX12_restore_2 : decode cX12_restore 2 = .ok (.getfield 264, 3) := by decide +kernel
theorem dX12_restore_5 : decode cX12_restore 5 = .ok (.ifCond .eq 7, 3) := by decide +kernel
theorem dX12_restore_8 : decode cX12_restore 8 = .ok (.iconst 0, 1) := by decide +kernel
theorem dX12_restore_9 : decode cX12_restore 9 = .ok (.goto 4, 3) := by decide +kernel
theorem dX12_restore_12 : decode cX12_restore 12 = .ok (.iconst 1, 1) := by decide +kernel
theorem dX12_restore_13 : decode cX12_restore 13 = .ok (.invokevirtual 61, 3) := by decide +kernel
theorem dX12_restore_16 : decode cX12_restore 16 = .ok (.ifCond .eq 5, 3) := by decide +kernel
theorem dX12_restore_19 : decode cX12_restore 19 = .ok (.iconst 0, 1) := by decide +kernel
theorem dX12_restore_20 : decode cX12_restore 20 = .ok (.ireturn, 1) := by decide +kernel
theorem dX12_restore_21 : decode cX12_restore 21 = .ok (.aload_n 0, 1) := by decide +kernel
theorem dX12_restore_22 : decode cX12_restore 22 = .ok (.getfield 16, 3) := by decide +kernel
theorem dX12_restore_25 : decode cX12_restore 25 = .ok (.iconst 0, 1) := by decide +kernel
theorem dX12_restore_26 : decode cX12_restore 26 = .ok (.aload_n 0, 1) := by decide +kernel
theorem dX12_restore_27 : decode cX12_restore 27 = .ok (.getfield 7, 3) := by decide +kernel
theorem dX12_restore_30 : decode cX12_restore 30 = .ok (.iconst 0, 1) := by decide +kernel
theorem dX12_restore_31 : decode cX12_restore 31 = .ok (.invokestatic 49, 3) := by decide +kernel
theorem dX12_restore_34 : decode cX12_restore 34 = .ok (.aload_n 0, 1) := by decide +kernel
theorem dX12_restore_35 : decode cX12_restore 35 = .ok (.iconst 0, 1) := by decide +kernel
theorem dX12_restore_36 : decode cX12_restore 36 = .ok (.putfield 46, 3) := by decide +kernel
theorem dX12_restore_39 : decode cX12_restore 39 = .ok (.aload_n 0, 1) := by decide +kernel
theorem dX12_restore_40 : decode cX12_restore 40 = .ok (.getfield 7, 3) := by decide +kernel
theorem dX12_restore_43 : decode cX12_restore 43 = .ok (.iconst 0, 1) := by decide +kernel
theorem dX12_restore_44 : decode cX12_restore 44 = .ok (.iaload, 1) := by decide +kernel
theorem dX12_restore_45 : decode cX12_restore 45 = .ok (.ireturn, 1) := by decide +kernel
theorem dJx00060_init_a7421_0 : decode cJx00060_init_a7421 0 = .ok (.aload_n 0, 1) := by decide +kernel
theorem dJx00060_init_a7421_1 : decode cJx00060_init_a7421 1 = .ok (.aload_n 1, 1) := by decide +kernel
theorem dJx00060_init_a7421_2 : decode cJx00060_init_a7421 2 = .ok (.invokespecial 7, 3) := by decide +kernel
theorem dJx00060_init_a7421_5 : decode cJx00060_init_a7421 5 = .ok (.return_, 1) := by decide +kernel
theorem dJ11_isValidCodePoint_9a6ad_0 : decode cJ11_isValidCodePoint_9a6ad 0 = .ok (.iload_n 0, 1) := by decide +kernel
theorem dJ11_isValidCodePoint_9a6ad_1 : decode cJ11_isValidCodePoint_9a6ad 1 = .ok (.bipush 16, 2) := by decide +kernel
theorem dJ11_isValidCodePoint_9a6ad_3 : decode cJ11_isValidCodePoint_9a6ad 3 = .ok (.iushr, 1) := by decide +kernel
theorem dJ11_isValidCodePoint_9a6ad_4 : decode cJ11_isValidCodePoint_9a6ad 4 = .ok (.istore_n 1, 1) := by decide +kernel
theorem dJ11_isValidCodePoint_9a6ad_5 : decode cJ11_isValidCodePoint_9a6ad 5 = .ok (.iload_n 1, 1) := by decide +kernel
theorem dJ11_isValidCodePoint_9a6ad_6 : decode cJ11_isValidCodePoint_9a6ad 6 = .ok (.bipush 17, 2) := by decide +kernel
theorem dJ11_isValidCodePoint_9a6ad_8 : decode cJ11_isValidCodePoint_9a6ad 8 = .ok (.if_icmp .ge 7, 3) := by decide +kernel
theorem dJ11_isValidCodePoint_9a6ad_11 : decode cJ11_isValidCodePoint_9a6ad 11 = .ok (.iconst 1, 1) := by decide +kernel
theorem dJ11_isValidCodePoint_9a6ad_12 : decode cJ11_isValidCodePoint_9a6ad 12 = .ok (.goto 4, 3) := by decide +kernel
theorem dJ11_isValidCodePoint_9a6ad_15 : decode cJ11_isValidCodePoint_9a6ad 15 = .ok (.iconst 0, 1) := by decide +kernel
theorem dJ11_isValidCodePoint_9a6ad_16 : decode cJ11_isValidCodePoint_9a6ad 16 = .ok (.ireturn, 1) := by decide +kernel
theorem dJ11_highSurrogate_5068e_0 : decode cJ11_highSurrogate_5068e 0 = .ok (.iload_n 0, 1) := by decide +kernel
theorem dJ11_highSurrogate_5068e_1 : decode cJ11_highSurrogate_5068e 1 = .ok (.bipush 10, 2) := by decide +kernel
theorem dJ11_highSurrogate_5068e_3 : decode cJ11_highSurrogate_5068e 3 = .ok (.iushr, 1) := by decide +kernel
theorem dJ11_highSurrogate_5068e_4 : decode cJ11_highSurrogate_5068e 4 = .ok (.ldc 110, 2) := by decide +kernel
theorem dJ11_highSurrogate_5068e_6 : decode cJ11_highSurrogate_5068e 6 = .ok (.iadd, 1) := by decide +kernel
theorem dJ11_highSurrogate_5068e_7 : decode cJ11_highSurrogate_5068e 7 = .ok (.i2c, 1) := by decide +kernel
theorem dJ11_highSurrogate_5068e_8 : decode cJ11_highSurrogate_5068e 8 = .ok (.ireturn, 1) := by decide +kernel
theorem dJ11_lowSurrogate_5068e_0 : decode cJ11_lowSurrogate_5068e 0 = .ok (.iload_n 0, 1) := by decide +kernel
theorem dJ11_lowSurrogate_5068e_1 : decode cJ11_lowSurrogate_5068e 1 = .ok (.sipush 1023, 3) := by decide +kernel
theorem dJ11_lowSurrogate_5068e_4 : decode cJ11_lowSurrogate_5068e 4 = .ok (.iand, 1) := by decide +kernel
theorem dJ11_lowSurrogate_5068e_5 : decode cJ11_lowSurrogate_5068e 5 = .ok (.ldc 76, 2) := by decide +kernel
theorem dJ11_lowSurrogate_5068e_7 : decode cJ11_lowSurrogate_5068e 7 = .ok (.iadd, 1) := by decide +kernel
theorem dJ11_lowSurrogate_5068e_8 : decode cJ11_lowSurrogate_5068e 8 = .ok (.i2c, 1) := by decide +kernel
theorem dJ11_lowSurrogate_5068e_9 : decode cJ11_lowSurrogate_5068e 9 = .ok (.ireturn, 1) := by decide +kernel
theorem dJx29ce0_ordinal_8abf5_0 : decode cJx29ce0_ordinal_8abf5 0 = .ok (.aload_n 0, 1) := by decide +kernel
theorem dJx29ce0_ordinal_8abf5_1 : decode cJx29ce0_ordinal_8abf5 1 = .ok (.getfield 7, 3) := by decide +kernel
theorem dJx29ce0_ordinal_8abf5_4 : decode cJx29ce0_ordinal_8abf5 4 = .ok (.ireturn, 1) := by decide +kernel
theorem dJ6_bitCount_0f7a4_0 : decode cJ6_bitCount_0f7a4 0 = .ok (.iload_n 0, 1) := by decide +kernel
theorem dJ6_bitCount_0f7a4_1 : decode cJ6_bitCount_0f7a4 1 = .ok (.iload_n 0, 1) := by decide +kernel
theorem dJ6_bitCount_0f7a4_2 : decode cJ6_bitCount_0f7a4 2 = .ok (.iconst 1, 1) := by decide +kernel
theorem dJ6_bitCount_0f7a4_3 : decode cJ6_bitCount_0f7a4 3 = .ok (.iushr, 1) := by decide +kernel
theorem dJ6_bitCount_0f7a4_4 : decode cJ6_bitCount_0f7a4 4 = .ok (.ldc_w 265, 3) := by decide +kernel
theorem dJ6_bitCount_0f7a4_7 : decode cJ6_bitCount_0f7a4 7 = .ok (.iand, 1) := by decide +kernel
theorem dJ6_bitCount_0f7a4_8 : decode cJ6_bitCount_0f7a4 8 = .ok (.isub, 1) := by decide +kernel
theorem dJ6_bitCount_0f7a4_9 : decode cJ6_bitCount_0f7a4 9 = .ok (.istore_n 0, 1) := by decide +kernel
theorem dJ6_bitCount_0f7a4_10 : decode cJ6_bitCount_0f7a4 10 = .ok (.iload_n 0, 1) := by decide +kernel
theorem dJ6_bitCount_0f7a4_11 : decode cJ6_bitCount_0f7a4 11 = .ok (.ldc_w 266, 3) := by decide +kernel
theorem dJ6_bitCount_0f7a4_14 : decode cJ6_bitCount_0f7a4 14 = .ok (.iand, 1) := by decide +kernel
theorem dJ6_bitCount_0f7a4_15 : decode cJ6_bitCount_0f7a4 15 = .ok (.iload_n 0, 1) := by decide +kernel
theorem dJ6_bitCount_0f7a4_16 : decode cJ6_bitCount_0f7a4 16 = .ok (.iconst 2, 1) := by decide +kernel
theorem dJ6_bitCount_0f7a4_17 : decode cJ6_bitCount_0f7a4 17 = .ok (.iushr, 1) := by decide +kernel
theorem dJ6_bitCount_0f7a4_18 : decode cJ6_bitCount_0f7a4 18 = .ok (.ldc_w 266, 3) := by decide +kernel
theorem dJ6_bitCount_0f7a4_21 : decode cJ6_bitCount_0f7a4 21 = .ok (.iand, 1) := by decide +kernel
theorem dJ6_bitCount_0f7a4_22 : decode cJ6_bitCount_0f7a4 22 = .ok (.iadd, 1) := by decide +kernel
theorem dJ6_bitCount_0f7a4_23 : decode cJ6_bitCount_0f7a4 23 = .ok (.istore_n 0, 1) := by decide +kernel
theorem dJ6_bitCount_0f7a4_24 : decode cJ6_bitCount_0f7a4 24 = .ok (.iload_n 0, 1) := by decide +kernel
theorem dJ6_bitCount_0f7a4_25 : decode cJ6_bitCount_0f7a4 25 = .ok (.iload_n 0, 1) := by decide +kernel
theorem dJ6_bitCount_0f7a4_26 : decode cJ6_bitCount_0f7a4 26 = .ok (.iconst 4, 1) := by decide +kernel
theorem dJ6_bitCount_0f7a4_27 : decode cJ6_bitCount_0f7a4 27 = .ok (.iushr, 1) := by decide +kernel
theorem dJ6_bitCount_0f7a4_28 : decode cJ6_bitCount_0f7a4 28 = .ok (.iadd, 1) := by decide +kernel
theorem dJ6_bitCount_0f7a4_29 : decode cJ6_bitCount_0f7a4 29 = .ok (.ldc_w 267, 3) := by decide +kernel
theorem dJ6_bitCount_0f7a4_32 : decode cJ6_bitCount_0f7a4 32 = .ok (.iand, 1) := by decide +kernel
theorem dJ6_bitCount_0f7a4_33 : decode cJ6_bitCount_0f7a4 33 = .ok (.istore_n 0, 1) := by decide +kernel
theorem dJ6_bitCount_0f7a4_34 : decode cJ6_bitCount_0f7a4 34 = .ok (.iload_n 0, 1) := by decide +kernel
theorem dJ6_bitCount_0f7a4_35 : decode cJ6_bitCount_0f7a4 35 = .ok (.iload_n 0, 1) := by decide +kernel
theorem dJ6_bitCount_0f7a4_36 : decode cJ6_bitCount_0f7a4 36 = .ok (.bipush 8, 2) := by decide +kernel
theorem dJ6_bitCount_0f7a4_38 : decode cJ6_bitCount_0f7a4 38 = .ok (.iushr, 1) := by decide +kernel
theorem dJ6_bitCount_0f7a4_39 : decode cJ6_bitCount_0f7a4 39 = .ok (.iadd, 1) := by decide +kernel
theorem dJ6_bitCount_0f7a4_40 : decode cJ6_bitCount_0f7a4 40 = .ok (.istore_n 0, 1) := by decide +kernel
theorem dJ6_bitCount_0f7a4_41 : decode cJ6_bitCount_0f7a4 41 = .ok (.iload_n 0, 1) := by decide +kernel
theorem dJ6_bitCount_0f7a4_42 : decode cJ6_bitCount_0f7a4 42 = .ok (.iload_n 0, 1) := by decide +kernel
theorem dJ6_bitCount_0f7a4_43 : decode cJ6_bitCount_0f7a4 43 = .ok (.bipush 16, 2) := by decide +kernel
theorem dJ6_bitCount_0f7a4_45 : decode cJ6_bitCount_0f7a4 45 = .ok (.iushr, 1) := by decide +kernel
theorem dJ6_bitCount_0f7a4_46 : decode cJ6_bitCount_0f7a4 46 = .ok (.iadd, 1) := by decide +kernel
theorem dJ6_bitCount_0f7a4_47 : decode cJ6_bitCount_0f7a4 47 = .ok (.istore_n 0, 1) := by decide +kernel
theorem dJ6_bitCount_0f7a4_48 : decode cJ6_bitCount_0f7a4 48 = .ok (.iload_n 0, 1) := by decide +kernel
theorem dJ6_bitCount_0f7a4_49 : decode cJ6_bitCount_0f7a4 49 = .ok (.bipush 63, 2) := by decide +kernel
theorem dJ6_bitCount_0f7a4_51 : decode cJ6_bitCount_0f7a4 51 = .ok (.iand, 1) := by decide +kernel
theorem dJ6_bitCount_0f7a4_52 : decode cJ6_bitCount_0f7a4 52 = .ok (.ireturn, 1) := by decide +kernel
theorem dJ9_max_7cf53_0 : decode cJ9_max_7cf53 0 = .ok (.iload_n 0, 1) := by decide +kernel
theorem dJ9_max_7cf53_1 : decode cJ9_max_7cf53 1 = .ok (.iload_n 1, 1) := by decide +kernel
theorem dJ9_max_7cf53_2 : decode cJ9_max_7cf53 2 = .ok (.if_icmp .lt 7, 3) := by decide +kernel
theorem dJ9_max_7cf53_5 : decode cJ9_max_7cf53 5 = .ok (.iload_n 0, 1) := by decide +kernel
theorem dJ9_max_7cf53_6 : decode cJ9_max_7cf53 6 = .ok (.goto 4, 3) := by decide +kernel
theorem dJ9_max_7cf53_9 : decode cJ9_max_7cf53 9 = .ok (.iload_n 1, 1) := by decide +kernel
theorem dJ9_max_7cf53_10 : decode cJ9_max_7cf53 10 = .ok (.ireturn, 1) := by decide +kernel
theorem dJ9_min_7cf53_0 : decode cJ9_min_7cf53 0 = .ok (.iload_n 0, 1) := by decide +kernel
theorem dJ9_min_7cf53_1 : decode cJ9_min_7cf53 1 = .ok (.iload_n 1, 1) := by decide +kernel
theorem dJ9_min_7cf53_2 : decode cJ9_min_7cf53 2 = .ok (.if_icmp .gt 7, 3) := by decide +kernel
theorem dJ9_min_7cf53_5 : decode cJ9_min_7cf53 5 = .ok (.iload_n 0, 1) := by decide +kernel
theorem dJ9_min_7cf53_6 : decode cJ9_min_7cf53 6 = .ok (.goto 4, 3) := by decide +kernel
theorem dJ9_min_7cf53_9 : decode cJ9_min_7cf53 9 = .ok (.iload_n 1, 1) := by decide +kernel
theorem dJ9_min_7cf53_10 : decode cJ9_min_7cf53 10 = .ok (.ireturn, 1) := by decide +kernel
theorem dJ0_length_8abf5_0 : decode cJ0_length_8abf5 0 = .ok (.aload_n 0, 1) := by decide +kernel
theorem dJ0_length_8abf5_1 : decode cJ0_length_8abf5 1 = .ok (.getfield 9, 3) := by decide +kernel
theorem dJ0_length_8abf5_4 : decode cJ0_length_8abf5 4 = .ok (.arraylength, 1) := by decide +kernel
theorem dJ0_length_8abf5_5 : decode cJ0_length_8abf5 5 = .ok (.aload_n 0, 1) := by decide +kernel
theorem dJ0_length_8abf5_6 : decode cJ0_length_8abf5 6 = .ok (.invokevirtual 335, 3) := by decide +kernel
theorem dJ0_length_8abf5_9 : decode cJ0_length_8abf5 9 = .ok (.ishr, 1) := by decide +kernel
theorem dJ0_length_8abf5_10 : decode cJ0_length_8abf5 10 = .ok (.ireturn, 1) := by decide +kernel
theorem dJ0_charAt_5068e_0 : decode cJ0_charAt_5068e 0 = .ok (.aload_n 0, 1) := by decide +kernel
theorem dJ0_charAt_5068e_1 : decode cJ0_charAt_5068e 1 = .ok (.invokevirtual 492, 3) := by decide +kernel
theorem dJ0_charAt_5068e_4 : decode cJ0_charAt_5068e 4 = .ok (.ifCond .eq 12, 3) := by decide +kernel
theorem dJ0_charAt_5068e_7 : decode cJ0_charAt_5068e 7 = .ok (.aload_n 0, 1) := by decide +kernel
theorem dJ0_charAt_5068e_8 : decode cJ0_charAt_5068e 8 = .ok (.getfield 9, 3) := by decide +kernel
theorem dJ0_charAt_5068e_11 : decode cJ0_charAt_5068e 11 = .ok (.iload_n 1, 1) := by decide +kernel
theorem dJ0_charAt_5068e_12 : decode cJ0_charAt_5068e 12 = .ok (.invokestatic 495, 3) := by decide +kernel
theorem dJ0_charAt_5068e_15 : decode cJ0_charAt_5068e 15 = .ok (.ireturn, 1) := by decide +kernel
theorem dJ0_charAt_5068e_16 : decode cJ0_charAt_5068e 16 = .ok (.aload_n 0, 1) := by decide +kernel
theorem dJ0_charAt_5068e_17 : decode cJ0_charAt_5068e 17 = .ok (.getfield 9, 3) := by decide +kernel
theorem dJ0_charAt_5068e_20 : decode cJ0_charAt_5068e 20 = .ok (.iload_n 1, 1) := by decide +kernel
theorem dJ0_charAt_5068e_21 : decode cJ0_charAt_5068e 21 = .ok (.invokestatic 498, 3) := by decide +kernel
theorem dJ0_charAt_5068e_24 : decode cJ0_charAt_5068e 24 = .ok (.ireturn, 1) := by decide +kernel
theorem dJ0_indexOf_0f7a4_0 : decode cJ0_indexOf_0f7a4 0 = .ok (.aload_n 0, 1) := by decide +kernel
theorem dJ0_indexOf_0f7a4_1 : decode cJ0_indexOf_0f7a4 1 = .ok (.iload_n 1, 1) := by decide +kernel
theorem dJ0_indexOf_0f7a4_2 : decode cJ0_indexOf_0f7a4 2 = .ok (.iconst 0, 1) := by decide +kernel
theorem dJ0_indexOf_0f7a4_3 : decode cJ0_indexOf_0f7a4 3 = .ok (.invokevirtual 633, 3) := by decide +kernel
theorem dJ0_indexOf_0f7a4_6 : decode cJ0_indexOf_0f7a4 6 = .ok (.ireturn, 1) := by decide +kernel
theorem dJ0_indexOf_7cf53_0 : decode cJ0_indexOf_7cf53 0 = .ok (.aload_n 0, 1) := by decide +kernel
theorem dJ0_indexOf_7cf53_1 : decode cJ0_indexOf_7cf53 1 = .ok (.invokevirtual 492, 3) := by decide +kernel
theorem dJ0_indexOf_7cf53_4 : decode cJ0_indexOf_7cf53 4 = .ok (.ifCond .eq 19, 3) := by decide +kernel
theorem dJ0_indexOf_7cf53_7 : decode cJ0_indexOf_7cf53 7 = .ok (.aload_n 0, 1) := by decide +kernel
theorem dJ0_indexOf_7cf53_8 : decode cJ0_indexOf_7cf53 8 = .ok (.getfield 9, 3) := by decide +kernel
theorem dJ0_indexOf_7cf53_11 : decode cJ0_indexOf_7cf53 11 = .ok (.iload_n 1, 1) := by decide +kernel
theorem dJ0_indexOf_7cf53_12 : decode cJ0_indexOf_7cf53 12 = .ok (.iload_n 2, 1) := by decide +kernel
theorem dJ0_indexOf_7cf53_13 : decode cJ0_indexOf_7cf53 13 = .ok (.aload_n 0, 1) := by decide +kernel
theorem dJ0_indexOf_7cf53_14 : decode cJ0_indexOf_7cf53 14 = .ok (.invokevirtual 505, 3) := by decide +kernel
theorem dJ0_indexOf_7cf53_17 : decode cJ0_indexOf_7cf53 17 = .ok (.invokestatic 637, 3) := by decide +kernel
theorem dJ0_indexOf_7cf53_20 : decode cJ0_indexOf_7cf53 20 = .ok (.goto 16, 3) := by decide +kernel
theorem dJ0_indexOf_7cf53_23 : decode cJ0_indexOf_7cf53 23 = .ok (.aload_n 0, 1) := by decide +kernel
theorem dJ0_indexOf_7cf53_24 : decode cJ0_indexOf_7cf53 24 = .ok (.getfield 9, 3) := by decide +kernel
theorem dJ0_indexOf_7cf53_27 : decode cJ0_indexOf_7cf53 27 = .ok (.iload_n 1, 1) := by decide +kernel
theorem dJ0_indexOf_7cf53_28 : decode cJ0_indexOf_7cf53 28 = .ok (.iload_n 2, 1) := by decide +kernel
theorem dJ0_indexOf_7cf53_29 : decode cJ0_indexOf_7cf53 29 = .ok (.aload_n 0, 1) := by decide +kernel
theorem dJ0_indexOf_7cf53_30 : decode cJ0_indexOf_7cf53 30 = .ok (.invokevirtual 505, 3) := by decide +kernel
theorem dJ0_indexOf_7cf53_33 : decode cJ0_indexOf_7cf53 33 = .ok (.invokestatic 640, 3) := by decide +kernel
theorem dJ0_indexOf_7cf53_36 : decode cJ0_indexOf_7cf53 36 = .ok (.ireturn, 1) := by decide +kernel
theorem dJ0_coder_7d493_0 : decode cJ0_coder_7d493 0 = .ok (.getstatic 38, 3) := by decide +kernel
theorem dJ0_coder_7d493_3 : decode cJ0_coder_7d493 3 = .ok (.ifCond .eq 10, 3) := by decide +kernel
theorem dJ0_coder_7d493_6 : decode cJ0_coder_7d493 6 = .ok (.aload_n 0, 1) := by decide +kernel
theorem dJ0_coder_7d493_7 : decode cJ0_coder_7d493 7 = .ok (.getfield 15, 3) := by decide +kernel
theorem dJ0_coder_7d493_10 : decode cJ0_coder_7d493 10 = .ok (.goto 4, 3) := by decide +kernel
theorem dJ0_coder_7d493_13 : decode cJ0_coder_7d493 13 = .ok (.iconst 1, 1) := by decide +kernel
theorem dJ0_coder_7d493_14 : decode cJ0_coder_7d493 14 = .ok (.ireturn, 1) := by decide +kernel
theorem dJ0_isLatin1_aae02_0 : decode cJ0_isLatin1_aae02 0 = .ok (.getstatic 38, 3) := by decide +kernel
theorem dJ0_isLatin1_aae02_3 : decode cJ0_isLatin1_aae02 3 = .ok (.ifCond .eq 14, 3) := by decide +kernel
theorem dJ0_isLatin1_aae02_6 : decode cJ0_isLatin1_aae02 6 = .ok (.aload_n 0, 1) := by decide +kernel
theorem dJ0_isLatin1_aae02_7 : decode cJ0_isLatin1_aae02 7 = .ok (.getfield 15, 3) := by decide +kernel
theorem dJ0_isLatin1_aae02_10 : decode cJ0_isLatin1_aae02 10 = .ok (.ifCond .ne 7, 3) := by decide +kernel
theorem dJ0_isLatin1_aae02_13 : decode cJ0_isLatin1_aae02 13 = .ok (.iconst 1, 1) := by decide +kernel
theorem dJ0_isLatin1_aae02_14 : decode cJ0_isLatin1_aae02 14 = .ok (.goto 4, 3) := by decide +kernel
theorem dJ0_isLatin1_aae02_17 : decode cJ0_isLatin1_aae02 17 = .ok (.iconst 0, 1) := by decide +kernel
theorem dJ0_isLatin1_aae02_18 : decode cJ0_isLatin1_aae02 18 = .ok (.ireturn, 1) := by decide +kernel
theorem dJ0_checkIndex_df160_0 : decode cJ0_checkIndex_df160 0 = .ok (.iload_n 0, 1) := by decide +kernel
theorem dJ0_checkIndex_df160_1 : decode cJ0_checkIndex_df160 1 = .ok (.iload_n 1, 1) := by decide +kernel
theorem dJ0_checkIndex_df160_2 : decode cJ0_checkIndex_df160 2 = .ok (.getstatic 1053, 3) := by decide +kernel
theorem dJ0_checkIndex_df160_5 : decode cJ0_checkIndex_df160 5 = .ok (.invokestatic 1059, 3) := by decide +kernel
theorem dJ0_checkIndex_df160_8 : decode cJ0_checkIndex_df160 8 = .ok (.pop, 1) := by decide +kernel
theorem dJ0_checkIndex_df160_9 : decode cJ0_checkIndex_df160 9 = .ok (.return_, 1) := by decide +kernel
theorem dJ0_checkBoundsBeginEnd_23922_0 : decode cJ0_checkBoundsBeginEnd_23922 0 = .ok (.iload_n 0, 1) := by decide +kernel
theorem dJ0_checkBoundsBeginEnd_23922_1 : decode cJ0_checkBoundsBeginEnd_23922 1 = .ok (.iload_n 1, 1) := by decide +kernel
theorem dJ0_checkBoundsBeginEnd_23922_2 : decode cJ0_checkBoundsBeginEnd_23922 2 = .ok (.iload_n 2, 1) := by decide +kernel
theorem dJ0_checkBoundsBeginEnd_23922_3 : decode cJ0_checkBoundsBeginEnd_23922 3 = .ok (.getstatic 1053, 3) := by decide +kernel
theorem dJ0_checkBoundsBeginEnd_23922_6 : decode cJ0_checkBoundsBeginEnd_23922 6 = .ok (.invokestatic 1062, 3) := by decide +kernel
theorem dJ0_checkBoundsBeginEnd_23922_9 : decode cJ0_checkBoundsBeginEnd_23922 9 = .ok (.pop, 1) := by decide +kernel
theorem dJ0_checkBoundsBeginEnd_23922_10 : decode cJ0_checkBoundsBeginEnd_23922 10 = .ok (.return_, 1) := by decide +kernel
theorem dJ1_charAt_3b067_0 : decode cJ1_charAt_3b067 0 = .ok (.iload_n 1, 1) := by decide +kernel
theorem dJ1_charAt_3b067_1 : decode cJ1_charAt_3b067 1 = .ok (.aload_n 0, 1) := by decide +kernel
theorem dJ1_charAt_3b067_2 : decode cJ1_charAt_3b067 2 = .ok (.arraylength, 1) := by decide +kernel
theorem dJ1_charAt_3b067_3 : decode cJ1_charAt_3b067 3 = .ok (.invokestatic 9, 3) := by decide +kernel
theorem dJ1_charAt_3b067_6 : decode cJ1_charAt_3b067 6 = .ok (.aload_n 0, 1) := by decide +kernel
theorem dJ1_charAt_3b067_7 : decode cJ1_charAt_3b067 7 = .ok (.iload_n 1, 1) := by decide +kernel
