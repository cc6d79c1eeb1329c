theorem dX1_init_0 : decode cX1_init 0 = .ok (.aload_n 0, 1) := by decide +kernel
theorem dX1_init_1 : decode cX1_init 1 = .ok (.invokespecial 3, 3) := by decide +kernel
theorem dX1_init_4 : decode cX1_init 4 = .ok (.aload_n 0, 1) := by decide +kernel
theorem dX1_init_5 : decode cX1_init 5 = .ok (.bipush 10, 2) := by decide +kernel
theorem dX1_init_7 : decode cX1_init 7 = .ok (.newarray .int, 2) := by decide +kernel
theorem dX1_init_9 : decode cX1_init 9 = .ok (.putfield 9, 3) := by decide +kernel
theorem dX1_init_12 : decode cX1_init 12 = .ok (.aload_n 0, 1) := by decide +kernel
theorem dX1_init_13 : decode cX1_init 13 = .ok (.bipush 10, 2) := by decide +kernel
theorem dX1_init_15 : decode cX1_init 15 = .ok (.newarray .int, 2) := by decide +kernel
theorem dX1_init_17 : decode cX1_init 17 = .ok (.putfield 15, 3) := by decide +kernel
theorem dX1_init_20 : decode cX1_init 20 = .ok (.aload_n 0, 1) := by decide +kernel
theorem dX1_init_21 : decode cX1_init 21 = .ok (.bipush 10, 2) := by decide +kernel
theorem dX1_init_23 : decode cX1_init 23 = .ok (.newarray .int, 2) := by decide +kernel
theorem dX1_init_25 : decode cX1_init 25 = .ok (.putfield 18, 3) := by decide +kernel
theorem dX1_init_28 : decode cX1_init 28 = .ok (.aload_n 0, 1) := by decide +kernel
theorem dX1_init_29 : decode cX1_init 29 = .ok (.bipush 10, 2) := by decide +kernel
theorem dX1_init_31 : decode cX1_init 31 = .ok (.newarray .int, 2) := by decide +kernel
theorem dX1_init_33 : decode cX1_init 33 = .ok (.putfield 21, 3) := by decide +kernel
theorem dX1_init_36 : decode cX1_init 36 = .ok (.aload_n 0, 1) := by decide +kernel
theorem dX1_init_37 : decode cX1_init 37 = .ok (.bipush 10, 2) := by decide +kernel
theorem dX1_init_39 : decode cX1_init 39 = .ok (.newarray .int, 2) := by decide +kernel
theorem dX1_init_41 : decode cX1_init 41 = .ok (.putfield 24, 3) := by decide +kernel
theorem dX1_init_44 : decode cX1_init 44 = .ok (.return_, 1) := by decide +kernel
theorem dX1_copyFrom_0 : decode cX1_copyFrom 0 = .ok (.aload_n 0, 1) := by decide +kernel
theorem dX1_copyFrom_1 : decode cX1_copyFrom 1 = .ok (.aload_n 1, 1) := by decide +kernel
theorem dX1_copyFrom_2 : decode cX1_copyFrom 2 = .ok (.getfield 27, 3) := by decide +kernel
theorem dX1_copyFrom_5 : decode cX1_copyFrom 5 = .ok (.putfield 27, 3) := by decide +kernel
theorem dX1_copyFrom_8 : decode cX1_copyFrom 8 = .ok (.aload_n 0, 1) := by decide +kernel
theorem dX1_copyFrom_9 : decode cX1_copyFrom 9 = .ok (.aload_n 1, 1) := by decide +kernel
theorem dX1_copyFrom_10 : decode cX1_copyFrom 10 = .ok (.getfield 31, 3) := by decide +kernel
theorem dX1_copyFrom_13 : decode cX1_copyFrom 13 = .ok (.putfield 31, 3) := by decide +kernel
theorem dX1_copyFrom_16 : decode cX1_copyFrom 16 = .ok (.aload_n 1, 1) := by decide +kernel
theorem dX1_copyFrom_17 : decode cX1_copyFrom 17 = .ok (.getfield 9, 3) := by decide +kernel
theorem dX1_copyFrom_20 : decode cX1_copyFrom 20 = .ok (.iconst 0, 1) := by decide +kernel
theorem dX1_copyFrom_21 : decode cX1_copyFrom 21 = .ok (.aload_n 0, 1) := by decide +kernel
theorem dX1_copyFrom_22 : decode cX1_copyFrom 22 = .ok (.getfield 9, 3) := by decide +kernel
theorem dX1_copyFrom_25 : decode cX1_copyFrom 25 = .ok (.iconst 0, 1) := by decide +kernel
theorem dX1_copyFrom_26 : decode cX1_copyFrom 26 = .ok (.bipush 10, 2) := by decide +kernel
theorem dX1_copyFrom_28 : decode cX1_copyFrom 28 = .ok (.invokestatic 34, 3) := by decide +kernel
theorem dX1_copyFrom_31 : decode cX1_copyFrom 31 = .ok (.aload_n 1, 1) := by decide +kernel
theorem dX1_copyFrom_32 : decode cX1_copyFrom 32 = .ok (.getfield 15, 3) := by decide +kernel
theorem dX1_copyFrom_35 : decode cX1_copyFrom 35 = .ok (.iconst 0, 1) := by decide +kernel
theorem dX1_copyFrom_36 : decode cX1_copyFrom 36 = .ok (.aload_n 0, 1) := by decide +kernel
theorem dX1_copyFrom_37 : decode cX1_copyFrom 37 = .ok (.getfield 15, 3) := by decide +kernel
theorem dX1_copyFrom_40 : decode cX1_copyFrom 40 = .ok (.iconst 0, 1) := by decide +kernel
theorem dX1_copyFrom_41 : decode cX1_copyFrom 41 = .ok (.bipush 10, 2) := by decide +kernel
theorem dX1_copyFrom_43 : decode cX1_copyFrom 43 = .ok (.invokestatic 34, 3) := by decide +kernel
theorem dX1_copyFrom_46 : decode cX1_copyFrom 46 = .ok (.aload_n 1, 1) := by decide +kernel
theorem dX1_copyFrom_47 : decode cX1_copyFrom 47 = .ok (.getfield 18, 3) := by decide +kernel
theorem dX1_copyFrom_50 : decode cX1_copyFrom 50 = .ok (.iconst 0, 1) := by decide +kernel
theorem dX1_copyFrom_51 : decode cX1_copyFrom 51 = .ok (.aload_n 0, 1) := by decide +kernel
theorem dX1_copyFrom_52 : decode cX1_copyFrom 52 = .ok (.getfield 18, 3) := by decide +kernel
theorem dX1_copyFrom_55 : decode cX1_copyFrom 55 = .ok (.iconst 0, 1) := by decide +kernel
theorem dX1_copyFrom_56 : decode cX1_copyFrom 56 = .ok (.bipush 10, 2) := by decide +kernel
theorem dX1_copyFrom_58 : decode cX1_copyFrom 58 = .ok (.invokestatic 34, 3) := by decide +kernel
theorem dX1_copyFrom_61 : decode cX1_copyFrom 61 = .ok (.aload_n 1, 1) := by decide +kernel
theorem dX1_copyFrom_62 : decode cX1_copyFrom 62 = .ok (.getfield 21, 3) := by decide +kernel
theorem dX1_copyFrom_65 : decode cX1_copyFrom 65 = .ok (.iconst 0, 1) := by decide +kernel
theorem dX1_copyFrom_66 : decode cX1_copyFrom 66 = .ok (.aload_n 0, 1) := by decide +kernel
theorem dX1_copyFrom_67 : decode cX1_copyFrom 67 = .ok (.getfield 21, 3) := by decide +kernel
theorem dX1_copyFrom_70 : decode cX1_copyFrom 70 = .ok (.iconst 0, 1) := by decide +kernel
theorem dX1_copyFrom_71 : decode cX1_copyFrom 71 = .ok (.bipush 10, 2) := by decide +kernel
theorem dX1_copyFrom_73 : decode cX1_copyFrom 73 = .ok (.invokestatic 34, 3) := by decide +kernel
theorem dX1_copyFrom_76 : decode cX1_copyFrom 76 = .ok (.aload_n 1, 1) := by decide +kernel
theorem dX1_copyFrom_77 : decode cX1_copyFrom 77 = .ok (.getfield 24, 3) := by decide +kernel
theorem dX1_copyFrom_80 : decode cX1_copyFrom 80 = .ok (.iconst 0, 1) := by decide +kernel
theorem dX1_copyFrom_81 : decode cX1_copyFrom 81 = .ok (.aload_n 0, 1) := by decide +kernel
theorem dX1_copyFrom_82 : decode cX1_copyFrom 82 = .ok (.getfield 24, 3) := by decide +kernel
theorem dX1_copyFrom_85 : decode cX1_copyFrom 85 = .ok (.iconst 0, 1) := by decide +kernel
theorem dX1_copyFrom_86 : decode cX1_copyFrom 86 = .ok (.bipush 10, 2) := by decide +kernel
theorem dX1_copyFrom_88 : decode cX1_copyFrom 88 = .ok (.invokestatic 34, 3) := by decide +kernel
theorem dX1_copyFrom_91 : decode cX1_copyFrom 91 = .ok (.return_, 1) := by decide +kernel
theorem dX1_isInRange_0 : decode cX1_isInRange 0 = .ok (.iload_n 0, 1) := by decide +kernel
theorem dX1_isInRange_1 : decode cX1_isInRange 1 = .ok (.iconst 1, 1) := by decide +kernel
theorem dX1_isInRange_2 : decode cX1_isInRange 2 = .ok (.if_icmp .lt 35, 3) := by decide +kernel
theorem dX1_isInRange_5 : decode cX1_isInRange 5 = .ok (.iload_n 0, 1) := by decide +kernel
theorem dX1_isInRange_6 : decode cX1_isInRange 6 = .ok (.bipush 12, 2) := by decide +kernel
theorem dX1_isInRange_8 : decode cX1_isInRange 8 = .ok (.if_icmp .gt 29, 3) := by decide +kernel
theorem dX1_isInRange_11 : decode cX1_isInRange 11 = .ok (.iload_n 1, 1) := by decide +kernel
theorem dX1_isInRange_12 : decode cX1_isInRange 12 = .ok (.iconst 1, 1) := by decide +kernel
theorem dX1_isInRange_13 : decode cX1_isInRange 13 = .ok (.if_icmp .lt 24, 3) := by decide +kernel
theorem dX1_isInRange_16 : decode cX1_isInRange 16 = .ok (.iload_n 1, 1) := by decide +kernel
theorem dX1_isInRange_17 : decode cX1_isInRange 17 = .ok (.bipush 50, 2) := by decide +kernel
theorem dX1_isInRange_19 : decode cX1_isInRange 19 = .ok (.if_icmp .gt 18, 3) := by decide +kernel
theorem dX1_isInRange_22 : decode cX1_isInRange 22 = .ok (.iload_n 2, 1) := by decide +kernel
theorem dX1_isInRange_23 : decode cX1_isInRange 23 = .ok (.iconst 1, 1) := by decide +kernel
theorem dX1_isInRange_24 : decode cX1_isInRange 24 = .ok (.if_icmp .lt 13, 3) := by decide +kernel
theorem dX1_isInRange_27 : decode cX1_isInRange 27 = .ok (.iload_n 2, 1) := by decide +kernel
theorem dX1_isInRange_28 : decode cX1_isInRange 28 = .ok (.bipush 9, 2) := by decide +kernel
theorem dX1_isInRange_30 : decode cX1_isInRange 30 = .ok (.if_icmp .gt 7, 3) := by decide +kernel
theorem dX1_isInRange_33 : decode cX1_isInRange 33 = .ok (.iconst 1, 1) := by decide +kernel
theorem dX1_isInRange_34 : decode cX1_isInRange 34 = .ok (.goto 4, 3) := by decide +kernel
theorem dX1_isInRange_37 : decode cX1_isInRange 37 = .ok (.iconst 0, 1) := by decide +kernel
theorem dX1_isInRange_38 : decode cX1_isInRange 38 = .ok (.ireturn, 1) := by decide +kernel
theorem dX1_isFull_0 : decode cX1_isFull 0 = .ok (.aload_n 0, 1) := by decide +kernel
theorem dX1_isFull_1 : decode cX1_isFull 1 = .ok (.getfield 27, 3) := by decide +kernel
theorem dX1_isFull_4 : decode cX1_isFull 4 = .ok (.bipush 10, 2) := by decide +kernel
theorem dX1_isFull_6 : decode cX1_isFull 6 = .ok (.if_icmp .lt 7, 3) := by decide +kernel
theorem dX1_isFull_9 : decode cX1_isFull 9 = .ok (.iconst 1, 1) := by decide +kernel
theorem dX1_isFull_10 : decode cX1_isFull 10 = .ok (.goto 4, 3) := by decide +kernel
theorem dX1_isFull_13 : decode cX1_isFull 13 = .ok (.iconst 0, 1) := by decide +kernel
theorem dX1_isFull_14 : decode cX1_isFull 14 = .ok (.ireturn, 1) := by decide +kernel
theorem dX1_add_0 : decode cX1_add 0 = .ok (.aload_n 0, 1) := by decide +kernel
theorem dX1_add_1 : decode cX1_add 1 = .ok (.getfield 9, 3) := by decide +kernel
theorem dX1_add_4 : decode cX1_add 4 = .ok (.aload_n 0, 1) := by decide +kernel
theorem dX1_add_5 : decode cX1_add 5 = .ok (.getfield 27, 3) := by decide +kernel
theorem dX1_add_8 : decode cX1_add 8 = .ok (.aload_n 0, 1) := by decide +kernel
theorem dX1_add_9 : decode cX1_add 9 = .ok (.getfield 31, 3) := by decide +kernel
theorem dX1_add_12 : decode cX1_add 12 = .ok (.iastore, 1) := by decide +kernel
theorem dX1_add_13 : decode cX1_add 13 = .ok (.aload_n 0, 1) := by decide +kernel
theorem dX1_add_14 : decode cX1_add 14 = .ok (.getfield 15, 3) := by decide +kernel
theorem dX1_add_17 : decode cX1_add 17 = .ok (.aload_n 0, 1) := by decide +kernel
theorem dX1_add_18 : decode cX1_add 18 = .ok (.getfield 27, 3) := by decide +kernel
theorem dX1_add_21 : decode cX1_add 21 = .ok (.iload_n 1, 1) := by decide +kernel
theorem dX1_add_22 : decode cX1_add 22 = .ok (.iastore, 1) := by decide +kernel
theorem dX1_add_23 : decode cX1_add 23 = .ok (.aload_n 0, 1) := by decide +kernel
theorem dX1_add_24 : decode cX1_add 24 = .ok (.getfield 18, 3) := by decide +kernel
theorem dX1_add_27 : decode cX1_add 27 = .ok (.aload_n 0, 1) := by decide +kernel
theorem dX1_add_28 : decode cX1_add 28 = .ok (.getfield 27, 3) := by decide +kernel
theorem dX1_add_31 : decode cX1_add 31 = .ok (.iload_n 2, 1) := by decide +kernel
theorem dX1_add_32 : decode cX1_add 32 = .ok (.iastore, 1) := by decide +kernel
theorem dX1_add_33 : decode cX1_add 33 = .ok (.aload_n 0, 1) := by decide +kernel
theorem dX1_add_34 : decode cX1_add 34 = .ok (.getfield 21, 3) := by decide +kernel
theorem dX1_add_37 : decode cX1_add 37 = .ok (.aload_n 0, 1) := by decide +kernel
theorem dX1_add_38 : decode cX1_add 38 = .ok (.getfield 27, 3) := by decide +kernel
theorem dX1_add_41 : decode cX1_add 41 = .ok (.iload_n 3, 1) := by decide +kernel
theorem dX1_add_42 : decode cX1_add 42 = .ok (.iastore, 1) := by decide +kernel
theorem dX1_add_43 : decode cX1_add 43 = .ok (.aload_n 0, 1) := by decide +kernel
theorem dX1_add_44 : decode cX1_add 44 = .ok (.getfield 24, 3) := by decide +kernel
theorem dX1_add_47 : decode cX1_add 47 = .ok (.aload_n 0, 1) := by decide +kernel
theorem dX1_add_48 : decode cX1_add 48 = .ok (.getfield 27, 3) := by decide +kernel
theorem dX1_add_51 : decode cX1_add 51 = .ok (.iload 4, 2) := by decide +kernel
theorem dX1_add_53 : decode cX1_add 53 = .ok (.iastore, 1) := by decide +kernel
theorem dX1_add_54 : decode cX1_add 54 = .ok (.aload_n 0, 1) := by decide +kernel
theorem dX1_add_55 : decode cX1_add 55 = .ok (.dup, 1) := by decide +kernel
theorem dX1_add_56 : decode cX1_add 56 = .ok (.getfield 27, 3) := by decide +kernel
theorem dX1_add_59 : decode cX1_add 59 = .ok (.iconst 1, 1) := by decide +kernel
theorem dX1_add_60 : decode cX1_add 60 = .ok (.iadd, 1) := by decide +kernel
theorem dX1_add_61 : decode cX1_add 61 = .ok (.putfield 27, 3) := by decide +kernel
theorem dX1_add_64 : decode cX1_add 64 = .ok (.aload_n 0, 1) := by decide +kernel
theorem dX1_add_65 : decode cX1_add 65 = .ok (.dup, 1) := by decide +kernel
theorem dX1_add_66 : decode cX1_add 66 = .ok (.getfield 31, 3) := by decide +kernel
theorem dX1_add_69 : decode cX1_add 69 = .ok (.iconst 1, 1) := by decide +kernel
theorem dX1_add_70 : decode cX1_add 70 = .ok (.iadd, 1) := by decide +kernel
theorem dX1_add_71 : decode cX1_add 71 = .ok (.putfield 31, 3) := by decide +kernel
theorem dX1_add_74 : decode cX1_add 74 = .ok (.aload_n 0, 1) := by decide +kernel
theorem dX1_add_75 : decode cX1_add 75 = .ok (.getfield 31, 3) := by decide +kernel
theorem dX1_add_78 : decode cX1_add 78 = .ok (.iconst 1, 1) := by decide +kernel
theorem dX1_add_79 : decode cX1_add 79 = .ok (.isub, 1) := by decide +kernel
theorem dX1_add_80 : decode cX1_add 80 = .ok (.ireturn, 1) := by decide +kernel
theorem dX1_remove_0 : decode cX1_remove 0 = .ok (.aload_n 0, 1) := by decide +kernel
theorem dX1_remove_1 : decode cX1_remove 1 = .ok (.dup, 1) := by decide +kernel
theorem dX1_remove_2 : decode cX1_remove 2 = .ok (.getfield 27, 3) := by decide +kernel
theorem dX1_remove_5 : decode cX1_remove 5 = .ok (.iconst 1, 1) := by decide +kernel
theorem dX1_remove_6 : decode cX1_remove 6 = .ok (.isub, 1) := by decide +kernel
theorem dX1_remove_7 : decode cX1_remove 7 = .ok (.putfield 27, 3) := by decide +kernel
theorem dX1_remove_10 : decode cX1_remove 10 = .ok (.iload_n 1, 1) := by decide +kernel
theorem dX1_remove_11 : decode cX1_remove 11 = .ok (.istore_n 2, 1) := by decide +kernel
theorem dX1_remove_12 : decode cX1_remove 12 = .ok (.iload_n 2, 1) := by decide +kernel
theorem dX1_remove_13 : decode cX1_remove 13 = .ok (.aload_n 0, 1) := by decide +kernel
theorem dX1_remove_14 : decode cX1_remove 14 = .ok (.getfield 27, 3) := by decide +kernel
theorem dX1_remove_17 : decode cX1_remove 17 = .ok (.if_icmp .ge 79, 3) := by decide +kernel
theorem dX1_remove_20 : decode cX1_remove 20 = .ok (.aload_n 0, 1) := by decide +kernel
theorem dX1_remove_21 : decode cX1_remove 21 = .ok (.getfield 9, 3) := by decide +kernel
theorem dX1_remove_24 : decode cX1_remove 24 = .ok (.iload_n 2, 1) := by decide +kernel
theorem dX1_remove_25 : decode cX1_remove 25 = .ok (.aload_n 0, 1) := by decide +kernel
theorem dX1_remove_26 : decode cX1_remove 26 = .ok (.getfield 9, 3) := by decide +kernel
theorem dX1_remove_29 : decode cX1_remove 29 = .ok (.iload_n 2, 1) := by decide +kernel
theorem dX1_remove_30 : decode cX1_remove 30 = .ok (.iconst 1, 1) := by decide +kernel
theorem dX1_remove_31 : decode cX1_remove 31 = .ok (.iadd, 1) := by decide +kernel
theorem dX1_remove_32 : decode cX1_remove 32 = .ok (.iaload, 1) := by decide +kernel
theorem dX1_remove_33 : decode cX1_remove 33 = .ok (.iastore, 1) := by decide +kernel
theorem dX1_remove_34 : decode cX1_remove 34 = .ok (.aload_n 0, 1) := by decide +kernel
theorem dX1_remove_35 : decode cX1_remove 35 = .ok (.getfield 15, 3) := by decide +kernel
theorem dX1_remove_38 : decode cX1_remove 38 = .ok (.iload_n 2, 1) := by decide +kernel
theorem dX1_remove_39 : decode cX1_remove 39 = .ok (.aload_n 0, 1) := by decide +kernel
theorem dX1_remove_40 : decode cX1_remove 40 = .ok (.getfield 15, 3) := by decide +kernel
theorem dX1_remove_43 : decode cX1_remove 43 = .ok (.iload_n 2, 1) := by decide +kernel
theorem dX1_remove_44 : decode cX1_remove 44 = .ok (.iconst 1, 1) := by decide +kernel
theorem dX1_remove_45 : decode cX1_remove 45 = .ok (.iadd, 1) := by decide +kernel
theorem dX1_remove_46 : decode cX1_remove 46 = .ok (.iaload, 1) := by decide +kernel
theorem dX1_remove_47 : decode cX1_remove 47 = .ok (.iastore, 1) := by decide +kernel
theorem dX1_remove_48 : decode cX1_remove 48 = .ok (.aload_n 0, 1) := by decide +kernel
theorem dX1_remove_49 : decode cX1_remove 49 = .ok (.getfield 18, 3) := by decide +kernel
theorem dX1_remove_52 : decode cX1_remove 52 = .ok (.iload_n 2, 1) := by decide +kernel
theorem dX1_remove_53 : decode cX1_remove 53 = .ok (.aload_n 0, 1) := by decide +kernel
theorem dX1_remove_54 : decode cX1_remove 54 = .ok (.getfield 18, 3) := by decide +kernel
theorem dX1_remove_57 : decode cX1_remove 57 = .ok (.iload_n 2, 1) := by decide +kernel
theorem dX1_remove_58 : decode cX1_remove 58 = .ok (.iconst 1, 1) := by decide +kernel
theorem dX1_remove_59 : decode cX1_remove 59 = .ok (.iadd, 1) := by decide +kernel
theorem dX1_remove_60 : decode cX1_remove 60 = .ok (.iaload, 1) := by decide +kernel
theorem dX1_remove_61 : decode cX1_remove 61 = .ok (.iastore, 1) := by decide +kernel
theorem dX1_remove_62 : decode cX1_remove 62 = .ok (.aload_n 0, 1) := by decide +kernel
theorem dX1_remove_63 : decode cX1_remove 63 = .ok (.getfield 21, 3) := by decide +kernel
theorem dX1_remove_66 : decode cX1_remove 66 = .ok (.iload_n 2, 1) := by decide +kernel
theorem dX1_remove_67 : decode cX1_remove 67 = .ok (.aload_n 0, 1) := by decide +kernel
theorem dX1_remove_68 : decode cX1_remove 68 = .ok (.getfield 21, 3) := by decide +kernel
theorem dX1_remove_71 : decode cX1_remove 71 = .ok (.iload_n 2, 1) := by decide +kernel
theorem dX1_remove_72 : decode cX1_remove 72 = .ok (.iconst 1, 1) := by decide +kernel
theorem dX1_remove_73 : decode cX1_remove 73 = .ok (.iadd, 1) := by decide +kernel
theorem dX1_remove_74 : decode cX1_remove 74 = .ok (.iaload, 1) := by decide +kernel
theorem dX1_remove_75 : decode cX1_remove 75 = .ok (.iastore, 1) := by decide +kernel
theorem dX1_remove_76 : decode cX1_remove 76 = .ok (.aload_n 0, 1) := by decide +kernel
theorem dX1_remove_77 : decode cX1_remove 77 = .ok (.getfield 24, 3) := by decide +kernel
theorem dX1_remove_80 : decode cX1_remove 80 = .ok (.iload_n 2, 1) := by decide +kernel
theorem dX1_remove_81 : decode cX1_remove 81 = .ok (.aload_n 0, 1) := by decide +kernel
theorem dX1_remove_82 : decode cX1_remove 82 = .ok (.getfield 24, 3) := by decide +kernel
theorem dX1_remove_85 : decode cX1_remove 85 = .ok (.iload_n 2, 1) := by decide +kernel
theorem dX1_remove_86 : decode cX1_remove 86 = .ok (.iconst 1, 1) := by decide +kernel
theorem dX1_remove_87 : decode cX1_remove 87 = .ok (.iadd, 1) := by decide +kernel
theorem dX1_remove_88 : decode cX1_remove 88 = .ok (.iaload, 1) := by decide +kernel
theorem dX1_remove_89 : decode cX1_remove 89 = .ok (.iastore, 1) := by decide +kernel
theorem dX1_remove_90 : decode cX1_remove 90 = .ok (.iinc 2 1, 3) := by decide +kernel
theorem dX1_remove_93 : decode cX1_remove 93 = .ok (.goto (-81), 3) := by decide +kernel
theorem dX1_remove_96 : decode cX1_remove 96 = .ok (.return_, 1) := by decide +kernel
theorem dX1_positionOf_0 : decode cX1_positionOf 0 = .ok (.iconst 0, 1) := by decide +kernel
theorem dX1_positionOf_1 : decode cX1_positionOf 1 = .ok (.istore_n 2, 1) := by decide +kernel
theorem dX1_positionOf_2 : decode cX1_positionOf 2 = .ok (.iload_n 2, 1) := by decide +kernel
theorem dX1_positionOf_3 : decode cX1_positionOf 3 = .ok (.aload_n 0, 1) := by decide +kernel
theorem dX1_positionOf_4 : decode cX1_positionOf 4 = .ok (.getfield 27, 3) := by decide +kernel
theorem dX1_positionOf_7 : decode cX1_positionOf 7 = .ok (.if_icmp .ge 21, 3) := by decide +kernel
theorem dX1_positionOf_10 : decode cX1_positionOf 10 = .ok (.aload_n 0, 1) := by decide +kernel
theorem dX1_positionOf_11 : decode cX1_positionOf 11 = .ok (.getfield 9, 3) := by decide +kernel
theorem dX1_positionOf_14 : decode cX1_positionOf 14 = .ok (.iload_n 2, 1) := by decide +kernel
theorem dX1_positionOf_15 : decode cX1_positionOf 15 = .ok (.iaload, 1) := by decide +kernel
theorem dX1_positionOf_16 : decode cX1_positionOf 16 = .ok (.iload_n 1, 1) := by decide +kernel
theorem dX1_positionOf_17 : decode cX1_positionOf 17 = .ok (.if_icmp .ne 5, 3) := by decide +kernel
theorem dX1_positionOf_20 : decode cX1_positionOf 20 = .ok (.iload_n 2, 1) := by decide +kernel
theorem dX1_positionOf_21 : decode cX1_positionOf 21 = .ok (.ireturn, 1) := by decide +kernel
theorem dX1_positionOf_22 : decode cX1_positionOf 22 = .ok (.iinc 2 1, 3) := by decide +kernel
theorem dX1_positionOf_25 : decode cX1_positionOf 25 = .ok (.goto (-23), 3) := by decide +kernel
theorem dX1_positionOf_28 : decode cX1_positionOf 28 = .ok (.iconst (-1), 1) := by decide +kernel
theorem dX1_positionOf_29 : decode cX1_positionOf 29 = .ok (.ireturn, 1) := by decide +kernel
theorem dX1_feesOf_0 : decode cX1_feesOf 0 = .ok (.iconst 0, 1) := by decide +kernel
theorem dX1_feesOf_1 : decode cX1_feesOf 1 = .ok (.istore_n 2, 1) := by decide +kernel
theorem dX1_feesOf_2 : decode cX1_feesOf 2 = .ok (.iconst 0, 1) := by decide +kernel
theorem dX1_feesOf_3 : decode cX1_feesOf 3 = .ok (.istore_n 3, 1) := by decide +kernel
theorem dX1_feesOf_4 : decode cX1_feesOf 4 = .ok (.iload_n 3, 1) := by decide +kernel
theorem dX1_feesOf_5 : decode cX1_feesOf 5 = .ok (.aload_n 0, 1) := by decide +kernel
theorem dX1_feesOf_6 : decode cX1_feesOf 6 = .ok (.getfield 27, 3) := by decide +kernel
theorem dX1_feesOf_9 : decode cX1_feesOf 9 = .ok (.if_icmp .ge 27, 3) := by decide +kernel
theorem dX1_feesOf_12 : decode cX1_feesOf 12 = .ok (.iload_n 1, 1) := by decide +kernel
theorem dX1_feesOf_13 : decode cX1_feesOf 13 = .ok (.iload_n 3, 1) := by decide +kernel
theorem dX1_feesOf_14 : decode cX1_feesOf 14 = .ok (.ishr, 1) := by decide +kernel
theorem dX1_feesOf_15 : decode cX1_feesOf 15 = .ok (.iconst 1, 1) := by decide +kernel
theorem dX1_feesOf_16 : decode cX1_feesOf 16 = .ok (.iand, 1) := by decide +kernel
theorem dX1_feesOf_17 : decode cX1_feesOf 17 = .ok (.iconst 1, 1) := by decide +kernel
theorem dX1_feesOf_18 : decode cX1_feesOf 18 = .ok (.if_icmp .ne 12, 3) := by decide +kernel
theorem dX1_feesOf_21 : decode cX1_feesOf 21 = .ok (.iload_n 2, 1) := by decide +kernel
theorem dX1_feesOf_22 : decode cX1_feesOf 22 = .ok (.aload_n 0, 1) := by decide +kernel
theorem dX1_feesOf_23 : decode cX1_feesOf 23 = .ok (.getfield 21, 3) := by decide +kernel
theorem dX1_feesOf_26 : decode cX1_feesOf 26 = .ok (.iload_n 3, 1) := by decide +kernel
theorem dX1_feesOf_27 : decode cX1_feesOf 27 = .ok (.iaload, 1) := by decide +kernel
theorem dX1_feesOf_28 : decode cX1_feesOf 28 = .ok (.iadd, 1) := by decide +kernel
theorem dX1_feesOf_29 : decode cX1_feesOf 29 = .ok (.istore_n 2, 1) := by decide +kernel
theorem dX1_feesOf_30 : decode cX1_feesOf 30 = .ok (.iinc 3 1, 3) := by decide +kernel
theorem dX1_feesOf_33 : decode cX1_feesOf 33 = .ok (.goto (-29), 3) := by decide +kernel
theorem dX1_feesOf_36 : decode cX1_feesOf 36 = .ok (.iload_n 2, 1) := by decide +kernel
theorem dX1_feesOf_37 : decode cX1_feesOf 37 = .ok (.ireturn, 1) := by decide +kernel
theorem dX2_init_0 : decode cX2_init 0 = .ok (.aload_n 0, 1) := by decide +kernel
theorem dX2_init_1 : decode cX2_init 1 = .ok (.invokespecial 3, 3) := by decide +kernel
theorem dX2_init_4 : decode cX2_init 4 = .ok (.aload_n 0, 1) := by decide +kernel
theorem dX2_init_5 : decode cX2_init 5 = .ok (.bipush 8, 2) := by decide +kernel
theorem dX2_init_7 : decode cX2_init 7 = .ok (.newarray .int, 2) := by decide +kernel
theorem dX2_init_9 : decode cX2_init 9 = .ok (.putfield 9, 3) := by decide +kernel
theorem dX2_init_12 : decode cX2_init 12 = .ok (.aload_n 0, 1) := by decide +kernel
theorem dX2_init_13 : decode cX2_init 13 = .ok (.bipush 8, 2) := by decide +kernel
theorem dX2_init_15 : decode cX2_init 15 = .ok (.newarray .int, 2) := by decide +kernel
theorem dX2_init_17 : decode cX2_init 17 = .ok (.putfield 15, 3) := by decide +kernel
theorem dX2_init_20 : decode cX2_init 20 = .ok (.aload_n 0, 1) := by decide +kernel
theorem dX2_init_21 : decode cX2_init 21 = .ok (.bipush 8, 2) := by decide +kernel
theorem dX2_init_23 : decode cX2_init 23 = .ok (.newarray .boolean, 2) := by decide +kernel
theorem dX2_init_25 : decode cX2_init 25 = .ok (.putfield 18, 3) := by decide +kernel
theorem dX2_init_28 : decode cX2_init 28 = .ok (.aload_n 0, 1) := by decide +kernel
theorem dX2_init_29 : decode cX2_init 29 = .ok (.bipush 8, 2) := by decide +kernel
theorem dX2_init_31 : decode cX2_init 31 = .ok (.newarray .int, 2) := by decide +kernel
theorem dX2_init_33 : decode cX2_init 33 = .ok (.putfield 22, 3) := by decide +kernel
theorem dX2_init_36 : decode cX2_init 36 = .ok (.return_, 1) := by decide +kernel
theorem dX2_find_0 : decode cX2_find 0 = .ok (.aload_n 0, 1) := by decide +kernel
theorem dX2_find_1 : decode cX2_find 1 = .ok (.aload_n 1, 1) := by decide +kernel
theorem dX2_find_2 : decode cX2_find 2 = .ok (.getfield 25, 3) := by decide +kernel
theorem dX2_find_5 : decode cX2_find 5 = .ok (.putfield 31, 3) := by decide +kernel
theorem dX2_find_8 : decode cX2_find 8 = .ok (.iconst 0, 1) := by decide +kernel
theorem dX2_find_9 : decode cX2_find 9 = .ok (.istore 4, 2) := by decide +kernel
theorem dX2_find_11 : decode cX2_find 11 = .ok (.iload 4, 2) := by decide +kernel
theorem dX2_find_13 : decode cX2_find 13 = .ok (.aload_n 0, 1) := by decide +kernel
theorem dX2_find_14 : decode cX2_find 14 = .ok (.getfield 31, 3) := by decide +kernel
theorem dX2_find_17 : decode cX2_find 17 = .ok (.if_icmp .ge 42, 3) := by decide +kernel
theorem dX2_find_20 : decode cX2_find 20 = .ok (.aload_n 0, 1) := by decide +kernel
theorem dX2_find_21 : decode cX2_find 21 = .ok (.getfield 9, 3) := by decide +kernel
theorem dX2_find_24 : decode cX2_find 24 = .ok (.iload 4, 2) := by decide +kernel
theorem dX2_find_26 : decode cX2_find 26 = .ok (.iload 4, 2) := by decide +kernel
theorem dX2_find_28 : decode cX2_find 28 = .ok (.iastore, 1) := by decide +kernel
theorem dX2_find_29 : decode cX2_find 29 = .ok (.aload_n 0, 1) := by decide +kernel
theorem dX2_find_30 : decode cX2_find 30 = .ok (.getfield 15, 3) := by decide +kernel
theorem dX2_find_33 : decode cX2_find 33 = .ok (.iload 4, 2) := by decide +kernel
theorem dX2_find_35 : decode cX2_find 35 = .ok (.iconst 0, 1) := by decide +kernel
theorem dX2_find_36 : decode cX2_find 36 = .ok (.iastore, 1) := by decide +kernel
theorem dX2_find_37 : decode cX2_find 37 = .ok (.aload_n 0, 1) := by decide +kernel
theorem dX2_find_38 : decode cX2_find 38 = .ok (.getfield 18, 3) := by decide +kernel
theorem dX2_find_41 : decode cX2_find 41 = .ok (.iload 4, 2) := by decide +kernel
theorem dX2_find_43 : decode cX2_find 43 = .ok (.iconst 0, 1) := by decide +kernel
theorem dX2_find_44 : decode cX2_find 44 = .ok (.bastore, 1) := by decide +kernel
theorem dX2_find_45 : decode cX2_find 45 = .ok (.aload_n 0, 1) := by decide +kernel
theorem dX2_find_46 : decode cX2_find 46 = .ok (.getfield 22, 3) := by decide +kernel
theorem dX2_find_49 : decode cX2_find 49 = .ok (.iload 4, 2) := by decide +kernel
theorem dX2_find_51 : decode cX2_find 51 = .ok (.iconst 0, 1) := by decide +kernel
theorem dX2_find_52 : decode cX2_find 52 = .ok (.iastore, 1) := by decide +kernel
theorem dX2_find_53 : decode cX2_find 53 = .ok (.iinc 4 1, 3) := by decide +kernel
theorem dX2_find_56 : decode cX2_find 56 = .ok (.goto (-45), 3) := by decide +kernel
theorem dX2_find_59 : decode cX2_find 59 = .ok (.iconst 0, 1) := by decide +kernel
theorem dX2_find_60 : decode cX2_find 60 = .ok (.istore 4, 2) := by decide +kernel
theorem dX2_find_62 : decode cX2_find 62 = .ok (.iload 4, 2) := by decide +kernel
theorem dX2_find_64 : decode cX2_find 64 = .ok (.aload_n 2, 1) := by decide +kernel
theorem dX2_find_65 : decode cX2_find 65 = .ok (.getfield 32, 3) := by decide +kernel
theorem dX2_find_68 : decode cX2_find 68 = .ok (.if_icmp .ge 52, 3) := by decide +kernel
theorem dX2_find_71 : decode cX2_find 71 = .ok (.iload_n 3, 1) := by decide +kernel
theorem dX2_find_72 : decode cX2_find 72 = .ok (.iload 4, 2) := by decide +kernel
theorem dX2_find_74 : decode cX2_find 74 = .ok (.ishr, 1) := by decide +kernel
theorem dX2_find_75 : decode cX2_find 75 = .ok (.iconst 1, 1) := by decide +kernel
theorem dX2_find_76 : decode cX2_find 76 = .ok (.iand, 1) := by decide +kernel
theorem dX2_find_77 : decode cX2_find 77 = .ok (.iconst 1, 1) := by decide +kernel
theorem dX2_find_78 : decode cX2_find 78 = .ok (.if_icmp .ne 36, 3) := by decide +kernel
theorem dX2_find_81 : decode cX2_find 81 = .ok (.aload_n 0, 1) := by decide +kernel
theorem dX2_find_82 : decode cX2_find 82 = .ok (.aload_n 2, 1) := by decide +kernel
theorem dX2_find_83 : decode cX2_find 83 = .ok (.getfield 35, 3) := by decide +kernel
theorem dX2_find_86 : decode cX2_find 86 = .ok (.iload 4, 2) := by decide +kernel
theorem dX2_find_88 : decode cX2_find 88 = .ok (.iaload, 1) := by decide +kernel
theorem dX2_find_89 : decode cX2_find 89 = .ok (.aload_n 2, 1) := by decide +kernel
theorem dX2_find_90 : decode cX2_find 90 = .ok (.getfield 38, 3) := by decide +kernel
theorem dX2_find_93 : decode cX2_find 93 = .ok (.iload 4, 2) := by decide +kernel
theorem dX2_find_95 : decode cX2_find 95 = .ok (.iaload, 1) := by decide +kernel
theorem dX2_find_96 : decode cX2_find 96 = .ok (.aload_n 2, 1) := by decide +kernel
theorem dX2_find_97 : decode cX2_find 97 = .ok (.getfield 41, 3) := by decide +kernel
theorem dX2_find_100 : decode cX2_find 100 = .ok (.iload 4, 2) := by decide +kernel
theorem dX2_find_102 : decode cX2_find 102 = .ok (.baload, 1) := by decide +kernel
theorem dX2_find_103 : decode cX2_find 103 = .ok (.ifCond .eq 7, 3) := by decide +kernel
theorem dX2_find_106 : decode cX2_find 106 = .ok (.iconst 0, 1) := by decide +kernel
theorem dX2_find_107 : decode cX2_find 107 = .ok (.goto 4, 3) := by decide +kernel
theorem dX2_find_110 : decode cX2_find 110 = .ok (.iconst 1, 1) := by decide +kernel
theorem dX2_find_111 : decode cX2_find 111 = .ok (.invokevirtual 44, 3) := by decide +kernel
theorem dX2_find_114 : decode cX2_find 114 = .ok (.iinc 4 1, 3) := by decide +kernel
theorem dX2_find_117 : decode cX2_find 117 = .ok (.goto (-55), 3) := by decide +kernel
theorem dX2_find_120 : decode cX2_find 120 = .ok (.iconst 0, 1) := by decide +kernel
theorem dX2_find_121 : decode cX2_find 121 = .ok (.istore 4, 2) := by decide +kernel
theorem dX2_find_123 : decode cX2_find 123 = .ok (.iload 4, 2) := by decide +kernel
theorem dX2_find_125 : decode cX2_find 125 = .ok (.aload_n 0, 1) := by decide +kernel
theorem dX2_find_126 : decode cX2_find 126 = .ok (.getfield 31, 3) := by decide +kernel
theorem dX2_find_129 : decode cX2_find 129 = .ok (.if_icmp .ge 47, 3) := by decide +kernel
theorem dX2_find_132 : decode cX2_find 132 = .ok (.aload_n 1, 1) := by decide +kernel
theorem dX2_find_133 : decode cX2_find 133 = .ok (.getfield 48, 3) := by decide +kernel
theorem dX2_find_136 : decode cX2_find 136 = .ok (.iload 4, 2) := by decide +kernel
theorem dX2_find_138 : decode cX2_find 138 = .ok (.iaload, 1) := by decide +kernel
theorem dX2_find_139 : decode cX2_find 139 = .ok (.ifCond .eq 31, 3) := by decide +kernel
theorem dX2_find_142 : decode cX2_find 142 = .ok (.aload_n 0, 1) := by decide +kernel
theorem dX2_find_143 : decode cX2_find 143 = .ok (.getfield 22, 3) := by decide +kernel
theorem dX2_find_146 : decode cX2_find 146 = .ok (.aload_n 0, 1) := by decide +kernel
theorem dX2_find_147 : decode cX2_find 147 = .ok (.getfield 9, 3) := by decide +kernel
theorem dX2_find_150 : decode cX2_find 150 = .ok (.iload 4, 2) := by decide +kernel
theorem dX2_find_152 : decode cX2_find 152 = .ok (.iaload, 1) := by decide +kernel
theorem dX2_find_153 : decode cX2_find 153 = .ok (.dup2, 1) := by decide +kernel
theorem dX2_find_154 : decode cX2_find 154 = .ok (.iaload, 1) := by decide +kernel
theorem dX2_find_155 : decode cX2_find 155 = .ok (.aload_n 0, 1) := by decide +kernel
theorem dX2_find_156 : decode cX2_find 156 = .ok (.iload 4, 2) := by decide +kernel
theorem dX2_find_158 : decode cX2_find 158 = .ok (.aload_n 1, 1) := by decide +kernel
theorem dX2_find_159 : decode cX2_find 159 = .ok (.getfield 48, 3) := by decide +kernel
theorem dX2_find_162 : decode cX2_find 162 = .ok (.iload 4, 2) := by decide +kernel
theorem dX2_find_164 : decode cX2_find 164 = .ok (.iaload, 1) := by decide +kernel
theorem dX2_find_165 : decode cX2_find 165 = .ok (.invokevirtual 51, 3) := by decide +kernel
theorem dX2_find_168 : decode cX2_find 168 = .ok (.ior, 1) := by decide +kernel
theorem dX2_find_169 : decode cX2_find 169 = .ok (.iastore, 1) := by decide +kernel
theorem dX2_find_170 : decode cX2_find 170 = .ok (.iinc 4 1, 3) := by decide +kernel
theorem dX2_find_173 : decode cX2_find 173 = .ok (.goto (-50), 3) := by decide +kernel
theorem dX2_find_176 : decode cX2_find 176 = .ok (.return_, 1) := by decide +kernel
theorem dX2_join_0 : decode cX2_join 0 = .ok (.aload_n 0, 1) := by decide +kernel
theorem dX2_join_1 : decode cX2_join 1 = .ok (.getfield 9, 3) := by decide +kernel
theorem dX2_join_4 : decode cX2_join 4 = .ok (.iload_n 1, 1) := by decide +kernel
theorem dX2_join_5 : decode cX2_join 5 = .ok (.iaload, 1) := by decide +kernel
theorem dX2_join_6 : decode cX2_join 6 = .ok (.istore 4, 2) := by decide +kernel
theorem dX2_join_8 : decode cX2_join 8 = .ok (.aload_n 0, 1) := by decide +kernel
theorem dX2_join_9 : decode cX2_join 9 = .ok (.getfield 9, 3) := by decide +kernel
theorem dX2_join_12 : decode cX2_join 12 = .ok (.iload_n 2, 1) := by decide +kernel
theorem dX2_join_13 : decode cX2_join 13 = .ok (.iaload, 1) := by decide +kernel
theorem dX2_join_14 : decode cX2_join 14 = .ok (.istore 5, 2) := by decide +kernel
theorem dX2_join_16 : decode cX2_join 16 = .ok (.aload_n 0, 1) := by decide +kernel
theorem dX2_join_17 : decode cX2_join 17 = .ok (.getfield 15, 3) := by decide +kernel
theorem dX2_join_20 : decode cX2_join 20 = .ok (.iload_n 1, 1) := by decide +kernel
theorem dX2_join_21 : decode cX2_join 21 = .ok (.iaload, 1) := by decide +kernel
theorem dX2_join_22 : decode cX2_join 22 = .ok (.aload_n 0, 1) := by decide +kernel
theorem dX2_join_23 : decode cX2_join 23 = .ok (.getfield 15, 3) := by decide +kernel
theorem dX2_join_26 : decode cX2_join 26 = .ok (.iload_n 2, 1) := by decide +kernel
theorem dX2_join_27 : decode cX2_join 27 = .ok (.iaload, 1) := by decide +kernel
theorem dX2_join_28 : decode cX2_join 28 = .ok (.ixor, 1) := by decide +kernel
theorem dX2_join_29 : decode cX2_join 29 = .ok (.iload_n 3, 1) := by decide +kernel
theorem dX2_join_30 : decode cX2_join 30 = .ok (.ixor, 1) := by decide +kernel
theorem dX2_join_31 : decode cX2_join 31 = .ok (.istore 6, 2) := by decide +kernel
theorem dX2_join_33 : decode cX2_join 33 = .ok (.iload 4, 2) := by decide +kernel
theorem dX2_join_35 : decode cX2_join 35 = .ok (.iload 5, 2) := by decide +kernel
theorem dX2_join_37 : decode cX2_join 37 = .ok (.if_icmp .ne 32, 3) := by decide +kernel
theorem dX2_join_40 : decode cX2_join 40 = .ok (.aload_n 0, 1) := by decide +kernel
theorem dX2_join_41 : decode cX2_join 41 = .ok (.getfield 18, 3) := by decide +kernel
theorem dX2_join_44 : decode cX2_join 44 = .ok (.iload 4, 2) := by decide +kernel
theorem dX2_join_46 : decode cX2_join 46 = .ok (.aload_n 0, 1) := by decide +kernel
theorem dX2_join_47 : decode cX2_join 47 = .ok (.getfield 18, 3) := by decide +kernel
theorem dX2_join_50 : decode cX2_join 50 = .ok (.iload 4, 2) := by decide +kernel
theorem dX2_join_52 : decode cX2_join 52 = .ok (.baload, 1) := by decide +kernel
theorem dX2_join_53 : decode cX2_join 53 = .ok (.ifCond .ne 9, 3) := by decide +kernel
theorem dX2_join_56 : decode cX2_join 56 = .ok (.iload 6, 2) := by decide +kernel
theorem dX2_join_58 : decode cX2_join 58 = .ok (.iconst 1, 1) := by decide +kernel
theorem dX2_join_59 : decode cX2_join 59 = .ok (.if_icmp .ne 7, 3) := by decide +kernel
theorem dX2_join_62 : decode cX2_join 62 = .ok (.iconst 1, 1) := by decide +kernel
theorem dX2_join_63 : decode cX2_join 63 = .ok (.goto 4, 3) := by decide +kernel
theorem dX2_join_66 : decode cX2_join 66 = .ok (.iconst 0, 1) := by decide +kernel
theorem dX2_join_67 : decode cX2_join 67 = .ok (.bastore, 1) := by decide +kernel
theorem dX2_join_68 : decode cX2_join 68 = .ok (.return_, 1) := by decide +kernel
theorem dX2_join_69 : decode cX2_join 69 = .ok (.aload_n 0, 1) := by decide +kernel
theorem dX2_join_70 : decode cX2_join 70 = .ok (.getfield 18, 3) := by decide +kernel
theorem dX2_join_73 : decode cX2_join 73 = .ok (.iload 4, 2) := by decide +kernel
theorem dX2_join_75 : decode cX2_join 75 = .ok (.aload_n 0, 1) := by decide +kernel
theorem dX2_join_76 : decode cX2_join 76 = .ok (.getfield 18, 3) := by decide +kernel
theorem dX2_join_79 : decode cX2_join 79 = .ok (.iload 4, 2) := by decide +kernel
theorem dX2_join_81 : decode cX2_join 81 = .ok (.baload, 1) := by decide +kernel
theorem dX2_join_82 : decode cX2_join 82 = .ok (.ifCond .ne 13, 3) := by decide +kernel
theorem dX2_join_85 : decode cX2_join 85 = .ok (.aload_n 0, 1) := by decide +kernel
theorem dX2_join_86 : decode cX2_join 86 = .ok (.getfield 18, 3) := by decide +kernel
theorem dX2_join_89 : decode cX2_join 89 = .ok (.iload 5, 2) := by decide +kernel
theorem dX2_join_91 : decode cX2_join 91 = .ok (.baload, 1) := by decide +kernel
theorem dX2_join_92 : decode cX2_join 92 = .ok (.ifCond .eq 7, 3) := by decide +kernel
theorem dX2_join_95 : decode cX2_join 95 = .ok (.iconst 1, 1) := by decide +kernel
theorem dX2_join_96 : decode cX2_join 96 = .ok (.goto 4, 3) := by decide +kernel
theorem dX2_join_99 : decode cX2_join 99 = .ok (.iconst 0, 1) := by decide +kernel
theorem dX2_join_100 : decode cX2_join 100 = .ok (.bastore, 1) := by decide +kernel
theorem dX2_join_101 : decode cX2_join 101 = .ok (.iconst 0, 1) := by decide +kernel
theorem dX2_join_102 : decode cX2_join 102 = .ok (.istore 7, 2) := by decide +kernel
theorem dX2_join_104 : decode cX2_join 104 = .ok (.iload 7, 2) := by decide +kernel
theorem dX2_join_106 : decode cX2_join 106 = .ok (.aload_n 0, 1) := by decide +kernel
theorem dX2_join_107 : decode cX2_join 107 = .ok (.getfield 31, 3) := by decide +kernel
theorem dX2_join_110 : decode cX2_join 110 = .ok (.if_icmp .ge 42, 3) := by decide +kernel
theorem dX2_join_113 : decode cX2_join 113 = .ok (.aload_n 0, 1) := by decide +kernel
theorem dX2_join_114 : decode cX2_join 114 = .ok (.getfield 9, 3) := by decide +kernel
theorem dX2_join_117 : decode cX2_join 117 = .ok (.iload 7, 2) := by decide +kernel
theorem dX2_join_119 : decode cX2_join 119 = .ok (.iaload, 1) := by decide +kernel
theorem dX2_join_120 : decode cX2_join 120 = .ok (.iload 5, 2) := by decide +kernel
theorem dX2_join_122 : decode cX2_join 122 = .ok (.if_icmp .ne 24, 3) := by decide +kernel
theorem dX2_join_125 : decode cX2_join 125 = .ok (.aload_n 0, 1) := by decide +kernel
theorem dX2_join_126 : decode cX2_join 126 = .ok (.getfield 9, 3) := by decide +kernel
theorem dX2_join_129 : decode cX2_join 129 = .ok (.iload 7, 2) := by decide +kernel
theorem dX2_join_131 : decode cX2_join 131 = .ok (.iload 4, 2) := by decide +kernel
theorem dX2_join_133 : decode cX2_join 133 = .ok (.iastore, 1) := by decide +kernel
theorem dX2_join_134 : decode cX2_join 134 = .ok (.aload_n 0, 1) := by decide +kernel
theorem dX2_join_135 : decode cX2_join 135 = .ok (.getfield 15, 3) := by decide +kernel
theorem dX2_join_138 : decode cX2_join 138 = .ok (.iload 7, 2) := by decide +kernel
theorem dX2_join_140 : decode cX2_join 140 = .ok (.dup2, 1) := by decide +kernel
theorem dX2_join_141 : decode cX2_join 141 = .ok (.iaload, 1) := by decide +kernel
theorem dX2_join_142 : decode cX2_join 142 = .ok (.iload 6, 2) := by decide +kernel
theorem dX2_join_144 : decode cX2_join 144 = .ok (.ixor, 1) := by decide +kernel
theorem dX2_join_145 : decode cX2_join 145 = .ok (.iastore, 1) := by decide +kernel
theorem dX2_join_146 : decode cX2_join 146 = .ok (.iinc 7 1, 3) := by decide +kernel
theorem dX2_join_149 : decode cX2_join 149 = .ok (.goto (-45), 3) := by decide +kernel
theorem dX2_join_152 : decode cX2_join 152 = .ok (.return_, 1) := by decide +kernel
theorem dX2_seenByLeader_0 : decode cX2_seenByLeader 0 = .ok (.aload_n 0, 1) := by decide +kernel
theorem dX2_seenByLeader_1 : decode cX2_seenByLeader 1 = .ok (.getfield 15, 3) := by decide +kernel
theorem dX2_seenByLeader_4 : decode cX2_seenByLeader 4 = .ok (.iload_n 1, 1) := by decide +kernel
theorem dX2_seenByLeader_5 : decode cX2_seenByLeader 5 = .ok (.iaload, 1) := by decide +kernel
theorem dX2_seenByLeader_6 : decode cX2_seenByLeader 6 = .ok (.iconst 1, 1) := by decide +kernel
theorem dX2_seenByLeader_7 : decode cX2_seenByLeader 7 = .ok (.if_icmp .ne 9, 3) := by decide +kernel
theorem dX2_seenByLeader_10 : decode cX2_seenByLeader 10 = .ok (.iconst 3, 1) := by decide +kernel
theorem dX2_seenByLeader_11 : decode cX2_seenByLeader 11 = .ok (.iload_n 2, 1) := by decide +kernel
theorem dX2_seenByLeader_12 : decode cX2_seenByLeader 12 = .ok (.isub, 1) := by decide +kernel
theorem dX2_seenByLeader_13 : decode cX2_seenByLeader 13 = .ok (.goto 4, 3) := by decide +kernel
theorem dX2_seenByLeader_16 : decode cX2_seenByLeader 16 = .ok (.iload_n 2, 1) := by decide +kernel
theorem dX2_seenByLeader_17 : decode cX2_seenByLeader 17 = .ok (.ireturn, 1) := by decide +kernel
theorem dX2_countGroups_0 : decode cX2_countGroups 0 = .ok (.iconst 0, 1) := by decide +kernel
theorem dX2_countGroups_1 : decode cX2_countGroups 1 = .ok (.istore_n 1, 1) := by decide +kernel
theorem dX2_countGroups_2 : decode cX2_countGroups 2 = .ok (.iconst 0, 1) := by decide +kernel
theorem dX2_countGroups_3 : decode cX2_countGroups 3 = .ok (.istore_n 2, 1) := by decide +kernel
theorem dX2_countGroups_4 : decode cX2_countGroups 4 = .ok (.iload_n 2, 1) := by decide +kernel
theorem dX2_countGroups_5 : decode cX2_countGroups 5 = .ok (.aload_n 0, 1) := by decide +kernel
theorem dX2_countGroups_6 : decode cX2_countGroups 6 = .ok (.getfield 31, 3) := by decide +kernel
theorem dX2_countGroups_9 : decode cX2_countGroups 9 = .ok (.if_icmp .ge 22, 3) := by decide +kernel
theorem dX2_countGroups_12 : decode cX2_countGroups 12 = .ok (.aload_n 0, 1) := by decide +kernel
theorem dX2_countGroups_13 : decode cX2_countGroups 13 = .ok (.getfield 9, 3) := by decide +kernel
theorem dX2_countGroups_16 : decode cX2_countGroups 16 = .ok (.iload_n 2, 1) := by decide +kernel
theorem dX2_countGroups_17 : decode cX2_countGroups 17 = .ok (.iaload, 1) := by decide +kernel
theorem dX2_countGroups_18 : decode cX2_countGroups 18 = .ok (.iload_n 2, 1) := by decide +kernel
theorem dX2_countGroups_19 : decode cX2_countGroups 19 = .ok (.if_icmp .ne 6, 3) := by decide +kernel
theorem dX2_countGroups_22 : decode cX2_countGroups 22 = .ok (.iinc 1 1, 3) := by decide +kernel
theorem dX2_countGroups_25 : decode cX2_countGroups 25 = .ok (.iinc 2 1, 3) := by decide +kernel
theorem dX2_countGroups_28 : decode cX2_countGroups 28 = .ok (.goto (-24), 3) := by decide +kernel
theorem dX2_countGroups_31 : decode cX2_countGroups 31 = .ok (.iload_n 1, 1) := by decide +kernel
theorem dX2_countGroups_32 : decode cX2_countGroups 32 = .ok (.ireturn, 1) := by decide +kernel
theorem dX2_areJoined_0 : decode cX2_areJoined 0 = .ok (.aload_n 0, 1) := by decide +kernel
theorem dX2_areJoined_1 : decode cX2_areJoined 1 = .ok (.getfield 9, 3) := by decide +kernel
theorem dX2_areJoined_4 : decode cX2_areJoined 4 = .ok (.iload_n 1, 1) := by decide +kernel
theorem dX2_areJoined_5 : decode cX2_areJoined 5 = .ok (.iaload, 1) := by decide +kernel
theorem dX2_areJoined_6 : decode cX2_areJoined 6 = .ok (.aload_n 0, 1) := by decide +kernel
theorem dX2_areJoined_7 : decode cX2_areJoined 7 = .ok (.getfield 9, 3) := by decide +kernel
theorem dX2_areJoined_10 : decode cX2_areJoined 10 = .ok (.iload_n 2, 1) := by decide +kernel
theorem dX2_areJoined_11 : decode cX2_areJoined 11 = .ok (.iaload, 1) := by decide +kernel
theorem dX2_areJoined_12 : decode cX2_areJoined 12 = .ok (.if_icmp .ne 7, 3) := by decide +kernel
theorem dX2_areJoined_15 : decode cX2_areJoined 15 = .ok (.iconst 1, 1) := by decide +kernel
theorem dX2_areJoined_16 : decode cX2_areJoined 16 = .ok (.goto 4, 3) := by decide +kernel
theorem dX2_areJoined_19 : decode cX2_areJoined 19 = .ok (.iconst 0, 1) := by decide +kernel
theorem dX2_areJoined_20 : decode cX2_areJoined 20 = .ok (.ireturn, 1) := by decide +kernel
theorem dX2_areOnOneSide_0 : decode cX2_areOnOneSide 0 = .ok (.aload_n 0, 1) := by decide +kernel
theorem dX2_areOnOneSide_1 : decode cX2_areOnOneSide 1 = .ok (.getfield 15, 3) := by decide +kernel
theorem dX2_areOnOneSide_4 : decode cX2_areOnOneSide 4 = .ok (.iload_n 1, 1) := by decide +kernel
theorem dX2_areOnOneSide_5 : decode cX2_areOnOneSide 5 = .ok (.iaload, 1) := by decide +kernel
theorem dX2_areOnOneSide_6 : decode cX2_areOnOneSide 6 = .ok (.aload_n 0, 1) := by decide +kernel
theorem dX2_areOnOneSide_7 : decode cX2_areOnOneSide 7 = .ok (.getfield 15, 3) := by decide +kernel
theorem dX2_areOnOneSide_10 : decode cX2_areOnOneSide 10 = .ok (.iload_n 2, 1) := by decide +kernel
theorem dX2_areOnOneSide_11 : decode cX2_areOnOneSide 11 = .ok (.iaload, 1) := by decide +kernel
theorem dX2_areOnOneSide_12 : decode cX2_areOnOneSide 12 = .ok (.if_icmp .ne 7, 3) := by decide +kernel
theorem dX2_areOnOneSide_15 : decode cX2_areOnOneSide 15 = .ok (.iconst 1, 1) := by decide +kernel
theorem dX2_areOnOneSide_16 : decode cX2_areOnOneSide 16 = .ok (.goto 4, 3) := by decide +kernel
theorem dX2_areOnOneSide_19 : decode cX2_areOnOneSide 19 = .ok (.iconst 0, 1) := by decide +kernel
theorem dX2_areOnOneSide_20 : decode cX2_areOnOneSide 20 = .ok (.ireturn, 1) := by decide +kernel
theorem dX2_hasClash_0 : decode cX2_hasClash 0 = .ok (.aload_n 0, 1) := by decide +kernel
theorem dX2_hasClash_1 : decode cX2_hasClash 1 = .ok (.getfield 18, 3) := by decide +kernel
theorem dX2_hasClash_4 : decode cX2_hasClash 4 = .ok (.aload_n 0, 1) := by decide +kernel
theorem dX2_hasClash_5 : decode cX2_hasClash 5 = .ok (.getfield 9, 3) := by decide +kernel
theorem dX2_hasClash_8 : decode cX2_hasClash 8 = .ok (.iload_n 1, 1) := by decide +kernel
theorem dX2_hasClash_9 : decode cX2_hasClash 9 = .ok (.iaload, 1) := by decide +kernel
theorem dX2_hasClash_10 : decode cX2_hasClash 10 = .ok (.baload, 1) := by decide +kernel
theorem dX2_hasClash_11 : decode cX2_hasClash 11 = .ok (.ireturn, 1) := by decide +kernel
theorem dX2_isBroken_0 : decode cX2_isBroken 0 = .ok (.aload_n 0, 1) := by decide +kernel
theorem dX2_isBroken_1 : decode cX2_isBroken 1 = .ok (.getfield 18, 3) := by decide +kernel
theorem dX2_isBroken_4 : decode cX2_isBroken 4 = .ok (.aload_n 0, 1) := by decide +kernel
theorem dX2_isBroken_5 : decode cX2_isBroken 5 = .ok (.getfield 9, 3) := by decide +kernel
theorem dX2_isBroken_8 : decode cX2_isBroken 8 = .ok (.iload_n 1, 1) := by decide +kernel
theorem dX2_isBroken_9 : decode cX2_isBroken 9 = .ok (.iaload, 1) := by decide +kernel
theorem dX2_isBroken_10 : decode cX2_isBroken 10 = .ok (.baload, 1) := by decide +kernel
theorem dX2_isBroken_11 : decode cX2_isBroken 11 = .ok (.ifCond .ne 18, 3) := by decide +kernel
theorem dX2_isBroken_14 : decode cX2_isBroken 14 = .ok (.aload_n 0, 1) := by decide +kernel
theorem dX2_isBroken_15 : decode cX2_isBroken 15 = .ok (.getfield 22, 3) := by decide +kernel
theorem dX2_isBroken_18 : decode cX2_isBroken 18 = .ok (.aload_n 0, 1) := by decide +kernel
theorem dX2_isBroken_19 : decode cX2_isBroken 19 = .ok (.getfield 9, 3) := by decide +kernel
theorem dX2_isBroken_22 : decode cX2_isBroken 22 = .ok (.iload_n 1, 1) := by decide +kernel
theorem dX2_isBroken_23 : decode cX2_isBroken 23 = .ok (.iaload, 1) := by decide +kernel
theorem dX2_isBroken_24 : decode cX2_isBroken 24 = .ok (.iaload, 1) := by decide +kernel
theorem dX2_isBroken_25 : decode cX2_isBroken 25 = .ok (.iconst 3, 1) := by decide +kernel
theorem dX2_isBroken_26 : decode cX2_isBroken 26 = .ok (.if_icmp .ne 7, 3) := by decide +kernel
theorem dX2_isBroken_29 : decode cX2_isBroken 29 = .ok (.iconst 1, 1) := by decide +kernel
theorem dX2_isBroken_30 : decode cX2_isBroken 30 = .ok (.goto 4, 3) := by decide +kernel
theorem dX2_isBroken_33 : decode cX2_isBroken 33 = .ok (.iconst 0, 1) := by decide +kernel
theorem dX2_isBroken_34 : decode cX2_isBroken 34 = .ok (.ireturn, 1) := by decide +kernel
theorem dX2_verdictOn_0 : decode cX2_verdictOn 0 = .ok (.aload_n 0, 1) := by decide +kernel
theorem dX2_verdictOn_1 : decode cX2_verdictOn 1 = .ok (.iload_n 1, 1) := by decide +kernel
theorem dX2_verdictOn_2 : decode cX2_verdictOn 2 = .ok (.invokevirtual 55, 3) := by decide +kernel
theorem dX2_verdictOn_5 : decode cX2_verdictOn 5 = .ok (.ifCond .eq 6, 3) := by decide +kernel
theorem dX2_verdictOn_8 : decode cX2_verdictOn 8 = .ok (.bipush 109, 2) := by decide +kernel
theorem dX2_verdictOn_10 : decode cX2_verdictOn 10 = .ok (.ireturn, 1) := by decide +kernel
theorem dX2_verdictOn_11 : decode cX2_verdictOn 11 = .ok (.aload_n 0, 1) := by decide +kernel
theorem dX2_verdictOn_12 : decode cX2_verdictOn 12 = .ok (.getfield 22, 3) := by decide +kernel
theorem dX2_verdictOn_15 : decode cX2_verdictOn 15 = .ok (.aload_n 0, 1) := by decide +kernel
theorem dX2_verdictOn_16 : decode cX2_verdictOn 16 = .ok (.getfield 9, 3) := by decide +kernel
theorem dX2_verdictOn_19 : decode cX2_verdictOn 19 = .ok (.iload_n 1, 1) := by decide +kernel
theorem dX2_verdictOn_20 : decode cX2_verdictOn 20 = .ok (.iaload, 1) := by decide +kernel
theorem dX2_verdictOn_21 : decode cX2_verdictOn 21 = .ok (.iaload, 1) := by decide +kernel
theorem dX2_verdictOn_22 : decode cX2_verdictOn 22 = .ok (.istore_n 2, 1) := by decide +kernel
theorem dX2_verdictOn_23 : decode cX2_verdictOn 23 = .ok (.iload_n 2, 1) := by decide +kernel
theorem dX2_verdictOn_24 : decode cX2_verdictOn 24 = .ok (.ifCond .ne 6, 3) := by decide +kernel
theorem dX2_verdictOn_27 : decode cX2_verdictOn 27 = .ok (.bipush 117, 2) := by decide +kernel
theorem dX2_verdictOn_29 : decode cX2_verdictOn 29 = .ok (.ireturn, 1) := by decide +kernel
theorem dX2_verdictOn_30 : decode cX2_verdictOn 30 = .ok (.aload_n 0, 1) := by decide +kernel
theorem dX2_verdictOn_31 : decode cX2_verdictOn 31 = .ok (.iload_n 1, 1) := by decide +kernel
theorem dX2_verdictOn_32 : decode cX2_verdictOn 32 = .ok (.iload_n 2, 1) := by decide +kernel
theorem dX2_verdictOn_33 : decode cX2_verdictOn 33 = .ok (.invokevirtual 51, 3) := by decide +kernel
theorem dX2_verdictOn_36 : decode cX2_verdictOn 36 = .ok (.iconst 1, 1) := by decide +kernel
theorem dX2_verdictOn_37 : decode cX2_verdictOn 37 = .ok (.if_icmp .ne 8, 3) := by decide +kernel
theorem dX2_verdictOn_40 : decode cX2_verdictOn 40 = .ok (.bipush 103, 2) := by decide +kernel
theorem dX2_verdictOn_42 : decode cX2_verdictOn 42 = .ok (.goto 5, 3) := by decide +kernel
theorem dX2_verdictOn_45 : decode cX2_verdictOn 45 = .ok (.bipush 105, 2) := by decide +kernel
theorem dX2_verdictOn_47 : decode cX2_verdictOn 47 = .ok (.ireturn, 1) := by decide +kernel
theorem dX2_waysToExplain_0 : decode cX2_waysToExplain 0 = .ok (.iconst 1, 1) := by decide +kernel
theorem dX2_waysToExplain_1 : decode cX2_waysToExplain 1 = .ok (.istore_n 1, 1) := by decide +kernel
theorem dX2_waysToExplain_2 : decode cX2_waysToExplain 2 = .ok (.iconst 0, 1) := by decide +kernel
theorem dX2_waysToExplain_3 : decode cX2_waysToExplain 3 = .ok (.istore_n 2, 1) := by decide +kernel
theorem dX2_waysToExplain_4 : decode cX2_waysToExplain 4 = .ok (.iload_n 2, 1) := by decide +kernel
theorem dX2_waysToExplain_5 : decode cX2_waysToExplain 5 = .ok (.aload_n 0, 1) := by decide +kernel
theorem dX2_waysToExplain_6 : decode cX2_waysToExplain 6 = .ok (.getfield 31, 3) := by decide +kernel
theorem dX2_waysToExplain_9 : decode cX2_waysToExplain 9 = .ok (.if_icmp .ge 42, 3) := by decide +kernel
theorem dX2_waysToExplain_12 : decode cX2_waysToExplain 12 = .ok (.aload_n 0, 1) := by decide +kernel
theorem dX2_waysToExplain_13 : decode cX2_waysToExplain 13 = .ok (.iload_n 2, 1) := by decide +kernel
theorem dX2_waysToExplain_14 : decode cX2_waysToExplain 14 = .ok (.invokevirtual 55, 3) := by decide +kernel
theorem dX2_waysToExplain_17 : decode cX2_waysToExplain 17 = .ok (.ifCond .eq 5, 3) := by decide +kernel
theorem dX2_waysToExplain_20 : decode cX2_waysToExplain 20 = .ok (.iconst 0, 1) := by decide +kernel
theorem dX2_waysToExplain_21 : decode cX2_waysToExplain 21 = .ok (.ireturn, 1) := by decide +kernel
theorem dX2_waysToExplain_22 : decode cX2_waysToExplain 22 = .ok (.aload_n 0, 1) := by decide +kernel
theorem dX2_waysToExplain_23 : decode cX2_waysToExplain 23 = .ok (.getfield 9, 3) := by decide +kernel
theorem dX2_waysToExplain_26 : decode cX2_waysToExplain 26 = .ok (.iload_n 2, 1) := by decide +kernel
theorem dX2_waysToExplain_27 : decode cX2_waysToExplain 27 = .ok (.iaload, 1) := by decide +kernel
theorem dX2_waysToExplain_28 : decode cX2_waysToExplain 28 = .ok (.iload_n 2, 1) := by decide +kernel
theorem dX2_waysToExplain_29 : decode cX2_waysToExplain 29 = .ok (.if_icmp .ne 16, 3) := by decide +kernel
theorem dX2_waysToExplain_32 : decode cX2_waysToExplain 32 = .ok (.aload_n 0, 1) := by decide +kernel
theorem dX2_waysToExplain_33 : decode cX2_waysToExplain 33 = .ok (.getfield 22, 3) := by decide +kernel
theorem dX2_waysToExplain_36 : decode cX2_waysToExplain 36 = .ok (.iload_n 2, 1) := by decide +kernel
theorem dX2_waysToExplain_37 : decode cX2_waysToExplain 37 = .ok (.iaload, 1) := by decide +kernel
theorem dX2_waysToExplain_38 : decode cX2_waysToExplain 38 = .ok (.ifCond .ne 7, 3) := by decide +kernel
theorem dX2_waysToExplain_41 : decode cX2_waysToExplain 41 = .ok (.iload_n 1, 1) := by decide +kernel
theorem dX2_waysToExplain_42 : decode cX2_waysToExplain 42 = .ok (.iconst 2, 1) := by decide +kernel
theorem dX2_waysToExplain_43 : decode cX2_waysToExplain 43 = .ok (.imul, 1) := by decide +kernel
theorem dX2_waysToExplain_44 : decode cX2_waysToExplain 44 = .ok (.istore_n 1, 1) := by decide +kernel
theorem dX2_waysToExplain_45 : decode cX2_waysToExplain 45 = .ok (.iinc 2 1, 3) := by decide +kernel
theorem dX2_waysToExplain_48 : decode cX2_waysToExplain 48 = .ok (.goto (-44), 3) := by decide +kernel
theorem dX2_waysToExplain_51 : decode cX2_waysToExplain 51 = .ok (.iload_n 1, 1) := by decide +kernel
theorem dX2_waysToExplain_52 : decode cX2_waysToExplain 52 = .ok (.ireturn, 1) := by decide +kernel
theorem dX3_init_0 : decode cX3_init 0 = .ok (.aload_n 0, 1) := by decide +kernel
theorem dX3_init_1 : decode cX3_init 1 = .ok (.invokespecial 3, 3) := by decide +kernel
theorem dX3_init_4 : decode cX3_init 4 = .ok (.aload_n 0, 1) := by decide +kernel
theorem dX3_init_5 : decode cX3_init 5 = .ok (.bipush 60, 2) := by decide +kernel
theorem dX3_init_7 : decode cX3_init 7 = .ok (.newarray .char, 2) := by decide +kernel
theorem dX3_init_9 : decode cX3_init 9 = .ok (.putfield 9, 3) := by decide +kernel
theorem dX3_init_12 : decode cX3_init 12 = .ok (.aload_n 0, 1) := by decide +kernel
theorem dX3_init_13 : decode cX3_init 13 = .ok (.getstatic 15, 3) := by decide +kernel
theorem dX3_init_16 : decode cX3_init 16 = .ok (.putfield 21, 3) := by decide +kernel
theorem dX3_init_19 : decode cX3_init 19 = .ok (.aload_n 0, 1) := by decide +kernel
theorem dX3_init_20 : decode cX3_init 20 = .ok (.iconst 4, 1) := by decide +kernel
theorem dX3_init_21 : decode cX3_init 21 = .ok (.newarray .int, 2) := by decide +kernel
theorem dX3_init_23 : decode cX3_init 23 = .ok (.putfield 24, 3) := by decide +kernel
theorem dX3_init_26 : decode cX3_init 26 = .ok (.return_, 1) := by decide +kernel
theorem dX3_isFull_0 : decode cX3_isFull 0 = .ok (.aload_n 0, 1) := by decide +kernel
theorem dX3_isFull_1 : decode cX3_isFull 1 = .ok (.getfield 28, 3) := by decide +kernel
theorem dX3_isFull_4 : decode cX3_isFull 4 = .ok (.bipush 60, 2) := by decide +kernel
theorem dX3_isFull_6 : decode cX3_isFull 6 = .ok (.if_icmp .lt 7, 3) := by decide +kernel
theorem dX3_isFull_9 : decode cX3_isFull 9 = .ok (.iconst 1, 1) := by decide +kernel
theorem dX3_isFull_10 : decode cX3_isFull 10 = .ok (.goto 4, 3) := by decide +kernel
theorem dX3_isFull_13 : decode cX3_isFull 13 = .ok (.iconst 0, 1) := by decide +kernel
theorem dX3_isFull_14 : decode cX3_isFull 14 = .ok (.ireturn, 1) := by decide +kernel
theorem dX3_append_0 : decode cX3_append 0 = .ok (.aload_n 0, 1) := by decide +kernel
theorem dX3_append_1 : decode cX3_append 1 = .ok (.getfield 9, 3) := by decide +kernel
theorem dX3_append_4 : decode cX3_append 4 = .ok (.aload_n 0, 1) := by decide +kernel
theorem dX3_append_5 : decode cX3_append 5 = .ok (.getfield 28, 3) := by decide +kernel
theorem dX3_append_8 : decode cX3_append 8 = .ok (.iload_n 1, 1) := by decide +kernel
theorem dX3_append_9 : decode cX3_append 9 = .ok (.castore, 1) := by decide +kernel
theorem dX3_append_10 : decode cX3_append 10 = .ok (.aload_n 0, 1) := by decide +kernel
theorem dX3_append_11 : decode cX3_append 11 = .ok (.dup, 1) := by decide +kernel
theorem dX3_append_12 : decode cX3_append 12 = .ok (.getfield 28, 3) := by decide +kernel
theorem dX3_append_15 : decode cX3_append 15 = .ok (.iconst 1, 1) := by decide +kernel
theorem dX3_append_16 : decode cX3_append 16 = .ok (.iadd, 1) := by decide +kernel
theorem dX3_append_17 : decode cX3_append 17 = .ok (.putfield 28, 3) := by decide +kernel
theorem dX3_append_20 : decode cX3_append 20 = .ok (.aload_n 0, 1) := by decide +kernel
theorem dX3_append_21 : decode cX3_append 21 = .ok (.getfield 28, 3) := by decide +kernel
theorem dX3_append_24 : decode cX3_append 24 = .ok (.ireturn, 1) := by decide +kernel
theorem dX3_empty_0 : decode cX3_empty 0 = .ok (.aload_n 0, 1) := by decide +kernel
theorem dX3_empty_1 : decode cX3_empty 1 = .ok (.iconst 0, 1) := by decide +kernel
theorem dX3_empty_2 : decode cX3_empty 2 = .ok (.putfield 28, 3) := by decide +kernel
theorem dX3_empty_5 : decode cX3_empty 5 = .ok (.return_, 1) := by decide +kernel
theorem dX3_rewind_0 : decode cX3_rewind 0 = .ok (.aload_n 0, 1) := by decide +kernel
theorem dX3_rewind_1 : decode cX3_rewind 1 = .ok (.iconst 0, 1) := by decide +kernel
theorem dX3_rewind_2 : decode cX3_rewind 2 = .ok (.putfield 32, 3) := by decide +kernel
theorem dX3_rewind_5 : decode cX3_rewind 5 = .ok (.return_, 1) := by decide +kernel
theorem dX3_skipSemicolon_0 : decode cX3_skipSemicolon 0 = .ok (.aload_n 0, 1) := by decide +kernel
theorem dX3_skipSemicolon_1 : decode cX3_skipSemicolon 1 = .ok (.dup, 1) := by decide +kernel
theorem dX3_skipSemicolon_2 : decode cX3_skipSemicolon 2 = .ok (.getfield 32, 3) := by decide +kernel
theorem dX3_skipSemicolon_5 : decode cX3_skipSemicolon 5 = .ok (.iconst 1, 1) := by decide +kernel
theorem dX3_skipSemicolon_6 : decode cX3_skipSemicolon 6 = .ok (.iadd, 1) := by decide +kernel
theorem dX3_skipSemicolon_7 : decode cX3_skipSemicolon 7 = .ok (.putfield 32, 3) := by decide +kernel
theorem dX3_skipSemicolon_10 : decode cX3_skipSemicolon 10 = .ok (.return_, 1) := by decide +kernel
theorem dX3_countCommands_0 : decode cX3_countCommands 0 = .ok (.aload_n 0, 1) := by decide +kernel
theorem dX3_countCommands_1 : decode cX3_countCommands 1 = .ok (.invokevirtual 35, 3) := by decide +kernel
theorem dX3_countCommands_4 : decode cX3_countCommands 4 = .ok (.iconst 1, 1) := by decide +kernel
theorem dX3_countCommands_5 : decode cX3_countCommands 5 = .ok (.istore_n 1, 1) := by decide +kernel
theorem dX3_countCommands_6 : decode cX3_countCommands 6 = .ok (.iload_n 1, 1) := by decide +kernel
theorem dX3_countCommands_7 : decode cX3_countCommands 7 = .ok (.bipush 60, 2) := by decide +kernel
theorem dX3_countCommands_9 : decode cX3_countCommands 9 = .ok (.if_icmp .gt 35, 3) := by decide +kernel
theorem dX3_countCommands_12 : decode cX3_countCommands 12 = .ok (.aload_n 0, 1) := by decide +kernel
theorem dX3_countCommands_13 : decode cX3_countCommands 13 = .ok (.invokevirtual 38, 3) := by decide +kernel
theorem dX3_countCommands_16 : decode cX3_countCommands 16 = .ok (.ifCond .ne 5, 3) := by decide +kernel
theorem dX3_countCommands_19 : decode cX3_countCommands 19 = .ok (.iconst (-1), 1) := by decide +kernel
theorem dX3_countCommands_20 : decode cX3_countCommands 20 = .ok (.ireturn, 1) := by decide +kernel
theorem dX3_countCommands_21 : decode cX3_countCommands 21 = .ok (.aload_n 0, 1) := by decide +kernel
theorem dX3_countCommands_22 : decode cX3_countCommands 22 = .ok (.getfield 32, 3) := by decide +kernel
theorem dX3_countCommands_25 : decode cX3_countCommands 25 = .ok (.aload_n 0, 1) := by decide +kernel
theorem dX3_countCommands_26 : decode cX3_countCommands 26 = .ok (.getfield 28, 3) := by decide +kernel
theorem dX3_countCommands_29 : decode cX3_countCommands 29 = .ok (.if_icmp .lt 5, 3) := by decide +kernel
theorem dX3_countCommands_32 : decode cX3_countCommands 32 = .ok (.iload_n 1, 1) := by decide +kernel
theorem dX3_countCommands_33 : decode cX3_countCommands 33 = .ok (.ireturn, 1) := by decide +kernel
theorem dX3_countCommands_34 : decode cX3_countCommands 34 = .ok (.aload_n 0, 1) := by decide +kernel
theorem dX3_countCommands_35 : decode cX3_countCommands 35 = .ok (.invokevirtual 42, 3) := by decide +kernel
theorem dX3_countCommands_38 : decode cX3_countCommands 38 = .ok (.iinc 1 1, 3) := by decide +kernel
theorem dX3_countCommands_41 : decode cX3_countCommands 41 = .ok (.goto (-35), 3) := by decide +kernel
theorem dX3_countCommands_44 : decode cX3_countCommands 44 = .ok (.iconst (-1), 1) := by decide +kernel
theorem dX3_countCommands_45 : decode cX3_countCommands 45 = .ok (.ireturn, 1) := by decide +kernel
theorem dX3_readCommand_0 : decode cX3_readCommand 0 = .ok (.aload_n 0, 1) := by decide +kernel
theorem dX3_readCommand_1 : decode cX3_readCommand 1 = .ok (.invokevirtual 45, 3) := by decide +kernel
theorem dX3_readCommand_4 : decode cX3_readCommand 4 = .ok (.ifCond .ne 5, 3) := by decide +kernel
theorem dX3_readCommand_7 : decode cX3_readCommand 7 = .ok (.iconst 0, 1) := by decide +kernel
theorem dX3_readCommand_8 : decode cX3_readCommand 8 = .ok (.ireturn, 1) := by decide +kernel
theorem dX3_readCommand_9 : decode cX3_readCommand 9 = .ok (.aload_n 0, 1) := by decide +kernel
theorem dX3_readCommand_10 : decode cX3_readCommand 10 = .ok (.getfield 24, 3) := by decide +kernel
theorem dX3_readCommand_13 : decode cX3_readCommand 13 = .ok (.iconst 0, 1) := by decide +kernel
theorem dX3_readCommand_14 : decode cX3_readCommand 14 = .ok (.iconst 1, 1) := by decide +kernel
theorem dX3_readCommand_15 : decode cX3_readCommand 15 = .ok (.iastore, 1) := by decide +kernel
theorem dX3_readCommand_16 : decode cX3_readCommand 16 = .ok (.aload_n 0, 1) := by decide +kernel
theorem dX3_readCommand_17 : decode cX3_readCommand 17 = .ok (.iconst 0, 1) := by decide +kernel
theorem dX3_readCommand_18 : decode cX3_readCommand 18 = .ok (.putfield 48, 3) := by decide +kernel
theorem dX3_readCommand_21 : decode cX3_readCommand 21 = .ok (.iconst 0, 1) := by decide +kernel
theorem dX3_readCommand_22 : decode cX3_readCommand 22 = .ok (.istore_n 1, 1) := by decide +kernel
theorem dX3_readCommand_23 : decode cX3_readCommand 23 = .ok (.iload_n 1, 1) := by decide +kernel
theorem dX3_readCommand_24 : decode cX3_readCommand 24 = .ok (.aload_n 0, 1) := by decide +kernel
theorem dX3_readCommand_25 : decode cX3_readCommand 25 = .ok (.getfield 21, 3) := by decide +kernel
theorem dX3_readCommand_28 : decode cX3_readCommand 28 = .ok (.getfield 51, 3) := by decide +kernel
theorem dX3_readCommand_31 : decode cX3_readCommand 31 = .ok (.invokevirtual 55, 3) := by decide +kernel
theorem dX3_readCommand_34 : decode cX3_readCommand 34 = .ok (.if_icmp .ge 46, 3) := by decide +kernel
theorem dX3_readCommand_37 : decode cX3_readCommand 37 = .ok (.aload_n 0, 1) := by decide +kernel
theorem dX3_readCommand_38 : decode cX3_readCommand 38 = .ok (.getfield 21, 3) := by decide +kernel
theorem dX3_readCommand_41 : decode cX3_readCommand 41 = .ok (.getfield 51, 3) := by decide +kernel
theorem dX3_readCommand_44 : decode cX3_readCommand 44 = .ok (.iload_n 1, 1) := by decide +kernel
theorem dX3_readCommand_45 : decode cX3_readCommand 45 = .ok (.invokevirtual 60, 3) := by decide +kernel
theorem dX3_readCommand_48 : decode cX3_readCommand 48 = .ok (.istore_n 2, 1) := by decide +kernel
theorem dX3_readCommand_49 : decode cX3_readCommand 49 = .ok (.iload_n 2, 1) := by decide +kernel
theorem dX3_readCommand_50 : decode cX3_readCommand 50 = .ok (.bipush 63, 2) := by decide +kernel
theorem dX3_readCommand_52 : decode cX3_readCommand 52 = .ok (.if_icmp .ne 12, 3) := by decide +kernel
theorem dX3_readCommand_55 : decode cX3_readCommand 55 = .ok (.aload_n 0, 1) := by decide +kernel
theorem dX3_readCommand_56 : decode cX3_readCommand 56 = .ok (.invokevirtual 64, 3) := by decide +kernel
theorem dX3_readCommand_59 : decode cX3_readCommand 59 = .ok (.ifCond .eq 15, 3) := by decide +kernel
theorem dX3_readCommand_62 : decode cX3_readCommand 62 = .ok (.iconst 1, 1) := by decide +kernel
theorem dX3_readCommand_63 : decode cX3_readCommand 63 = .ok (.ireturn, 1) := by decide +kernel
theorem dX3_readCommand_64 : decode cX3_readCommand 64 = .ok (.aload_n 0, 1) := by decide +kernel
theorem dX3_readCommand_65 : decode cX3_readCommand 65 = .ok (.iload_n 2, 1) := by decide +kernel
theorem dX3_readCommand_66 : decode cX3_readCommand 66 = .ok (.invokevirtual 67, 3) := by decide +kernel
theorem dX3_readCommand_69 : decode cX3_readCommand 69 = .ok (.ifCond .ne 5, 3) := by decide +kernel
theorem dX3_readCommand_72 : decode cX3_readCommand 72 = .ok (.iconst 0, 1) := by decide +kernel
theorem dX3_readCommand_73 : decode cX3_readCommand 73 = .ok (.ireturn, 1) := by decide +kernel
theorem dX3_readCommand_74 : decode cX3_readCommand 74 = .ok (.iinc 1 1, 3) := by decide +kernel
theorem dX3_readCommand_77 : decode cX3_readCommand 77 = .ok (.goto (-54), 3) := by decide +kernel
theorem dX3_readCommand_80 : decode cX3_readCommand 80 = .ok (.aload_n 0, 1) := by decide +kernel
theorem dX3_readCommand_81 : decode cX3_readCommand 81 = .ok (.invokevirtual 64, 3) := by decide +kernel
theorem dX3_readCommand_84 : decode cX3_readCommand 84 = .ok (.ireturn, 1) := by decide +kernel
theorem dX3_isAtEnd_0 : decode cX3_isAtEnd 0 = .ok (.aload_n 0, 1) := by decide +kernel
theorem dX3_isAtEnd_1 : decode cX3_isAtEnd 1 = .ok (.getfield 32, 3) := by decide +kernel
theorem dX3_isAtEnd_4 : decode cX3_isAtEnd 4 = .ok (.aload_n 0, 1) := by decide +kernel
theorem dX3_isAtEnd_5 : decode cX3_isAtEnd 5 = .ok (.getfield 28, 3) := by decide +kernel
theorem dX3_isAtEnd_8 : decode cX3_isAtEnd 8 = .ok (.if_icmp .ge 17, 3) := by decide +kernel
theorem dX3_isAtEnd_11 : decode cX3_isAtEnd 11 = .ok (.aload_n 0, 1) := by decide +kernel
theorem dX3_isAtEnd_12 : decode cX3_isAtEnd 12 = .ok (.getfield 9, 3) := by decide +kernel
theorem dX3_isAtEnd_15 : decode cX3_isAtEnd 15 = .ok (.aload_n 0, 1) := by decide +kernel
theorem dX3_isAtEnd_16 : decode cX3_isAtEnd 16 = .ok (.getfield 32, 3) := by decide +kernel
theorem dX3_isAtEnd_19 : decode cX3_isAtEnd 19 = .ok (.caload, 1) := by decide +kernel
theorem dX3_isAtEnd_20 : decode cX3_isAtEnd 20 = .ok (.bipush 59, 2) := by decide +kernel
theorem dX3_isAtEnd_22 : decode cX3_isAtEnd 22 = .ok (.if_icmp .ne 7, 3) := by decide +kernel
theorem dX3_isAtEnd_25 : decode cX3_isAtEnd 25 = .ok (.iconst 1, 1) := by decide +kernel
theorem dX3_isAtEnd_26 : decode cX3_isAtEnd 26 = .ok (.goto 4, 3) := by decide +kernel
theorem dX3_isAtEnd_29 : decode cX3_isAtEnd 29 = .ok (.iconst 0, 1) := by decide +kernel
theorem dX3_isAtEnd_30 : decode cX3_isAtEnd 30 = .ok (.ireturn, 1) := by decide +kernel
theorem dX3_readKeyword_0 : decode cX3_readKeyword 0 = .ok (.iconst 0, 1) := by decide +kernel
theorem dX3_readKeyword_1 : decode cX3_readKeyword 1 = .ok (.istore_n 1, 1) := by decide +kernel
theorem dX3_readKeyword_2 : decode cX3_readKeyword 2 = .ok (.iconst 0, 1) := by decide +kernel
theorem dX3_readKeyword_3 : decode cX3_readKeyword 3 = .ok (.istore_n 2, 1) := by decide +kernel
theorem dX3_readKeyword_4 : decode cX3_readKeyword 4 = .ok (.iload_n 2, 1) := by decide +kernel
theorem dX3_readKeyword_5 : decode cX3_readKeyword 5 = .ok (.getstatic 71, 3) := by decide +kernel
theorem dX3_readKeyword_8 : decode cX3_readKeyword 8 = .ok (.arraylength, 1) := by decide +kernel
theorem dX3_readKeyword_9 : decode cX3_readKeyword 9 = .ok (.if_icmp .ge 63, 3) := by decide +kernel
theorem dX3_readKeyword_12 : decode cX3_readKeyword 12 = .ok (.getstatic 71, 3) := by decide +kernel
theorem dX3_readKeyword_15 : decode cX3_readKeyword 15 = .ok (.iload_n 2, 1) := by decide +kernel
theorem dX3_readKeyword_16 : decode cX3_readKeyword 16 = .ok (.aaload, 1) := by decide +kernel
theorem dX3_readKeyword_17 : decode cX3_readKeyword 17 = .ok (.getfield 75, 3) := by decide +kernel
theorem dX3_readKeyword_20 : decode cX3_readKeyword 20 = .ok (.astore_n 3, 1) := by decide +kernel
theorem dX3_readKeyword_21 : decode cX3_readKeyword 21 = .ok (.aload_n 0, 1) := by decide +kernel
theorem dX3_readKeyword_22 : decode cX3_readKeyword 22 = .ok (.aload_n 3, 1) := by decide +kernel
theorem dX3_readKeyword_23 : decode cX3_readKeyword 23 = .ok (.invokevirtual 78, 3) := by decide +kernel
theorem dX3_readKeyword_26 : decode cX3_readKeyword 26 = .ok (.istore 4, 2) := by decide +kernel
theorem dX3_readKeyword_28 : decode cX3_readKeyword 28 = .ok (.iload_n 1, 1) := by decide +kernel
theorem dX3_readKeyword_29 : decode cX3_readKeyword 29 = .ok (.iload 4, 2) := by decide +kernel
theorem dX3_readKeyword_31 : decode cX3_readKeyword 31 = .ok (.invokestatic 82, 3) := by decide +kernel
theorem dX3_readKeyword_34 : decode cX3_readKeyword 34 = .ok (.istore_n 1, 1) := by decide +kernel
theorem dX3_readKeyword_35 : decode cX3_readKeyword 35 = .ok (.iload 4, 2) := by decide +kernel
theorem dX3_readKeyword_37 : decode cX3_readKeyword 37 = .ok (.aload_n 3, 1) := by decide +kernel
theorem dX3_readKeyword_38 : decode cX3_readKeyword 38 = .ok (.invokevirtual 55, 3) := by decide +kernel
theorem dX3_readKeyword_41 : decode cX3_readKeyword 41 = .ok (.if_icmp .ne 25, 3) := by decide +kernel
theorem dX3_readKeyword_44 : decode cX3_readKeyword 44 = .ok (.aload_n 0, 1) := by decide +kernel
theorem dX3_readKeyword_45 : decode cX3_readKeyword 45 = .ok (.getstatic 71, 3) := by decide +kernel
theorem dX3_readKeyword_48 : decode cX3_readKeyword 48 = .ok (.iload_n 2, 1) := by decide +kernel
theorem dX3_readKeyword_49 : decode cX3_readKeyword 49 = .ok (.aaload, 1) := by decide +kernel
theorem dX3_readKeyword_50 : decode cX3_readKeyword 50 = .ok (.putfield 21, 3) := by decide +kernel
theorem dX3_readKeyword_53 : decode cX3_readKeyword 53 = .ok (.aload_n 0, 1) := by decide +kernel
theorem dX3_readKeyword_54 : decode cX3_readKeyword 54 = .ok (.dup, 1) := by decide +kernel
theorem dX3_readKeyword_55 : decode cX3_readKeyword 55 = .ok (.getfield 32, 3) := by decide +kernel
theorem dX3_readKeyword_58 : decode cX3_readKeyword 58 = .ok (.iload 4, 2) := by decide +kernel
theorem dX3_readKeyword_60 : decode cX3_readKeyword 60 = .ok (.iadd, 1) := by decide +kernel
theorem dX3_readKeyword_61 : decode cX3_readKeyword 61 = .ok (.putfield 32, 3) := by decide +kernel
theorem dX3_readKeyword_64 : decode cX3_readKeyword 64 = .ok (.iconst 1, 1) := by decide +kernel
theorem dX3_readKeyword_65 : decode cX3_readKeyword 65 = .ok (.ireturn, 1) := by decide +kernel
theorem dX3_readKeyword_66 : decode cX3_readKeyword 66 = .ok (.iinc 2 1, 3) := by decide +kernel
theorem dX3_readKeyword_69 : decode cX3_readKeyword 69 = .ok (.goto (-65), 3) := by decide +kernel
theorem dX3_readKeyword_72 : decode cX3_readKeyword 72 = .ok (.aload_n 0, 1) := by decide +kernel
theorem dX3_readKeyword_73 : decode cX3_readKeyword 73 = .ok (.dup, 1) := by decide +kernel
theorem dX3_readKeyword_74 : decode cX3_readKeyword 74 = .ok (.getfield 32, 3) := by decide +kernel
theorem dX3_readKeyword_77 : decode cX3_readKeyword 77 = .ok (.iload_n 1, 1) := by decide +kernel
theorem dX3_readKeyword_78 : decode cX3_readKeyword 78 = .ok (.iadd, 1) := by decide +kernel
theorem dX3_readKeyword_79 : decode cX3_readKeyword 79 = .ok (.putfield 32, 3) := by decide +kernel
theorem dX3_readKeyword_82 : decode cX3_readKeyword 82 = .ok (.iconst 0, 1) := by decide +kernel
theorem dX3_readKeyword_83 : decode cX3_readKeyword 83 = .ok (.ireturn, 1) := by decide +kernel
theorem dX3_lettersInCommon_0 : decode cX3_lettersInCommon 0 = .ok (.iconst 0, 1) := by decide +kernel
theorem dX3_lettersInCommon_1 : decode cX3_lettersInCommon 1 = .ok (.istore_n 2, 1) := by decide +kernel
theorem dX3_lettersInCommon_2 : decode cX3_lettersInCommon 2 = .ok (.iload_n 2, 1) := by decide +kernel
theorem dX3_lettersInCommon_3 : decode cX3_lettersInCommon 3 = .ok (.aload_n 1, 1) := by decide +kernel
theorem dX3_lettersInCommon_4 : decode cX3_lettersInCommon 4 = .ok (.invokevirtual 55, 3) := by decide +kernel
theorem dX3_lettersInCommon_7 : decode cX3_lettersInCommon 7 = .ok (.if_icmp .ge 41, 3) := by decide +kernel
theorem dX3_lettersInCommon_10 : decode cX3_lettersInCommon 10 = .ok (.aload_n 0, 1) := by decide +kernel
theorem dX3_lettersInCommon_11 : decode cX3_lettersInCommon 11 = .ok (.getfield 32, 3) := by decide +kernel
theorem dX3_lettersInCommon_14 : decode cX3_lettersInCommon 14 = .ok (.iload_n 2, 1) := by decide +kernel
theorem dX3_lettersInCommon_15 : decode cX3_lettersInCommon 15 = .ok (.iadd, 1) := by decide +kernel
theorem dX3_lettersInCommon_16 : decode cX3_lettersInCommon 16 = .ok (.aload_n 0, 1) := by decide +kernel
theorem dX3_lettersInCommon_17 : decode cX3_lettersInCommon 17 = .ok (.getfield 28, 3) := by decide +kernel
theorem dX3_lettersInCommon_20 : decode cX3_lettersInCommon 20 = .ok (.if_icmp .ge 28, 3) := by decide +kernel
theorem dX3_lettersInCommon_23 : decode cX3_lettersInCommon 23 = .ok (.aload_n 0, 1) := by decide +kernel
theorem dX3_lettersInCommon_24 : decode cX3_lettersInCommon 24 = .ok (.getfield 9, 3) := by decide +kernel
theorem dX3_lettersInCommon_27 : decode cX3_lettersInCommon 27 = .ok (.aload_n 0, 1) := by decide +kernel
theorem dX3_lettersInCommon_28 : decode cX3_lettersInCommon 28 = .ok (.getfield 32, 3) := by decide +kernel
theorem dX3_lettersInCommon_31 : decode cX3_lettersInCommon 31 = .ok (.iload_n 2, 1) := by decide +kernel
theorem dX3_lettersInCommon_32 : decode cX3_lettersInCommon 32 = .ok (.iadd, 1) := by decide +kernel
theorem dX3_lettersInCommon_33 : decode cX3_lettersInCommon 33 = .ok (.caload, 1) := by decide +kernel
theorem dX3_lettersInCommon_34 : decode cX3_lettersInCommon 34 = .ok (.aload_n 1, 1) := by decide +kernel
theorem dX3_lettersInCommon_35 : decode cX3_lettersInCommon 35 = .ok (.iload_n 2, 1) := by decide +kernel
theorem dX3_lettersInCommon_36 : decode cX3_lettersInCommon 36 = .ok (.invokevirtual 60, 3) := by decide +kernel
theorem dX3_lettersInCommon_39 : decode cX3_lettersInCommon 39 = .ok (.if_icmp .ne 9, 3) := by decide +kernel
theorem dX3_lettersInCommon_42 : decode cX3_lettersInCommon 42 = .ok (.iinc 2 1, 3) := by decide +kernel
theorem dX3_lettersInCommon_45 : decode cX3_lettersInCommon 45 = .ok (.goto (-43), 3) := by decide +kernel
theorem dX3_lettersInCommon_48 : decode cX3_lettersInCommon 48 = .ok (.iload_n 2, 1) := by decide +kernel
theorem dX3_lettersInCommon_49 : decode cX3_lettersInCommon 49 = .ok (.ireturn, 1) := by decide +kernel
theorem dX3_readPart_0 : decode cX3_readPart 0 = .ok (.iload_n 1, 1) := by decide +kernel
theorem dX3_readPart_1 : decode cX3_readPart 1 = .ok (.bipush 32, 2) := by decide +kernel
theorem dX3_readPart_3 : decode cX3_readPart 3 = .ok (.if_icmp .ne 10, 3) := by decide +kernel
theorem dX3_readPart_6 : decode cX3_readPart 6 = .ok (.aload_n 0, 1) := by decide +kernel
theorem dX3_readPart_7 : decode cX3_readPart 7 = .ok (.bipush 32, 2) := by decide +kernel
theorem dX3_readPart_9 : decode cX3_readPart 9 = .ok (.invokevirtual 88, 3) := by decide +kernel
theorem dX3_readPart_12 : decode cX3_readPart 12 = .ok (.ireturn, 1) := by decide +kernel
theorem dX3_readPart_13 : decode cX3_readPart 13 = .ok (.iload_n 1, 1) := by decide +kernel
theorem dX3_readPart_14 : decode cX3_readPart 14 = .ok (.bipush 43, 2) := by decide +kernel
theorem dX3_readPart_16 : decode cX3_readPart 16 = .ok (.if_icmp .ne 35, 3) := by decide +kernel
theorem dX3_readPart_19 : decode cX3_readPart 19 = .ok (.aload_n 0, 1) := by decide +kernel
theorem dX3_readPart_20 : decode cX3_readPart 20 = .ok (.aload_n 0, 1) := by decide +kernel
theorem dX3_readPart_21 : decode cX3_readPart 21 = .ok (.bipush 43, 2) := by decide +kernel
theorem dX3_readPart_23 : decode cX3_readPart 23 = .ok (.invokevirtual 88, 3) := by decide +kernel
theorem dX3_readPart_26 : decode cX3_readPart 26 = .ok (.putfield 91, 3) := by decide +kernel
theorem dX3_readPart_29 : decode cX3_readPart 29 = .ok (.aload_n 0, 1) := by decide +kernel
theorem dX3_readPart_30 : decode cX3_readPart 30 = .ok (.getfield 91, 3) := by decide +kernel
theorem dX3_readPart_33 : decode cX3_readPart 33 = .ok (.ifCond .ne 12, 3) := by decide +kernel
theorem dX3_readPart_36 : decode cX3_readPart 36 = .ok (.aload_n 0, 1) := by decide +kernel
theorem dX3_readPart_37 : decode cX3_readPart 37 = .ok (.bipush 45, 2) := by decide +kernel
theorem dX3_readPart_39 : decode cX3_readPart 39 = .ok (.invokevirtual 88, 3) := by decide +kernel
theorem dX3_readPart_42 : decode cX3_readPart 42 = .ok (.ifCond .eq 7, 3) := by decide +kernel
theorem dX3_readPart_45 : decode cX3_readPart 45 = .ok (.iconst 1, 1) := by decide +kernel
theorem dX3_readPart_46 : decode cX3_readPart 46 = .ok (.goto 4, 3) := by decide +kernel
theorem dX3_readPart_49 : decode cX3_readPart 49 = .ok (.iconst 0, 1) := by decide +kernel
theorem dX3_readPart_50 : decode cX3_readPart 50 = .ok (.ireturn, 1) := by decide +kernel
theorem dX3_readPart_51 : decode cX3_readPart 51 = .ok (.iload_n 1, 1) := by decide +kernel
theorem dX3_readPart_52 : decode cX3_readPart 52 = .ok (.bipush 103, 2) := by decide +kernel
theorem dX3_readPart_54 : decode cX3_readPart 54 = .ok (.if_icmp .ne 35, 3) := by decide +kernel
theorem dX3_readPart_57 : decode cX3_readPart 57 = .ok (.aload_n 0, 1) := by decide +kernel
theorem dX3_readPart_58 : decode cX3_readPart 58 = .ok (.aload_n 0, 1) := by decide +kernel
theorem dX3_readPart_59 : decode cX3_readPart 59 = .ok (.bipush 103, 2) := by decide +kernel
theorem dX3_readPart_61 : decode cX3_readPart 61 = .ok (.invokevirtual 88, 3) := by decide +kernel
theorem dX3_readPart_64 : decode cX3_readPart 64 = .ok (.putfield 91, 3) := by decide +kernel
theorem dX3_readPart_67 : decode cX3_readPart 67 = .ok (.aload_n 0, 1) := by decide +kernel
theorem dX3_readPart_68 : decode cX3_readPart 68 = .ok (.getfield 91, 3) := by decide +kernel
theorem dX3_readPart_71 : decode cX3_readPart 71 = .ok (.ifCond .ne 12, 3) := by decide +kernel
theorem dX3_readPart_74 : decode cX3_readPart 74 = .ok (.aload_n 0, 1) := by decide +kernel
theorem dX3_readPart_75 : decode cX3_readPart 75 = .ok (.bipush 105, 2) := by decide +kernel
theorem dX3_readPart_77 : decode cX3_readPart 77 = .ok (.invokevirtual 88, 3) := by decide +kernel
theorem dX3_readPart_80 : decode cX3_readPart 80 = .ok (.ifCond .eq 7, 3) := by decide +kernel
theorem dX3_readPart_83 : decode cX3_readPart 83 = .ok (.iconst 1, 1) := by decide +kernel
theorem dX3_readPart_84 : decode cX3_readPart 84 = .ok (.goto 4, 3) := by decide +kernel
theorem dX3_readPart_87 : decode cX3_readPart 87 = .ok (.iconst 0, 1) := by decide +kernel
theorem dX3_readPart_88 : decode cX3_readPart 88 = .ok (.ireturn, 1) := by decide +kernel
theorem dX3_readPart_89 : decode cX3_readPart 89 = .ok (.aload_n 0, 1) := by decide +kernel
theorem dX3_readPart_90 : decode cX3_readPart 90 = .ok (.iload_n 1, 1) := by decide +kernel
theorem dX3_readPart_91 : decode cX3_readPart 91 = .ok (.bipush 48, 2) := by decide +kernel
theorem dX3_readPart_93 : decode cX3_readPart 93 = .ok (.isub, 1) := by decide +kernel
theorem dX3_readPart_94 : decode cX3_readPart 94 = .ok (.invokevirtual 95, 3) := by decide +kernel
theorem dX3_readPart_97 : decode cX3_readPart 97 = .ok (.ireturn, 1) := by decide +kernel
theorem dX3_readCharacter_0 : decode cX3_readCharacter 0 = .ok (.aload_n 0, 1) := by decide +kernel
theorem dX3_readCharacter_1 : decode cX3_readCharacter 1 = .ok (.getfield 32, 3) := by decide +kernel
theorem dX3_readCharacter_4 : decode cX3_readCharacter 4 = .ok (.aload_n 0, 1) := by decide +kernel
theorem dX3_readCharacter_5 : decode cX3_readCharacter 5 = .ok (.getfield 28, 3) := by decide +kernel
theorem dX3_readCharacter_8 : decode cX3_readCharacter 8 = .ok (.if_icmp .ge 16, 3) := by decide +kernel
theorem dX3_readCharacter_11 : decode cX3_readCharacter 11 = .ok (.aload_n 0, 1) := by decide +kernel
theorem dX3_readCharacter_12 : decode cX3_readCharacter 12 = .ok (.getfield 9, 3) := by decide +kernel
theorem dX3_readCharacter_15 : decode cX3_readCharacter 15 = .ok (.aload_n 0, 1) := by decide +kernel
theorem dX3_readCharacter_16 : decode cX3_readCharacter 16 = .ok (.getfield 32, 3) := by decide +kernel
theorem dX3_readCharacter_19 : decode cX3_readCharacter 19 = .ok (.caload, 1) := by decide +kernel
theorem dX3_readCharacter_20 : decode cX3_readCharacter 20 = .ok (.iload_n 1, 1) := by decide +kernel
theorem dX3_readCharacter_21 : decode cX3_readCharacter 21 = .ok (.if_icmp .eq 5, 3) := by decide +kernel
theorem dX3_readCharacter_24 : decode cX3_readCharacter 24 = .ok (.iconst 0, 1) := by decide +kernel
theorem dX3_readCharacter_25 : decode cX3_readCharacter 25 = .ok (.ireturn, 1) := by decide +kernel
theorem dX3_readCharacter_26 : decode cX3_readCharacter 26 = .ok (.aload_n 0, 1) := by decide +kernel
theorem dX3_readCharacter_27 : decode cX3_readCharacter 27 = .ok (.dup, 1) := by decide +kernel
theorem dX3_readCharacter_28 : decode cX3_readCharacter 28 = .ok (.getfield 32, 3) := by decide +kernel
theorem dX3_readCharacter_31 : decode cX3_readCharacter 31 = .ok (.iconst 1, 1) := by decide +kernel
theorem dX3_readCharacter_32 : decode cX3_readCharacter 32 = .ok (.iadd, 1) := by decide +kernel
theorem dX3_readCharacter_33 : decode cX3_readCharacter 33 = .ok (.putfield 32, 3) := by decide +kernel
theorem dX3_readCharacter_36 : decode cX3_readCharacter 36 = .ok (.iconst 1, 1) := by decide +kernel
theorem dX3_readCharacter_37 : decode cX3_readCharacter 37 = .ok (.ireturn, 1) := by decide +kernel
theorem dX3_readNumber_0 : decode cX3_readNumber 0 = .ok (.iconst 0, 1) := by decide +kernel
theorem dX3_readNumber_1 : decode cX3_readNumber 1 = .ok (.istore_n 2, 1) := by decide +kernel
theorem dX3_readNumber_2 : decode cX3_readNumber 2 = .ok (.iconst 0, 1) := by decide +kernel
theorem dX3_readNumber_3 : decode cX3_readNumber 3 = .ok (.istore_n 3, 1) := by decide +kernel
theorem dX3_readNumber_4 : decode cX3_readNumber 4 = .ok (.iload_n 3, 1) := by decide +kernel
theorem dX3_readNumber_5 : decode cX3_readNumber 5 = .ok (.iload_n 1, 1) := by decide +kernel
theorem dX3_readNumber_6 : decode cX3_readNumber 6 = .ok (.if_icmp .ge 63, 3) := by decide +kernel
theorem dX3_readNumber_9 : decode cX3_readNumber 9 = .ok (.aload_n 0, 1) := by decide +kernel
theorem dX3_readNumber_10 : decode cX3_readNumber 10 = .ok (.getfield 32, 3) := by decide +kernel
theorem dX3_readNumber_13 : decode cX3_readNumber 13 = .ok (.aload_n 0, 1) := by decide +kernel
theorem dX3_readNumber_14 : decode cX3_readNumber 14 = .ok (.getfield 28, 3) := by decide +kernel
theorem dX3_readNumber_17 : decode cX3_readNumber 17 = .ok (.if_icmp .ge 52, 3) := by decide +kernel
theorem dX3_readNumber_20 : decode cX3_readNumber 20 = .ok (.aload_n 0, 1) := by decide +kernel
theorem dX3_readNumber_21 : decode cX3_readNumber 21 = .ok (.getfield 9, 3) := by decide +kernel
theorem dX3_readNumber_24 : decode cX3_readNumber 24 = .ok (.aload_n 0, 1) := by decide +kernel
theorem dX3_readNumber_25 : decode cX3_readNumber 25 = .ok (.getfield 32, 3) := by decide +kernel
theorem dX3_readNumber_28 : decode cX3_readNumber 28 = .ok (.caload, 1) := by decide +kernel
theorem dX3_readNumber_29 : decode cX3_readNumber 29 = .ok (.invokestatic 99, 3) := by decide +kernel
theorem dX3_readNumber_32 : decode cX3_readNumber 32 = .ok (.ifCond .eq 37, 3) := by decide +kernel
theorem dX3_readNumber_35 : decode cX3_readNumber 35 = .ok (.iload_n 2, 1) := by decide +kernel
theorem dX3_readNumber_36 : decode cX3_readNumber 36 = .ok (.bipush 10, 2) := by decide +kernel
theorem dX3_readNumber_38 : decode cX3_readNumber 38 = .ok (.imul, 1) := by decide +kernel
theorem dX3_readNumber_39 : decode cX3_readNumber 39 = .ok (.aload_n 0, 1) := by decide +kernel
theorem dX3_readNumber_40 : decode cX3_readNumber 40 = .ok (.getfield 9, 3) := by decide +kernel
theorem dX3_readNumber_43 : decode cX3_readNumber 43 = .ok (.aload_n 0, 1) := by decide +kernel
theorem dX3_readNumber_44 : decode cX3_readNumber 44 = .ok (.getfield 32, 3) := by decide +kernel
theorem dX3_readNumber_47 : decode cX3_readNumber 47 = .ok (.caload, 1) := by decide +kernel
theorem dX3_readNumber_48 : decode cX3_readNumber 48 = .ok (.bipush 48, 2) := by decide +kernel
theorem dX3_readNumber_50 : decode cX3_readNumber 50 = .ok (.isub, 1) := by decide +kernel
theorem dX3_readNumber_51 : decode cX3_readNumber 51 = .ok (.iadd, 1) := by decide +kernel
theorem dX3_readNumber_52 : decode cX3_readNumber 52 = .ok (.istore_n 2, 1) := by decide +kernel
theorem dX3_readNumber_53 : decode cX3_readNumber 53 = .ok (.iinc 3 1, 3) := by decide +kernel
theorem dX3_readNumber_56 : decode cX3_readNumber 56 = .ok (.aload_n 0, 1) := by decide +kernel
theorem dX3_readNumber_57 : decode cX3_readNumber 57 = .ok (.dup, 1) := by decide +kernel
theorem dX3_readNumber_58 : decode cX3_readNumber 58 = .ok (.getfield 32, 3) := by decide +kernel
theorem dX3_readNumber_61 : decode cX3_readNumber 61 = .ok (.iconst 1, 1) := by decide +kernel
theorem dX3_readNumber_62 : decode cX3_readNumber 62 = .ok (.iadd, 1) := by decide +kernel
theorem dX3_readNumber_63 : decode cX3_readNumber 63 = .ok (.putfield 32, 3) := by decide +kernel
theorem dX3_readNumber_66 : decode cX3_readNumber 66 = .ok (.goto (-62), 3) := by decide +kernel
theorem dX3_readNumber_69 : decode cX3_readNumber 69 = .ok (.iload_n 3, 1) := by decide +kernel
theorem dX3_readNumber_70 : decode cX3_readNumber 70 = .ok (.ifCond .eq 15, 3) := by decide +kernel
theorem dX3_readNumber_73 : decode cX3_readNumber 73 = .ok (.aload_n 0, 1) := by decide +kernel
theorem dX3_readNumber_74 : decode cX3_readNumber 74 = .ok (.getfield 48, 3) := by decide +kernel
theorem dX3_readNumber_77 : decode cX3_readNumber 77 = .ok (.aload_n 0, 1) := by decide +kernel
theorem dX3_readNumber_78 : decode cX3_readNumber 78 = .ok (.getfield 24, 3) := by decide +kernel
theorem dX3_readNumber_81 : decode cX3_readNumber 81 = .ok (.arraylength, 1) := by decide +kernel
theorem dX3_readNumber_82 : decode cX3_readNumber 82 = .ok (.if_icmp .lt 5, 3) := by decide +kernel
theorem dX3_readNumber_85 : decode cX3_readNumber 85 = .ok (.iconst 0, 1) := by decide +kernel
theorem dX3_readNumber_86 : decode cX3_readNumber 86 = .ok (.ireturn, 1) := by decide +kernel
theorem dX3_readNumber_87 : decode cX3_readNumber 87 = .ok (.aload_n 0, 1) := by decide +kernel
theorem dX3_readNumber_88 : decode cX3_readNumber 88 = .ok (.getfield 24, 3) := by decide +kernel
theorem dX3_readNumber_91 : decode cX3_readNumber 91 = .ok (.aload_n 0, 1) := by decide +kernel
theorem dX3_readNumber_92 : decode cX3_readNumber 92 = .ok (.getfield 48, 3) := by decide +kernel
theorem dX3_readNumber_95 : decode cX3_readNumber 95 = .ok (.iload_n 2, 1) := by decide +kernel
theorem dX3_readNumber_96 : decode cX3_readNumber 96 = .ok (.iastore, 1) := by decide +kernel
theorem dX3_readNumber_97 : decode cX3_readNumber 97 = .ok (.aload_n 0, 1) := by decide +kernel
theorem dX3_readNumber_98 : decode cX3_readNumber 98 = .ok (.dup, 1) := by decide +kernel
theorem dX3_readNumber_99 : decode cX3_readNumber 99 = .ok (.getfield 48, 3) := by decide +kernel
theorem dX3_readNumber_102 : decode cX3_readNumber 102 = .ok (.iconst 1, 1) := by decide +kernel
theorem dX3_readNumber_103 : decode cX3_readNumber 103 = .ok (.iadd, 1) := by decide +kernel
theorem dX3_readNumber_104 : decode cX3_readNumber 104 = .ok (.putfield 48, 3) := by decide +kernel
theorem dX3_readNumber_107 : decode cX3_readNumber 107 = .ok (.iconst 1, 1) := by decide +kernel
theorem dX3_readNumber_108 : decode cX3_readNumber 108 = .ok (.ireturn, 1) := by decide +kernel
theorem dX3_isDigit_0 : decode cX3_isDigit 0 = .ok (.iload_n 0, 1) := by decide +kernel
theorem dX3_isDigit_1 : decode cX3_isDigit 1 = .ok (.bipush 48, 2) := by decide +kernel
theorem dX3_isDigit_3 : decode cX3_isDigit 3 = .ok (.if_icmp .lt 13, 3) := by decide +kernel
theorem dX3_isDigit_6 : decode cX3_isDigit 6 = .ok (.iload_n 0, 1) := by decide +kernel
theorem dX3_isDigit_7 : decode cX3_isDigit 7 = .ok (.bipush 57, 2) := by decide +kernel
theorem dX3_isDigit_9 : decode cX3_isDigit 9 = .ok (.if_icmp .gt 7, 3) := by decide +kernel
theorem dX3_isDigit_12 : decode cX3_isDigit 12 = .ok (.iconst 1, 1) := by decide +kernel
theorem dX3_isDigit_13 : decode cX3_isDigit 13 = .ok (.goto 4, 3) := by decide +kernel
theorem dX3_isDigit_16 : decode cX3_isDigit 16 = .ok (.iconst 0, 1) := by decide +kernel
theorem dX3_isDigit_17 : decode cX3_isDigit 17 = .ok (.ireturn, 1) := by decide +kernel
theorem dX5_init_0 : decode cX5_init 0 = .ok (.aload_n 0, 1) := by decide +kernel
theorem dX5_init_1 : decode cX5_init 1 = .ok (.invokespecial 3, 3) := by decide +kernel
theorem dX5_init_4 : decode cX5_init 4 = .ok (.aload_n 0, 1) := by decide +kernel
theorem dX5_init_5 : decode cX5_init 5 = .ok (.bipush 8, 2) := by decide +kernel
theorem dX5_init_7 : decode cX5_init 7 = .ok (.newarray .int, 2) := by decide +kernel
theorem dX5_init_9 : decode cX5_init 9 = .ok (.putfield 9, 3) := by decide +kernel
theorem dX5_init_12 : decode cX5_init 12 = .ok (.aload_n 0, 1) := by decide +kernel
theorem dX5_init_13 : decode cX5_init 13 = .ok (.bipush 8, 2) := by decide +kernel
theorem dX5_init_15 : decode cX5_init 15 = .ok (.newarray .int, 2) := by decide +kernel
theorem dX5_init_17 : decode cX5_init 17 = .ok (.putfield 15, 3) := by decide +kernel
theorem dX5_init_20 : decode cX5_init 20 = .ok (.aload_n 0, 1) := by decide +kernel
theorem dX5_init_21 : decode cX5_init 21 = .ok (.bipush 8, 2) := by decide +kernel
theorem dX5_init_23 : decode cX5_init 23 = .ok (.newarray .int, 2) := by decide +kernel
theorem dX5_init_25 : decode cX5_init 25 = .ok (.putfield 18, 3) := by decide +kernel
theorem dX5_init_28 : decode cX5_init 28 = .ok (.aload_n 0, 1) := by decide +kernel
theorem dX5_init_29 : decode cX5_init 29 = .ok (.bipush 8, 2) := by decide +kernel
theorem dX5_init_31 : decode cX5_init 31 = .ok (.bipush 8, 2) := by decide +kernel
theorem dX5_init_33 : decode cX5_init 33 = .ok (.multianewarray 21 2, 4) := by decide +kernel
theorem dX5_init_37 : decode cX5_init 37 = .ok (.putfield 23, 3) := by decide +kernel
theorem dX5_init_40 : decode cX5_init 40 = .ok (.return_, 1) := by decide +kernel
theorem dX5_copyFrom_0 : decode cX5_copyFrom 0 = .ok (.aload_n 0, 1) := by decide +kernel
theorem dX5_copyFrom_1 : decode cX5_copyFrom 1 = .ok (.aload_n 1, 1) := by decide +kernel
theorem dX5_copyFrom_2 : decode cX5_copyFrom 2 = .ok (.getfield 26, 3) := by decide +kernel
theorem dX5_copyFrom_5 : decode cX5_copyFrom 5 = .ok (.putfield 26, 3) := by decide +kernel
theorem dX5_copyFrom_8 : decode cX5_copyFrom 8 = .ok (.aload_n 1, 1) := by decide +kernel
theorem dX5_copyFrom_9 : decode cX5_copyFrom 9 = .ok (.getfield 9, 3) := by decide +kernel
theorem dX5_copyFrom_12 : decode cX5_copyFrom 12 = .ok (.iconst 0, 1) := by decide +kernel
theorem dX5_copyFrom_13 : decode cX5_copyFrom 13 = .ok (.aload_n 0, 1) := by decide +kernel
theorem dX5_copyFrom_14 : decode cX5_copyFrom 14 = .ok (.getfield 9, 3) := by decide +kernel
theorem dX5_copyFrom_17 : decode cX5_copyFrom 17 = .ok (.iconst 0, 1) := by decide +kernel
theorem dX5_copyFrom_18 : decode cX5_copyFrom 18 = .ok (.bipush 8, 2) := by decide +kernel
theorem dX5_copyFrom_20 : decode cX5_copyFrom 20 = .ok (.invokestatic 30, 3) := by decide +kernel
theorem dX5_copyFrom_23 : decode cX5_copyFrom 23 = .ok (.aload_n 1, 1) := by decide +kernel
theorem dX5_copyFrom_24 : decode cX5_copyFrom 24 = .ok (.getfield 15, 3) := by decide +kernel
theorem dX5_copyFrom_27 : decode cX5_copyFrom 27 = .ok (.iconst 0, 1) := by decide +kernel
theorem dX5_copyFrom_28 : decode cX5_copyFrom 28 = .ok (.aload_n 0, 1) := by decide +kernel
theorem dX5_copyFrom_29 : decode cX5_copyFrom 29 = .ok (.getfield 15, 3) := by decide +kernel
theorem dX5_copyFrom_32 : decode cX5_copyFrom 32 = .ok (.iconst 0, 1) := by decide +kernel
theorem dX5_copyFrom_33 : decode cX5_copyFrom 33 = .ok (.bipush 8, 2) := by decide +kernel
theorem dX5_copyFrom_35 : decode cX5_copyFrom 35 = .ok (.invokestatic 30, 3) := by decide +kernel
theorem dX5_copyFrom_38 : decode cX5_copyFrom 38 = .ok (.aload_n 1, 1) := by decide +kernel
theorem dX5_copyFrom_39 : decode cX5_copyFrom 39 = .ok (.getfield 18, 3) := by decide +kernel
theorem dX5_copyFrom_42 : decode cX5_copyFrom 42 = .ok (.iconst 0, 1) := by decide +kernel
theorem dX5_copyFrom_43 : decode cX5_copyFrom 43 = .ok (.aload_n 0, 1) := by decide +kernel
theorem dX5_copyFrom_44 : decode cX5_copyFrom 44 = .ok (.getfield 18, 3) := by decide +kernel
theorem dX5_copyFrom_47 : decode cX5_copyFrom 47 = .ok (.iconst 0, 1) := by decide +kernel
theorem dX5_copyFrom_48 : decode cX5_copyFrom 48 = .ok (.bipush 8, 2) := by decide +kernel
theorem dX5_copyFrom_50 : decode cX5_copyFrom 50 = .ok (.invokestatic 30, 3) := by decide +kernel
theorem dX5_copyFrom_53 : decode cX5_copyFrom 53 = .ok (.iconst 0, 1) := by decide +kernel
theorem dX5_copyFrom_54 : decode cX5_copyFrom 54 = .ok (.istore_n 2, 1) := by decide +kernel
theorem dX5_copyFrom_55 : decode cX5_copyFrom 55 = .ok (.iload_n 2, 1) := by decide +kernel
theorem dX5_copyFrom_56 : decode cX5_copyFrom 56 = .ok (.bipush 8, 2) := by decide +kernel
theorem dX5_copyFrom_58 : decode cX5_copyFrom 58 = .ok (.if_icmp .ge 28, 3) := by decide +kernel
theorem dX5_copyFrom_61 : decode cX5_copyFrom 61 = .ok (.aload_n 1, 1) := by decide +kernel
theorem dX5_copyFrom_62 : decode cX5_copyFrom 62 = .ok (.getfield 23, 3) := by decide +kernel
theorem dX5_copyFrom_65 : decode cX5_copyFrom 65 = .ok (.iload_n 2, 1) := by decide +kernel
theorem dX5_copyFrom_66 : decode cX5_copyFrom 66 = .ok (.aaload, 1) := by decide +kernel
theorem dX5_copyFrom_67 : decode cX5_copyFrom 67 = .ok (.iconst 0, 1) := by decide +kernel
theorem dX5_copyFrom_68 : decode cX5_copyFrom 68 = .ok (.aload_n 0, 1) := by decide +kernel
theorem dX5_copyFrom_69 : decode cX5_copyFrom 69 = .ok (.getfield 23, 3) := by decide +kernel
theorem dX5_copyFrom_72 : decode cX5_copyFrom 72 = .ok (.iload_n 2, 1) := by decide +kernel
theorem dX5_copyFrom_73 : decode cX5_copyFrom 73 = .ok (.aaload, 1) := by decide +kernel
theorem dX5_copyFrom_74 : decode cX5_copyFrom 74 = .ok (.iconst 0, 1) := by decide +kernel
theorem dX5_copyFrom_75 : decode cX5_copyFrom 75 = .ok (.bipush 8, 2) := by decide +kernel
theorem dX5_copyFrom_77 : decode cX5_copyFrom 77 = .ok (.invokestatic 30, 3) := by decide +kernel
theorem dX5_copyFrom_80 : decode cX5_copyFrom 80 = .ok (.iinc 2 1, 3) := by decide +kernel
theorem dX5_copyFrom_83 : decode cX5_copyFrom 83 = .ok (.goto (-28), 3) := by decide +kernel
theorem dX5_copyFrom_86 : decode cX5_copyFrom 86 = .ok (.return_, 1) := by decide +kernel
theorem dX5_isFull_0 : decode cX5_isFull 0 = .ok (.aload_n 0, 1) := by decide +kernel
theorem dX5_isFull_1 : decode cX5_isFull 1 = .ok (.getfield 26, 3) := by decide +kernel
theorem dX5_isFull_4 : decode cX5_isFull 4 = .ok (.bipush 8, 2) := by decide +kernel
theorem dX5_isFull_6 : decode cX5_isFull 6 = .ok (.if_icmp .lt 7, 3) := by decide +kernel
theorem dX5_isFull_9 : decode cX5_isFull 9 = .ok (.iconst 1, 1) := by decide +kernel
theorem dX5_isFull_10 : decode cX5_isFull 10 = .ok (.goto 4, 3) := by decide +kernel
theorem dX5_isFull_13 : decode cX5_isFull 13 = .ok (.iconst 0, 1) := by decide +kernel
theorem dX5_isFull_14 : decode cX5_isFull 14 = .ok (.ireturn, 1) := by decide +kernel
theorem dX5_has_0 : decode cX5_has 0 = .ok (.iload_n 1, 1) := by decide +kernel
theorem dX5_has_1 : decode cX5_has 1 = .ok (.ifCond .lt 15, 3) := by decide +kernel
theorem dX5_has_4 : decode cX5_has 4 = .ok (.iload_n 1, 1) := by decide +kernel
theorem dX5_has_5 : decode cX5_has 5 = .ok (.aload_n 0, 1) := by decide +kernel
theorem dX5_has_6 : decode cX5_has 6 = .ok (.getfield 26, 3) := by decide +kernel
theorem dX5_has_9 : decode cX5_has 9 = .ok (.if_icmp .ge 7, 3) := by decide +kernel
theorem dX5_has_12 : decode cX5_has 12 = .ok (.iconst 1, 1) := by decide +kernel
theorem dX5_has_13 : decode cX5_has 13 = .ok (.goto 4, 3) := by decide +kernel
theorem dX5_has_16 : decode cX5_has 16 = .ok (.iconst 0, 1) := by decide +kernel
theorem dX5_has_17 : decode cX5_has 17 = .ok (.ireturn, 1) := by decide +kernel
theorem dX5_add_0 : decode cX5_add 0 = .ok (.aload_n 0, 1) := by decide +kernel
theorem dX5_add_1 : decode cX5_add 1 = .ok (.getfield 9, 3) := by decide +kernel
theorem dX5_add_4 : decode cX5_add 4 = .ok (.aload_n 0, 1) := by decide +kernel
theorem dX5_add_5 : decode cX5_add 5 = .ok (.getfield 26, 3) := by decide +kernel
theorem dX5_add_8 : decode cX5_add 8 = .ok (.bipush 9, 2) := by decide +kernel
theorem dX5_add_10 : decode cX5_add 10 = .ok (.iastore, 1) := by decide +kernel
theorem dX5_add_11 : decode cX5_add 11 = .ok (.aload_n 0, 1) := by decide +kernel
theorem dX5_add_12 : decode cX5_add 12 = .ok (.getfield 15, 3) := by decide +kernel
theorem dX5_add_15 : decode cX5_add 15 = .ok (.aload_n 0, 1) := by decide +kernel
theorem dX5_add_16 : decode cX5_add 16 = .ok (.getfield 26, 3) := by decide +kernel
theorem dX5_add_19 : decode cX5_add 19 = .ok (.iconst 0, 1) := by decide +kernel
theorem dX5_add_20 : decode cX5_add 20 = .ok (.iastore, 1) := by decide +kernel
theorem dX5_add_21 : decode cX5_add 21 = .ok (.aload_n 0, 1) := by decide +kernel
theorem dX5_add_22 : decode cX5_add 22 = .ok (.getfield 18, 3) := by decide +kernel
theorem dX5_add_25 : decode cX5_add 25 = .ok (.aload_n 0, 1) := by decide +kernel
theorem dX5_add_26 : decode cX5_add 26 = .ok (.getfield 26, 3) := by decide +kernel
theorem dX5_add_29 : decode cX5_add 29 = .ok (.iconst 0, 1) := by decide +kernel
theorem dX5_add_30 : decode cX5_add 30 = .ok (.iastore, 1) := by decide +kernel
theorem dX5_add_31 : decode cX5_add 31 = .ok (.aload_n 0, 1) := by decide +kernel
theorem dX5_add_32 : decode cX5_add 32 = .ok (.dup, 1) := by decide +kernel
theorem dX5_add_33 : decode cX5_add 33 = .ok (.getfield 26, 3) := by decide +kernel
theorem dX5_add_36 : decode cX5_add 36 = .ok (.iconst 1, 1) := by decide +kernel
theorem dX5_add_37 : decode cX5_add 37 = .ok (.iadd, 1) := by decide +kernel
theorem dX5_add_38 : decode cX5_add 38 = .ok (.putfield 26, 3) := by decide +kernel
theorem dX5_add_41 : decode cX5_add 41 = .ok (.aload_n 0, 1) := by decide +kernel
theorem dX5_add_42 : decode cX5_add 42 = .ok (.getfield 26, 3) := by decide +kernel
theorem dX5_add_45 : decode cX5_add 45 = .ok (.iconst 1, 1) := by decide +kernel
theorem dX5_add_46 : decode cX5_add 46 = .ok (.isub, 1) := by decide +kernel
theorem dX5_add_47 : decode cX5_add 47 = .ok (.ireturn, 1) := by decide +kernel
theorem dX5_admits_0 : decode cX5_admits 0 = .ok (.aload_n 0, 1) := by decide +kernel
theorem dX5_admits_1 : decode cX5_admits 1 = .ok (.getfield 15, 3) := by decide +kernel
theorem dX5_admits_4 : decode cX5_admits 4 = .ok (.iload_n 1, 1) := by decide +kernel
theorem dX5_admits_5 : decode cX5_admits 5 = .ok (.iaload, 1) := by decide +kernel
theorem dX5_admits_6 : decode cX5_admits 6 = .ok (.iload_n 2, 1) := by decide +kernel
theorem dX5_admits_7 : decode cX5_admits 7 = .ok (.ifCond .eq 7, 3) := by decide +kernel
theorem dX5_admits_10 : decode cX5_admits 10 = .ok (.iconst 1, 1) := by decide +kernel
theorem dX5_admits_11 : decode cX5_admits 11 = .ok (.goto 4, 3) := by decide +kernel
theorem dX5_admits_14 : decode cX5_admits 14 = .ok (.iconst 2, 1) := by decide +kernel
theorem dX5_admits_15 : decode cX5_admits 15 = .ok (.if_icmp .ne 7, 3) := by decide +kernel
theorem dX5_admits_18 : decode cX5_admits 18 = .ok (.iconst 1, 1) := by decide +kernel
theorem dX5_admits_19 : decode cX5_admits 19 = .ok (.goto 4, 3) := by decide +kernel
theorem dX5_admits_22 : decode cX5_admits 22 = .ok (.iconst 0, 1) := by decide +kernel
theorem dX5_admits_23 : decode cX5_admits 23 = .ok (.ireturn, 1) := by decide +kernel
theorem dX5_setAdmission_0 : decode cX5_setAdmission 0 = .ok (.aload_n 0, 1) := by decide +kernel
theorem dX5_setAdmission_1 : decode cX5_setAdmission 1 = .ok (.getfield 15, 3) := by decide +kernel
theorem dX5_setAdmission_4 : decode cX5_setAdmission 4 = .ok (.iload_n 1, 1) := by decide +kernel
theorem dX5_setAdmission_5 : decode cX5_setAdmission 5 = .ok (.iaload, 1) := by decide +kernel
theorem dX5_setAdmission_6 : decode cX5_setAdmission 6 = .ok (.istore_n 3, 1) := by decide +kernel
theorem dX5_setAdmission_7 : decode cX5_setAdmission 7 = .ok (.aload_n 0, 1) := by decide +kernel
theorem dX5_setAdmission_8 : decode cX5_setAdmission 8 = .ok (.getfield 15, 3) := by decide +kernel
theorem dX5_setAdmission_11 : decode cX5_setAdmission 11 = .ok (.iload_n 1, 1) := by decide +kernel
theorem dX5_setAdmission_12 : decode cX5_setAdmission 12 = .ok (.iload_n 2, 1) := by decide +kernel
theorem dX5_setAdmission_13 : decode cX5_setAdmission 13 = .ok (.iastore, 1) := by decide +kernel
theorem dX5_setAdmission_14 : decode cX5_setAdmission 14 = .ok (.iload_n 3, 1) := by decide +kernel
theorem dX5_setAdmission_15 : decode cX5_setAdmission 15 = .ok (.ireturn, 1) := by decide +kernel
theorem dX5_admitting_0 : decode cX5_admitting 0 = .ok (.iconst 0, 1) := by decide +kernel
theorem dX5_admitting_1 : decode cX5_admitting 1 = .ok (.istore_n 2, 1) := by decide +kernel
theorem dX5_admitting_2 : decode cX5_admitting 2 = .ok (.iconst 0, 1) := by decide +kernel
theorem dX5_admitting_3 : decode cX5_admitting 3 = .ok (.istore_n 3, 1) := by decide +kernel
theorem dX5_admitting_4 : decode cX5_admitting 4 = .ok (.iload_n 3, 1) := by decide +kernel
theorem dX5_admitting_5 : decode cX5_admitting 5 = .ok (.aload_n 0, 1) := by decide +kernel
theorem dX5_admitting_6 : decode cX5_admitting 6 = .ok (.getfield 26, 3) := by decide +kernel
theorem dX5_admitting_9 : decode cX5_admitting 9 = .ok (.if_icmp .ge 25, 3) := by decide +kernel
theorem dX5_admitting_12 : decode cX5_admitting 12 = .ok (.aload_n 0, 1) := by decide +kernel
theorem dX5_admitting_13 : decode cX5_admitting 13 = .ok (.getfield 15, 3) := by decide +kernel
theorem dX5_admitting_16 : decode cX5_admitting 16 = .ok (.iload_n 3, 1) := by decide +kernel
theorem dX5_admitting_17 : decode cX5_admitting 17 = .ok (.iaload, 1) := by decide +kernel
theorem dX5_admitting_18 : decode cX5_admitting 18 = .ok (.iload_n 1, 1) := by decide +kernel
theorem dX5_admitting_19 : decode cX5_admitting 19 = .ok (.if_icmp .ne 9, 3) := by decide +kernel
theorem dX5_admitting_22 : decode cX5_admitting 22 = .ok (.iload_n 2, 1) := by decide +kernel
theorem dX5_admitting_23 : decode cX5_admitting 23 = .ok (.iconst 1, 1) := by decide +kernel
theorem dX5_admitting_24 : decode cX5_admitting 24 = .ok (.iload_n 3, 1) := by decide +kernel
theorem dX5_admitting_25 : decode cX5_admitting 25 = .ok (.ishl, 1) := by decide +kernel
theorem dX5_admitting_26 : decode cX5_admitting 26 = .ok (.ior, 1) := by decide +kernel
theorem dX5_admitting_27 : decode cX5_admitting 27 = .ok (.istore_n 2, 1) := by decide +kernel
theorem dX5_admitting_28 : decode cX5_admitting 28 = .ok (.iinc 3 1, 3) := by decide +kernel
theorem dX5_admitting_31 : decode cX5_admitting 31 = .ok (.goto (-27), 3) := by decide +kernel
theorem dX5_admitting_34 : decode cX5_admitting 34 = .ok (.iload_n 2, 1) := by decide +kernel
theorem dX5_admitting_35 : decode cX5_admitting 35 = .ok (.ireturn, 1) := by decide +kernel
theorem dX5_serves_0 : decode cX5_serves 0 = .ok (.aload_n 0, 1) := by decide +kernel
theorem dX5_serves_1 : decode cX5_serves 1 = .ok (.getfield 18, 3) := by decide +kernel
theorem dX5_serves_4 : decode cX5_serves 4 = .ok (.iload_n 1, 1) := by decide +kernel
theorem dX5_serves_5 : decode cX5_serves 5 = .ok (.iaload, 1) := by decide +kernel
theorem dX5_serves_6 : decode cX5_serves 6 = .ok (.ifCond .le 7, 3) := by decide +kernel
theorem dX5_serves_9 : decode cX5_serves 9 = .ok (.iconst 1, 1) := by decide +kernel
theorem dX5_serves_10 : decode cX5_serves 10 = .ok (.goto 4, 3) := by decide +kernel
theorem dX5_serves_13 : decode cX5_serves 13 = .ok (.iconst 0, 1) := by decide +kernel
theorem dX5_serves_14 : decode cX5_serves 14 = .ok (.ireturn, 1) := by decide +kernel
theorem dX5_addSentence_0 : decode cX5_addSentence 0 = .ok (.aload_n 0, 1) := by decide +kernel
theorem dX5_addSentence_1 : decode cX5_addSentence 1 = .ok (.getfield 18, 3) := by decide +kernel
theorem dX5_addSentence_4 : decode cX5_addSentence 4 = .ok (.iload_n 1, 1) := by decide +kernel
theorem dX5_addSentence_5 : decode cX5_addSentence 5 = .ok (.iaload, 1) := by decide +kernel
theorem dX5_addSentence_6 : decode cX5_addSentence 6 = .ok (.bipush 8, 2) := by decide +kernel
theorem dX5_addSentence_8 : decode cX5_addSentence 8 = .ok (.if_icmp .ge 27, 3) := by decide +kernel
theorem dX5_addSentence_11 : decode cX5_addSentence 11 = .ok (.aload_n 0, 1) := by decide +kernel
theorem dX5_addSentence_12 : decode cX5_addSentence 12 = .ok (.getfield 23, 3) := by decide +kernel
theorem dX5_addSentence_15 : decode cX5_addSentence 15 = .ok (.iload_n 1, 1) := by decide +kernel
theorem dX5_addSentence_16 : decode cX5_addSentence 16 = .ok (.aaload, 1) := by decide +kernel
theorem dX5_addSentence_17 : decode cX5_addSentence 17 = .ok (.aload_n 0, 1) := by decide +kernel
theorem dX5_addSentence_18 : decode cX5_addSentence 18 = .ok (.getfield 18, 3) := by decide +kernel
theorem dX5_addSentence_21 : decode cX5_addSentence 21 = .ok (.iload_n 1, 1) := by decide +kernel
theorem dX5_addSentence_22 : decode cX5_addSentence 22 = .ok (.iaload, 1) := by decide +kernel
theorem dX5_addSentence_23 : decode cX5_addSentence 23 = .ok (.iload_n 2, 1) := by decide +kernel
theorem dX5_addSentence_24 : decode cX5_addSentence 24 = .ok (.iastore, 1) := by decide +kernel
theorem dX5_addSentence_25 : decode cX5_addSentence 25 = .ok (.aload_n 0, 1) := by decide +kernel
theorem dX5_addSentence_26 : decode cX5_addSentence 26 = .ok (.getfield 18, 3) := by decide +kernel
theorem dX5_addSentence_29 : decode cX5_addSentence 29 = .ok (.iload_n 1, 1) := by decide +kernel
theorem dX5_addSentence_30 : decode cX5_addSentence 30 = .ok (.dup2, 1) := by decide +kernel
theorem dX5_addSentence_31 : decode cX5_addSentence 31 = .ok (.iaload, 1) := by decide +kernel
theorem dX5_addSentence_32 : decode cX5_addSentence 32 = .ok (.iconst 1, 1) := by decide +kernel
theorem dX5_addSentence_33 : decode cX5_addSentence 33 = .ok (.iadd, 1) := by decide +kernel
theorem dX5_addSentence_34 : decode cX5_addSentence 34 = .ok (.iastore, 1) := by decide +kernel
theorem dX5_addSentence_35 : decode cX5_addSentence 35 = .ok (.return_, 1) := by decide +kernel
theorem dX5_endSentence_0 : decode cX5_endSentence 0 = .ok (.aload_n 0, 1) := by decide +kernel
theorem dX5_endSentence_1 : decode cX5_endSentence 1 = .ok (.getfield 23, 3) := by decide +kernel
theorem dX5_endSentence_4 : decode cX5_endSentence 4 = .ok (.iload_n 1, 1) := by decide +kernel
theorem dX5_endSentence_5 : decode cX5_endSentence 5 = .ok (.aaload, 1) := by decide +kernel
theorem dX5_endSentence_6 : decode cX5_endSentence 6 = .ok (.astore_n 2, 1) := by decide +kernel
theorem dX5_endSentence_7 : decode cX5_endSentence 7 = .ok (.aload_n 2, 1) := by decide +kernel
theorem dX5_endSentence_8 : decode cX5_endSentence 8 = .ok (.iconst 0, 1) := by decide +kernel
theorem dX5_endSentence_9 : decode cX5_endSentence 9 = .ok (.iaload, 1) := by decide +kernel
theorem dX5_endSentence_10 : decode cX5_endSentence 10 = .ok (.istore_n 3, 1) := by decide +kernel
theorem dX5_endSentence_11 : decode cX5_endSentence 11 = .ok (.aload_n 0, 1) := by decide +kernel
theorem dX5_endSentence_12 : decode cX5_endSentence 12 = .ok (.getfield 18, 3) := by decide +kernel
theorem dX5_endSentence_15 : decode cX5_endSentence 15 = .ok (.iload_n 1, 1) := by decide +kernel
theorem dX5_endSentence_16 : decode cX5_endSentence 16 = .ok (.dup2, 1) := by decide +kernel
theorem dX5_endSentence_17 : decode cX5_endSentence 17 = .ok (.iaload, 1) := by decide +kernel
theorem dX5_endSentence_18 : decode cX5_endSentence 18 = .ok (.iconst 1, 1) := by decide +kernel
theorem dX5_endSentence_19 : decode cX5_endSentence 19 = .ok (.isub, 1) := by decide +kernel
theorem dX5_endSentence_20 : decode cX5_endSentence 20 = .ok (.iastore, 1) := by decide +kernel
theorem dX5_endSentence_21 : decode cX5_endSentence 21 = .ok (.iconst 0, 1) := by decide +kernel
theorem dX5_endSentence_22 : decode cX5_endSentence 22 = .ok (.istore 4, 2) := by decide +kernel
theorem dX5_endSentence_24 : decode cX5_endSentence 24 = .ok (.iload 4, 2) := by decide +kernel
theorem dX5_endSentence_26 : decode cX5_endSentence 26 = .ok (.aload_n 0, 1) := by decide +kernel
theorem dX5_endSentence_27 : decode cX5_endSentence 27 = .ok (.getfield 18, 3) := by decide +kernel
theorem dX5_endSentence_30 : decode cX5_endSentence 30 = .ok (.iload_n 1, 1) := by decide +kernel
theorem dX5_endSentence_31 : decode cX5_endSentence 31 = .ok (.iaload, 1) := by decide +kernel
theorem dX5_endSentence_32 : decode cX5_endSentence 32 = .ok (.if_icmp .ge 19, 3) := by decide +kernel
theorem dX5_endSentence_35 : decode cX5_endSentence 35 = .ok (.aload_n 2, 1) := by decide +kernel
theorem dX5_endSentence_36 : decode cX5_endSentence 36 = .ok (.iload 4, 2) := by decide +kernel
theorem dX5_endSentence_38 : decode cX5_endSentence 38 = .ok (.aload_n 2, 1) := by decide +kernel
theorem dX5_endSentence_39 : decode cX5_endSentence 39 = .ok (.iload 4, 2) := by decide +kernel
theorem dX5_endSentence_41 : decode cX5_endSentence 41 = .ok (.iconst 1, 1) := by decide +kernel
theorem dX5_endSentence_42 : decode cX5_endSentence 42 = .ok (.iadd, 1) := by decide +kernel
theorem dX5_endSentence_43 : decode cX5_endSentence 43 = .ok (.iaload, 1) := by decide +kernel
theorem dX5_endSentence_44 : decode cX5_endSentence 44 = .ok (.iastore, 1) := by decide +kernel
theorem dX5_endSentence_45 : decode cX5_endSentence 45 = .ok (.iinc 4 1, 3) := by decide +kernel
theorem dX5_endSentence_48 : decode cX5_endSentence 48 = .ok (.goto (-24), 3) := by decide +kernel
theorem dX5_endSentence_51 : decode cX5_endSentence 51 = .ok (.iload_n 3, 1) := by decide +kernel
theorem dX5_endSentence_52 : decode cX5_endSentence 52 = .ok (.ireturn, 1) := by decide +kernel
theorem dX5_daysToServe_0 : decode cX5_daysToServe 0 = .ok (.iconst 0, 1) := by decide +kernel
theorem dX5_daysToServe_1 : decode cX5_daysToServe 1 = .ok (.istore_n 2, 1) := by decide +kernel
theorem dX5_daysToServe_2 : decode cX5_daysToServe 2 = .ok (.iconst 0, 1) := by decide +kernel
theorem dX5_daysToServe_3 : decode cX5_daysToServe 3 = .ok (.istore_n 3, 1) := by decide +kernel
theorem dX5_daysToServe_4 : decode cX5_daysToServe 4 = .ok (.iload_n 3, 1) := by decide +kernel
theorem dX5_daysToServe_5 : decode cX5_daysToServe 5 = .ok (.aload_n 0, 1) := by decide +kernel
theorem dX5_daysToServe_6 : decode cX5_daysToServe 6 = .ok (.getfield 18, 3) := by decide +kernel
theorem dX5_daysToServe_9 : decode cX5_daysToServe 9 = .ok (.iload_n 1, 1) := by decide +kernel
theorem dX5_daysToServe_10 : decode cX5_daysToServe 10 = .ok (.iaload, 1) := by decide +kernel
theorem dX5_daysToServe_11 : decode cX5_daysToServe 11 = .ok (.if_icmp .ge 20, 3) := by decide +kernel
theorem dX5_daysToServe_14 : decode cX5_daysToServe 14 = .ok (.iload_n 2, 1) := by decide +kernel
theorem dX5_daysToServe_15 : decode cX5_daysToServe 15 = .ok (.aload_n 0, 1) := by decide +kernel
theorem dX5_daysToServe_16 : decode cX5_daysToServe 16 = .ok (.getfield 23, 3) := by decide +kernel
theorem dX5_daysToServe_19 : decode cX5_daysToServe 19 = .ok (.iload_n 1, 1) := by decide +kernel
theorem dX5_daysToServe_20 : decode cX5_daysToServe 20 = .ok (.aaload, 1) := by decide +kernel
theorem dX5_daysToServe_21 : decode cX5_daysToServe 21 = .ok (.iload_n 3, 1) := by decide +kernel
theorem dX5_daysToServe_22 : decode cX5_daysToServe 22 = .ok (.iaload, 1) := by decide +kernel
theorem dX5_daysToServe_23 : decode cX5_daysToServe 23 = .ok (.iadd, 1) := by decide +kernel
theorem dX5_daysToServe_24 : decode cX5_daysToServe 24 = .ok (.istore_n 2, 1) := by decide +kernel
theorem dX5_daysToServe_25 : decode cX5_daysToServe 25 = .ok (.iinc 3 1, 3) := by decide +kernel
theorem dX5_daysToServe_28 : decode cX5_daysToServe 28 = .ok (.goto (-24), 3) := by decide +kernel
theorem dX5_daysToServe_31 : decode cX5_daysToServe 31 = .ok (.iload_n 2, 1) := by decide +kernel
theorem dX5_daysToServe_32 : decode cX5_daysToServe 32 = .ok (.ireturn, 1) := by decide +kernel
theorem dX5_liveOneDay_0 : decode cX5_liveOneDay 0 = .ok (.iconst 0, 1) := by decide +kernel
theorem dX5_liveOneDay_1 : decode cX5_liveOneDay 1 = .ok (.istore_n 1, 1) := by decide +kernel
theorem dX5_liveOneDay_2 : decode cX5_liveOneDay 2 = .ok (.iconst 0, 1) := by decide +kernel
theorem dX5_liveOneDay_3 : decode cX5_liveOneDay 3 = .ok (.istore_n 2, 1) := by decide +kernel
theorem dX5_liveOneDay_4 : decode cX5_liveOneDay 4 = .ok (.iload_n 2, 1) := by decide +kernel
theorem dX5_liveOneDay_5 : decode cX5_liveOneDay 5 = .ok (.aload_n 0, 1) := by decide +kernel
theorem dX5_liveOneDay_6 : decode cX5_liveOneDay 6 = .ok (.getfield 26, 3) := by decide +kernel
theorem dX5_liveOneDay_9 : decode cX5_liveOneDay 9 = .ok (.if_icmp .ge 89, 3) := by decide +kernel
theorem dX5_liveOneDay_12 : decode cX5_liveOneDay 12 = .ok (.aload_n 0, 1) := by decide +kernel
theorem dX5_liveOneDay_13 : decode cX5_liveOneDay 13 = .ok (.iload_n 2, 1) := by decide +kernel
theorem dX5_liveOneDay_14 : decode cX5_liveOneDay 14 = .ok (.invokevirtual 36, 3) := by decide +kernel
theorem dX5_liveOneDay_17 : decode cX5_liveOneDay 17 = .ok (.ifCond .eq 56, 3) := by decide +kernel
theorem dX5_liveOneDay_20 : decode cX5_liveOneDay 20 = .ok (.aload_n 0, 1) := by decide +kernel
theorem dX5_liveOneDay_21 : decode cX5_liveOneDay 21 = .ok (.getfield 9, 3) := by decide +kernel
theorem dX5_liveOneDay_24 : decode cX5_liveOneDay 24 = .ok (.iload_n 2, 1) := by decide +kernel
theorem dX5_liveOneDay_25 : decode cX5_liveOneDay 25 = .ok (.aload_n 0, 1) := by decide +kernel
theorem dX5_liveOneDay_26 : decode cX5_liveOneDay 26 = .ok (.getfield 9, 3) := by decide +kernel
theorem dX5_liveOneDay_29 : decode cX5_liveOneDay 29 = .ok (.iload_n 2, 1) := by decide +kernel
theorem dX5_liveOneDay_30 : decode cX5_liveOneDay 30 = .ok (.iaload, 1) := by decide +kernel
theorem dX5_liveOneDay_31 : decode cX5_liveOneDay 31 = .ok (.iconst 1, 1) := by decide +kernel
theorem dX5_liveOneDay_32 : decode cX5_liveOneDay 32 = .ok (.isub, 1) := by decide +kernel
theorem dX5_liveOneDay_33 : decode cX5_liveOneDay 33 = .ok (.iconst 0, 1) := by decide +kernel
theorem dX5_liveOneDay_34 : decode cX5_liveOneDay 34 = .ok (.invokestatic 40, 3) := by decide +kernel
theorem dX5_liveOneDay_37 : decode cX5_liveOneDay 37 = .ok (.iastore, 1) := by decide +kernel
theorem dX5_liveOneDay_38 : decode cX5_liveOneDay 38 = .ok (.aload_n 0, 1) := by decide +kernel
theorem dX5_liveOneDay_39 : decode cX5_liveOneDay 39 = .ok (.getfield 23, 3) := by decide +kernel
theorem dX5_liveOneDay_42 : decode cX5_liveOneDay 42 = .ok (.iload_n 2, 1) := by decide +kernel
theorem dX5_liveOneDay_43 : decode cX5_liveOneDay 43 = .ok (.aaload, 1) := by decide +kernel
theorem dX5_liveOneDay_44 : decode cX5_liveOneDay 44 = .ok (.iconst 0, 1) := by decide +kernel
theorem dX5_liveOneDay_45 : decode cX5_liveOneDay 45 = .ok (.dup2, 1) := by decide +kernel
theorem dX5_liveOneDay_46 : decode cX5_liveOneDay 46 = .ok (.iaload, 1) := by decide +kernel
theorem dX5_liveOneDay_47 : decode cX5_liveOneDay 47 = .ok (.iconst 1, 1) := by decide +kernel
theorem dX5_liveOneDay_48 : decode cX5_liveOneDay 48 = .ok (.isub, 1) := by decide +kernel
theorem dX5_liveOneDay_49 : decode cX5_liveOneDay 49 = .ok (.iastore, 1) := by decide +kernel
theorem dX5_liveOneDay_50 : decode cX5_liveOneDay 50 = .ok (.iinc 1 1, 3) := by decide +kernel
theorem dX5_liveOneDay_53 : decode cX5_liveOneDay 53 = .ok (.aload_n 0, 1) := by decide +kernel
theorem dX5_liveOneDay_54 : decode cX5_liveOneDay 54 = .ok (.getfield 23, 3) := by decide +kernel
theorem dX5_liveOneDay_57 : decode cX5_liveOneDay 57 = .ok (.iload_n 2, 1) := by decide +kernel
theorem dX5_liveOneDay_58 : decode cX5_liveOneDay 58 = .ok (.aaload, 1) := by decide +kernel
theorem dX5_liveOneDay_59 : decode cX5_liveOneDay 59 = .ok (.iconst 0, 1) := by decide +kernel
theorem dX5_liveOneDay_60 : decode cX5_liveOneDay 60 = .ok (.iaload, 1) := by decide +kernel
theorem dX5_liveOneDay_61 : decode cX5_liveOneDay 61 = .ok (.ifCond .ne 31, 3) := by decide +kernel
theorem dX5_liveOneDay_64 : decode cX5_liveOneDay 64 = .ok (.aload_n 0, 1) := by decide +kernel
theorem dX5_liveOneDay_65 : decode cX5_liveOneDay 65 = .ok (.iload_n 2, 1) := by decide +kernel
theorem dX5_liveOneDay_66 : decode cX5_liveOneDay 66 = .ok (.invokevirtual 46, 3) := by decide +kernel
theorem dX5_liveOneDay_69 : decode cX5_liveOneDay 69 = .ok (.pop, 1) := by decide +kernel
theorem dX5_liveOneDay_70 : decode cX5_liveOneDay 70 = .ok (.goto 22, 3) := by decide +kernel
theorem dX5_liveOneDay_73 : decode cX5_liveOneDay 73 = .ok (.aload_n 0, 1) := by decide +kernel
theorem dX5_liveOneDay_74 : decode cX5_liveOneDay 74 = .ok (.getfield 9, 3) := by decide +kernel
theorem dX5_liveOneDay_77 : decode cX5_liveOneDay 77 = .ok (.iload_n 2, 1) := by decide +kernel
theorem dX5_liveOneDay_78 : decode cX5_liveOneDay 78 = .ok (.aload_n 0, 1) := by decide +kernel
theorem dX5_liveOneDay_79 : decode cX5_liveOneDay 79 = .ok (.getfield 9, 3) := by decide +kernel
theorem dX5_liveOneDay_82 : decode cX5_liveOneDay 82 = .ok (.iload_n 2, 1) := by decide +kernel
theorem dX5_liveOneDay_83 : decode cX5_liveOneDay 83 = .ok (.iaload, 1) := by decide +kernel
theorem dX5_liveOneDay_84 : decode cX5_liveOneDay 84 = .ok (.iconst 1, 1) := by decide +kernel
theorem dX5_liveOneDay_85 : decode cX5_liveOneDay 85 = .ok (.iadd, 1) := by decide +kernel
theorem dX5_liveOneDay_86 : decode cX5_liveOneDay 86 = .ok (.bipush 9, 2) := by decide +kernel
theorem dX5_liveOneDay_88 : decode cX5_liveOneDay 88 = .ok (.invokestatic 50, 3) := by decide +kernel
theorem dX5_liveOneDay_91 : decode cX5_liveOneDay 91 = .ok (.iastore, 1) := by decide +kernel
theorem dX5_liveOneDay_92 : decode cX5_liveOneDay 92 = .ok (.iinc 2 1, 3) := by decide +kernel
theorem dX5_liveOneDay_95 : decode cX5_liveOneDay 95 = .ok (.goto (-91), 3) := by decide +kernel
theorem dX5_liveOneDay_98 : decode cX5_liveOneDay 98 = .ok (.iload_n 1, 1) := by decide +kernel
theorem dX5_liveOneDay_99 : decode cX5_liveOneDay 99 = .ok (.ireturn, 1) := by decide +kernel
theorem dX5_brightnessSum_0 : decode cX5_brightnessSum 0 = .ok (.iconst 0, 1) := by decide +kernel
theorem dX5_brightnessSum_1 : decode cX5_brightnessSum 1 = .ok (.istore_n 1, 1) := by decide +kernel
theorem dX5_brightnessSum_2 : decode cX5_brightnessSum 2 = .ok (.iconst 0, 1) := by decide +kernel
theorem dX5_brightnessSum_3 : decode cX5_brightnessSum 3 = .ok (.istore_n 2, 1) := by decide +kernel
theorem dX5_brightnessSum_4 : decode cX5_brightnessSum 4 = .ok (.iload_n 2, 1) := by decide +kernel
theorem dX5_brightnessSum_5 : decode cX5_brightnessSum 5 = .ok (.aload_n 0, 1) := by decide +kernel
theorem dX5_brightnessSum_6 : decode cX5_brightnessSum 6 = .ok (.getfield 26, 3) := by decide +kernel
theorem dX5_brightnessSum_9 : decode cX5_brightnessSum 9 = .ok (.if_icmp .ge 18, 3) := by decide +kernel
theorem dX5_brightnessSum_12 : decode cX5_brightnessSum 12 = .ok (.iload_n 1, 1) := by decide +kernel
theorem dX5_brightnessSum_13 : decode cX5_brightnessSum 13 = .ok (.aload_n 0, 1) := by decide +kernel
theorem dX5_brightnessSum_14 : decode cX5_brightnessSum 14 = .ok (.getfield 9, 3) := by decide +kernel
theorem dX5_brightnessSum_17 : decode cX5_brightnessSum 17 = .ok (.iload_n 2, 1) := by decide +kernel
theorem dX5_brightnessSum_18 : decode cX5_brightnessSum 18 = .ok (.iaload, 1) := by decide +kernel
theorem dX5_brightnessSum_19 : decode cX5_brightnessSum 19 = .ok (.iadd, 1) := by decide +kernel
theorem dX5_brightnessSum_20 : decode cX5_brightnessSum 20 = .ok (.istore_n 1, 1) := by decide +kernel
theorem dX5_brightnessSum_21 : decode cX5_brightnessSum 21 = .ok (.iinc 2 1, 3) := by decide +kernel
theorem dX5_brightnessSum_24 : decode cX5_brightnessSum 24 = .ok (.goto (-20), 3) := by decide +kernel
theorem dX5_brightnessSum_27 : decode cX5_brightnessSum 27 = .ok (.iload_n 1, 1) := by decide +kernel
theorem dX5_brightnessSum_28 : decode cX5_brightnessSum 28 = .ok (.ireturn, 1) := by decide +kernel
theorem dX5_atRank_0 : decode cX5_atRank 0 = .ok (.iconst 0, 1) := by decide +kernel
theorem dX5_atRank_1 : decode cX5_atRank 1 = .ok (.istore_n 2, 1) := by decide +kernel
theorem dX5_atRank_2 : decode cX5_atRank 2 = .ok (.iload_n 2, 1) := by decide +kernel
theorem dX5_atRank_3 : decode cX5_atRank 3 = .ok (.aload_n 0, 1) := by decide +kernel
theorem dX5_atRank_4 : decode cX5_atRank 4 = .ok (.getfield 26, 3) := by decide +kernel
theorem dX5_atRank_7 : decode cX5_atRank 7 = .ok (.if_icmp .ge 49, 3) := by decide +kernel
theorem dX5_atRank_10 : decode cX5_atRank 10 = .ok (.iconst 0, 1) := by decide +kernel
theorem dX5_atRank_11 : decode cX5_atRank 11 = .ok (.istore_n 3, 1) := by decide +kernel
theorem dX5_atRank_12 : decode cX5_atRank 12 = .ok (.iconst 0, 1) := by decide +kernel
theorem dX5_atRank_13 : decode cX5_atRank 13 = .ok (.istore 4, 2) := by decide +kernel
theorem dX5_atRank_15 : decode cX5_atRank 15 = .ok (.iload 4, 2) := by decide +kernel
theorem dX5_atRank_17 : decode cX5_atRank 17 = .ok (.aload_n 0, 1) := by decide +kernel
theorem dX5_atRank_18 : decode cX5_atRank 18 = .ok (.getfield 26, 3) := by decide +kernel
theorem dX5_atRank_21 : decode cX5_atRank 21 = .ok (.if_icmp .ge 22, 3) := by decide +kernel
theorem dX5_atRank_24 : decode cX5_atRank 24 = .ok (.aload_n 0, 1) := by decide +kernel
theorem dX5_atRank_25 : decode cX5_atRank 25 = .ok (.iload 4, 2) := by decide +kernel
theorem dX5_atRank_27 : decode cX5_atRank 27 = .ok (.iload_n 2, 1) := by decide +kernel
theorem dX5_atRank_28 : decode cX5_atRank 28 = .ok (.invokevirtual 53, 3) := by decide +kernel
theorem dX5_atRank_31 : decode cX5_atRank 31 = .ok (.ifCond .eq 6, 3) := by decide +kernel
theorem dX5_atRank_34 : decode cX5_atRank 34 = .ok (.iinc 3 1, 3) := by decide +kernel
theorem dX5_atRank_37 : decode cX5_atRank 37 = .ok (.iinc 4 1, 3) := by decide +kernel
theorem dX5_atRank_40 : decode cX5_atRank 40 = .ok (.goto (-25), 3) := by decide +kernel
theorem dX5_atRank_43 : decode cX5_atRank 43 = .ok (.iload_n 3, 1) := by decide +kernel
theorem dX5_atRank_44 : decode cX5_atRank 44 = .ok (.iload_n 1, 1) := by decide +kernel
theorem dX5_atRank_45 : decode cX5_atRank 45 = .ok (.if_icmp .ne 5, 3) := by decide +kernel
theorem dX5_atRank_48 : decode cX5_atRank 48 = .ok (.iload_n 2, 1) := by decide +kernel
theorem dX5_atRank_49 : decode cX5_atRank 49 = .ok (.ireturn, 1) := by decide +kernel
theorem dX5_atRank_50 : decode cX5_atRank 50 = .ok (.iinc 2 1, 3) := by decide +kernel
theorem dX5_atRank_53 : decode cX5_atRank 53 = .ok (.goto (-51), 3) := by decide +kernel
theorem dX5_atRank_56 : decode cX5_atRank 56 = .ok (.iconst (-1), 1) := by decide +kernel
theorem dX5_atRank_57 : decode cX5_atRank 57 = .ok (.ireturn, 1) := by decide +kernel
theorem dX5_comesBefore_0 : decode cX5_comesBefore 0 = .ok (.aload_n 0, 1) := by decide +kernel
theorem dX5_comesBefore_1 : decode cX5_comesBefore 1 = .ok (.getfield 9, 3) := by decide +kernel
theorem dX5_comesBefore_4 : decode cX5_comesBefore 4 = .ok (.iload_n 1, 1) := by decide +kernel
theorem dX5_comesBefore_5 : decode cX5_comesBefore 5 = .ok (.iaload, 1) := by decide +kernel
theorem dX5_comesBefore_6 : decode cX5_comesBefore 6 = .ok (.aload_n 0, 1) := by decide +kernel
theorem dX5_comesBefore_7 : decode cX5_comesBefore 7 = .ok (.getfield 9, 3) := by decide +kernel
theorem dX5_comesBefore_10 : decode cX5_comesBefore 10 = .ok (.iload_n 2, 1) := by decide +kernel
theorem dX5_comesBefore_11 : decode cX5_comesBefore 11 = .ok (.iaload, 1) := by decide +kernel
theorem dX5_comesBefore_12 : decode cX5_comesBefore 12 = .ok (.if_icmp .eq 24, 3) := by decide +kernel
theorem dX5_comesBefore_15 : decode cX5_comesBefore 15 = .ok (.aload_n 0, 1) := by decide +kernel
theorem dX5_comesBefore_16 : decode cX5_comesBefore 16 = .ok (.getfield 9, 3) := by decide +kernel
theorem dX5_comesBefore_19 : decode cX5_comesBefore 19 = .ok (.iload_n 1, 1) := by decide +kernel
theorem dX5_comesBefore_20 : decode cX5_comesBefore 20 = .ok (.iaload, 1) := by decide +kernel
theorem dX5_comesBefore_21 : decode cX5_comesBefore 21 = .ok (.aload_n 0, 1) := by decide +kernel
theorem dX5_comesBefore_22 : decode cX5_comesBefore 22 = .ok (.getfield 9, 3) := by decide +kernel
theorem dX5_comesBefore_25 : decode cX5_comesBefore 25 = .ok (.iload_n 2, 1) := by decide +kernel
theorem dX5_comesBefore_26 : decode cX5_comesBefore 26 = .ok (.iaload, 1) := by decide +kernel
theorem dX5_comesBefore_27 : decode cX5_comesBefore 27 = .ok (.if_icmp .ge 7, 3) := by decide +kernel
theorem dX5_comesBefore_30 : decode cX5_comesBefore 30 = .ok (.iconst 1, 1) := by decide +kernel
theorem dX5_comesBefore_31 : decode cX5_comesBefore 31 = .ok (.goto 4, 3) := by decide +kernel
theorem dX5_comesBefore_34 : decode cX5_comesBefore 34 = .ok (.iconst 0, 1) := by decide +kernel
theorem dX5_comesBefore_35 : decode cX5_comesBefore 35 = .ok (.ireturn, 1) := by decide +kernel
theorem dX5_comesBefore_36 : decode cX5_comesBefore 36 = .ok (.aload_n 0, 1) := by decide +kernel
theorem dX5_comesBefore_37 : decode cX5_comesBefore 37 = .ok (.iload_n 1, 1) := by decide +kernel
theorem dX5_comesBefore_38 : decode cX5_comesBefore 38 = .ok (.invokevirtual 57, 3) := by decide +kernel
theorem dX5_comesBefore_41 : decode cX5_comesBefore 41 = .ok (.istore_n 3, 1) := by decide +kernel
theorem dX5_comesBefore_42 : decode cX5_comesBefore 42 = .ok (.aload_n 0, 1) := by decide +kernel
theorem dX5_comesBefore_43 : decode cX5_comesBefore 43 = .ok (.iload_n 2, 1) := by decide +kernel
theorem dX5_comesBefore_44 : decode cX5_comesBefore 44 = .ok (.invokevirtual 57, 3) := by decide +kernel
theorem dX5_comesBefore_47 : decode cX5_comesBefore 47 = .ok (.istore 4, 2) := by decide +kernel
theorem dX5_comesBefore_49 : decode cX5_comesBefore 49 = .ok (.iload_n 3, 1) := by decide +kernel
theorem dX5_comesBefore_50 : decode cX5_comesBefore 50 = .ok (.iload 4, 2) := by decide +kernel
theorem dX5_comesBefore_52 : decode cX5_comesBefore 52 = .ok (.if_icmp .eq 17, 3) := by decide +kernel
theorem dX5_comesBefore_55 : decode cX5_comesBefore 55 = .ok (.iload_n 3, 1) := by decide +kernel
theorem dX5_comesBefore_56 : decode cX5_comesBefore 56 = .ok (.iload 4, 2) := by decide +kernel
theorem dX5_comesBefore_58 : decode cX5_comesBefore 58 = .ok (.if_icmp .le 7, 3) := by decide +kernel
theorem dX5_comesBefore_61 : decode cX5_comesBefore 61 = .ok (.iconst 1, 1) := by decide +kernel
theorem dX5_comesBefore_62 : decode cX5_comesBefore 62 = .ok (.goto 17, 3) := by decide +kernel
theorem dX5_comesBefore_65 : decode cX5_comesBefore 65 = .ok (.iconst 0, 1) := by decide +kernel
theorem dX5_comesBefore_66 : decode cX5_comesBefore 66 = .ok (.goto 13, 3) := by decide +kernel
theorem dX5_comesBefore_69 : decode cX5_comesBefore 69 = .ok (.iload_n 1, 1) := by decide +kernel
theorem dX5_comesBefore_70 : decode cX5_comesBefore 70 = .ok (.iload_n 2, 1) := by decide +kernel
theorem dX5_comesBefore_71 : decode cX5_comesBefore 71 = .ok (.if_icmp .ge 7, 3) := by decide +kernel
theorem dX5_comesBefore_74 : decode cX5_comesBefore 74 = .ok (.iconst 1, 1) := by decide +kernel
theorem dX5_comesBefore_75 : decode cX5_comesBefore 75 = .ok (.goto 4, 3) := by decide +kernel
theorem dX5_comesBefore_78 : decode cX5_comesBefore 78 = .ok (.iconst 0, 1) := by decide +kernel
theorem dX5_comesBefore_79 : decode cX5_comesBefore 79 = .ok (.ireturn, 1) := by decide +kernel
theorem dX6_init_0 : decode cX6_init 0 = .ok (.aload_n 0, 1) := by decide +kernel
theorem dX6_init_1 : decode cX6_init 1 = .ok (.invokespecial 3, 3) := by decide +kernel
theorem dX6_init_4 : decode cX6_init 4 = .ok (.aload_n 0, 1) := by decide +kernel
theorem dX6_init_5 : decode cX6_init 5 = .ok (.sipush 128, 3) := by decide +kernel
theorem dX6_init_8 : decode cX6_init 8 = .ok (.newarray .char, 2) := by decide +kernel
theorem dX6_init_10 : decode cX6_init 10 = .ok (.putfield 9, 3) := by decide +kernel
theorem dX6_init_13 : decode cX6_init 13 = .ok (.return_, 1) := by decide +kernel
theorem dX6_empty_0 : decode cX6_empty 0 = .ok (.aload_n 0, 1) := by decide +kernel
theorem dX6_empty_1 : decode cX6_empty 1 = .ok (.iconst 0, 1) := by decide +kernel
theorem dX6_empty_2 : decode cX6_empty 2 = .ok (.putfield 15, 3) := by decide +kernel
theorem dX6_empty_5 : decode cX6_empty 5 = .ok (.return_, 1) := by decide +kernel
theorem dX6_put_0 : decode cX6_put 0 = .ok (.aload_n 0, 1) := by decide +kernel
theorem dX6_put_1 : decode cX6_put 1 = .ok (.getfield 15, 3) := by decide +kernel
theorem dX6_put_4 : decode cX6_put 4 = .ok (.aload_n 0, 1) := by decide +kernel
theorem dX6_put_5 : decode cX6_put 5 = .ok (.getfield 9, 3) := by decide +kernel
theorem dX6_put_8 : decode cX6_put 8 = .ok (.arraylength, 1) := by decide +kernel
theorem dX6_put_9 : decode cX6_put 9 = .ok (.if_icmp .ge 23, 3) := by decide +kernel
theorem dX6_put_12 : decode cX6_put 12 = .ok (.aload_n 0, 1) := by decide +kernel
theorem dX6_put_13 : decode cX6_put 13 = .ok (.getfield 9, 3) := by decide +kernel
theorem dX6_put_16 : decode cX6_put 16 = .ok (.aload_n 0, 1) := by decide +kernel
theorem dX6_put_17 : decode cX6_put 17 = .ok (.getfield 15, 3) := by decide +kernel
theorem dX6_put_20 : decode cX6_put 20 = .ok (.iload_n 1, 1) := by decide +kernel
theorem dX6_put_21 : decode cX6_put 21 = .ok (.castore, 1) := by decide +kernel
theorem dX6_put_22 : decode cX6_put 22 = .ok (.aload_n 0, 1) := by decide +kernel
theorem dX6_put_23 : decode cX6_put 23 = .ok (.dup, 1) := by decide +kernel
theorem dX6_put_24 : decode cX6_put 24 = .ok (.getfield 15, 3) := by decide +kernel
theorem dX6_put_27 : decode cX6_put 27 = .ok (.iconst 1, 1) := by decide +kernel
theorem dX6_put_28 : decode cX6_put 28 = .ok (.iadd, 1) := by decide +kernel
theorem dX6_put_29 : decode cX6_put 29 = .ok (.putfield 15, 3) := by decide +kernel
theorem dX6_put_32 : decode cX6_put 32 = .ok (.return_, 1) := by decide +kernel
theorem dX6_putNumber_0 : decode cX6_putNumber 0 = .ok (.ldc 19, 2) := by decide +kernel
theorem dX6_putNumber_2 : decode cX6_putNumber 2 = .ok (.istore_n 2, 1) := by decide +kernel
theorem dX6_putNumber_3 : decode cX6_putNumber 3 = .ok (.iload_n 2, 1) := by decide +kernel
theorem dX6_putNumber_4 : decode cX6_putNumber 4 = .ok (.iconst 1, 1) := by decide +kernel
theorem dX6_putNumber_5 : decode cX6_putNumber 5 = .ok (.if_icmp .lt 35, 3) := by decide +kernel
theorem dX6_putNumber_8 : decode cX6_putNumber 8 = .ok (.iload_n 1, 1) := by decide +kernel
theorem dX6_putNumber_9 : decode cX6_putNumber 9 = .ok (.iload_n 2, 1) := by decide +kernel
theorem dX6_putNumber_10 : decode cX6_putNumber 10 = .ok (.if_icmp .ge 8, 3) := by decide +kernel
theorem dX6_putNumber_13 : decode cX6_putNumber 13 = .ok (.iload_n 2, 1) := by decide +kernel
theorem dX6_putNumber_14 : decode cX6_putNumber 14 = .ok (.iconst 1, 1) := by decide +kernel
theorem dX6_putNumber_15 : decode cX6_putNumber 15 = .ok (.if_icmp .ne 17, 3) := by decide +kernel
theorem dX6_putNumber_18 : decode cX6_putNumber 18 = .ok (.aload_n 0, 1) := by decide +kernel
theorem dX6_putNumber_19 : decode cX6_putNumber 19 = .ok (.bipush 48, 2) := by decide +kernel
theorem dX6_putNumber_21 : decode cX6_putNumber 21 = .ok (.iload_n 1, 1) := by decide +kernel
theorem dX6_putNumber_22 : decode cX6_putNumber 22 = .ok (.iload_n 2, 1) := by decide +kernel
theorem dX6_putNumber_23 : decode cX6_putNumber 23 = .ok (.idiv, 1) := by decide +kernel
theorem dX6_putNumber_24 : decode cX6_putNumber 24 = .ok (.bipush 10, 2) := by decide +kernel
theorem dX6_putNumber_26 : decode cX6_putNumber 26 = .ok (.irem, 1) := by decide +kernel
theorem dX6_putNumber_27 : decode cX6_putNumber 27 = .ok (.iadd, 1) := by decide +kernel
theorem dX6_putNumber_28 : decode cX6_putNumber 28 = .ok (.i2c, 1) := by decide +kernel
theorem dX6_putNumber_29 : decode cX6_putNumber 29 = .ok (.invokevirtual 20, 3) := by decide +kernel
theorem dX6_putNumber_32 : decode cX6_putNumber 32 = .ok (.iload_n 2, 1) := by decide +kernel
theorem dX6_putNumber_33 : decode cX6_putNumber 33 = .ok (.bipush 10, 2) := by decide +kernel
theorem dX6_putNumber_35 : decode cX6_putNumber 35 = .ok (.idiv, 1) := by decide +kernel
theorem dX6_putNumber_36 : decode cX6_putNumber 36 = .ok (.istore_n 2, 1) := by decide +kernel
theorem dX6_putNumber_37 : decode cX6_putNumber 37 = .ok (.goto (-34), 3) := by decide +kernel
theorem dX6_putNumber_40 : decode cX6_putNumber 40 = .ok (.return_, 1) := by decide +kernel
theorem dX7_init_0 : decode cX7_init 0 = .ok (.aload_n 0, 1) := by decide +kernel
theorem dX7_init_1 : decode cX7_init 1 = .ok (.invokespecial 3, 3) := by decide +kernel
theorem dX7_init_4 : decode cX7_init 4 = .ok (.aload_n 0, 1) := by decide +kernel
theorem dX7_init_5 : decode cX7_init 5 = .ok (.bipush 10, 2) := by decide +kernel
theorem dX7_init_7 : decode cX7_init 7 = .ok (.newarray .int, 2) := by decide +kernel
theorem dX7_init_9 : decode cX7_init 9 = .ok (.putfield 9, 3) := by decide +kernel
theorem dX7_init_12 : decode cX7_init 12 = .ok (.aload_n 0, 1) := by decide +kernel
theorem dX7_init_13 : decode cX7_init 13 = .ok (.bipush 10, 2) := by decide +kernel
theorem dX7_init_15 : decode cX7_init 15 = .ok (.newarray .int, 2) := by decide +kernel
theorem dX7_init_17 : decode cX7_init 17 = .ok (.putfield 15, 3) := by decide +kernel
theorem dX7_init_20 : decode cX7_init 20 = .ok (.aload_n 0, 1) := by decide +kernel
theorem dX7_init_21 : decode cX7_init 21 = .ok (.bipush 13, 2) := by decide +kernel
theorem dX7_init_23 : decode cX7_init 23 = .ok (.newarray .int, 2) := by decide +kernel
theorem dX7_init_25 : decode cX7_init 25 = .ok (.putfield 18, 3) := by decide +kernel
theorem dX7_init_28 : decode cX7_init 28 = .ok (.return_, 1) := by decide +kernel
theorem dX7_make_0 : decode cX7_make 0 = .ok (.aload_n 0, 1) := by decide +kernel
theorem dX7_make_1 : decode cX7_make 1 = .ok (.aload_n 1, 1) := by decide +kernel
theorem dX7_make_2 : decode cX7_make 2 = .ok (.iload_n 2, 1) := by decide +kernel
theorem dX7_make_3 : decode cX7_make 3 = .ok (.invokevirtual 21, 3) := by decide +kernel
theorem dX7_make_6 : decode cX7_make 6 = .ok (.aload_n 0, 1) := by decide +kernel
theorem dX7_make_7 : decode cX7_make 7 = .ok (.aload_n 1, 1) := by decide +kernel
theorem dX7_make_8 : decode cX7_make 8 = .ok (.invokevirtual 25, 3) := by decide +kernel
theorem dX7_make_11 : decode cX7_make 11 = .ok (.aload_n 0, 1) := by decide +kernel
theorem dX7_make_12 : decode cX7_make 12 = .ok (.iconst 0, 1) := by decide +kernel
theorem dX7_make_13 : decode cX7_make 13 = .ok (.putfield 29, 3) := by decide +kernel
theorem dX7_make_16 : decode cX7_make 16 = .ok (.aload_n 0, 1) := by decide +kernel
theorem dX7_make_17 : decode cX7_make 17 = .ok (.iconst 0, 1) := by decide +kernel
theorem dX7_make_18 : decode cX7_make 18 = .ok (.putfield 33, 3) := by decide +kernel
theorem dX7_make_21 : decode cX7_make 21 = .ok (.iconst 0, 1) := by decide +kernel
theorem dX7_make_22 : decode cX7_make 22 = .ok (.istore_n 3, 1) := by decide +kernel
theorem dX7_make_23 : decode cX7_make 23 = .ok (.iload_n 3, 1) := by decide +kernel
theorem dX7_make_24 : decode cX7_make 24 = .ok (.aload_n 1, 1) := by decide +kernel
theorem dX7_make_25 : decode cX7_make 25 = .ok (.getfield 36, 3) := by decide +kernel
theorem dX7_make_28 : decode cX7_make 28 = .ok (.if_icmp .ge 49, 3) := by decide +kernel
theorem dX7_make_31 : decode cX7_make 31 = .ok (.aload_n 0, 1) := by decide +kernel
theorem dX7_make_32 : decode cX7_make 32 = .ok (.getfield 29, 3) := by decide +kernel
theorem dX7_make_35 : decode cX7_make 35 = .ok (.iconst 1, 1) := by decide +kernel
theorem dX7_make_36 : decode cX7_make 36 = .ok (.aload_n 0, 1) := by decide +kernel
theorem dX7_make_37 : decode cX7_make 37 = .ok (.getfield 15, 3) := by decide +kernel
theorem dX7_make_40 : decode cX7_make 40 = .ok (.iload_n 3, 1) := by decide +kernel
theorem dX7_make_41 : decode cX7_make 41 = .ok (.iaload, 1) := by decide +kernel
theorem dX7_make_42 : decode cX7_make 42 = .ok (.ishl, 1) := by decide +kernel
theorem dX7_make_43 : decode cX7_make 43 = .ok (.ior, 1) := by decide +kernel
theorem dX7_make_44 : decode cX7_make 44 = .ok (.istore 4, 2) := by decide +kernel
theorem dX7_make_46 : decode cX7_make 46 = .ok (.aload_n 0, 1) := by decide +kernel
theorem dX7_make_47 : decode cX7_make 47 = .ok (.iload 4, 2) := by decide +kernel
theorem dX7_make_49 : decode cX7_make 49 = .ok (.invokevirtual 39, 3) := by decide +kernel
theorem dX7_make_52 : decode cX7_make 52 = .ok (.ifCond .eq 19, 3) := by decide +kernel
theorem dX7_make_55 : decode cX7_make 55 = .ok (.aload_n 0, 1) := by decide +kernel
theorem dX7_make_56 : decode cX7_make 56 = .ok (.iload 4, 2) := by decide +kernel
theorem dX7_make_58 : decode cX7_make 58 = .ok (.putfield 29, 3) := by decide +kernel
theorem dX7_make_61 : decode cX7_make 61 = .ok (.aload_n 0, 1) := by decide +kernel
theorem dX7_make_62 : decode cX7_make 62 = .ok (.dup, 1) := by decide +kernel
theorem dX7_make_63 : decode cX7_make 63 = .ok (.getfield 33, 3) := by decide +kernel
theorem dX7_make_66 : decode cX7_make 66 = .ok (.iconst 1, 1) := by decide +kernel
theorem dX7_make_67 : decode cX7_make 67 = .ok (.iadd, 1) := by decide +kernel
theorem dX7_make_68 : decode cX7_make 68 = .ok (.putfield 33, 3) := by decide +kernel
theorem dX7_make_71 : decode cX7_make 71 = .ok (.iinc 3 1, 3) := by decide +kernel
theorem dX7_make_74 : decode cX7_make 74 = .ok (.goto (-51), 3) := by decide +kernel
theorem dX7_make_77 : decode cX7_make 77 = .ok (.aload_n 0, 1) := by decide +kernel
theorem dX7_make_78 : decode cX7_make 78 = .ok (.aload_n 1, 1) := by decide +kernel
theorem dX7_make_79 : decode cX7_make 79 = .ok (.invokevirtual 43, 3) := by decide +kernel
theorem dX7_make_82 : decode cX7_make 82 = .ok (.return_, 1) := by decide +kernel
theorem dX7_greatestFeeOfSets_0 : decode cX7_greatestFeeOfSets 0 = .ok (.aload_n 0, 1) := by decide +kernel
theorem dX7_greatestFeeOfSets_1 : decode cX7_greatestFeeOfSets 1 = .ok (.aload_n 1, 1) := by decide +kernel
theorem dX7_greatestFeeOfSets_2 : decode cX7_greatestFeeOfSets 2 = .ok (.iload_n 2, 1) := by decide +kernel
theorem dX7_greatestFeeOfSets_3 : decode cX7_greatestFeeOfSets 3 = .ok (.invokevirtual 21, 3) := by decide +kernel
theorem dX7_greatestFeeOfSets_6 : decode cX7_greatestFeeOfSets 6 = .ok (.iconst 0, 1) := by decide +kernel
theorem dX7_greatestFeeOfSets_7 : decode cX7_greatestFeeOfSets 7 = .ok (.istore_n 3, 1) := by decide +kernel
theorem dX7_greatestFeeOfSets_8 : decode cX7_greatestFeeOfSets 8 = .ok (.iconst 0, 1) := by decide +kernel
theorem dX7_greatestFeeOfSets_9 : decode cX7_greatestFeeOfSets 9 = .ok (.istore 4, 2) := by decide +kernel
theorem dX7_greatestFeeOfSets_11 : decode cX7_greatestFeeOfSets 11 = .ok (.iload 4, 2) := by decide +kernel
theorem dX7_greatestFeeOfSets_13 : decode cX7_greatestFeeOfSets 13 = .ok (.iconst 1, 1) := by decide +kernel
theorem dX7_greatestFeeOfSets_14 : decode cX7_greatestFeeOfSets 14 = .ok (.aload_n 1, 1) := by decide +kernel
theorem dX7_greatestFeeOfSets_15 : decode cX7_greatestFeeOfSets 15 = .ok (.getfield 36, 3) := by decide +kernel
theorem dX7_greatestFeeOfSets_18 : decode cX7_greatestFeeOfSets 18 = .ok (.ishl, 1) := by decide +kernel
theorem dX7_greatestFeeOfSets_19 : decode cX7_greatestFeeOfSets 19 = .ok (.if_icmp .ge 29, 3) := by decide +kernel
theorem dX7_greatestFeeOfSets_22 : decode cX7_greatestFeeOfSets 22 = .ok (.aload_n 0, 1) := by decide +kernel
theorem dX7_greatestFeeOfSets_23 : decode cX7_greatestFeeOfSets 23 = .ok (.iload 4, 2) := by decide +kernel
theorem dX7_greatestFeeOfSets_25 : decode cX7_greatestFeeOfSets 25 = .ok (.invokevirtual 39, 3) := by decide +kernel
theorem dX7_greatestFeeOfSets_28 : decode cX7_greatestFeeOfSets 28 = .ok (.ifCond .eq 14, 3) := by decide +kernel
theorem dX7_greatestFeeOfSets_31 : decode cX7_greatestFeeOfSets 31 = .ok (.iload_n 3, 1) := by decide +kernel
theorem dX7_greatestFeeOfSets_32 : decode cX7_greatestFeeOfSets 32 = .ok (.aload_n 1, 1) := by decide +kernel
theorem dX7_greatestFeeOfSets_33 : decode cX7_greatestFeeOfSets 33 = .ok (.iload 4, 2) := by decide +kernel
theorem dX7_greatestFeeOfSets_35 : decode cX7_greatestFeeOfSets 35 = .ok (.invokevirtual 46, 3) := by decide +kernel
theorem dX7_greatestFeeOfSets_38 : decode cX7_greatestFeeOfSets 38 = .ok (.invokestatic 50, 3) := by decide +kernel
theorem dX7_greatestFeeOfSets_41 : decode cX7_greatestFeeOfSets 41 = .ok (.istore_n 3, 1) := by decide +kernel
theorem dX7_greatestFeeOfSets_42 : decode cX7_greatestFeeOfSets 42 = .ok (.iinc 4 1, 3) := by decide +kernel
theorem dX7_greatestFeeOfSets_45 : decode cX7_greatestFeeOfSets 45 = .ok (.goto (-34), 3) := by decide +kernel
theorem dX7_greatestFeeOfSets_48 : decode cX7_greatestFeeOfSets 48 = .ok (.iload_n 3, 1) := by decide +kernel
theorem dX7_greatestFeeOfSets_49 : decode cX7_greatestFeeOfSets 49 = .ok (.ireturn, 1) := by decide +kernel
theorem dX7_placeOf_0 : decode cX7_placeOf 0 = .ok (.iconst 0, 1) := by decide +kernel
theorem dX7_placeOf_1 : decode cX7_placeOf 1 = .ok (.istore_n 2, 1) := by decide +kernel
theorem dX7_placeOf_2 : decode cX7_placeOf 2 = .ok (.iload_n 2, 1) := by decide +kernel
theorem dX7_placeOf_3 : decode cX7_placeOf 3 = .ok (.aload_n 0, 1) := by decide +kernel
theorem dX7_placeOf_4 : decode cX7_placeOf 4 = .ok (.getfield 33, 3) := by decide +kernel
theorem dX7_placeOf_7 : decode cX7_placeOf 7 = .ok (.if_icmp .ge 21, 3) := by decide +kernel
theorem dX7_placeOf_10 : decode cX7_placeOf 10 = .ok (.aload_n 0, 1) := by decide +kernel
theorem dX7_placeOf_11 : decode cX7_placeOf 11 = .ok (.getfield 9, 3) := by decide +kernel
theorem dX7_placeOf_14 : decode cX7_placeOf 14 = .ok (.iload_n 2, 1) := by decide +kernel
theorem dX7_placeOf_15 : decode cX7_placeOf 15 = .ok (.iaload, 1) := by decide +kernel
theorem dX7_placeOf_16 : decode cX7_placeOf 16 = .ok (.iload_n 1, 1) := by decide +kernel
theorem dX7_placeOf_17 : decode cX7_placeOf 17 = .ok (.if_icmp .ne 5, 3) := by decide +kernel
theorem dX7_placeOf_20 : decode cX7_placeOf 20 = .ok (.iload_n 2, 1) := by decide +kernel
theorem dX7_placeOf_21 : decode cX7_placeOf 21 = .ok (.ireturn, 1) := by decide +kernel
theorem dX7_placeOf_22 : decode cX7_placeOf 22 = .ok (.iinc 2 1, 3) := by decide +kernel
theorem dX7_placeOf_25 : decode cX7_placeOf 25 = .ok (.goto (-23), 3) := by decide +kernel
theorem dX7_placeOf_28 : decode cX7_placeOf 28 = .ok (.iconst (-1), 1) := by decide +kernel
theorem dX7_placeOf_29 : decode cX7_placeOf 29 = .ok (.ireturn, 1) := by decide +kernel
theorem dX7_findDueSets_0 : decode cX7_findDueSets 0 = .ok (.iconst 0, 1) := by decide +kernel
theorem dX7_findDueSets_1 : decode cX7_findDueSets 1 = .ok (.istore_n 3, 1) := by decide +kernel
theorem dX7_findDueSets_2 : decode cX7_findDueSets 2 = .ok (.iload_n 3, 1) := by decide +kernel
theorem dX7_findDueSets_3 : decode cX7_findDueSets 3 = .ok (.aload_n 0, 1) := by decide +kernel
theorem dX7_findDueSets_4 : decode cX7_findDueSets 4 = .ok (.getfield 18, 3) := by decide +kernel
theorem dX7_findDueSets_7 : decode cX7_findDueSets 7 = .ok (.arraylength, 1) := by decide +kernel
theorem dX7_findDueSets_8 : decode cX7_findDueSets 8 = .ok (.if_icmp .ge 60, 3) := by decide +kernel
theorem dX7_findDueSets_11 : decode cX7_findDueSets 11 = .ok (.aload_n 0, 1) := by decide +kernel
theorem dX7_findDueSets_12 : decode cX7_findDueSets 12 = .ok (.getfield 18, 3) := by decide +kernel
theorem dX7_findDueSets_15 : decode cX7_findDueSets 15 = .ok (.iload_n 3, 1) := by decide +kernel
theorem dX7_findDueSets_16 : decode cX7_findDueSets 16 = .ok (.iconst 0, 1) := by decide +kernel
theorem dX7_findDueSets_17 : decode cX7_findDueSets 17 = .ok (.iastore, 1) := by decide +kernel
theorem dX7_findDueSets_18 : decode cX7_findDueSets 18 = .ok (.iconst 0, 1) := by decide +kernel
theorem dX7_findDueSets_19 : decode cX7_findDueSets 19 = .ok (.istore 4, 2) := by decide +kernel
theorem dX7_findDueSets_21 : decode cX7_findDueSets 21 = .ok (.iload 4, 2) := by decide +kernel
theorem dX7_findDueSets_23 : decode cX7_findDueSets 23 = .ok (.aload_n 1, 1) := by decide +kernel
theorem dX7_findDueSets_24 : decode cX7_findDueSets 24 = .ok (.getfield 36, 3) := by decide +kernel
theorem dX7_findDueSets_27 : decode cX7_findDueSets 27 = .ok (.if_icmp .ge 35, 3) := by decide +kernel
theorem dX7_findDueSets_30 : decode cX7_findDueSets 30 = .ok (.aload_n 1, 1) := by decide +kernel
theorem dX7_findDueSets_31 : decode cX7_findDueSets 31 = .ok (.getfield 56, 3) := by decide +kernel
theorem dX7_findDueSets_34 : decode cX7_findDueSets 34 = .ok (.iload 4, 2) := by decide +kernel
theorem dX7_findDueSets_36 : decode cX7_findDueSets 36 = .ok (.iaload, 1) := by decide +kernel
theorem dX7_findDueSets_37 : decode cX7_findDueSets 37 = .ok (.iload_n 2, 1) := by decide +kernel
theorem dX7_findDueSets_38 : decode cX7_findDueSets 38 = .ok (.isub, 1) := by decide +kernel
theorem dX7_findDueSets_39 : decode cX7_findDueSets 39 = .ok (.iload_n 3, 1) := by decide +kernel
theorem dX7_findDueSets_40 : decode cX7_findDueSets 40 = .ok (.if_icmp .gt 16, 3) := by decide +kernel
theorem dX7_findDueSets_43 : decode cX7_findDueSets 43 = .ok (.aload_n 0, 1) := by decide +kernel
theorem dX7_findDueSets_44 : decode cX7_findDueSets 44 = .ok (.getfield 18, 3) := by decide +kernel
theorem dX7_findDueSets_47 : decode cX7_findDueSets 47 = .ok (.iload_n 3, 1) := by decide +kernel
theorem dX7_findDueSets_48 : decode cX7_findDueSets 48 = .ok (.dup2, 1) := by decide +kernel
theorem dX7_findDueSets_49 : decode cX7_findDueSets 49 = .ok (.iaload, 1) := by decide +kernel
theorem dX7_findDueSets_50 : decode cX7_findDueSets 50 = .ok (.iconst 1, 1) := by decide +kernel
theorem dX7_findDueSets_51 : decode cX7_findDueSets 51 = .ok (.iload 4, 2) := by decide +kernel
theorem dX7_findDueSets_53 : decode cX7_findDueSets 53 = .ok (.ishl, 1) := by decide +kernel
theorem dX7_findDueSets_54 : decode cX7_findDueSets 54 = .ok (.ior, 1) := by decide +kernel
theorem dX7_findDueSets_55 : decode cX7_findDueSets 55 = .ok (.iastore, 1) := by decide +kernel
theorem dX7_findDueSets_56 : decode cX7_findDueSets 56 = .ok (.iinc 4 1, 3) := by decide +kernel
theorem dX7_findDueSets_59 : decode cX7_findDueSets 59 = .ok (.goto (-38), 3) := by decide +kernel
theorem dX7_findDueSets_62 : decode cX7_findDueSets 62 = .ok (.iinc 3 1, 3) := by decide +kernel
theorem dX7_findDueSets_65 : decode cX7_findDueSets 65 = .ok (.goto (-63), 3) := by decide +kernel
theorem dX7_findDueSets_68 : decode cX7_findDueSets 68 = .ok (.return_, 1) := by decide +kernel
theorem dX7_isPossible_0 : decode cX7_isPossible 0 = .ok (.iconst 0, 1) := by decide +kernel
theorem dX7_isPossible_1 : decode cX7_isPossible 1 = .ok (.istore_n 2, 1) := by decide +kernel
theorem dX7_isPossible_2 : decode cX7_isPossible 2 = .ok (.iload_n 2, 1) := by decide +kernel
theorem dX7_isPossible_3 : decode cX7_isPossible 3 = .ok (.aload_n 0, 1) := by decide +kernel
theorem dX7_isPossible_4 : decode cX7_isPossible 4 = .ok (.getfield 18, 3) := by decide +kernel
theorem dX7_isPossible_7 : decode cX7_isPossible 7 = .ok (.arraylength, 1) := by decide +kernel
theorem dX7_isPossible_8 : decode cX7_isPossible 8 = .ok (.if_icmp .ge 26, 3) := by decide +kernel
theorem dX7_isPossible_11 : decode cX7_isPossible 11 = .ok (.iload_n 1, 1) := by decide +kernel
theorem dX7_isPossible_12 : decode cX7_isPossible 12 = .ok (.aload_n 0, 1) := by decide +kernel
theorem dX7_isPossible_13 : decode cX7_isPossible 13 = .ok (.getfield 18, 3) := by decide +kernel
theorem dX7_isPossible_16 : decode cX7_isPossible 16 = .ok (.iload_n 2, 1) := by decide +kernel
theorem dX7_isPossible_17 : decode cX7_isPossible 17 = .ok (.iaload, 1) := by decide +kernel
theorem dX7_isPossible_18 : decode cX7_isPossible 18 = .ok (.iand, 1) := by decide +kernel
theorem dX7_isPossible_19 : decode cX7_isPossible 19 = .ok (.invokestatic 59, 3) := by decide +kernel
theorem dX7_isPossible_22 : decode cX7_isPossible 22 = .ok (.iload_n 2, 1) := by decide +kernel
theorem dX7_isPossible_23 : decode cX7_isPossible 23 = .ok (.if_icmp .le 5, 3) := by decide +kernel
theorem dX7_isPossible_26 : decode cX7_isPossible 26 = .ok (.iconst 0, 1) := by decide +kernel
theorem dX7_isPossible_27 : decode cX7_isPossible 27 = .ok (.ireturn, 1) := by decide +kernel
theorem dX7_isPossible_28 : decode cX7_isPossible 28 = .ok (.iinc 2 1, 3) := by decide +kernel
theorem dX7_isPossible_31 : decode cX7_isPossible 31 = .ok (.goto (-29), 3) := by decide +kernel
theorem dX7_isPossible_34 : decode cX7_isPossible 34 = .ok (.iconst 1, 1) := by decide +kernel
theorem dX7_isPossible_35 : decode cX7_isPossible 35 = .ok (.ireturn, 1) := by decide +kernel
theorem dX7_orderVisits_0 : decode cX7_orderVisits 0 = .ok (.iconst 0, 1) := by decide +kernel
theorem dX7_orderVisits_1 : decode cX7_orderVisits 1 = .ok (.istore_n 2, 1) := by decide +kernel
theorem dX7_orderVisits_2 : decode cX7_orderVisits 2 = .ok (.iload_n 2, 1) := by decide +kernel
theorem dX7_orderVisits_3 : decode cX7_orderVisits 3 = .ok (.aload_n 1, 1) := by decide +kernel
theorem dX7_orderVisits_4 : decode cX7_orderVisits 4 = .ok (.getfield 36, 3) := by decide +kernel
theorem dX7_orderVisits_7 : decode cX7_orderVisits 7 = .ok (.if_icmp .ge 75, 3) := by decide +kernel
theorem dX7_orderVisits_10 : decode cX7_orderVisits 10 = .ok (.iconst 0, 1) := by decide +kernel
theorem dX7_orderVisits_11 : decode cX7_orderVisits 11 = .ok (.istore_n 3, 1) := by decide +kernel
theorem dX7_orderVisits_12 : decode cX7_orderVisits 12 = .ok (.iconst 0, 1) := by decide +kernel
theorem dX7_orderVisits_13 : decode cX7_orderVisits 13 = .ok (.istore 4, 2) := by decide +kernel
theorem dX7_orderVisits_15 : decode cX7_orderVisits 15 = .ok (.iload 4, 2) := by decide +kernel
theorem dX7_orderVisits_17 : decode cX7_orderVisits 17 = .ok (.aload_n 1, 1) := by decide +kernel
theorem dX7_orderVisits_18 : decode cX7_orderVisits 18 = .ok (.getfield 36, 3) := by decide +kernel
theorem dX7_orderVisits_21 : decode cX7_orderVisits 21 = .ok (.if_icmp .ge 48, 3) := by decide +kernel
theorem dX7_orderVisits_24 : decode cX7_orderVisits 24 = .ok (.aload_n 1, 1) := by decide +kernel
theorem dX7_orderVisits_25 : decode cX7_orderVisits 25 = .ok (.getfield 64, 3) := by decide +kernel
theorem dX7_orderVisits_28 : decode cX7_orderVisits 28 = .ok (.iload 4, 2) := by decide +kernel
theorem dX7_orderVisits_30 : decode cX7_orderVisits 30 = .ok (.iaload, 1) := by decide +kernel
theorem dX7_orderVisits_31 : decode cX7_orderVisits 31 = .ok (.aload_n 1, 1) := by decide +kernel
theorem dX7_orderVisits_32 : decode cX7_orderVisits 32 = .ok (.getfield 64, 3) := by decide +kernel
theorem dX7_orderVisits_35 : decode cX7_orderVisits 35 = .ok (.iload_n 2, 1) := by decide +kernel
theorem dX7_orderVisits_36 : decode cX7_orderVisits 36 = .ok (.iaload, 1) := by decide +kernel
theorem dX7_orderVisits_37 : decode cX7_orderVisits 37 = .ok (.isub, 1) := by decide +kernel
theorem dX7_orderVisits_38 : decode cX7_orderVisits 38 = .ok (.istore 5, 2) := by decide +kernel
theorem dX7_orderVisits_40 : decode cX7_orderVisits 40 = .ok (.iload 5, 2) := by decide +kernel
theorem dX7_orderVisits_42 : decode cX7_orderVisits 42 = .ok (.ifCond .gt 18, 3) := by decide +kernel
theorem dX7_orderVisits_45 : decode cX7_orderVisits 45 = .ok (.iload 5, 2) := by decide +kernel
theorem dX7_orderVisits_47 : decode cX7_orderVisits 47 = .ok (.ifCond .ne 16, 3) := by decide +kernel
theorem dX7_orderVisits_50 : decode cX7_orderVisits 50 = .ok (.aload_n 1, 1) := by decide +kernel
theorem dX7_orderVisits_51 : decode cX7_orderVisits 51 = .ok (.iload 4, 2) := by decide +kernel
theorem dX7_orderVisits_53 : decode cX7_orderVisits 53 = .ok (.iload_n 2, 1) := by decide +kernel
theorem dX7_orderVisits_54 : decode cX7_orderVisits 54 = .ok (.invokestatic 67, 3) := by decide +kernel
theorem dX7_orderVisits_57 : decode cX7_orderVisits 57 = .ok (.ifCond .eq 6, 3) := by decide +kernel
theorem dX7_orderVisits_60 : decode cX7_orderVisits 60 = .ok (.iinc 3 1, 3) := by decide +kernel
theorem dX7_orderVisits_63 : decode cX7_orderVisits 63 = .ok (.iinc 4 1, 3) := by decide +kernel
theorem dX7_orderVisits_66 : decode cX7_orderVisits 66 = .ok (.goto (-51), 3) := by decide +kernel
theorem dX7_orderVisits_69 : decode cX7_orderVisits 69 = .ok (.aload_n 0, 1) := by decide +kernel
theorem dX7_orderVisits_70 : decode cX7_orderVisits 70 = .ok (.getfield 15, 3) := by decide +kernel
theorem dX7_orderVisits_73 : decode cX7_orderVisits 73 = .ok (.iload_n 3, 1) := by decide +kernel
theorem dX7_orderVisits_74 : decode cX7_orderVisits 74 = .ok (.iload_n 2, 1) := by decide +kernel
theorem dX7_orderVisits_75 : decode cX7_orderVisits 75 = .ok (.iastore, 1) := by decide +kernel
theorem dX7_orderVisits_76 : decode cX7_orderVisits 76 = .ok (.iinc 2 1, 3) := by decide +kernel
theorem dX7_orderVisits_79 : decode cX7_orderVisits 79 = .ok (.goto (-77), 3) := by decide +kernel
theorem dX7_orderVisits_82 : decode cX7_orderVisits 82 = .ok (.return_, 1) := by decide +kernel
theorem dX7_orderHearings_0 : decode cX7_orderHearings 0 = .ok (.iconst 0, 1) := by decide +kernel
theorem dX7_orderHearings_1 : decode cX7_orderHearings 1 = .ok (.istore_n 2, 1) := by decide +kernel
theorem dX7_orderHearings_2 : decode cX7_orderHearings 2 = .ok (.iload_n 2, 1) := by decide +kernel
theorem dX7_orderHearings_3 : decode cX7_orderHearings 3 = .ok (.aload_n 1, 1) := by decide +kernel
theorem dX7_orderHearings_4 : decode cX7_orderHearings 4 = .ok (.getfield 36, 3) := by decide +kernel
theorem dX7_orderHearings_7 : decode cX7_orderHearings 7 = .ok (.if_icmp .ge 74, 3) := by decide +kernel
theorem dX7_orderHearings_10 : decode cX7_orderHearings 10 = .ok (.iconst 0, 1) := by decide +kernel
theorem dX7_orderHearings_11 : decode cX7_orderHearings 11 = .ok (.istore_n 3, 1) := by decide +kernel
theorem dX7_orderHearings_12 : decode cX7_orderHearings 12 = .ok (.iconst 0, 1) := by decide +kernel
theorem dX7_orderHearings_13 : decode cX7_orderHearings 13 = .ok (.istore 4, 2) := by decide +kernel
theorem dX7_orderHearings_15 : decode cX7_orderHearings 15 = .ok (.iload 4, 2) := by decide +kernel
theorem dX7_orderHearings_17 : decode cX7_orderHearings 17 = .ok (.aload_n 1, 1) := by decide +kernel
theorem dX7_orderHearings_18 : decode cX7_orderHearings 18 = .ok (.getfield 36, 3) := by decide +kernel
theorem dX7_orderHearings_21 : decode cX7_orderHearings 21 = .ok (.if_icmp .ge 35, 3) := by decide +kernel
theorem dX7_orderHearings_24 : decode cX7_orderHearings 24 = .ok (.aload_n 0, 1) := by decide +kernel
theorem dX7_orderHearings_25 : decode cX7_orderHearings 25 = .ok (.getfield 29, 3) := by decide +kernel
theorem dX7_orderHearings_28 : decode cX7_orderHearings 28 = .ok (.iload 4, 2) := by decide +kernel
theorem dX7_orderHearings_30 : decode cX7_orderHearings 30 = .ok (.ishr, 1) := by decide +kernel
theorem dX7_orderHearings_31 : decode cX7_orderHearings 31 = .ok (.iconst 1, 1) := by decide +kernel
theorem dX7_orderHearings_32 : decode cX7_orderHearings 32 = .ok (.iand, 1) := by decide +kernel
theorem dX7_orderHearings_33 : decode cX7_orderHearings 33 = .ok (.iconst 1, 1) := by decide +kernel
theorem dX7_orderHearings_34 : decode cX7_orderHearings 34 = .ok (.if_icmp .ne 16, 3) := by decide +kernel
theorem dX7_orderHearings_37 : decode cX7_orderHearings 37 = .ok (.aload_n 1, 1) := by decide +kernel
theorem dX7_orderHearings_38 : decode cX7_orderHearings 38 = .ok (.iload 4, 2) := by decide +kernel
theorem dX7_orderHearings_40 : decode cX7_orderHearings 40 = .ok (.iload_n 2, 1) := by decide +kernel
theorem dX7_orderHearings_41 : decode cX7_orderHearings 41 = .ok (.invokestatic 67, 3) := by decide +kernel
theorem dX7_orderHearings_44 : decode cX7_orderHearings 44 = .ok (.ifCond .eq 6, 3) := by decide +kernel
theorem dX7_orderHearings_47 : decode cX7_orderHearings 47 = .ok (.iinc 3 1, 3) := by decide +kernel
theorem dX7_orderHearings_50 : decode cX7_orderHearings 50 = .ok (.iinc 4 1, 3) := by decide +kernel
theorem dX7_orderHearings_53 : decode cX7_orderHearings 53 = .ok (.goto (-38), 3) := by decide +kernel
theorem dX7_orderHearings_56 : decode cX7_orderHearings 56 = .ok (.aload_n 0, 1) := by decide +kernel
theorem dX7_orderHearings_57 : decode cX7_orderHearings 57 = .ok (.getfield 29, 3) := by decide +kernel
theorem dX7_orderHearings_60 : decode cX7_orderHearings 60 = .ok (.iload_n 2, 1) := by decide +kernel
theorem dX7_orderHearings_61 : decode cX7_orderHearings 61 = .ok (.ishr, 1) := by decide +kernel
theorem dX7_orderHearings_62 : decode cX7_orderHearings 62 = .ok (.iconst 1, 1) := by decide +kernel
theorem dX7_orderHearings_63 : decode cX7_orderHearings 63 = .ok (.iand, 1) := by decide +kernel
theorem dX7_orderHearings_64 : decode cX7_orderHearings 64 = .ok (.iconst 1, 1) := by decide +kernel
theorem dX7_orderHearings_65 : decode cX7_orderHearings 65 = .ok (.if_icmp .ne 10, 3) := by decide +kernel
theorem dX7_orderHearings_68 : decode cX7_orderHearings 68 = .ok (.aload_n 0, 1) := by decide +kernel
theorem dX7_orderHearings_69 : decode cX7_orderHearings 69 = .ok (.getfield 9, 3) := by decide +kernel
theorem dX7_orderHearings_72 : decode cX7_orderHearings 72 = .ok (.iload_n 3, 1) := by decide +kernel
theorem dX7_orderHearings_73 : decode cX7_orderHearings 73 = .ok (.iload_n 2, 1) := by decide +kernel
theorem dX7_orderHearings_74 : decode cX7_orderHearings 74 = .ok (.iastore, 1) := by decide +kernel
theorem dX7_orderHearings_75 : decode cX7_orderHearings 75 = .ok (.iinc 2 1, 3) := by decide +kernel
theorem dX7_orderHearings_78 : decode cX7_orderHearings 78 = .ok (.goto (-76), 3) := by decide +kernel
theorem dX7_orderHearings_81 : decode cX7_orderHearings 81 = .ok (.return_, 1) := by decide +kernel
theorem dX7_isDueBefore_0 : decode cX7_isDueBefore 0 = .ok (.aload_n 0, 1) := by decide +kernel
theorem dX7_isDueBefore_1 : decode cX7_isDueBefore 1 = .ok (.getfield 56, 3) := by decide +kernel
theorem dX7_isDueBefore_4 : decode cX7_isDueBefore 4 = .ok (.iload_n 1, 1) := by decide +kernel
theorem dX7_isDueBefore_5 : decode cX7_isDueBefore 5 = .ok (.iaload, 1) := by decide +kernel
theorem dX7_isDueBefore_6 : decode cX7_isDueBefore 6 = .ok (.istore_n 3, 1) := by decide +kernel
theorem dX7_isDueBefore_7 : decode cX7_isDueBefore 7 = .ok (.aload_n 0, 1) := by decide +kernel
theorem dX7_isDueBefore_8 : decode cX7_isDueBefore 8 = .ok (.getfield 56, 3) := by decide +kernel
theorem dX7_isDueBefore_11 : decode cX7_isDueBefore 11 = .ok (.iload_n 2, 1) := by decide +kernel
theorem dX7_isDueBefore_12 : decode cX7_isDueBefore 12 = .ok (.iaload, 1) := by decide +kernel
theorem dX7_isDueBefore_13 : decode cX7_isDueBefore 13 = .ok (.istore 4, 2) := by decide +kernel
theorem dX7_isDueBefore_15 : decode cX7_isDueBefore 15 = .ok (.iload_n 3, 1) := by decide +kernel
theorem dX7_isDueBefore_16 : decode cX7_isDueBefore 16 = .ok (.iload 4, 2) := by decide +kernel
theorem dX7_isDueBefore_18 : decode cX7_isDueBefore 18 = .ok (.if_icmp .eq 17, 3) := by decide +kernel
theorem dX7_isDueBefore_21 : decode cX7_isDueBefore 21 = .ok (.iload_n 3, 1) := by decide +kernel
theorem dX7_isDueBefore_22 : decode cX7_isDueBefore 22 = .ok (.iload 4, 2) := by decide +kernel
theorem dX7_isDueBefore_24 : decode cX7_isDueBefore 24 = .ok (.if_icmp .ge 7, 3) := by decide +kernel
theorem dX7_isDueBefore_27 : decode cX7_isDueBefore 27 = .ok (.iconst 1, 1) := by decide +kernel
theorem dX7_isDueBefore_28 : decode cX7_isDueBefore 28 = .ok (.goto 17, 3) := by decide +kernel
theorem dX7_isDueBefore_31 : decode cX7_isDueBefore 31 = .ok (.iconst 0, 1) := by decide +kernel
theorem dX7_isDueBefore_32 : decode cX7_isDueBefore 32 = .ok (.goto 13, 3) := by decide +kernel
theorem dX7_isDueBefore_35 : decode cX7_isDueBefore 35 = .ok (.iload_n 1, 1) := by decide +kernel
theorem dX7_isDueBefore_36 : decode cX7_isDueBefore 36 = .ok (.iload_n 2, 1) := by decide +kernel
theorem dX7_isDueBefore_37 : decode cX7_isDueBefore 37 = .ok (.if_icmp .ge 7, 3) := by decide +kernel
theorem dX7_isDueBefore_40 : decode cX7_isDueBefore 40 = .ok (.iconst 1, 1) := by decide +kernel
theorem dX7_isDueBefore_41 : decode cX7_isDueBefore 41 = .ok (.goto 4, 3) := by decide +kernel
theorem dX7_isDueBefore_44 : decode cX7_isDueBefore 44 = .ok (.iconst 0, 1) := by decide +kernel
theorem dX7_isDueBefore_45 : decode cX7_isDueBefore 45 = .ok (.ireturn, 1) := by decide +kernel
theorem dX8_init_0 : decode cX8_init 0 = .ok (.aload_n 0, 1) := by decide +kernel
theorem dX8_init_1 : decode cX8_init 1 = .ok (.invokespecial 3, 3) := by decide +kernel
theorem dX8_init_4 : decode cX8_init 4 = .ok (.aload_n 0, 1) := by decide +kernel
theorem dX8_init_5 : decode cX8_init 5 = .ok (.new 9, 3) := by decide +kernel
theorem dX8_init_8 : decode cX8_init 8 = .ok (.dup, 1) := by decide +kernel
theorem dX8_init_9 : decode cX8_init 9 = .ok (.invokespecial 11, 3) := by decide +kernel
theorem dX8_init_12 : decode cX8_init 12 = .ok (.putfield 12, 3) := by decide +kernel
theorem dX8_init_15 : decode cX8_init 15 = .ok (.aload_n 0, 1) := by decide +kernel
theorem dX8_init_16 : decode cX8_init 16 = .ok (.new 18, 3) := by decide +kernel
theorem dX8_init_19 : decode cX8_init 19 = .ok (.dup, 1) := by decide +kernel
theorem dX8_init_20 : decode cX8_init 20 = .ok (.invokespecial 20, 3) := by decide +kernel
theorem dX8_init_23 : decode cX8_init 23 = .ok (.putfield 21, 3) := by decide +kernel
theorem dX8_init_26 : decode cX8_init 26 = .ok (.aload_n 0, 1) := by decide +kernel
theorem dX8_init_27 : decode cX8_init 27 = .ok (.new 25, 3) := by decide +kernel
theorem dX8_init_30 : decode cX8_init 30 = .ok (.dup, 1) := by decide +kernel
theorem dX8_init_31 : decode cX8_init 31 = .ok (.invokespecial 27, 3) := by decide +kernel
theorem dX8_init_34 : decode cX8_init 34 = .ok (.putfield 28, 3) := by decide +kernel
theorem dX8_init_37 : decode cX8_init 37 = .ok (.aload_n 0, 1) := by decide +kernel
theorem dX8_init_38 : decode cX8_init 38 = .ok (.iconst 4, 1) := by decide +kernel
theorem dX8_init_39 : decode cX8_init 39 = .ok (.newarray .int, 2) := by decide +kernel
theorem dX8_init_41 : decode cX8_init 41 = .ok (.putfield 32, 3) := by decide +kernel
theorem dX8_init_44 : decode cX8_init 44 = .ok (.return_, 1) := by decide +kernel
theorem dX8_copyFrom_0 : decode cX8_copyFrom 0 = .ok (.aload_n 0, 1) := by decide +kernel
theorem dX8_copyFrom_1 : decode cX8_copyFrom 1 = .ok (.aload_n 1, 1) := by decide +kernel
theorem dX8_copyFrom_2 : decode cX8_copyFrom 2 = .ok (.getfield 36, 3) := by decide +kernel
theorem dX8_copyFrom_5 : decode cX8_copyFrom 5 = .ok (.putfield 36, 3) := by decide +kernel
theorem dX8_copyFrom_8 : decode cX8_copyFrom 8 = .ok (.aload_n 0, 1) := by decide +kernel
theorem dX8_copyFrom_9 : decode cX8_copyFrom 9 = .ok (.getfield 12, 3) := by decide +kernel
theorem dX8_copyFrom_12 : decode cX8_copyFrom 12 = .ok (.aload_n 1, 1) := by decide +kernel
theorem dX8_copyFrom_13 : decode cX8_copyFrom 13 = .ok (.getfield 12, 3) := by decide +kernel
theorem dX8_copyFrom_16 : decode cX8_copyFrom 16 = .ok (.invokevirtual 40, 3) := by decide +kernel
theorem dX8_copyFrom_19 : decode cX8_copyFrom 19 = .ok (.aload_n 0, 1) := by decide +kernel
theorem dX8_copyFrom_20 : decode cX8_copyFrom 20 = .ok (.getfield 21, 3) := by decide +kernel
theorem dX8_copyFrom_23 : decode cX8_copyFrom 23 = .ok (.aload_n 1, 1) := by decide +kernel
theorem dX8_copyFrom_24 : decode cX8_copyFrom 24 = .ok (.getfield 21, 3) := by decide +kernel
theorem dX8_copyFrom_27 : decode cX8_copyFrom 27 = .ok (.invokevirtual 44, 3) := by decide +kernel
theorem dX8_copyFrom_30 : decode cX8_copyFrom 30 = .ok (.aload_n 0, 1) := by decide +kernel
theorem dX8_copyFrom_31 : decode cX8_copyFrom 31 = .ok (.getfield 28, 3) := by decide +kernel
theorem dX8_copyFrom_34 : decode cX8_copyFrom 34 = .ok (.aload_n 1, 1) := by decide +kernel
theorem dX8_copyFrom_35 : decode cX8_copyFrom 35 = .ok (.getfield 28, 3) := by decide +kernel
theorem dX8_copyFrom_38 : decode cX8_copyFrom 38 = .ok (.invokevirtual 47, 3) := by decide +kernel
theorem dX8_copyFrom_41 : decode cX8_copyFrom 41 = .ok (.aload_n 0, 1) := by decide +kernel
theorem dX8_copyFrom_42 : decode cX8_copyFrom 42 = .ok (.aload_n 1, 1) := by decide +kernel
theorem dX8_copyFrom_43 : decode cX8_copyFrom 43 = .ok (.getfield 50, 3) := by decide +kernel
theorem dX8_copyFrom_46 : decode cX8_copyFrom 46 = .ok (.putfield 50, 3) := by decide +kernel
theorem dX8_copyFrom_49 : decode cX8_copyFrom 49 = .ok (.aload_n 0, 1) := by decide +kernel
theorem dX8_copyFrom_50 : decode cX8_copyFrom 50 = .ok (.aload_n 1, 1) := by decide +kernel
theorem dX8_copyFrom_51 : decode cX8_copyFrom 51 = .ok (.getfield 53, 3) := by decide +kernel
theorem dX8_copyFrom_54 : decode cX8_copyFrom 54 = .ok (.putfield 53, 3) := by decide +kernel
theorem dX8_copyFrom_57 : decode cX8_copyFrom 57 = .ok (.aload_n 1, 1) := by decide +kernel
theorem dX8_copyFrom_58 : decode cX8_copyFrom 58 = .ok (.getfield 32, 3) := by decide +kernel
theorem dX8_copyFrom_61 : decode cX8_copyFrom 61 = .ok (.iconst 0, 1) := by decide +kernel
theorem dX8_copyFrom_62 : decode cX8_copyFrom 62 = .ok (.aload_n 0, 1) := by decide +kernel
theorem dX8_copyFrom_63 : decode cX8_copyFrom 63 = .ok (.getfield 32, 3) := by decide +kernel
theorem dX8_copyFrom_66 : decode cX8_copyFrom 66 = .ok (.iconst 0, 1) := by decide +kernel
theorem dX8_copyFrom_67 : decode cX8_copyFrom 67 = .ok (.aload_n 0, 1) := by decide +kernel
theorem dX8_copyFrom_68 : decode cX8_copyFrom 68 = .ok (.getfield 32, 3) := by decide +kernel
theorem dX8_copyFrom_71 : decode cX8_copyFrom 71 = .ok (.arraylength, 1) := by decide +kernel
theorem dX8_copyFrom_72 : decode cX8_copyFrom 72 = .ok (.invokestatic 56, 3) := by decide +kernel
theorem dX8_copyFrom_75 : decode cX8_copyFrom 75 = .ok (.aload_n 0, 1) := by decide +kernel
theorem dX8_copyFrom_76 : decode cX8_copyFrom 76 = .ok (.aload_n 1, 1) := by decide +kernel
theorem dX8_copyFrom_77 : decode cX8_copyFrom 77 = .ok (.getfield 62, 3) := by decide +kernel
theorem dX8_copyFrom_80 : decode cX8_copyFrom 80 = .ok (.putfield 62, 3) := by decide +kernel
theorem dX8_copyFrom_83 : decode cX8_copyFrom 83 = .ok (.aload_n 0, 1) := by decide +kernel
theorem dX8_copyFrom_84 : decode cX8_copyFrom 84 = .ok (.aload_n 1, 1) := by decide +kernel
theorem dX8_copyFrom_85 : decode cX8_copyFrom 85 = .ok (.getfield 65, 3) := by decide +kernel
theorem dX8_copyFrom_88 : decode cX8_copyFrom 88 = .ok (.putfield 65, 3) := by decide +kernel
theorem dX8_copyFrom_91 : decode cX8_copyFrom 91 = .ok (.return_, 1) := by decide +kernel
theorem dX8_takeBrief_0 : decode cX8_takeBrief 0 = .ok (.aload_n 0, 1) := by decide +kernel
theorem dX8_takeBrief_1 : decode cX8_takeBrief 1 = .ok (.dup, 1) := by decide +kernel
theorem dX8_takeBrief_2 : decode cX8_takeBrief 2 = .ok (.getfield 50, 3) := by decide +kernel
theorem dX8_takeBrief_5 : decode cX8_takeBrief 5 = .ok (.iload_n 3, 1) := by decide +kernel
theorem dX8_takeBrief_6 : decode cX8_takeBrief 6 = .ok (.iadd, 1) := by decide +kernel
theorem dX8_takeBrief_7 : decode cX8_takeBrief 7 = .ok (.putfield 50, 3) := by decide +kernel
theorem dX8_takeBrief_10 : decode cX8_takeBrief 10 = .ok (.aload_n 0, 1) := by decide +kernel
theorem dX8_takeBrief_11 : decode cX8_takeBrief 11 = .ok (.getfield 21, 3) := by decide +kernel
theorem dX8_takeBrief_14 : decode cX8_takeBrief 14 = .ok (.iload_n 1, 1) := by decide +kernel
theorem dX8_takeBrief_15 : decode cX8_takeBrief 15 = .ok (.aload_n 0, 1) := by decide +kernel
theorem dX8_takeBrief_16 : decode cX8_takeBrief 16 = .ok (.getfield 36, 3) := by decide +kernel
theorem dX8_takeBrief_19 : decode cX8_takeBrief 19 = .ok (.iload_n 2, 1) := by decide +kernel
theorem dX8_takeBrief_20 : decode cX8_takeBrief 20 = .ok (.iadd, 1) := by decide +kernel
theorem dX8_takeBrief_21 : decode cX8_takeBrief 21 = .ok (.iload_n 3, 1) := by decide +kernel
theorem dX8_takeBrief_22 : decode cX8_takeBrief 22 = .ok (.iload 4, 2) := by decide +kernel
theorem dX8_takeBrief_24 : decode cX8_takeBrief 24 = .ok (.invokevirtual 68, 3) := by decide +kernel
theorem dX8_takeBrief_27 : decode cX8_takeBrief 27 = .ok (.ireturn, 1) := by decide +kernel
theorem dX8_giveBack_0 : decode cX8_giveBack 0 = .ok (.aload_n 0, 1) := by decide +kernel
theorem dX8_giveBack_1 : decode cX8_giveBack 1 = .ok (.getfield 21, 3) := by decide +kernel
theorem dX8_giveBack_4 : decode cX8_giveBack 4 = .ok (.getfield 72, 3) := by decide +kernel
theorem dX8_giveBack_7 : decode cX8_giveBack 7 = .ok (.iload_n 1, 1) := by decide +kernel
theorem dX8_giveBack_8 : decode cX8_giveBack 8 = .ok (.iaload, 1) := by decide +kernel
theorem dX8_giveBack_9 : decode cX8_giveBack 9 = .ok (.iconst 2, 1) := by decide +kernel
theorem dX8_giveBack_10 : decode cX8_giveBack 10 = .ok (.idiv, 1) := by decide +kernel
theorem dX8_giveBack_11 : decode cX8_giveBack 11 = .ok (.istore_n 2, 1) := by decide +kernel
theorem dX8_giveBack_12 : decode cX8_giveBack 12 = .ok (.aload_n 0, 1) := by decide +kernel
theorem dX8_giveBack_13 : decode cX8_giveBack 13 = .ok (.dup, 1) := by decide +kernel
theorem dX8_giveBack_14 : decode cX8_giveBack 14 = .ok (.getfield 53, 3) := by decide +kernel
theorem dX8_giveBack_17 : decode cX8_giveBack 17 = .ok (.iload_n 2, 1) := by decide +kernel
theorem dX8_giveBack_18 : decode cX8_giveBack 18 = .ok (.iadd, 1) := by decide +kernel
theorem dX8_giveBack_19 : decode cX8_giveBack 19 = .ok (.putfield 53, 3) := by decide +kernel
theorem dX8_giveBack_22 : decode cX8_giveBack 22 = .ok (.aload_n 0, 1) := by decide +kernel
theorem dX8_giveBack_23 : decode cX8_giveBack 23 = .ok (.getfield 21, 3) := by decide +kernel
theorem dX8_giveBack_26 : decode cX8_giveBack 26 = .ok (.iload_n 1, 1) := by decide +kernel
theorem dX8_giveBack_27 : decode cX8_giveBack 27 = .ok (.invokevirtual 75, 3) := by decide +kernel
theorem dX8_giveBack_30 : decode cX8_giveBack 30 = .ok (.iload_n 2, 1) := by decide +kernel
theorem dX8_giveBack_31 : decode cX8_giveBack 31 = .ok (.ireturn, 1) := by decide +kernel
theorem dX8_closeHearing_0 : decode cX8_closeHearing 0 = .ok (.ldc 79, 2) := by decide +kernel
theorem dX8_closeHearing_2 : decode cX8_closeHearing 2 = .ok (.iload_n 2, 1) := by decide +kernel
theorem dX8_closeHearing_3 : decode cX8_closeHearing 3 = .ok (.invokevirtual 81, 3) := by decide +kernel
theorem dX8_closeHearing_6 : decode cX8_closeHearing 6 = .ok (.istore_n 3, 1) := by decide +kernel
theorem dX8_closeHearing_7 : decode cX8_closeHearing 7 = .ok (.iload_n 3, 1) := by decide +kernel
theorem dX8_closeHearing_8 : decode cX8_closeHearing 8 = .ok (.ifCond .lt 22, 3) := by decide +kernel
theorem dX8_closeHearing_11 : decode cX8_closeHearing 11 = .ok (.iload_n 3, 1) := by decide +kernel
theorem dX8_closeHearing_12 : decode cX8_closeHearing 12 = .ok (.aload_n 0, 1) := by decide +kernel
theorem dX8_closeHearing_13 : decode cX8_closeHearing 13 = .ok (.getfield 32, 3) := by decide +kernel
theorem dX8_closeHearing_16 : decode cX8_closeHearing 16 = .ok (.arraylength, 1) := by decide +kernel
theorem dX8_closeHearing_17 : decode cX8_closeHearing 17 = .ok (.if_icmp .ge 13, 3) := by decide +kernel
theorem dX8_closeHearing_20 : decode cX8_closeHearing 20 = .ok (.aload_n 0, 1) := by decide +kernel
theorem dX8_closeHearing_21 : decode cX8_closeHearing 21 = .ok (.getfield 32, 3) := by decide +kernel
theorem dX8_closeHearing_24 : decode cX8_closeHearing 24 = .ok (.iload_n 3, 1) := by decide +kernel
theorem dX8_closeHearing_25 : decode cX8_closeHearing 25 = .ok (.dup2, 1) := by decide +kernel
theorem dX8_closeHearing_26 : decode cX8_closeHearing 26 = .ok (.iaload, 1) := by decide +kernel
theorem dX8_closeHearing_27 : decode cX8_closeHearing 27 = .ok (.iconst 1, 1) := by decide +kernel
theorem dX8_closeHearing_28 : decode cX8_closeHearing 28 = .ok (.iadd, 1) := by decide +kernel
theorem dX8_closeHearing_29 : decode cX8_closeHearing 29 = .ok (.iastore, 1) := by decide +kernel
theorem dX8_closeHearing_30 : decode cX8_closeHearing 30 = .ok (.iload_n 2, 1) := by decide +kernel
theorem dX8_closeHearing_31 : decode cX8_closeHearing 31 = .ok (.bipush 103, 2) := by decide +kernel
theorem dX8_closeHearing_33 : decode cX8_closeHearing 33 = .ok (.if_icmp .ne 28, 3) := by decide +kernel
theorem dX8_closeHearing_36 : decode cX8_closeHearing 36 = .ok (.aload_n 0, 1) := by decide +kernel
theorem dX8_closeHearing_37 : decode cX8_closeHearing 37 = .ok (.getfield 12, 3) := by decide +kernel
theorem dX8_closeHearing_40 : decode cX8_closeHearing 40 = .ok (.aload_n 0, 1) := by decide +kernel
theorem dX8_closeHearing_41 : decode cX8_closeHearing 41 = .ok (.getfield 21, 3) := by decide +kernel
theorem dX8_closeHearing_44 : decode cX8_closeHearing 44 = .ok (.getfield 87, 3) := by decide +kernel
theorem dX8_closeHearing_47 : decode cX8_closeHearing 47 = .ok (.iload_n 1, 1) := by decide +kernel
theorem dX8_closeHearing_48 : decode cX8_closeHearing 48 = .ok (.iaload, 1) := by decide +kernel
theorem dX8_closeHearing_49 : decode cX8_closeHearing 49 = .ok (.aload_n 0, 1) := by decide +kernel
theorem dX8_closeHearing_50 : decode cX8_closeHearing 50 = .ok (.getfield 21, 3) := by decide +kernel
theorem dX8_closeHearing_53 : decode cX8_closeHearing 53 = .ok (.getfield 89, 3) := by decide +kernel
theorem dX8_closeHearing_56 : decode cX8_closeHearing 56 = .ok (.iload_n 1, 1) := by decide +kernel
theorem dX8_closeHearing_57 : decode cX8_closeHearing 57 = .ok (.iaload, 1) := by decide +kernel
theorem dX8_closeHearing_58 : decode cX8_closeHearing 58 = .ok (.invokevirtual 92, 3) := by decide +kernel
theorem dX8_closeHearing_61 : decode cX8_closeHearing 61 = .ok (.iload_n 2, 1) := by decide +kernel
theorem dX8_closeHearing_62 : decode cX8_closeHearing 62 = .ok (.bipush 109, 2) := by decide +kernel
theorem dX8_closeHearing_64 : decode cX8_closeHearing 64 = .ok (.if_icmp .ne 23, 3) := by decide +kernel
theorem dX8_closeHearing_67 : decode cX8_closeHearing 67 = .ok (.aload_n 0, 1) := by decide +kernel
theorem dX8_closeHearing_68 : decode cX8_closeHearing 68 = .ok (.dup, 1) := by decide +kernel
theorem dX8_closeHearing_69 : decode cX8_closeHearing 69 = .ok (.getfield 53, 3) := by decide +kernel
theorem dX8_closeHearing_72 : decode cX8_closeHearing 72 = .ok (.aload_n 0, 1) := by decide +kernel
theorem dX8_closeHearing_73 : decode cX8_closeHearing 73 = .ok (.getfield 21, 3) := by decide +kernel
theorem dX8_closeHearing_76 : decode cX8_closeHearing 76 = .ok (.getfield 72, 3) := by decide +kernel
theorem dX8_closeHearing_79 : decode cX8_closeHearing 79 = .ok (.iload_n 1, 1) := by decide +kernel
theorem dX8_closeHearing_80 : decode cX8_closeHearing 80 = .ok (.iaload, 1) := by decide +kernel
theorem dX8_closeHearing_81 : decode cX8_closeHearing 81 = .ok (.iconst 2, 1) := by decide +kernel
theorem dX8_closeHearing_82 : decode cX8_closeHearing 82 = .ok (.idiv, 1) := by decide +kernel
theorem dX8_closeHearing_83 : decode cX8_closeHearing 83 = .ok (.iadd, 1) := by decide +kernel
theorem dX8_closeHearing_84 : decode cX8_closeHearing 84 = .ok (.putfield 53, 3) := by decide +kernel
theorem dX8_closeHearing_87 : decode cX8_closeHearing 87 = .ok (.aload_n 0, 1) := by decide +kernel
theorem dX8_closeHearing_88 : decode cX8_closeHearing 88 = .ok (.getfield 21, 3) := by decide +kernel
theorem dX8_closeHearing_91 : decode cX8_closeHearing 91 = .ok (.iload_n 1, 1) := by decide +kernel
theorem dX8_closeHearing_92 : decode cX8_closeHearing 92 = .ok (.invokevirtual 75, 3) := by decide +kernel
theorem dX8_closeHearing_95 : decode cX8_closeHearing 95 = .ok (.return_, 1) := by decide +kernel
theorem dX8_letLapse_0 : decode cX8_letLapse 0 = .ok (.aload_n 0, 1) := by decide +kernel
theorem dX8_letLapse_1 : decode cX8_letLapse 1 = .ok (.getfield 21, 3) := by decide +kernel
theorem dX8_letLapse_4 : decode cX8_letLapse 4 = .ok (.getfield 96, 3) := by decide +kernel
theorem dX8_letLapse_7 : decode cX8_letLapse 7 = .ok (.iconst 1, 1) := by decide +kernel
theorem dX8_letLapse_8 : decode cX8_letLapse 8 = .ok (.isub, 1) := by decide +kernel
theorem dX8_letLapse_9 : decode cX8_letLapse 9 = .ok (.istore_n 1, 1) := by decide +kernel
theorem dX8_letLapse_10 : decode cX8_letLapse 10 = .ok (.iload_n 1, 1) := by decide +kernel
theorem dX8_letLapse_11 : decode cX8_letLapse 11 = .ok (.ifCond .lt 61, 3) := by decide +kernel
theorem dX8_letLapse_14 : decode cX8_letLapse 14 = .ok (.aload_n 0, 1) := by decide +kernel
theorem dX8_letLapse_15 : decode cX8_letLapse 15 = .ok (.getfield 21, 3) := by decide +kernel
theorem dX8_letLapse_18 : decode cX8_letLapse 18 = .ok (.getfield 99, 3) := by decide +kernel
theorem dX8_letLapse_21 : decode cX8_letLapse 21 = .ok (.iload_n 1, 1) := by decide +kernel
theorem dX8_letLapse_22 : decode cX8_letLapse 22 = .ok (.iaload, 1) := by decide +kernel
theorem dX8_letLapse_23 : decode cX8_letLapse 23 = .ok (.aload_n 0, 1) := by decide +kernel
theorem dX8_letLapse_24 : decode cX8_letLapse 24 = .ok (.getfield 36, 3) := by decide +kernel
theorem dX8_letLapse_27 : decode cX8_letLapse 27 = .ok (.if_icmp .gt 39, 3) := by decide +kernel
theorem dX8_letLapse_30 : decode cX8_letLapse 30 = .ok (.aload_n 0, 1) := by decide +kernel
theorem dX8_letLapse_31 : decode cX8_letLapse 31 = .ok (.dup, 1) := by decide +kernel
theorem dX8_letLapse_32 : decode cX8_letLapse 32 = .ok (.getfield 53, 3) := by decide +kernel
theorem dX8_letLapse_35 : decode cX8_letLapse 35 = .ok (.aload_n 0, 1) := by decide +kernel
theorem dX8_letLapse_36 : decode cX8_letLapse 36 = .ok (.getfield 21, 3) := by decide +kernel
theorem dX8_letLapse_39 : decode cX8_letLapse 39 = .ok (.getfield 72, 3) := by decide +kernel
theorem dX8_letLapse_42 : decode cX8_letLapse 42 = .ok (.iload_n 1, 1) := by decide +kernel
theorem dX8_letLapse_43 : decode cX8_letLapse 43 = .ok (.iaload, 1) := by decide +kernel
theorem dX8_letLapse_44 : decode cX8_letLapse 44 = .ok (.iadd, 1) := by decide +kernel
theorem dX8_letLapse_45 : decode cX8_letLapse 45 = .ok (.putfield 53, 3) := by decide +kernel
theorem dX8_letLapse_48 : decode cX8_letLapse 48 = .ok (.aload_n 0, 1) := by decide +kernel
theorem dX8_letLapse_49 : decode cX8_letLapse 49 = .ok (.dup, 1) := by decide +kernel
theorem dX8_letLapse_50 : decode cX8_letLapse 50 = .ok (.getfield 62, 3) := by decide +kernel
theorem dX8_letLapse_53 : decode cX8_letLapse 53 = .ok (.iconst 1, 1) := by decide +kernel
theorem dX8_letLapse_54 : decode cX8_letLapse 54 = .ok (.iadd, 1) := by decide +kernel
theorem dX8_letLapse_55 : decode cX8_letLapse 55 = .ok (.putfield 62, 3) := by decide +kernel
theorem dX8_letLapse_58 : decode cX8_letLapse 58 = .ok (.aload_n 0, 1) := by decide +kernel
theorem dX8_letLapse_59 : decode cX8_letLapse 59 = .ok (.getfield 21, 3) := by decide +kernel
theorem dX8_letLapse_62 : decode cX8_letLapse 62 = .ok (.iload_n 1, 1) := by decide +kernel
theorem dX8_letLapse_63 : decode cX8_letLapse 63 = .ok (.invokevirtual 75, 3) := by decide +kernel
theorem dX8_letLapse_66 : decode cX8_letLapse 66 = .ok (.iinc 1 (-1), 3) := by decide +kernel
theorem dX8_letLapse_69 : decode cX8_letLapse 69 = .ok (.goto (-59), 3) := by decide +kernel
theorem dX8_letLapse_72 : decode cX8_letLapse 72 = .ok (.return_, 1) := by decide +kernel
theorem dX8_allHearings_0 : decode cX8_allHearings 0 = .ok (.iconst 0, 1) := by decide +kernel
theorem dX8_allHearings_1 : decode cX8_allHearings 1 = .ok (.istore_n 1, 1) := by decide +kernel
theorem dX8_allHearings_2 : decode cX8_allHearings 2 = .ok (.iconst 0, 1) := by decide +kernel
theorem dX8_allHearings_3 : decode cX8_allHearings 3 = .ok (.istore_n 2, 1) := by decide +kernel
theorem dX8_allHearings_4 : decode cX8_allHearings 4 = .ok (.iload_n 2, 1) := by decide +kernel
theorem dX8_allHearings_5 : decode cX8_allHearings 5 = .ok (.aload_n 0, 1) := by decide +kernel
theorem dX8_allHearings_6 : decode cX8_allHearings 6 = .ok (.getfield 32, 3) := by decide +kernel
theorem dX8_allHearings_9 : decode cX8_allHearings 9 = .ok (.arraylength, 1) := by decide +kernel
theorem dX8_allHearings_10 : decode cX8_allHearings 10 = .ok (.if_icmp .ge 18, 3) := by decide +kernel
theorem dX8_allHearings_13 : decode cX8_allHearings 13 = .ok (.iload_n 1, 1) := by decide +kernel
theorem dX8_allHearings_14 : decode cX8_allHearings 14 = .ok (.aload_n 0, 1) := by decide +kernel
theorem dX8_allHearings_15 : decode cX8_allHearings 15 = .ok (.getfield 32, 3) := by decide +kernel
theorem dX8_allHearings_18 : decode cX8_allHearings 18 = .ok (.iload_n 2, 1) := by decide +kernel
theorem dX8_allHearings_19 : decode cX8_allHearings 19 = .ok (.iaload, 1) := by decide +kernel
theorem dX8_allHearings_20 : decode cX8_allHearings 20 = .ok (.iadd, 1) := by decide +kernel
theorem dX8_allHearings_21 : decode cX8_allHearings 21 = .ok (.istore_n 1, 1) := by decide +kernel
theorem dX8_allHearings_22 : decode cX8_allHearings 22 = .ok (.iinc 2 1, 3) := by decide +kernel
theorem dX8_allHearings_25 : decode cX8_allHearings 25 = .ok (.goto (-21), 3) := by decide +kernel
theorem dX8_allHearings_28 : decode cX8_allHearings 28 = .ok (.iload_n 1, 1) := by decide +kernel
theorem dX8_allHearings_29 : decode cX8_allHearings 29 = .ok (.ireturn, 1) := by decide +kernel
theorem dX9_init_0 : decode cX9_init 0 = .ok (.aload_n 0, 1) := by decide +kernel
theorem dX9_init_1 : decode cX9_init 1 = .ok (.invokespecial 3, 3) := by decide +kernel
theorem dX9_init_4 : decode cX9_init 4 = .ok (.aload_n 0, 1) := by decide +kernel
theorem dX9_init_5 : decode cX9_init 5 = .ok (.bipush 12, 2) := by decide +kernel
theorem dX9_init_7 : decode cX9_init 7 = .ok (.newarray .int, 2) := by decide +kernel
theorem dX9_init_9 : decode cX9_init 9 = .ok (.putfield 9, 3) := by decide +kernel
theorem dX9_init_12 : decode cX9_init 12 = .ok (.aload_n 0, 1) := by decide +kernel
theorem dX9_init_13 : decode cX9_init 13 = .ok (.bipush 12, 2) := by decide +kernel
theorem dX9_init_15 : decode cX9_init 15 = .ok (.newarray .int, 2) := by decide +kernel
theorem dX9_init_17 : decode cX9_init 17 = .ok (.putfield 15, 3) := by decide +kernel
theorem dX9_init_20 : decode cX9_init 20 = .ok (.aload_n 0, 1) := by decide +kernel
theorem dX9_init_21 : decode cX9_init 21 = .ok (.bipush 12, 2) := by decide +kernel
theorem dX9_init_23 : decode cX9_init 23 = .ok (.newarray .boolean, 2) := by decide +kernel
theorem dX9_init_25 : decode cX9_init 25 = .ok (.putfield 18, 3) := by decide +kernel
theorem dX9_init_28 : decode cX9_init 28 = .ok (.return_, 1) := by decide +kernel
theorem dX9_copyFrom_0 : decode cX9_copyFrom 0 = .ok (.aload_n 0, 1) := by decide +kernel
theorem dX9_copyFrom_1 : decode cX9_copyFrom 1 = .ok (.aload_n 1, 1) := by decide +kernel
theorem dX9_copyFrom_2 : decode cX9_copyFrom 2 = .ok (.getfield 22, 3) := by decide +kernel
theorem dX9_copyFrom_5 : decode cX9_copyFrom 5 = .ok (.putfield 22, 3) := by decide +kernel
theorem dX9_copyFrom_8 : decode cX9_copyFrom 8 = .ok (.aload_n 1, 1) := by decide +kernel
theorem dX9_copyFrom_9 : decode cX9_copyFrom 9 = .ok (.getfield 9, 3) := by decide +kernel
theorem dX9_copyFrom_12 : decode cX9_copyFrom 12 = .ok (.iconst 0, 1) := by decide +kernel
theorem dX9_copyFrom_13 : decode cX9_copyFrom 13 = .ok (.aload_n 0, 1) := by decide +kernel
theorem dX9_copyFrom_14 : decode cX9_copyFrom 14 = .ok (.getfield 9, 3) := by decide +kernel
theorem dX9_copyFrom_17 : decode cX9_copyFrom 17 = .ok (.iconst 0, 1) := by decide +kernel
theorem dX9_copyFrom_18 : decode cX9_copyFrom 18 = .ok (.bipush 12, 2) := by decide +kernel
theorem dX9_copyFrom_20 : decode cX9_copyFrom 20 = .ok (.invokestatic 26, 3) := by decide +kernel
theorem dX9_copyFrom_23 : decode cX9_copyFrom 23 = .ok (.aload_n 1, 1) := by decide +kernel
theorem dX9_copyFrom_24 : decode cX9_copyFrom 24 = .ok (.getfield 15, 3) := by decide +kernel
theorem dX9_copyFrom_27 : decode cX9_copyFrom 27 = .ok (.iconst 0, 1) := by decide +kernel
theorem dX9_copyFrom_28 : decode cX9_copyFrom 28 = .ok (.aload_n 0, 1) := by decide +kernel
theorem dX9_copyFrom_29 : decode cX9_copyFrom 29 = .ok (.getfield 15, 3) := by decide +kernel
theorem dX9_copyFrom_32 : decode cX9_copyFrom 32 = .ok (.iconst 0, 1) := by decide +kernel
theorem dX9_copyFrom_33 : decode cX9_copyFrom 33 = .ok (.bipush 12, 2) := by decide +kernel
theorem dX9_copyFrom_35 : decode cX9_copyFrom 35 = .ok (.invokestatic 26, 3) := by decide +kernel
theorem dX9_copyFrom_38 : decode cX9_copyFrom 38 = .ok (.iconst 0, 1) := by decide +kernel
theorem dX9_copyFrom_39 : decode cX9_copyFrom 39 = .ok (.istore_n 2, 1) := by decide +kernel
theorem dX9_copyFrom_40 : decode cX9_copyFrom 40 = .ok (.iload_n 2, 1) := by decide +kernel
theorem dX9_copyFrom_41 : decode cX9_copyFrom 41 = .ok (.bipush 12, 2) := by decide +kernel
theorem dX9_copyFrom_43 : decode cX9_copyFrom 43 = .ok (.if_icmp .ge 21, 3) := by decide +kernel
theorem dX9_copyFrom_46 : decode cX9_copyFrom 46 = .ok (.aload_n 0, 1) := by decide +kernel
theorem dX9_copyFrom_47 : decode cX9_copyFrom 47 = .ok (.getfield 18, 3) := by decide +kernel
theorem dX9_copyFrom_50 : decode cX9_copyFrom 50 = .ok (.iload_n 2, 1) := by decide +kernel
theorem dX9_copyFrom_51 : decode cX9_copyFrom 51 = .ok (.aload_n 1, 1) := by decide +kernel
theorem dX9_copyFrom_52 : decode cX9_copyFrom 52 = .ok (.getfield 18, 3) := by decide +kernel
theorem dX9_copyFrom_55 : decode cX9_copyFrom 55 = .ok (.iload_n 2, 1) := by decide +kernel
theorem dX9_copyFrom_56 : decode cX9_copyFrom 56 = .ok (.baload, 1) := by decide +kernel
theorem dX9_copyFrom_57 : decode cX9_copyFrom 57 = .ok (.bastore, 1) := by decide +kernel
theorem dX9_copyFrom_58 : decode cX9_copyFrom 58 = .ok (.iinc 2 1, 3) := by decide +kernel
theorem dX9_copyFrom_61 : decode cX9_copyFrom 61 = .ok (.goto (-21), 3) := by decide +kernel
theorem dX9_copyFrom_64 : decode cX9_copyFrom 64 = .ok (.return_, 1) := by decide +kernel
theorem dX9_isFull_0 : decode cX9_isFull 0 = .ok (.aload_n 0, 1) := by decide +kernel
theorem dX9_isFull_1 : decode cX9_isFull 1 = .ok (.getfield 22, 3) := by decide +kernel
theorem dX9_isFull_4 : decode cX9_isFull 4 = .ok (.bipush 12, 2) := by decide +kernel
theorem dX9_isFull_6 : decode cX9_isFull 6 = .ok (.if_icmp .lt 7, 3) := by decide +kernel
theorem dX9_isFull_9 : decode cX9_isFull 9 = .ok (.iconst 1, 1) := by decide +kernel
theorem dX9_isFull_10 : decode cX9_isFull 10 = .ok (.goto 4, 3) := by decide +kernel
theorem dX9_isFull_13 : decode cX9_isFull 13 = .ok (.iconst 0, 1) := by decide +kernel
theorem dX9_isFull_14 : decode cX9_isFull 14 = .ok (.ireturn, 1) := by decide +kernel
theorem dX9_has_0 : decode cX9_has 0 = .ok (.iload_n 1, 1) := by decide +kernel
theorem dX9_has_1 : decode cX9_has 1 = .ok (.ifCond .lt 15, 3) := by decide +kernel
theorem dX9_has_4 : decode cX9_has 4 = .ok (.iload_n 1, 1) := by decide +kernel
theorem dX9_has_5 : decode cX9_has 5 = .ok (.aload_n 0, 1) := by decide +kernel
theorem dX9_has_6 : decode cX9_has 6 = .ok (.getfield 22, 3) := by decide +kernel
theorem dX9_has_9 : decode cX9_has 9 = .ok (.if_icmp .ge 7, 3) := by decide +kernel
theorem dX9_has_12 : decode cX9_has 12 = .ok (.iconst 1, 1) := by decide +kernel
theorem dX9_has_13 : decode cX9_has 13 = .ok (.goto 4, 3) := by decide +kernel
theorem dX9_has_16 : decode cX9_has 16 = .ok (.iconst 0, 1) := by decide +kernel
theorem dX9_has_17 : decode cX9_has 17 = .ok (.ireturn, 1) := by decide +kernel
theorem dX9_add_0 : decode cX9_add 0 = .ok (.aload_n 0, 1) := by decide +kernel
theorem dX9_add_1 : decode cX9_add 1 = .ok (.getfield 9, 3) := by decide +kernel
theorem dX9_add_4 : decode cX9_add 4 = .ok (.aload_n 0, 1) := by decide +kernel
theorem dX9_add_5 : decode cX9_add 5 = .ok (.getfield 22, 3) := by decide +kernel
theorem dX9_add_8 : decode cX9_add 8 = .ok (.iload_n 1, 1) := by decide +kernel
theorem dX9_add_9 : decode cX9_add 9 = .ok (.iastore, 1) := by decide +kernel
theorem dX9_add_10 : decode cX9_add 10 = .ok (.aload_n 0, 1) := by decide +kernel
theorem dX9_add_11 : decode cX9_add 11 = .ok (.getfield 15, 3) := by decide +kernel
theorem dX9_add_14 : decode cX9_add 14 = .ok (.aload_n 0, 1) := by decide +kernel
theorem dX9_add_15 : decode cX9_add 15 = .ok (.getfield 22, 3) := by decide +kernel
theorem dX9_add_18 : decode cX9_add 18 = .ok (.iload_n 2, 1) := by decide +kernel
theorem dX9_add_19 : decode cX9_add 19 = .ok (.iastore, 1) := by decide +kernel
theorem dX9_add_20 : decode cX9_add 20 = .ok (.aload_n 0, 1) := by decide +kernel
theorem dX9_add_21 : decode cX9_add 21 = .ok (.getfield 18, 3) := by decide +kernel
theorem dX9_add_24 : decode cX9_add 24 = .ok (.aload_n 0, 1) := by decide +kernel
theorem dX9_add_25 : decode cX9_add 25 = .ok (.getfield 22, 3) := by decide +kernel
theorem dX9_add_28 : decode cX9_add 28 = .ok (.iload_n 3, 1) := by decide +kernel
theorem dX9_add_29 : decode cX9_add 29 = .ok (.bastore, 1) := by decide +kernel
theorem dX9_add_30 : decode cX9_add 30 = .ok (.aload_n 0, 1) := by decide +kernel
theorem dX9_add_31 : decode cX9_add 31 = .ok (.dup, 1) := by decide +kernel
theorem dX9_add_32 : decode cX9_add 32 = .ok (.getfield 22, 3) := by decide +kernel
theorem dX9_add_35 : decode cX9_add 35 = .ok (.iconst 1, 1) := by decide +kernel
theorem dX9_add_36 : decode cX9_add 36 = .ok (.iadd, 1) := by decide +kernel
theorem dX9_add_37 : decode cX9_add 37 = .ok (.putfield 22, 3) := by decide +kernel
theorem dX9_add_40 : decode cX9_add 40 = .ok (.aload_n 0, 1) := by decide +kernel
theorem dX9_add_41 : decode cX9_add 41 = .ok (.getfield 22, 3) := by decide +kernel
theorem dX9_add_44 : decode cX9_add 44 = .ok (.iconst 1, 1) := by decide +kernel
theorem dX9_add_45 : decode cX9_add 45 = .ok (.isub, 1) := by decide +kernel
theorem dX9_add_46 : decode cX9_add 46 = .ok (.ireturn, 1) := by decide +kernel
theorem dX9_remove_0 : decode cX9_remove 0 = .ok (.aload_n 0, 1) := by decide +kernel
theorem dX9_remove_1 : decode cX9_remove 1 = .ok (.dup, 1) := by decide +kernel
theorem dX9_remove_2 : decode cX9_remove 2 = .ok (.getfield 22, 3) := by decide +kernel
theorem dX9_remove_5 : decode cX9_remove 5 = .ok (.iconst 1, 1) := by decide +kernel
theorem dX9_remove_6 : decode cX9_remove 6 = .ok (.isub, 1) := by decide +kernel
theorem dX9_remove_7 : decode cX9_remove 7 = .ok (.putfield 22, 3) := by decide +kernel
theorem dX9_remove_10 : decode cX9_remove 10 = .ok (.iload_n 1, 1) := by decide +kernel
theorem dX9_remove_11 : decode cX9_remove 11 = .ok (.istore_n 2, 1) := by decide +kernel
theorem dX9_remove_12 : decode cX9_remove 12 = .ok (.iload_n 2, 1) := by decide +kernel
theorem dX9_remove_13 : decode cX9_remove 13 = .ok (.aload_n 0, 1) := by decide +kernel
theorem dX9_remove_14 : decode cX9_remove 14 = .ok (.getfield 22, 3) := by decide +kernel
theorem dX9_remove_17 : decode cX9_remove 17 = .ok (.if_icmp .ge 51, 3) := by decide +kernel
theorem dX9_remove_20 : decode cX9_remove 20 = .ok (.aload_n 0, 1) := by decide +kernel
theorem dX9_remove_21 : decode cX9_remove 21 = .ok (.getfield 9, 3) := by decide +kernel
theorem dX9_remove_24 : decode cX9_remove 24 = .ok (.iload_n 2, 1) := by decide +kernel
theorem dX9_remove_25 : decode cX9_remove 25 = .ok (.aload_n 0, 1) := by decide +kernel
theorem dX9_remove_26 : decode cX9_remove 26 = .ok (.getfield 9, 3) := by decide +kernel
theorem dX9_remove_29 : decode cX9_remove 29 = .ok (.iload_n 2, 1) := by decide +kernel
theorem dX9_remove_30 : decode cX9_remove 30 = .ok (.iconst 1, 1) := by decide +kernel
theorem dX9_remove_31 : decode cX9_remove 31 = .ok (.iadd, 1) := by decide +kernel
theorem dX9_remove_32 : decode cX9_remove 32 = .ok (.iaload, 1) := by decide +kernel
theorem dX9_remove_33 : decode cX9_remove 33 = .ok (.iastore, 1) := by decide +kernel
theorem dX9_remove_34 : decode cX9_remove 34 = .ok (.aload_n 0, 1) := by decide +kernel
theorem dX9_remove_35 : decode cX9_remove 35 = .ok (.getfield 15, 3) := by decide +kernel
theorem dX9_remove_38 : decode cX9_remove 38 = .ok (.iload_n 2, 1) := by decide +kernel
theorem dX9_remove_39 : decode cX9_remove 39 = .ok (.aload_n 0, 1) := by decide +kernel
theorem dX9_remove_40 : decode cX9_remove 40 = .ok (.getfield 15, 3) := by decide +kernel
theorem dX9_remove_43 : decode cX9_remove 43 = .ok (.iload_n 2, 1) := by decide +kernel
theorem dX9_remove_44 : decode cX9_remove 44 = .ok (.iconst 1, 1) := by decide +kernel
theorem dX9_remove_45 : decode cX9_remove 45 = .ok (.iadd, 1) := by decide +kernel
theorem dX9_remove_46 : decode cX9_remove 46 = .ok (.iaload, 1) := by decide +kernel
theorem dX9_remove_47 : decode cX9_remove 47 = .ok (.iastore, 1) := by decide +kernel
theorem dX9_remove_48 : decode cX9_remove 48 = .ok (.aload_n 0, 1) := by decide +kernel
theorem dX9_remove_49 : decode cX9_remove 49 = .ok (.getfield 18, 3) := by decide +kernel
theorem dX9_remove_52 : decode cX9_remove 52 = .ok (.iload_n 2, 1) := by decide +kernel
theorem dX9_remove_53 : decode cX9_remove 53 = .ok (.aload_n 0, 1) := by decide +kernel
theorem dX9_remove_54 : decode cX9_remove 54 = .ok (.getfield 18, 3) := by decide +kernel
theorem dX9_remove_57 : decode cX9_remove 57 = .ok (.iload_n 2, 1) := by decide +kernel
theorem dX9_remove_58 : decode cX9_remove 58 = .ok (.iconst 1, 1) := by decide +kernel
theorem dX9_remove_59 : decode cX9_remove 59 = .ok (.iadd, 1) := by decide +kernel
theorem dX9_remove_60 : decode cX9_remove 60 = .ok (.baload, 1) := by decide +kernel
theorem dX9_remove_61 : decode cX9_remove 61 = .ok (.bastore, 1) := by decide +kernel
theorem dX9_remove_62 : decode cX9_remove 62 = .ok (.iinc 2 1, 3) := by decide +kernel
theorem dX9_remove_65 : decode cX9_remove 65 = .ok (.goto (-53), 3) := by decide +kernel
theorem dX9_remove_68 : decode cX9_remove 68 = .ok (.aload_n 0, 1) := by decide +kernel
theorem dX9_remove_69 : decode cX9_remove 69 = .ok (.getfield 22, 3) := by decide +kernel
theorem dX9_remove_72 : decode cX9_remove 72 = .ok (.ireturn, 1) := by decide +kernel
theorem dX9_isTrue_0 : decode cX9_isTrue 0 = .ok (.iload_n 2, 1) := by decide +kernel
theorem dX9_isTrue_1 : decode cX9_isTrue 1 = .ok (.aload_n 0, 1) := by decide +kernel
theorem dX9_isTrue_2 : decode cX9_isTrue 2 = .ok (.getfield 9, 3) := by decide +kernel
theorem dX9_isTrue_5 : decode cX9_isTrue 5 = .ok (.iload_n 1, 1) := by decide +kernel
theorem dX9_isTrue_6 : decode cX9_isTrue 6 = .ok (.iaload, 1) := by decide +kernel
theorem dX9_isTrue_7 : decode cX9_isTrue 7 = .ok (.ishr, 1) := by decide +kernel
theorem dX9_isTrue_8 : decode cX9_isTrue 8 = .ok (.iload_n 2, 1) := by decide +kernel
theorem dX9_isTrue_9 : decode cX9_isTrue 9 = .ok (.aload_n 0, 1) := by decide +kernel
theorem dX9_isTrue_10 : decode cX9_isTrue 10 = .ok (.getfield 15, 3) := by decide +kernel
theorem dX9_isTrue_13 : decode cX9_isTrue 13 = .ok (.iload_n 1, 1) := by decide +kernel
theorem dX9_isTrue_14 : decode cX9_isTrue 14 = .ok (.iaload, 1) := by decide +kernel
theorem dX9_isTrue_15 : decode cX9_isTrue 15 = .ok (.ishr, 1) := by decide +kernel
theorem dX9_isTrue_16 : decode cX9_isTrue 16 = .ok (.ixor, 1) := by decide +kernel
theorem dX9_isTrue_17 : decode cX9_isTrue 17 = .ok (.iconst 1, 1) := by decide +kernel
theorem dX9_isTrue_18 : decode cX9_isTrue 18 = .ok (.iand, 1) := by decide +kernel
theorem dX9_isTrue_19 : decode cX9_isTrue 19 = .ok (.istore_n 3, 1) := by decide +kernel
theorem dX9_isTrue_20 : decode cX9_isTrue 20 = .ok (.iload_n 3, 1) := by decide +kernel
theorem dX9_isTrue_21 : decode cX9_isTrue 21 = .ok (.ifCond .ne 7, 3) := by decide +kernel
theorem dX9_isTrue_24 : decode cX9_isTrue 24 = .ok (.iconst 1, 1) := by decide +kernel
theorem dX9_isTrue_25 : decode cX9_isTrue 25 = .ok (.goto 4, 3) := by decide +kernel
theorem dX9_isTrue_28 : decode cX9_isTrue 28 = .ok (.iconst 0, 1) := by decide +kernel
theorem dX9_isTrue_29 : decode cX9_isTrue 29 = .ok (.aload_n 0, 1) := by decide +kernel
theorem dX9_isTrue_30 : decode cX9_isTrue 30 = .ok (.getfield 18, 3) := by decide +kernel
theorem dX9_isTrue_33 : decode cX9_isTrue 33 = .ok (.iload_n 1, 1) := by decide +kernel
theorem dX9_isTrue_34 : decode cX9_isTrue 34 = .ok (.baload, 1) := by decide +kernel
theorem dX9_isTrue_35 : decode cX9_isTrue 35 = .ok (.if_icmp .ne 7, 3) := by decide +kernel
theorem dX9_isTrue_38 : decode cX9_isTrue 38 = .ok (.iconst 1, 1) := by decide +kernel
theorem dX9_isTrue_39 : decode cX9_isTrue 39 = .ok (.goto 4, 3) := by decide +kernel
theorem dX9_isTrue_42 : decode cX9_isTrue 42 = .ok (.iconst 0, 1) := by decide +kernel
theorem dX9_isTrue_43 : decode cX9_isTrue 43 = .ok (.ireturn, 1) := by decide +kernel
theorem dX9_countFalse_0 : decode cX9_countFalse 0 = .ok (.iconst 0, 1) := by decide +kernel
theorem dX9_countFalse_1 : decode cX9_countFalse 1 = .ok (.istore_n 3, 1) := by decide +kernel
theorem dX9_countFalse_2 : decode cX9_countFalse 2 = .ok (.iconst 0, 1) := by decide +kernel
theorem dX9_countFalse_3 : decode cX9_countFalse 3 = .ok (.istore 4, 2) := by decide +kernel
theorem dX9_countFalse_5 : decode cX9_countFalse 5 = .ok (.iload 4, 2) := by decide +kernel
theorem dX9_countFalse_7 : decode cX9_countFalse 7 = .ok (.aload_n 0, 1) := by decide +kernel
theorem dX9_countFalse_8 : decode cX9_countFalse 8 = .ok (.getfield 22, 3) := by decide +kernel
theorem dX9_countFalse_11 : decode cX9_countFalse 11 = .ok (.if_icmp .ge 37, 3) := by decide +kernel
theorem dX9_countFalse_14 : decode cX9_countFalse 14 = .ok (.iload_n 1, 1) := by decide +kernel
theorem dX9_countFalse_15 : decode cX9_countFalse 15 = .ok (.aload_n 0, 1) := by decide +kernel
theorem dX9_countFalse_16 : decode cX9_countFalse 16 = .ok (.getfield 9, 3) := by decide +kernel
theorem dX9_countFalse_19 : decode cX9_countFalse 19 = .ok (.iload 4, 2) := by decide +kernel
theorem dX9_countFalse_21 : decode cX9_countFalse 21 = .ok (.iaload, 1) := by decide +kernel
theorem dX9_countFalse_22 : decode cX9_countFalse 22 = .ok (.ishr, 1) := by decide +kernel
theorem dX9_countFalse_23 : decode cX9_countFalse 23 = .ok (.iconst 1, 1) := by decide +kernel
theorem dX9_countFalse_24 : decode cX9_countFalse 24 = .ok (.iand, 1) := by decide +kernel
theorem dX9_countFalse_25 : decode cX9_countFalse 25 = .ok (.iconst 1, 1) := by decide +kernel
theorem dX9_countFalse_26 : decode cX9_countFalse 26 = .ok (.if_icmp .ne 16, 3) := by decide +kernel
theorem dX9_countFalse_29 : decode cX9_countFalse 29 = .ok (.aload_n 0, 1) := by decide +kernel
theorem dX9_countFalse_30 : decode cX9_countFalse 30 = .ok (.iload 4, 2) := by decide +kernel
theorem dX9_countFalse_32 : decode cX9_countFalse 32 = .ok (.iload_n 2, 1) := by decide +kernel
theorem dX9_countFalse_33 : decode cX9_countFalse 33 = .ok (.invokevirtual 32, 3) := by decide +kernel
theorem dX9_countFalse_36 : decode cX9_countFalse 36 = .ok (.ifCond .ne 6, 3) := by decide +kernel
theorem dX9_countFalse_39 : decode cX9_countFalse 39 = .ok (.iinc 3 1, 3) := by decide +kernel
theorem dX9_countFalse_42 : decode cX9_countFalse 42 = .ok (.iinc 4 1, 3) := by decide +kernel
theorem dX9_countFalse_45 : decode cX9_countFalse 45 = .ok (.goto (-40), 3) := by decide +kernel
theorem dX9_countFalse_48 : decode cX9_countFalse 48 = .ok (.iload_n 3, 1) := by decide +kernel
theorem dX9_countFalse_49 : decode cX9_countFalse 49 = .ok (.ireturn, 1) := by decide +kernel
theorem dX9_connectedWith_0 : decode cX9_connectedWith 0 = .ok (.iconst 1, 1) := by decide +kernel
theorem dX9_connectedWith_1 : decode cX9_connectedWith 1 = .ok (.iload_n 1, 1) := by decide +kernel
theorem dX9_connectedWith_2 : decode cX9_connectedWith 2 = .ok (.ishl, 1) := by decide +kernel
theorem dX9_connectedWith_3 : decode cX9_connectedWith 3 = .ok (.istore_n 2, 1) := by decide +kernel
theorem dX9_connectedWith_4 : decode cX9_connectedWith 4 = .ok (.iconst 0, 1) := by decide +kernel
theorem dX9_connectedWith_5 : decode cX9_connectedWith 5 = .ok (.istore_n 3, 1) := by decide +kernel
theorem dX9_connectedWith_6 : decode cX9_connectedWith 6 = .ok (.iload_n 3, 1) := by decide +kernel
theorem dX9_connectedWith_7 : decode cX9_connectedWith 7 = .ok (.bipush 8, 2) := by decide +kernel
theorem dX9_connectedWith_9 : decode cX9_connectedWith 9 = .ok (.if_icmp .ge 60, 3) := by decide +kernel
theorem dX9_connectedWith_12 : decode cX9_connectedWith 12 = .ok (.iconst 0, 1) := by decide +kernel
theorem dX9_connectedWith_13 : decode cX9_connectedWith 13 = .ok (.istore 4, 2) := by decide +kernel
theorem dX9_connectedWith_15 : decode cX9_connectedWith 15 = .ok (.iload 4, 2) := by decide +kernel
theorem dX9_connectedWith_17 : decode cX9_connectedWith 17 = .ok (.aload_n 0, 1) := by decide +kernel
theorem dX9_connectedWith_18 : decode cX9_connectedWith 18 = .ok (.getfield 22, 3) := by decide +kernel
theorem dX9_connectedWith_21 : decode cX9_connectedWith 21 = .ok (.if_icmp .ge 42, 3) := by decide +kernel
theorem dX9_connectedWith_24 : decode cX9_connectedWith 24 = .ok (.iconst 1, 1) := by decide +kernel
theorem dX9_connectedWith_25 : decode cX9_connectedWith 25 = .ok (.aload_n 0, 1) := by decide +kernel
theorem dX9_connectedWith_26 : decode cX9_connectedWith 26 = .ok (.getfield 9, 3) := by decide +kernel
theorem dX9_connectedWith_29 : decode cX9_connectedWith 29 = .ok (.iload 4, 2) := by decide +kernel
theorem dX9_connectedWith_31 : decode cX9_connectedWith 31 = .ok (.iaload, 1) := by decide +kernel
theorem dX9_connectedWith_32 : decode cX9_connectedWith 32 = .ok (.ishl, 1) := by decide +kernel
theorem dX9_connectedWith_33 : decode cX9_connectedWith 33 = .ok (.iconst 1, 1) := by decide +kernel
theorem dX9_connectedWith_34 : decode cX9_connectedWith 34 = .ok (.aload_n 0, 1) := by decide +kernel
theorem dX9_connectedWith_35 : decode cX9_connectedWith 35 = .ok (.getfield 15, 3) := by decide +kernel
theorem dX9_connectedWith_38 : decode cX9_connectedWith 38 = .ok (.iload 4, 2) := by decide +kernel
theorem dX9_connectedWith_40 : decode cX9_connectedWith 40 = .ok (.iaload, 1) := by decide +kernel
theorem dX9_connectedWith_41 : decode cX9_connectedWith 41 = .ok (.ishl, 1) := by decide +kernel
theorem dX9_connectedWith_42 : decode cX9_connectedWith 42 = .ok (.ior, 1) := by decide +kernel
theorem dX9_connectedWith_43 : decode cX9_connectedWith 43 = .ok (.istore 5, 2) := by decide +kernel
theorem dX9_connectedWith_45 : decode cX9_connectedWith 45 = .ok (.iload_n 2, 1) := by decide +kernel
theorem dX9_connectedWith_46 : decode cX9_connectedWith 46 = .ok (.iload 5, 2) := by decide +kernel
theorem dX9_connectedWith_48 : decode cX9_connectedWith 48 = .ok (.iand, 1) := by decide +kernel
theorem dX9_connectedWith_49 : decode cX9_connectedWith 49 = .ok (.ifCond .eq 8, 3) := by decide +kernel
theorem dX9_connectedWith_52 : decode cX9_connectedWith 52 = .ok (.iload_n 2, 1) := by decide +kernel
theorem dX9_connectedWith_53 : decode cX9_connectedWith 53 = .ok (.iload 5, 2) := by decide +kernel
theorem dX9_connectedWith_55 : decode cX9_connectedWith 55 = .ok (.ior, 1) := by decide +kernel
theorem dX9_connectedWith_56 : decode cX9_connectedWith 56 = .ok (.istore_n 2, 1) := by decide +kernel
theorem dX9_connectedWith_57 : decode cX9_connectedWith 57 = .ok (.iinc 4 1, 3) := by decide +kernel
theorem dX9_connectedWith_60 : decode cX9_connectedWith 60 = .ok (.goto (-45), 3) := by decide +kernel
theorem dX9_connectedWith_63 : decode cX9_connectedWith 63 = .ok (.iinc 3 1, 3) := by decide +kernel
theorem dX9_connectedWith_66 : decode cX9_connectedWith 66 = .ok (.goto (-60), 3) := by decide +kernel
theorem dX9_connectedWith_69 : decode cX9_connectedWith 69 = .ok (.iload_n 2, 1) := by decide +kernel
theorem dX9_connectedWith_70 : decode cX9_connectedWith 70 = .ok (.ireturn, 1) := by decide +kernel
theorem dX10_init_0 : decode cX10_init 0 = .ok (.aload_n 0, 1) := by decide +kernel
theorem dX10_init_1 : decode cX10_init 1 = .ok (.invokespecial 3, 3) := by decide +kernel
theorem dX10_init_4 : decode cX10_init 4 = .ok (.return_, 1) := by decide +kernel
theorem dX10_readAdmissions_0 : decode cX10_readAdmissions 0 = .ok (.aload_n 0, 1) := by decide +kernel
theorem dX10_readAdmissions_1 : decode cX10_readAdmissions 1 = .ok (.aload_n 1, 1) := by decide +kernel
theorem dX10_readAdmissions_2 : decode cX10_readAdmissions 2 = .ok (.iconst 1, 1) := by decide +kernel
theorem dX10_readAdmissions_3 : decode cX10_readAdmissions 3 = .ok (.invokevirtual 9, 3) := by decide +kernel
theorem dX10_readAdmissions_6 : decode cX10_readAdmissions 6 = .ok (.putfield 15, 3) := by decide +kernel
theorem dX10_readAdmissions_9 : decode cX10_readAdmissions 9 = .ok (.aload_n 0, 1) := by decide +kernel
theorem dX10_readAdmissions_10 : decode cX10_readAdmissions 10 = .ok (.aload_n 1, 1) := by decide +kernel
theorem dX10_readAdmissions_11 : decode cX10_readAdmissions 11 = .ok (.iconst 2, 1) := by decide +kernel
theorem dX10_readAdmissions_12 : decode cX10_readAdmissions 12 = .ok (.invokevirtual 9, 3) := by decide +kernel
theorem dX10_readAdmissions_15 : decode cX10_readAdmissions 15 = .ok (.putfield 21, 3) := by decide +kernel
theorem dX10_readAdmissions_18 : decode cX10_readAdmissions 18 = .ok (.return_, 1) := by decide +kernel
theorem dX10_keepsAdmissions_0 : decode cX10_keepsAdmissions 0 = .ok (.aload_n 0, 1) := by decide +kernel
theorem dX10_keepsAdmissions_1 : decode cX10_keepsAdmissions 1 = .ok (.getfield 15, 3) := by decide +kernel
theorem dX10_keepsAdmissions_4 : decode cX10_keepsAdmissions 4 = .ok (.iload_n 1, 1) := by decide +kernel
theorem dX10_keepsAdmissions_5 : decode cX10_keepsAdmissions 5 = .ok (.iand, 1) := by decide +kernel
theorem dX10_keepsAdmissions_6 : decode cX10_keepsAdmissions 6 = .ok (.iload_n 2, 1) := by decide +kernel
theorem dX10_keepsAdmissions_7 : decode cX10_keepsAdmissions 7 = .ok (.iconst (-1), 1) := by decide +kernel
theorem dX10_keepsAdmissions_8 : decode cX10_keepsAdmissions 8 = .ok (.ixor, 1) := by decide +kernel
theorem dX10_keepsAdmissions_9 : decode cX10_keepsAdmissions 9 = .ok (.iand, 1) := by decide +kernel
theorem dX10_keepsAdmissions_10 : decode cX10_keepsAdmissions 10 = .ok (.ifCond .ne 18, 3) := by decide +kernel
theorem dX10_keepsAdmissions_13 : decode cX10_keepsAdmissions 13 = .ok (.aload_n 0, 1) := by decide +kernel
theorem dX10_keepsAdmissions_14 : decode cX10_keepsAdmissions 14 = .ok (.getfield 21, 3) := by decide +kernel
theorem dX10_keepsAdmissions_17 : decode cX10_keepsAdmissions 17 = .ok (.iload_n 1, 1) := by decide +kernel
theorem dX10_keepsAdmissions_18 : decode cX10_keepsAdmissions 18 = .ok (.iand, 1) := by decide +kernel
theorem dX10_keepsAdmissions_19 : decode cX10_keepsAdmissions 19 = .ok (.iload_n 2, 1) := by decide +kernel
theorem dX10_keepsAdmissions_20 : decode cX10_keepsAdmissions 20 = .ok (.iand, 1) := by decide +kernel
theorem dX10_keepsAdmissions_21 : decode cX10_keepsAdmissions 21 = .ok (.ifCond .ne 7, 3) := by decide +kernel
theorem dX10_keepsAdmissions_24 : decode cX10_keepsAdmissions 24 = .ok (.iconst 1, 1) := by decide +kernel
theorem dX10_keepsAdmissions_25 : decode cX10_keepsAdmissions 25 = .ok (.goto 4, 3) := by decide +kernel
theorem dX10_keepsAdmissions_28 : decode cX10_keepsAdmissions 28 = .ok (.iconst 0, 1) := by decide +kernel
theorem dX10_keepsAdmissions_29 : decode cX10_keepsAdmissions 29 = .ok (.ireturn, 1) := by decide +kernel
theorem dX10_verdictOn_0 : decode cX10_verdictOn 0 = .ok (.aload_n 0, 1) := by decide +kernel
theorem dX10_verdictOn_1 : decode cX10_verdictOn 1 = .ok (.aload_n 2, 1) := by decide +kernel
theorem dX10_verdictOn_2 : decode cX10_verdictOn 2 = .ok (.invokevirtual 24, 3) := by decide +kernel
theorem dX10_verdictOn_5 : decode cX10_verdictOn 5 = .ok (.aload_n 3, 1) := by decide +kernel
theorem dX10_verdictOn_6 : decode cX10_verdictOn 6 = .ok (.iload_n 1, 1) := by decide +kernel
theorem dX10_verdictOn_7 : decode cX10_verdictOn 7 = .ok (.invokevirtual 28, 3) := by decide +kernel
theorem dX10_verdictOn_10 : decode cX10_verdictOn 10 = .ok (.istore 4, 2) := by decide +kernel
theorem dX10_verdictOn_12 : decode cX10_verdictOn 12 = .ok (.iconst 0, 1) := by decide +kernel
theorem dX10_verdictOn_13 : decode cX10_verdictOn 13 = .ok (.istore 5, 2) := by decide +kernel
theorem dX10_verdictOn_15 : decode cX10_verdictOn 15 = .ok (.iconst 0, 1) := by decide +kernel
theorem dX10_verdictOn_16 : decode cX10_verdictOn 16 = .ok (.istore 6, 2) := by decide +kernel
theorem dX10_verdictOn_18 : decode cX10_verdictOn 18 = .ok (.iconst 0, 1) := by decide +kernel
theorem dX10_verdictOn_19 : decode cX10_verdictOn 19 = .ok (.istore 7, 2) := by decide +kernel
theorem dX10_verdictOn_21 : decode cX10_verdictOn 21 = .ok (.iload 7, 2) := by decide +kernel
theorem dX10_verdictOn_23 : decode cX10_verdictOn 23 = .ok (.iconst 1, 1) := by decide +kernel
theorem dX10_verdictOn_24 : decode cX10_verdictOn 24 = .ok (.aload_n 2, 1) := by decide +kernel
theorem dX10_verdictOn_25 : decode cX10_verdictOn 25 = .ok (.getfield 33, 3) := by decide +kernel
theorem dX10_verdictOn_28 : decode cX10_verdictOn 28 = .ok (.ishl, 1) := by decide +kernel
theorem dX10_verdictOn_29 : decode cX10_verdictOn 29 = .ok (.if_icmp .ge 50, 3) := by decide +kernel
theorem dX10_verdictOn_32 : decode cX10_verdictOn 32 = .ok (.aload_n 0, 1) := by decide +kernel
theorem dX10_verdictOn_33 : decode cX10_verdictOn 33 = .ok (.iload 4, 2) := by decide +kernel
theorem dX10_verdictOn_35 : decode cX10_verdictOn 35 = .ok (.iload 7, 2) := by decide +kernel
theorem dX10_verdictOn_37 : decode cX10_verdictOn 37 = .ok (.invokevirtual 36, 3) := by decide +kernel
theorem dX10_verdictOn_40 : decode cX10_verdictOn 40 = .ok (.ifCond .eq 33, 3) := by decide +kernel
theorem dX10_verdictOn_43 : decode cX10_verdictOn 43 = .ok (.aload_n 3, 1) := by decide +kernel
theorem dX10_verdictOn_44 : decode cX10_verdictOn 44 = .ok (.iload 4, 2) := by decide +kernel
theorem dX10_verdictOn_46 : decode cX10_verdictOn 46 = .ok (.iload 7, 2) := by decide +kernel
theorem dX10_verdictOn_48 : decode cX10_verdictOn 48 = .ok (.invokevirtual 40, 3) := by decide +kernel
theorem dX10_verdictOn_51 : decode cX10_verdictOn 51 = .ok (.ifCond .ne 22, 3) := by decide +kernel
theorem dX10_verdictOn_54 : decode cX10_verdictOn 54 = .ok (.iload 7, 2) := by decide +kernel
theorem dX10_verdictOn_56 : decode cX10_verdictOn 56 = .ok (.iload_n 1, 1) := by decide +kernel
theorem dX10_verdictOn_57 : decode cX10_verdictOn 57 = .ok (.ishr, 1) := by decide +kernel
theorem dX10_verdictOn_58 : decode cX10_verdictOn 58 = .ok (.iconst 1, 1) := by decide +kernel
theorem dX10_verdictOn_59 : decode cX10_verdictOn 59 = .ok (.iand, 1) := by decide +kernel
theorem dX10_verdictOn_60 : decode cX10_verdictOn 60 = .ok (.iconst 1, 1) := by decide +kernel
theorem dX10_verdictOn_61 : decode cX10_verdictOn 61 = .ok (.if_icmp .ne 9, 3) := by decide +kernel
theorem dX10_verdictOn_64 : decode cX10_verdictOn 64 = .ok (.iconst 1, 1) := by decide +kernel
theorem dX10_verdictOn_65 : decode cX10_verdictOn 65 = .ok (.istore 5, 2) := by decide +kernel
theorem dX10_verdictOn_67 : decode cX10_verdictOn 67 = .ok (.goto 6, 3) := by decide +kernel
theorem dX10_verdictOn_70 : decode cX10_verdictOn 70 = .ok (.iconst 1, 1) := by decide +kernel
theorem dX10_verdictOn_71 : decode cX10_verdictOn 71 = .ok (.istore 6, 2) := by decide +kernel
theorem dX10_verdictOn_73 : decode cX10_verdictOn 73 = .ok (.iinc 7 1, 3) := by decide +kernel
theorem dX10_verdictOn_76 : decode cX10_verdictOn 76 = .ok (.goto (-55), 3) := by decide +kernel
theorem dX10_verdictOn_79 : decode cX10_verdictOn 79 = .ok (.iload 5, 2) := by decide +kernel
theorem dX10_verdictOn_81 : decode cX10_verdictOn 81 = .ok (.ifCond .eq 16, 3) := by decide +kernel
theorem dX10_verdictOn_84 : decode cX10_verdictOn 84 = .ok (.iload 6, 2) := by decide +kernel
theorem dX10_verdictOn_86 : decode cX10_verdictOn 86 = .ok (.ifCond .eq 8, 3) := by decide +kernel
theorem dX10_verdictOn_89 : decode cX10_verdictOn 89 = .ok (.bipush 117, 2) := by decide +kernel
theorem dX10_verdictOn_91 : decode cX10_verdictOn 91 = .ok (.goto 5, 3) := by decide +kernel
theorem dX10_verdictOn_94 : decode cX10_verdictOn 94 = .ok (.bipush 103, 2) := by decide +kernel
theorem dX10_verdictOn_96 : decode cX10_verdictOn 96 = .ok (.ireturn, 1) := by decide +kernel
theorem dX10_verdictOn_97 : decode cX10_verdictOn 97 = .ok (.iload 6, 2) := by decide +kernel
theorem dX10_verdictOn_99 : decode cX10_verdictOn 99 = .ok (.ifCond .eq 8, 3) := by decide +kernel
theorem dX10_verdictOn_102 : decode cX10_verdictOn 102 = .ok (.bipush 105, 2) := by decide +kernel
theorem dX10_verdictOn_104 : decode cX10_verdictOn 104 = .ok (.goto 5, 3) := by decide +kernel
theorem dX10_verdictOn_107 : decode cX10_verdictOn 107 = .ok (.bipush 109, 2) := by decide +kernel
theorem dX10_verdictOn_109 : decode cX10_verdictOn 109 = .ok (.ireturn, 1) := by decide +kernel
theorem dX10_countPossible_0 : decode cX10_countPossible 0 = .ok (.aload_n 0, 1) := by decide +kernel
theorem dX10_countPossible_1 : decode cX10_countPossible 1 = .ok (.aload_n 1, 1) := by decide +kernel
theorem dX10_countPossible_2 : decode cX10_countPossible 2 = .ok (.invokevirtual 24, 3) := by decide +kernel
theorem dX10_countPossible_5 : decode cX10_countPossible 5 = .ok (.iconst 0, 1) := by decide +kernel
theorem dX10_countPossible_6 : decode cX10_countPossible 6 = .ok (.istore_n 3, 1) := by decide +kernel
theorem dX10_countPossible_7 : decode cX10_countPossible 7 = .ok (.iconst 0, 1) := by decide +kernel
theorem dX10_countPossible_8 : decode cX10_countPossible 8 = .ok (.istore 4, 2) := by decide +kernel
theorem dX10_countPossible_10 : decode cX10_countPossible 10 = .ok (.iload 4, 2) := by decide +kernel
theorem dX10_countPossible_12 : decode cX10_countPossible 12 = .ok (.iconst 1, 1) := by decide +kernel
theorem dX10_countPossible_13 : decode cX10_countPossible 13 = .ok (.aload_n 1, 1) := by decide +kernel
theorem dX10_countPossible_14 : decode cX10_countPossible 14 = .ok (.getfield 33, 3) := by decide +kernel
theorem dX10_countPossible_17 : decode cX10_countPossible 17 = .ok (.ishl, 1) := by decide +kernel
theorem dX10_countPossible_18 : decode cX10_countPossible 18 = .ok (.if_icmp .ge 32, 3) := by decide +kernel
theorem dX10_countPossible_21 : decode cX10_countPossible 21 = .ok (.aload_n 0, 1) := by decide +kernel
theorem dX10_countPossible_22 : decode cX10_countPossible 22 = .ok (.iconst (-1), 1) := by decide +kernel
theorem dX10_countPossible_23 : decode cX10_countPossible 23 = .ok (.iload 4, 2) := by decide +kernel
theorem dX10_countPossible_25 : decode cX10_countPossible 25 = .ok (.invokevirtual 36, 3) := by decide +kernel
theorem dX10_countPossible_28 : decode cX10_countPossible 28 = .ok (.ifCond .eq 16, 3) := by decide +kernel
theorem dX10_countPossible_31 : decode cX10_countPossible 31 = .ok (.aload_n 2, 1) := by decide +kernel
theorem dX10_countPossible_32 : decode cX10_countPossible 32 = .ok (.iconst (-1), 1) := by decide +kernel
theorem dX10_countPossible_33 : decode cX10_countPossible 33 = .ok (.iload 4, 2) := by decide +kernel
theorem dX10_countPossible_35 : decode cX10_countPossible 35 = .ok (.invokevirtual 40, 3) := by decide +kernel
theorem dX10_countPossible_38 : decode cX10_countPossible 38 = .ok (.ifCond .ne 6, 3) := by decide +kernel
theorem dX10_countPossible_41 : decode cX10_countPossible 41 = .ok (.iinc 3 1, 3) := by decide +kernel
theorem dX10_countPossible_44 : decode cX10_countPossible 44 = .ok (.iinc 4 1, 3) := by decide +kernel
theorem dX10_countPossible_47 : decode cX10_countPossible 47 = .ok (.goto (-37), 3) := by decide +kernel
theorem dX10_countPossible_50 : decode cX10_countPossible 50 = .ok (.iload_n 3, 1) := by decide +kernel
theorem dX10_countPossible_51 : decode cX10_countPossible 51 = .ok (.ireturn, 1) := by decide +kernel
theorem dX10_fewestFalse_0 : decode cX10_fewestFalse 0 = .ok (.aload_n 0, 1) := by decide +kernel
theorem dX10_fewestFalse_1 : decode cX10_fewestFalse 1 = .ok (.aload_n 1, 1) := by decide +kernel
theorem dX10_fewestFalse_2 : decode cX10_fewestFalse 2 = .ok (.invokevirtual 24, 3) := by decide +kernel
theorem dX10_fewestFalse_5 : decode cX10_fewestFalse 5 = .ok (.aload_n 2, 1) := by decide +kernel
theorem dX10_fewestFalse_6 : decode cX10_fewestFalse 6 = .ok (.getfield 44, 3) := by decide +kernel
theorem dX10_fewestFalse_9 : decode cX10_fewestFalse 9 = .ok (.istore_n 3, 1) := by decide +kernel
theorem dX10_fewestFalse_10 : decode cX10_fewestFalse 10 = .ok (.iconst 0, 1) := by decide +kernel
theorem dX10_fewestFalse_11 : decode cX10_fewestFalse 11 = .ok (.istore 4, 2) := by decide +kernel
theorem dX10_fewestFalse_13 : decode cX10_fewestFalse 13 = .ok (.iload 4, 2) := by decide +kernel
theorem dX10_fewestFalse_15 : decode cX10_fewestFalse 15 = .ok (.iconst 1, 1) := by decide +kernel
theorem dX10_fewestFalse_16 : decode cX10_fewestFalse 16 = .ok (.aload_n 1, 1) := by decide +kernel
theorem dX10_fewestFalse_17 : decode cX10_fewestFalse 17 = .ok (.getfield 33, 3) := by decide +kernel
theorem dX10_fewestFalse_20 : decode cX10_fewestFalse 20 = .ok (.ishl, 1) := by decide +kernel
theorem dX10_fewestFalse_21 : decode cX10_fewestFalse 21 = .ok (.if_icmp .ge 31, 3) := by decide +kernel
theorem dX10_fewestFalse_24 : decode cX10_fewestFalse 24 = .ok (.aload_n 0, 1) := by decide +kernel
theorem dX10_fewestFalse_25 : decode cX10_fewestFalse 25 = .ok (.iconst (-1), 1) := by decide +kernel
theorem dX10_fewestFalse_26 : decode cX10_fewestFalse 26 = .ok (.iload 4, 2) := by decide +kernel
theorem dX10_fewestFalse_28 : decode cX10_fewestFalse 28 = .ok (.invokevirtual 36, 3) := by decide +kernel
theorem dX10_fewestFalse_31 : decode cX10_fewestFalse 31 = .ok (.ifCond .eq 15, 3) := by decide +kernel
theorem dX10_fewestFalse_34 : decode cX10_fewestFalse 34 = .ok (.iload_n 3, 1) := by decide +kernel
theorem dX10_fewestFalse_35 : decode cX10_fewestFalse 35 = .ok (.aload_n 2, 1) := by decide +kernel
theorem dX10_fewestFalse_36 : decode cX10_fewestFalse 36 = .ok (.iconst (-1), 1) := by decide +kernel
theorem dX10_fewestFalse_37 : decode cX10_fewestFalse 37 = .ok (.iload 4, 2) := by decide +kernel
theorem dX10_fewestFalse_39 : decode cX10_fewestFalse 39 = .ok (.invokevirtual 40, 3) := by decide +kernel
theorem dX10_fewestFalse_42 : decode cX10_fewestFalse 42 = .ok (.invokestatic 45, 3) := by decide +kernel
theorem dX10_fewestFalse_45 : decode cX10_fewestFalse 45 = .ok (.istore_n 3, 1) := by decide +kernel
theorem dX10_fewestFalse_46 : decode cX10_fewestFalse 46 = .ok (.iinc 4 1, 3) := by decide +kernel
theorem dX10_fewestFalse_49 : decode cX10_fewestFalse 49 = .ok (.goto (-36), 3) := by decide +kernel
theorem dX10_fewestFalse_52 : decode cX10_fewestFalse 52 = .ok (.iload_n 3, 1) := by decide +kernel
theorem dX10_fewestFalse_53 : decode cX10_fewestFalse 53 = .ok (.ireturn, 1) := by decide +kernel
theorem dX11_init_0 : decode cX11_init 0 = .ok (.aload_n 0, 1) := by decide +kernel
theorem dX11_init_1 : decode cX11_init 1 = .ok (.invokespecial 1, 3) := by decide +kernel
theorem dX11_init_4 : decode cX11_init 4 = .ok (.aload_n 0, 1) := by decide +kernel
theorem dX11_init_5 : decode cX11_init 5 = .ok (.new 7, 3) := by decide +kernel
theorem dX11_init_8 : decode cX11_init 8 = .ok (.dup, 1) := by decide +kernel
theorem dX11_init_9 : decode cX11_init 9 = .ok (.invokespecial 9, 3) := by decide +kernel
theorem dX11_init_12 : decode cX11_init 12 = .ok (.putfield 10, 3) := by decide +kernel
theorem dX11_init_15 : decode cX11_init 15 = .ok (.aload_n 0, 1) := by decide +kernel
theorem dX11_init_16 : decode cX11_init 16 = .ok (.new 7, 3) := by decide +kernel
theorem dX11_init_19 : decode cX11_init 19 = .ok (.dup, 1) := by decide +kernel
theorem dX11_init_20 : decode cX11_init 20 = .ok (.invokespecial 9, 3) := by decide +kernel
theorem dX11_init_23 : decode cX11_init 23 = .ok (.putfield 16, 3) := by decide +kernel
theorem dX11_init_26 : decode cX11_init 26 = .ok (.aload_n 0, 1) := by decide +kernel
theorem dX11_init_27 : decode cX11_init 27 = .ok (.new 7, 3) := by decide +kernel
theorem dX11_init_30 : decode cX11_init 30 = .ok (.dup, 1) := by decide +kernel
theorem dX11_init_31 : decode cX11_init 31 = .ok (.invokespecial 9, 3) := by decide +kernel
theorem dX11_init_34 : decode cX11_init 34 = .ok (.putfield 19, 3) := by decide +kernel
theorem dX11_init_37 : decode cX11_init 37 = .ok (.aload_n 0, 1) := by decide +kernel
theorem dX11_init_38 : decode cX11_init 38 = .ok (.bipush 8, 2) := by decide +kernel
theorem dX11_init_40 : decode cX11_init 40 = .ok (.anewarray 7, 3) := by decide +kernel
theorem dX11_init_43 : decode cX11_init 43 = .ok (.putfield 22, 3) := by decide +kernel
theorem dX11_init_46 : decode cX11_init 46 = .ok (.aload_n 0, 1) := by decide +kernel
theorem dX11_init_47 : decode cX11_init 47 = .ok (.new 26, 3) := by decide +kernel
theorem dX11_init_50 : decode cX11_init 50 = .ok (.dup, 1) := by decide +kernel
theorem dX11_init_51 : decode cX11_init 51 = .ok (.invokespecial 28, 3) := by decide +kernel
theorem dX11_init_54 : decode cX11_init 54 = .ok (.putfield 29, 3) := by decide +kernel
theorem dX11_init_57 : decode cX11_init 57 = .ok (.aload_n 0, 1) := by decide +kernel
theorem dX11_init_58 : decode cX11_init 58 = .ok (.new 33, 3) := by decide +kernel
theorem dX11_init_61 : decode cX11_init 61 = .ok (.dup, 1) := by decide +kernel
theorem dX11_init_62 : decode cX11_init 62 = .ok (.invokespecial 35, 3) := by decide +kernel
theorem dX11_init_65 : decode cX11_init 65 = .ok (.putfield 36, 3) := by decide +kernel
theorem dX11_init_68 : decode cX11_init 68 = .ok (.aload_n 0, 1) := by decide +kernel
theorem dX11_init_69 : decode cX11_init 69 = .ok (.new 40, 3) := by decide +kernel
theorem dX11_init_72 : decode cX11_init 72 = .ok (.dup, 1) := by decide +kernel
theorem dX11_init_73 : decode cX11_init 73 = .ok (.invokespecial 42, 3) := by decide +kernel
theorem dX11_init_76 : decode cX11_init 76 = .ok (.putfield 43, 3) := by decide +kernel
theorem dX11_init_79 : decode cX11_init 79 = .ok (.aload_n 0, 1) := by decide +kernel
theorem dX11_init_80 : decode cX11_init 80 = .ok (.new 47, 3) := by decide +kernel
theorem dX11_init_83 : decode cX11_init 83 = .ok (.dup, 1) := by decide +kernel
theorem dX11_init_84 : decode cX11_init 84 = .ok (.invokespecial 49, 3) := by decide +kernel
theorem dX11_init_87 : decode cX11_init 87 = .ok (.putfield 50, 3) := by decide +kernel
theorem dX11_init_90 : decode cX11_init 90 = .ok (.aload_n 0, 1) := by decide +kernel
theorem dX11_init_91 : decode cX11_init 91 = .ok (.new 54, 3) := by decide +kernel
theorem dX11_init_94 : decode cX11_init 94 = .ok (.dup, 1) := by decide +kernel
theorem dX11_init_95 : decode cX11_init 95 = .ok (.invokespecial 56, 3) := by decide +kernel
theorem dX11_init_98 : decode cX11_init 98 = .ok (.putfield 57, 3) := by decide +kernel
theorem dX11_init_101 : decode cX11_init 101 = .ok (.aload_n 0, 1) := by decide +kernel
theorem dX11_init_102 : decode cX11_init 102 = .ok (.iconst (-1), 1) := by decide +kernel
theorem dX11_init_103 : decode cX11_init 103 = .ok (.putfield 61, 3) := by decide +kernel
theorem dX11_init_106 : decode cX11_init 106 = .ok (.aload_n 0, 1) := by decide +kernel
theorem dX11_init_107 : decode cX11_init 107 = .ok (.iconst (-1), 1) := by decide +kernel
theorem dX11_init_108 : decode cX11_init 108 = .ok (.putfield 65, 3) := by decide +kernel
theorem dX11_init_111 : decode cX11_init 111 = .ok (.iconst 0, 1) := by decide +kernel
theorem dX11_init_112 : decode cX11_init 112 = .ok (.istore_n 1, 1) := by decide +kernel
theorem dX11_init_113 : decode cX11_init 113 = .ok (.iload_n 1, 1) := by decide +kernel
theorem dX11_init_114 : decode cX11_init 114 = .ok (.bipush 8, 2) := by decide +kernel
theorem dX11_init_116 : decode cX11_init 116 = .ok (.if_icmp .ge 22, 3) := by decide +kernel
theorem dX11_init_119 : decode cX11_init 119 = .ok (.aload_n 0, 1) := by decide +kernel
theorem dX11_init_120 : decode cX11_init 120 = .ok (.getfield 22, 3) := by decide +kernel
theorem dX11_init_123 : decode cX11_init 123 = .ok (.iload_n 1, 1) := by decide +kernel
theorem dX11_init_124 : decode cX11_init 124 = .ok (.new 7, 3) := by decide +kernel
theorem dX11_init_127 : decode cX11_init 127 = .ok (.dup, 1) := by decide +kernel
theorem dX11_init_128 : decode cX11_init 128 = .ok (.invokespecial 9, 3) := by decide +kernel
theorem dX11_init_131 : decode cX11_init 131 = .ok (.aastore, 1) := by decide +kernel
theorem dX11_init_132 : decode cX11_init 132 = .ok (.iinc 1 1, 3) := by decide +kernel
theorem dX11_init_135 : decode cX11_init 135 = .ok (.goto (-22), 3) := by decide +kernel
theorem dX11_init_138 : decode cX11_init 138 = .ok (.return_, 1) := by decide +kernel
theorem dX11_addLantern_0 : decode cX11_addLantern 0 = .ok (.aload_n 0, 1) := by decide +kernel
theorem dX11_addLantern_1 : decode cX11_addLantern 1 = .ok (.getfield 10, 3) := by decide +kernel
theorem dX11_addLantern_4 : decode cX11_addLantern 4 = .ok (.getfield 68, 3) := by decide +kernel
theorem dX11_addLantern_7 : decode cX11_addLantern 7 = .ok (.invokevirtual 72, 3) := by decide +kernel
theorem dX11_addLantern_10 : decode cX11_addLantern 10 = .ok (.ifCond .eq 13, 3) := by decide +kernel
theorem dX11_addLantern_13 : decode cX11_addLantern 13 = .ok (.new 78, 3) := by decide +kernel
theorem dX11_addLantern_16 : decode cX11_addLantern 16 = .ok (.dup, 1) := by decide +kernel
theorem dX11_addLantern_17 : decode cX11_addLantern 17 = .ok (.ldc 80, 2) := by decide +kernel
theorem dX11_addLantern_19 : decode cX11_addLantern 19 = .ok (.invokespecial 82, 3) := by decide +kernel
theorem dX11_addLantern_22 : decode cX11_addLantern 22 = .ok (.athrow, 1) := by decide +kernel
theorem dX11_addLantern_23 : decode cX11_addLantern 23 = .ok (.aload_n 0, 1) := by decide +kernel
theorem dX11_addLantern_24 : decode cX11_addLantern 24 = .ok (.aload_n 0, 1) := by decide +kernel
theorem dX11_addLantern_25 : decode cX11_addLantern 25 = .ok (.getfield 10, 3) := by decide +kernel
theorem dX11_addLantern_28 : decode cX11_addLantern 28 = .ok (.invokevirtual 85, 3) := by decide +kernel
theorem dX11_addLantern_31 : decode cX11_addLantern 31 = .ok (.aload_n 0, 1) := by decide +kernel
theorem dX11_addLantern_32 : decode cX11_addLantern 32 = .ok (.getfield 10, 3) := by decide +kernel
theorem dX11_addLantern_35 : decode cX11_addLantern 35 = .ok (.getfield 68, 3) := by decide +kernel
theorem dX11_addLantern_38 : decode cX11_addLantern 38 = .ok (.invokevirtual 89, 3) := by decide +kernel
theorem dX11_addLantern_41 : decode cX11_addLantern 41 = .ok (.ireturn, 1) := by decide +kernel
theorem dX11_file_0 : decode cX11_file 0 = .ok (.aload_n 0, 1) := by decide +kernel
theorem dX11_file_1 : decode cX11_file 1 = .ok (.iload_n 1, 1) := by decide +kernel
theorem dX11_file_2 : decode cX11_file 2 = .ok (.invokevirtual 93, 3) := by decide +kernel
theorem dX11_file_5 : decode cX11_file 5 = .ok (.iload_n 2, 1) := by decide +kernel
theorem dX11_file_6 : decode cX11_file 6 = .ok (.iload_n 3, 1) := by decide +kernel
theorem dX11_file_7 : decode cX11_file 7 = .ok (.iload 4, 2) := by decide +kernel
theorem dX11_file_9 : decode cX11_file 9 = .ok (.invokestatic 97, 3) := by decide +kernel
