theorem dX1_init_0 : decode cX1_init 0 = .ok (.aload_n 0, 1) := by decide +kernel
theorem dX1_init_1 : decode cX1_init 1 = .ok (.invokespecial 3, 3) := by decide +kernel
theorem dX1_init_4 : decode cX1_init 4 = .ok (.aload_n 0, 1) := by decide +kernel
theorem dX1_init_5 : decode cX1_init 5 = .ok (.bipush 64, 2) := by decide +kernel
theorem dX1_init_7 : decode cX1_init 7 = .ok (.newarray .int, 2) := by decide +kernel
theorem dX1_init_9 : decode cX1_init 9 = .ok (.putfield 9, 3) := by decide +kernel
theorem dX1_init_12 : decode cX1_init 12 = .ok (.return_, 1) := by decide +kernel
theorem dX1_separate_0 : decode cX1_separate 0 = .ok (.iconst 0, 1) := by decide +kernel
theorem dX1_separate_1 : decode cX1_separate 1 = .ok (.istore_n 1, 1) := by decide +kernel
theorem dX1_separate_2 : decode cX1_separate 2 = .ok (.iload_n 1, 1) := by decide +kernel
theorem dX1_separate_3 : decode cX1_separate 3 = .ok (.bipush 64, 2) := by decide +kernel
theorem dX1_separate_5 : decode cX1_separate 5 = .ok (.if_icmp .ge 16, 3) := by decide +kernel
theorem dX1_separate_8 : decode cX1_separate 8 = .ok (.aload_n 0, 1) := by decide +kernel
theorem dX1_separate_9 : decode cX1_separate 9 = .ok (.getfield 9, 3) := by decide +kernel
theorem dX1_separate_12 : decode cX1_separate 12 = .ok (.iload_n 1, 1) := by decide +kernel
theorem dX1_separate_13 : decode cX1_separate 13 = .ok (.iload_n 1, 1) := by decide +kernel
theorem dX1_separate_14 : decode cX1_separate 14 = .ok (.iastore, 1) := by decide +kernel
theorem dX1_separate_15 : decode cX1_separate 15 = .ok (.iinc 1 1, 3) := by decide +kernel
theorem dX1_separate_18 : decode cX1_separate 18 = .ok (.goto (-16), 3) := by decide +kernel
theorem dX1_separate_21 : decode cX1_separate 21 = .ok (.return_, 1) := by decide +kernel
theorem dX1_rootOf_0 : decode cX1_rootOf 0 = .ok (.iload_n 1, 1) := by decide +kernel
theorem dX1_rootOf_1 : decode cX1_rootOf 1 = .ok (.istore_n 2, 1) := by decide +kernel
theorem dX1_rootOf_2 : decode cX1_rootOf 2 = .ok (.iconst 0, 1) := by decide +kernel
theorem dX1_rootOf_3 : decode cX1_rootOf 3 = .ok (.istore_n 3, 1) := by decide +kernel
theorem dX1_rootOf_4 : decode cX1_rootOf 4 = .ok (.iload_n 3, 1) := by decide +kernel
theorem dX1_rootOf_5 : decode cX1_rootOf 5 = .ok (.bipush 64, 2) := by decide +kernel
theorem dX1_rootOf_7 : decode cX1_rootOf 7 = .ok (.if_icmp .ge 26, 3) := by decide +kernel
theorem dX1_rootOf_10 : decode cX1_rootOf 10 = .ok (.aload_n 0, 1) := by decide +kernel
theorem dX1_rootOf_11 : decode cX1_rootOf 11 = .ok (.getfield 9, 3) := by decide +kernel
theorem dX1_rootOf_14 : decode cX1_rootOf 14 = .ok (.iload_n 2, 1) := by decide +kernel
theorem dX1_rootOf_15 : decode cX1_rootOf 15 = .ok (.iaload, 1) := by decide +kernel
theorem dX1_rootOf_16 : decode cX1_rootOf 16 = .ok (.iload_n 2, 1) := by decide +kernel
theorem dX1_rootOf_17 : decode cX1_rootOf 17 = .ok (.if_icmp .eq 16, 3) := by decide +kernel
theorem dX1_rootOf_20 : decode cX1_rootOf 20 = .ok (.aload_n 0, 1) := by decide +kernel
theorem dX1_rootOf_21 : decode cX1_rootOf 21 = .ok (.getfield 9, 3) := by decide +kernel
theorem dX1_rootOf_24 : decode cX1_rootOf 24 = .ok (.iload_n 2, 1) := by decide +kernel
theorem dX1_rootOf_25 : decode cX1_rootOf 25 = .ok (.iaload, 1) := by decide +kernel
theorem dX1_rootOf_26 : decode cX1_rootOf 26 = .ok (.istore_n 2, 1) := by decide +kernel
theorem dX1_rootOf_27 : decode cX1_rootOf 27 = .ok (.iinc 3 1, 3) := by decide +kernel
theorem dX1_rootOf_30 : decode cX1_rootOf 30 = .ok (.goto (-26), 3) := by decide +kernel
theorem dX1_rootOf_33 : decode cX1_rootOf 33 = .ok (.iload_n 2, 1) := by decide +kernel
theorem dX1_rootOf_34 : decode cX1_rootOf 34 = .ok (.ireturn, 1) := by decide +kernel
theorem dX1_uniteAt_0 : decode cX1_uniteAt 0 = .ok (.iconst 0, 1) := by decide +kernel
theorem dX1_uniteAt_1 : decode cX1_uniteAt 1 = .ok (.istore_n 3, 1) := by decide +kernel
theorem dX1_uniteAt_2 : decode cX1_uniteAt 2 = .ok (.iload_n 3, 1) := by decide +kernel
theorem dX1_uniteAt_3 : decode cX1_uniteAt 3 = .ok (.bipush 64, 2) := by decide +kernel
theorem dX1_uniteAt_5 : decode cX1_uniteAt 5 = .ok (.if_icmp .ge 77, 3) := by decide +kernel
theorem dX1_uniteAt_8 : decode cX1_uniteAt 8 = .ok (.aload_n 1, 1) := by decide +kernel
theorem dX1_uniteAt_9 : decode cX1_uniteAt 9 = .ok (.getfield 15, 3) := by decide +kernel
theorem dX1_uniteAt_12 : decode cX1_uniteAt 12 = .ok (.iload_n 3, 1) := by decide +kernel
theorem dX1_uniteAt_13 : decode cX1_uniteAt 13 = .ok (.iaload, 1) := by decide +kernel
theorem dX1_uniteAt_14 : decode cX1_uniteAt 14 = .ok (.iload_n 2, 1) := by decide +kernel
theorem dX1_uniteAt_15 : decode cX1_uniteAt 15 = .ok (.if_icmp .eq 6, 3) := by decide +kernel
theorem dX1_uniteAt_18 : decode cX1_uniteAt 18 = .ok (.goto 58, 3) := by decide +kernel
theorem dX1_uniteAt_21 : decode cX1_uniteAt 21 = .ok (.iconst 0, 1) := by decide +kernel
theorem dX1_uniteAt_22 : decode cX1_uniteAt 22 = .ok (.istore 4, 2) := by decide +kernel
theorem dX1_uniteAt_24 : decode cX1_uniteAt 24 = .ok (.iload 4, 2) := by decide +kernel
theorem dX1_uniteAt_26 : decode cX1_uniteAt 26 = .ok (.iconst 4, 1) := by decide +kernel
theorem dX1_uniteAt_27 : decode cX1_uniteAt 27 = .ok (.if_icmp .ge 49, 3) := by decide +kernel
theorem dX1_uniteAt_30 : decode cX1_uniteAt 30 = .ok (.iload_n 3, 1) := by decide +kernel
theorem dX1_uniteAt_31 : decode cX1_uniteAt 31 = .ok (.iload 4, 2) := by decide +kernel
theorem dX1_uniteAt_33 : decode cX1_uniteAt 33 = .ok (.invokestatic 20, 3) := by decide +kernel
theorem dX1_uniteAt_36 : decode cX1_uniteAt 36 = .ok (.istore 5, 2) := by decide +kernel
theorem dX1_uniteAt_38 : decode cX1_uniteAt 38 = .ok (.iload 5, 2) := by decide +kernel
theorem dX1_uniteAt_40 : decode cX1_uniteAt 40 = .ok (.iconst (-1), 1) := by decide +kernel
theorem dX1_uniteAt_41 : decode cX1_uniteAt 41 = .ok (.if_icmp .eq 29, 3) := by decide +kernel
theorem dX1_uniteAt_44 : decode cX1_uniteAt 44 = .ok (.aload_n 1, 1) := by decide +kernel
theorem dX1_uniteAt_45 : decode cX1_uniteAt 45 = .ok (.iload 5, 2) := by decide +kernel
theorem dX1_uniteAt_47 : decode cX1_uniteAt 47 = .ok (.invokevirtual 24, 3) := by decide +kernel
theorem dX1_uniteAt_50 : decode cX1_uniteAt 50 = .ok (.iload_n 2, 1) := by decide +kernel
theorem dX1_uniteAt_51 : decode cX1_uniteAt 51 = .ok (.if_icmp .lt 19, 3) := by decide +kernel
theorem dX1_uniteAt_54 : decode cX1_uniteAt 54 = .ok (.aload_n 0, 1) := by decide +kernel
theorem dX1_uniteAt_55 : decode cX1_uniteAt 55 = .ok (.getfield 9, 3) := by decide +kernel
theorem dX1_uniteAt_58 : decode cX1_uniteAt 58 = .ok (.aload_n 0, 1) := by decide +kernel
theorem dX1_uniteAt_59 : decode cX1_uniteAt 59 = .ok (.iload 5, 2) := by decide +kernel
theorem dX1_uniteAt_61 : decode cX1_uniteAt 61 = .ok (.invokevirtual 28, 3) := by decide +kernel
theorem dX1_uniteAt_64 : decode cX1_uniteAt 64 = .ok (.aload_n 0, 1) := by decide +kernel
theorem dX1_uniteAt_65 : decode cX1_uniteAt 65 = .ok (.iload_n 3, 1) := by decide +kernel
theorem dX1_uniteAt_66 : decode cX1_uniteAt 66 = .ok (.invokevirtual 28, 3) := by decide +kernel
theorem dX1_uniteAt_69 : decode cX1_uniteAt 69 = .ok (.iastore, 1) := by decide +kernel
theorem dX1_uniteAt_70 : decode cX1_uniteAt 70 = .ok (.iinc 4 1, 3) := by decide +kernel
theorem dX1_uniteAt_73 : decode cX1_uniteAt 73 = .ok (.goto (-49), 3) := by decide +kernel
theorem dX1_uniteAt_76 : decode cX1_uniteAt 76 = .ok (.iinc 3 1, 3) := by decide +kernel
theorem dX1_uniteAt_79 : decode cX1_uniteAt 79 = .ok (.goto (-77), 3) := by decide +kernel
theorem dX1_uniteAt_82 : decode cX1_uniteAt 82 = .ok (.return_, 1) := by decide +kernel
theorem dX2_init_0 : decode cX2_init 0 = .ok (.aload_n 0, 1) := by decide +kernel
theorem dX2_init_1 : decode cX2_init 1 = .ok (.invokespecial 3, 3) := by decide +kernel
theorem dX2_init_4 : decode cX2_init 4 = .ok (.aload_n 0, 1) := by decide +kernel
theorem dX2_init_5 : decode cX2_init 5 = .ok (.bipush 64, 2) := by decide +kernel
theorem dX2_init_7 : decode cX2_init 7 = .ok (.newarray .int, 2) := by decide +kernel
theorem dX2_init_9 : decode cX2_init 9 = .ok (.putfield 9, 3) := by decide +kernel
theorem dX2_init_12 : decode cX2_init 12 = .ok (.aload_n 0, 1) := by decide +kernel
theorem dX2_init_13 : decode cX2_init 13 = .ok (.bipush 6, 2) := by decide +kernel
theorem dX2_init_15 : decode cX2_init 15 = .ok (.anewarray 15, 3) := by decide +kernel
theorem dX2_init_18 : decode cX2_init 18 = .ok (.putfield 17, 3) := by decide +kernel
theorem dX2_init_21 : decode cX2_init 21 = .ok (.aload_n 0, 1) := by decide +kernel
theorem dX2_init_22 : decode cX2_init 22 = .ok (.bipush 6, 2) := by decide +kernel
theorem dX2_init_24 : decode cX2_init 24 = .ok (.anewarray 21, 3) := by decide +kernel
theorem dX2_init_27 : decode cX2_init 27 = .ok (.putfield 23, 3) := by decide +kernel
theorem dX2_init_30 : decode cX2_init 30 = .ok (.iconst 0, 1) := by decide +kernel
theorem dX2_init_31 : decode cX2_init 31 = .ok (.istore_n 1, 1) := by decide +kernel
theorem dX2_init_32 : decode cX2_init 32 = .ok (.iload_n 1, 1) := by decide +kernel
theorem dX2_init_33 : decode cX2_init 33 = .ok (.bipush 64, 2) := by decide +kernel
theorem dX2_init_35 : decode cX2_init 35 = .ok (.if_icmp .ge 16, 3) := by decide +kernel
theorem dX2_init_38 : decode cX2_init 38 = .ok (.aload_n 0, 1) := by decide +kernel
theorem dX2_init_39 : decode cX2_init 39 = .ok (.getfield 9, 3) := by decide +kernel
theorem dX2_init_42 : decode cX2_init 42 = .ok (.iload_n 1, 1) := by decide +kernel
theorem dX2_init_43 : decode cX2_init 43 = .ok (.iconst 5, 1) := by decide +kernel
theorem dX2_init_44 : decode cX2_init 44 = .ok (.iastore, 1) := by decide +kernel
theorem dX2_init_45 : decode cX2_init 45 = .ok (.iinc 1 1, 3) := by decide +kernel
theorem dX2_init_48 : decode cX2_init 48 = .ok (.goto (-16), 3) := by decide +kernel
theorem dX2_init_51 : decode cX2_init 51 = .ok (.iconst 0, 1) := by decide +kernel
theorem dX2_init_52 : decode cX2_init 52 = .ok (.istore_n 1, 1) := by decide +kernel
theorem dX2_init_53 : decode cX2_init 53 = .ok (.iload_n 1, 1) := by decide +kernel
theorem dX2_init_54 : decode cX2_init 54 = .ok (.bipush 6, 2) := by decide +kernel
theorem dX2_init_56 : decode cX2_init 56 = .ok (.if_icmp .ge 22, 3) := by decide +kernel
theorem dX2_init_59 : decode cX2_init 59 = .ok (.aload_n 0, 1) := by decide +kernel
theorem dX2_init_60 : decode cX2_init 60 = .ok (.getfield 17, 3) := by decide +kernel
theorem dX2_init_63 : decode cX2_init 63 = .ok (.iload_n 1, 1) := by decide +kernel
theorem dX2_init_64 : decode cX2_init 64 = .ok (.new 15, 3) := by decide +kernel
theorem dX2_init_67 : decode cX2_init 67 = .ok (.dup, 1) := by decide +kernel
theorem dX2_init_68 : decode cX2_init 68 = .ok (.invokespecial 27, 3) := by decide +kernel
theorem dX2_init_71 : decode cX2_init 71 = .ok (.aastore, 1) := by decide +kernel
theorem dX2_init_72 : decode cX2_init 72 = .ok (.iinc 1 1, 3) := by decide +kernel
theorem dX2_init_75 : decode cX2_init 75 = .ok (.goto (-22), 3) := by decide +kernel
theorem dX2_init_78 : decode cX2_init 78 = .ok (.iconst 0, 1) := by decide +kernel
theorem dX2_init_79 : decode cX2_init 79 = .ok (.istore_n 1, 1) := by decide +kernel
theorem dX2_init_80 : decode cX2_init 80 = .ok (.iload_n 1, 1) := by decide +kernel
theorem dX2_init_81 : decode cX2_init 81 = .ok (.bipush 6, 2) := by decide +kernel
theorem dX2_init_83 : decode cX2_init 83 = .ok (.if_icmp .ge 22, 3) := by decide +kernel
theorem dX2_init_86 : decode cX2_init 86 = .ok (.aload_n 0, 1) := by decide +kernel
theorem dX2_init_87 : decode cX2_init 87 = .ok (.getfield 23, 3) := by decide +kernel
theorem dX2_init_90 : decode cX2_init 90 = .ok (.iload_n 1, 1) := by decide +kernel
theorem dX2_init_91 : decode cX2_init 91 = .ok (.new 21, 3) := by decide +kernel
theorem dX2_init_94 : decode cX2_init 94 = .ok (.dup, 1) := by decide +kernel
theorem dX2_init_95 : decode cX2_init 95 = .ok (.invokespecial 28, 3) := by decide +kernel
theorem dX2_init_98 : decode cX2_init 98 = .ok (.aastore, 1) := by decide +kernel
theorem dX2_init_99 : decode cX2_init 99 = .ok (.iinc 1 1, 3) := by decide +kernel
theorem dX2_init_102 : decode cX2_init 102 = .ok (.goto (-22), 3) := by decide +kernel
theorem dX2_init_105 : decode cX2_init 105 = .ok (.return_, 1) := by decide +kernel
theorem dX2_copyFrom_0 : decode cX2_copyFrom 0 = .ok (.aload_n 1, 1) := by decide +kernel
theorem dX2_copyFrom_1 : decode cX2_copyFrom 1 = .ok (.getfield 9, 3) := by decide +kernel
theorem dX2_copyFrom_4 : decode cX2_copyFrom 4 = .ok (.iconst 0, 1) := by decide +kernel
theorem dX2_copyFrom_5 : decode cX2_copyFrom 5 = .ok (.aload_n 0, 1) := by decide +kernel
theorem dX2_copyFrom_6 : decode cX2_copyFrom 6 = .ok (.getfield 9, 3) := by decide +kernel
theorem dX2_copyFrom_9 : decode cX2_copyFrom 9 = .ok (.iconst 0, 1) := by decide +kernel
theorem dX2_copyFrom_10 : decode cX2_copyFrom 10 = .ok (.bipush 64, 2) := by decide +kernel
theorem dX2_copyFrom_12 : decode cX2_copyFrom 12 = .ok (.invokestatic 29, 3) := by decide +kernel
theorem dX2_copyFrom_15 : decode cX2_copyFrom 15 = .ok (.iconst 0, 1) := by decide +kernel
theorem dX2_copyFrom_16 : decode cX2_copyFrom 16 = .ok (.istore_n 2, 1) := by decide +kernel
theorem dX2_copyFrom_17 : decode cX2_copyFrom 17 = .ok (.iload_n 2, 1) := by decide +kernel
theorem dX2_copyFrom_18 : decode cX2_copyFrom 18 = .ok (.bipush 6, 2) := by decide +kernel
theorem dX2_copyFrom_20 : decode cX2_copyFrom 20 = .ok (.if_icmp .ge 24, 3) := by decide +kernel
theorem dX2_copyFrom_23 : decode cX2_copyFrom 23 = .ok (.aload_n 0, 1) := by decide +kernel
theorem dX2_copyFrom_24 : decode cX2_copyFrom 24 = .ok (.getfield 17, 3) := by decide +kernel
theorem dX2_copyFrom_27 : decode cX2_copyFrom 27 = .ok (.iload_n 2, 1) := by decide +kernel
theorem dX2_copyFrom_28 : decode cX2_copyFrom 28 = .ok (.aaload, 1) := by decide +kernel
theorem dX2_copyFrom_29 : decode cX2_copyFrom 29 = .ok (.aload_n 1, 1) := by decide +kernel
theorem dX2_copyFrom_30 : decode cX2_copyFrom 30 = .ok (.getfield 17, 3) := by decide +kernel
theorem dX2_copyFrom_33 : decode cX2_copyFrom 33 = .ok (.iload_n 2, 1) := by decide +kernel
theorem dX2_copyFrom_34 : decode cX2_copyFrom 34 = .ok (.aaload, 1) := by decide +kernel
theorem dX2_copyFrom_35 : decode cX2_copyFrom 35 = .ok (.invokevirtual 35, 3) := by decide +kernel
theorem dX2_copyFrom_38 : decode cX2_copyFrom 38 = .ok (.iinc 2 1, 3) := by decide +kernel
theorem dX2_copyFrom_41 : decode cX2_copyFrom 41 = .ok (.goto (-24), 3) := by decide +kernel
theorem dX2_copyFrom_44 : decode cX2_copyFrom 44 = .ok (.iconst 0, 1) := by decide +kernel
theorem dX2_copyFrom_45 : decode cX2_copyFrom 45 = .ok (.istore_n 2, 1) := by decide +kernel
theorem dX2_copyFrom_46 : decode cX2_copyFrom 46 = .ok (.iload_n 2, 1) := by decide +kernel
theorem dX2_copyFrom_47 : decode cX2_copyFrom 47 = .ok (.bipush 6, 2) := by decide +kernel
theorem dX2_copyFrom_49 : decode cX2_copyFrom 49 = .ok (.if_icmp .ge 24, 3) := by decide +kernel
theorem dX2_copyFrom_52 : decode cX2_copyFrom 52 = .ok (.aload_n 0, 1) := by decide +kernel
theorem dX2_copyFrom_53 : decode cX2_copyFrom 53 = .ok (.getfield 23, 3) := by decide +kernel
theorem dX2_copyFrom_56 : decode cX2_copyFrom 56 = .ok (.iload_n 2, 1) := by decide +kernel
theorem dX2_copyFrom_57 : decode cX2_copyFrom 57 = .ok (.aaload, 1) := by decide +kernel
theorem dX2_copyFrom_58 : decode cX2_copyFrom 58 = .ok (.aload_n 1, 1) := by decide +kernel
theorem dX2_copyFrom_59 : decode cX2_copyFrom 59 = .ok (.getfield 23, 3) := by decide +kernel
theorem dX2_copyFrom_62 : decode cX2_copyFrom 62 = .ok (.iload_n 2, 1) := by decide +kernel
theorem dX2_copyFrom_63 : decode cX2_copyFrom 63 = .ok (.aaload, 1) := by decide +kernel
theorem dX2_copyFrom_64 : decode cX2_copyFrom 64 = .ok (.invokevirtual 39, 3) := by decide +kernel
theorem dX2_copyFrom_67 : decode cX2_copyFrom 67 = .ok (.iinc 2 1, 3) := by decide +kernel
theorem dX2_copyFrom_70 : decode cX2_copyFrom 70 = .ok (.goto (-24), 3) := by decide +kernel
theorem dX2_copyFrom_73 : decode cX2_copyFrom 73 = .ok (.aload_n 0, 1) := by decide +kernel
theorem dX2_copyFrom_74 : decode cX2_copyFrom 74 = .ok (.aload_n 1, 1) := by decide +kernel
theorem dX2_copyFrom_75 : decode cX2_copyFrom 75 = .ok (.getfield 42, 3) := by decide +kernel
theorem dX2_copyFrom_78 : decode cX2_copyFrom 78 = .ok (.putfield 42, 3) := by decide +kernel
theorem dX2_copyFrom_81 : decode cX2_copyFrom 81 = .ok (.aload_n 0, 1) := by decide +kernel
theorem dX2_copyFrom_82 : decode cX2_copyFrom 82 = .ok (.aload_n 1, 1) := by decide +kernel
theorem dX2_copyFrom_83 : decode cX2_copyFrom 83 = .ok (.getfield 46, 3) := by decide +kernel
theorem dX2_copyFrom_86 : decode cX2_copyFrom 86 = .ok (.putfield 46, 3) := by decide +kernel
theorem dX2_copyFrom_89 : decode cX2_copyFrom 89 = .ok (.aload_n 0, 1) := by decide +kernel
theorem dX2_copyFrom_90 : decode cX2_copyFrom 90 = .ok (.aload_n 1, 1) := by decide +kernel
theorem dX2_copyFrom_91 : decode cX2_copyFrom 91 = .ok (.getfield 49, 3) := by decide +kernel
theorem dX2_copyFrom_94 : decode cX2_copyFrom 94 = .ok (.putfield 49, 3) := by decide +kernel
theorem dX2_copyFrom_97 : decode cX2_copyFrom 97 = .ok (.aload_n 0, 1) := by decide +kernel
theorem dX2_copyFrom_98 : decode cX2_copyFrom 98 = .ok (.aload_n 1, 1) := by decide +kernel
theorem dX2_copyFrom_99 : decode cX2_copyFrom 99 = .ok (.getfield 52, 3) := by decide +kernel
theorem dX2_copyFrom_102 : decode cX2_copyFrom 102 = .ok (.putfield 52, 3) := by decide +kernel
theorem dX2_copyFrom_105 : decode cX2_copyFrom 105 = .ok (.aload_n 0, 1) := by decide +kernel
theorem dX2_copyFrom_106 : decode cX2_copyFrom 106 = .ok (.aload_n 1, 1) := by decide +kernel
theorem dX2_copyFrom_107 : decode cX2_copyFrom 107 = .ok (.getfield 55, 3) := by decide +kernel
theorem dX2_copyFrom_110 : decode cX2_copyFrom 110 = .ok (.putfield 55, 3) := by decide +kernel
theorem dX2_copyFrom_113 : decode cX2_copyFrom 113 = .ok (.aload_n 0, 1) := by decide +kernel
theorem dX2_copyFrom_114 : decode cX2_copyFrom 114 = .ok (.aload_n 1, 1) := by decide +kernel
theorem dX2_copyFrom_115 : decode cX2_copyFrom 115 = .ok (.getfield 58, 3) := by decide +kernel
theorem dX2_copyFrom_118 : decode cX2_copyFrom 118 = .ok (.putfield 58, 3) := by decide +kernel
theorem dX2_copyFrom_121 : decode cX2_copyFrom 121 = .ok (.aload_n 0, 1) := by decide +kernel
theorem dX2_copyFrom_122 : decode cX2_copyFrom 122 = .ok (.aload_n 1, 1) := by decide +kernel
theorem dX2_copyFrom_123 : decode cX2_copyFrom 123 = .ok (.getfield 61, 3) := by decide +kernel
theorem dX2_copyFrom_126 : decode cX2_copyFrom 126 = .ok (.putfield 61, 3) := by decide +kernel
theorem dX2_copyFrom_129 : decode cX2_copyFrom 129 = .ok (.return_, 1) := by decide +kernel
theorem dX2_hasLight_0 : decode cX2_hasLight 0 = .ok (.iload_n 1, 1) := by decide +kernel
theorem dX2_hasLight_1 : decode cX2_hasLight 1 = .ok (.ifCond .lt 21, 3) := by decide +kernel
theorem dX2_hasLight_4 : decode cX2_hasLight 4 = .ok (.iload_n 1, 1) := by decide +kernel
theorem dX2_hasLight_5 : decode cX2_hasLight 5 = .ok (.aload_n 0, 1) := by decide +kernel
theorem dX2_hasLight_6 : decode cX2_hasLight 6 = .ok (.getfield 42, 3) := by decide +kernel
theorem dX2_hasLight_9 : decode cX2_hasLight 9 = .ok (.if_icmp .ge 13, 3) := by decide +kernel
theorem dX2_hasLight_12 : decode cX2_hasLight 12 = .ok (.iload_n 1, 1) := by decide +kernel
theorem dX2_hasLight_13 : decode cX2_hasLight 13 = .ok (.bipush 6, 2) := by decide +kernel
theorem dX2_hasLight_15 : decode cX2_hasLight 15 = .ok (.if_icmp .ge 7, 3) := by decide +kernel
theorem dX2_hasLight_18 : decode cX2_hasLight 18 = .ok (.iconst 1, 1) := by decide +kernel
theorem dX2_hasLight_19 : decode cX2_hasLight 19 = .ok (.goto 4, 3) := by decide +kernel
theorem dX2_hasLight_22 : decode cX2_hasLight 22 = .ok (.iconst 0, 1) := by decide +kernel
theorem dX2_hasLight_23 : decode cX2_hasLight 23 = .ok (.ireturn, 1) := by decide +kernel
theorem dX2_hasShip_0 : decode cX2_hasShip 0 = .ok (.iload_n 1, 1) := by decide +kernel
theorem dX2_hasShip_1 : decode cX2_hasShip 1 = .ok (.ifCond .lt 21, 3) := by decide +kernel
theorem dX2_hasShip_4 : decode cX2_hasShip 4 = .ok (.iload_n 1, 1) := by decide +kernel
theorem dX2_hasShip_5 : decode cX2_hasShip 5 = .ok (.aload_n 0, 1) := by decide +kernel
theorem dX2_hasShip_6 : decode cX2_hasShip 6 = .ok (.getfield 46, 3) := by decide +kernel
theorem dX2_hasShip_9 : decode cX2_hasShip 9 = .ok (.if_icmp .ge 13, 3) := by decide +kernel
theorem dX2_hasShip_12 : decode cX2_hasShip 12 = .ok (.iload_n 1, 1) := by decide +kernel
theorem dX2_hasShip_13 : decode cX2_hasShip 13 = .ok (.bipush 6, 2) := by decide +kernel
theorem dX2_hasShip_15 : decode cX2_hasShip 15 = .ok (.if_icmp .ge 7, 3) := by decide +kernel
theorem dX2_hasShip_18 : decode cX2_hasShip 18 = .ok (.iconst 1, 1) := by decide +kernel
theorem dX2_hasShip_19 : decode cX2_hasShip 19 = .ok (.goto 4, 3) := by decide +kernel
theorem dX2_hasShip_22 : decode cX2_hasShip 22 = .ok (.iconst 0, 1) := by decide +kernel
theorem dX2_hasShip_23 : decode cX2_hasShip 23 = .ok (.ireturn, 1) := by decide +kernel
theorem dX2_depthOf_0 : decode cX2_depthOf 0 = .ok (.iload_n 1, 1) := by decide +kernel
theorem dX2_depthOf_1 : decode cX2_depthOf 1 = .ok (.ifCond .lt 18, 3) := by decide +kernel
theorem dX2_depthOf_4 : decode cX2_depthOf 4 = .ok (.iload_n 1, 1) := by decide +kernel
theorem dX2_depthOf_5 : decode cX2_depthOf 5 = .ok (.bipush 64, 2) := by decide +kernel
theorem dX2_depthOf_7 : decode cX2_depthOf 7 = .ok (.if_icmp .ge 12, 3) := by decide +kernel
theorem dX2_depthOf_10 : decode cX2_depthOf 10 = .ok (.aload_n 0, 1) := by decide +kernel
theorem dX2_depthOf_11 : decode cX2_depthOf 11 = .ok (.getfield 9, 3) := by decide +kernel
theorem dX2_depthOf_14 : decode cX2_depthOf 14 = .ok (.iload_n 1, 1) := by decide +kernel
theorem dX2_depthOf_15 : decode cX2_depthOf 15 = .ok (.iaload, 1) := by decide +kernel
theorem dX2_depthOf_16 : decode cX2_depthOf 16 = .ok (.goto 4, 3) := by decide +kernel
theorem dX2_depthOf_19 : decode cX2_depthOf 19 = .ok (.iconst 0, 1) := by decide +kernel
theorem dX2_depthOf_20 : decode cX2_depthOf 20 = .ok (.ireturn, 1) := by decide +kernel
theorem dX2_waterOf_0 : decode cX2_waterOf 0 = .ok (.aload_n 0, 1) := by decide +kernel
theorem dX2_waterOf_1 : decode cX2_waterOf 1 = .ok (.iload_n 1, 1) := by decide +kernel
theorem dX2_waterOf_2 : decode cX2_waterOf 2 = .ok (.aload_n 0, 1) := by decide +kernel
theorem dX2_waterOf_3 : decode cX2_waterOf 3 = .ok (.getfield 49, 3) := by decide +kernel
theorem dX2_waterOf_6 : decode cX2_waterOf 6 = .ok (.invokestatic 64, 3) := by decide +kernel
theorem dX2_waterOf_9 : decode cX2_waterOf 9 = .ok (.invokevirtual 68, 3) := by decide +kernel
theorem dX2_waterOf_12 : decode cX2_waterOf 12 = .ok (.ireturn, 1) := by decide +kernel
theorem dX2_waterWith_0 : decode cX2_waterWith 0 = .ok (.aload_n 0, 1) := by decide +kernel
theorem dX2_waterWith_1 : decode cX2_waterWith 1 = .ok (.iload_n 1, 1) := by decide +kernel
theorem dX2_waterWith_2 : decode cX2_waterWith 2 = .ok (.invokevirtual 72, 3) := by decide +kernel
theorem dX2_waterWith_5 : decode cX2_waterWith 5 = .ok (.istore_n 3, 1) := by decide +kernel
theorem dX2_waterWith_6 : decode cX2_waterWith 6 = .ok (.iload_n 3, 1) := by decide +kernel
theorem dX2_waterWith_7 : decode cX2_waterWith 7 = .ok (.ifCond .ne 7, 3) := by decide +kernel
theorem dX2_waterWith_10 : decode cX2_waterWith 10 = .ok (.iconst 0, 1) := by decide +kernel
theorem dX2_waterWith_11 : decode cX2_waterWith 11 = .ok (.goto 6, 3) := by decide +kernel
theorem dX2_waterWith_14 : decode cX2_waterWith 14 = .ok (.iload_n 3, 1) := by decide +kernel
theorem dX2_waterWith_15 : decode cX2_waterWith 15 = .ok (.iload_n 2, 1) := by decide +kernel
theorem dX2_waterWith_16 : decode cX2_waterWith 16 = .ok (.iadd, 1) := by decide +kernel
theorem dX2_waterWith_17 : decode cX2_waterWith 17 = .ok (.ireturn, 1) := by decide +kernel
theorem dX2_lightIndexOn_0 : decode cX2_lightIndexOn 0 = .ok (.iconst 0, 1) := by decide +kernel
theorem dX2_lightIndexOn_1 : decode cX2_lightIndexOn 1 = .ok (.istore_n 2, 1) := by decide +kernel
theorem dX2_lightIndexOn_2 : decode cX2_lightIndexOn 2 = .ok (.iload_n 2, 1) := by decide +kernel
theorem dX2_lightIndexOn_3 : decode cX2_lightIndexOn 3 = .ok (.aload_n 0, 1) := by decide +kernel
theorem dX2_lightIndexOn_4 : decode cX2_lightIndexOn 4 = .ok (.getfield 42, 3) := by decide +kernel
theorem dX2_lightIndexOn_7 : decode cX2_lightIndexOn 7 = .ok (.if_icmp .ge 24, 3) := by decide +kernel
theorem dX2_lightIndexOn_10 : decode cX2_lightIndexOn 10 = .ok (.aload_n 0, 1) := by decide +kernel
theorem dX2_lightIndexOn_11 : decode cX2_lightIndexOn 11 = .ok (.getfield 17, 3) := by decide +kernel
theorem dX2_lightIndexOn_14 : decode cX2_lightIndexOn 14 = .ok (.iload_n 2, 1) := by decide +kernel
theorem dX2_lightIndexOn_15 : decode cX2_lightIndexOn 15 = .ok (.aaload, 1) := by decide +kernel
theorem dX2_lightIndexOn_16 : decode cX2_lightIndexOn 16 = .ok (.getfield 75, 3) := by decide +kernel
theorem dX2_lightIndexOn_19 : decode cX2_lightIndexOn 19 = .ok (.iload_n 1, 1) := by decide +kernel
theorem dX2_lightIndexOn_20 : decode cX2_lightIndexOn 20 = .ok (.if_icmp .ne 5, 3) := by decide +kernel
theorem dX2_lightIndexOn_23 : decode cX2_lightIndexOn 23 = .ok (.iload_n 2, 1) := by decide +kernel
theorem dX2_lightIndexOn_24 : decode cX2_lightIndexOn 24 = .ok (.ireturn, 1) := by decide +kernel
theorem dX2_lightIndexOn_25 : decode cX2_lightIndexOn 25 = .ok (.iinc 2 1, 3) := by decide +kernel
theorem dX2_lightIndexOn_28 : decode cX2_lightIndexOn 28 = .ok (.goto (-26), 3) := by decide +kernel
theorem dX2_lightIndexOn_31 : decode cX2_lightIndexOn 31 = .ok (.iconst (-1), 1) := by decide +kernel
theorem dX2_lightIndexOn_32 : decode cX2_lightIndexOn 32 = .ok (.ireturn, 1) := by decide +kernel
theorem dX2_takeLight_0 : decode cX2_takeLight 0 = .ok (.aload_n 0, 1) := by decide +kernel
theorem dX2_takeLight_1 : decode cX2_takeLight 1 = .ok (.getfield 17, 3) := by decide +kernel
theorem dX2_takeLight_4 : decode cX2_takeLight 4 = .ok (.iload_n 1, 1) := by decide +kernel
theorem dX2_takeLight_5 : decode cX2_takeLight 5 = .ok (.aaload, 1) := by decide +kernel
theorem dX2_takeLight_6 : decode cX2_takeLight 6 = .ok (.astore_n 2, 1) := by decide +kernel
theorem dX2_takeLight_7 : decode cX2_takeLight 7 = .ok (.iload_n 1, 1) := by decide +kernel
theorem dX2_takeLight_8 : decode cX2_takeLight 8 = .ok (.iconst 1, 1) := by decide +kernel
theorem dX2_takeLight_9 : decode cX2_takeLight 9 = .ok (.iadd, 1) := by decide +kernel
theorem dX2_takeLight_10 : decode cX2_takeLight 10 = .ok (.istore_n 3, 1) := by decide +kernel
theorem dX2_takeLight_11 : decode cX2_takeLight 11 = .ok (.iload_n 3, 1) := by decide +kernel
theorem dX2_takeLight_12 : decode cX2_takeLight 12 = .ok (.aload_n 0, 1) := by decide +kernel
theorem dX2_takeLight_13 : decode cX2_takeLight 13 = .ok (.getfield 42, 3) := by decide +kernel
theorem dX2_takeLight_16 : decode cX2_takeLight 16 = .ok (.if_icmp .ge 23, 3) := by decide +kernel
theorem dX2_takeLight_19 : decode cX2_takeLight 19 = .ok (.aload_n 0, 1) := by decide +kernel
theorem dX2_takeLight_20 : decode cX2_takeLight 20 = .ok (.getfield 17, 3) := by decide +kernel
theorem dX2_takeLight_23 : decode cX2_takeLight 23 = .ok (.iload_n 3, 1) := by decide +kernel
theorem dX2_takeLight_24 : decode cX2_takeLight 24 = .ok (.iconst 1, 1) := by decide +kernel
theorem dX2_takeLight_25 : decode cX2_takeLight 25 = .ok (.isub, 1) := by decide +kernel
theorem dX2_takeLight_26 : decode cX2_takeLight 26 = .ok (.aload_n 0, 1) := by decide +kernel
theorem dX2_takeLight_27 : decode cX2_takeLight 27 = .ok (.getfield 17, 3) := by decide +kernel
theorem dX2_takeLight_30 : decode cX2_takeLight 30 = .ok (.iload_n 3, 1) := by decide +kernel
theorem dX2_takeLight_31 : decode cX2_takeLight 31 = .ok (.aaload, 1) := by decide +kernel
theorem dX2_takeLight_32 : decode cX2_takeLight 32 = .ok (.aastore, 1) := by decide +kernel
theorem dX2_takeLight_33 : decode cX2_takeLight 33 = .ok (.iinc 3 1, 3) := by decide +kernel
theorem dX2_takeLight_36 : decode cX2_takeLight 36 = .ok (.goto (-25), 3) := by decide +kernel
theorem dX2_takeLight_39 : decode cX2_takeLight 39 = .ok (.aload_n 0, 1) := by decide +kernel
theorem dX2_takeLight_40 : decode cX2_takeLight 40 = .ok (.dup, 1) := by decide +kernel
theorem dX2_takeLight_41 : decode cX2_takeLight 41 = .ok (.getfield 42, 3) := by decide +kernel
theorem dX2_takeLight_44 : decode cX2_takeLight 44 = .ok (.iconst 1, 1) := by decide +kernel
theorem dX2_takeLight_45 : decode cX2_takeLight 45 = .ok (.isub, 1) := by decide +kernel
theorem dX2_takeLight_46 : decode cX2_takeLight 46 = .ok (.putfield 42, 3) := by decide +kernel
theorem dX2_takeLight_49 : decode cX2_takeLight 49 = .ok (.aload_n 0, 1) := by decide +kernel
theorem dX2_takeLight_50 : decode cX2_takeLight 50 = .ok (.getfield 17, 3) := by decide +kernel
theorem dX2_takeLight_53 : decode cX2_takeLight 53 = .ok (.aload_n 0, 1) := by decide +kernel
theorem dX2_takeLight_54 : decode cX2_takeLight 54 = .ok (.getfield 42, 3) := by decide +kernel
theorem dX2_takeLight_57 : decode cX2_takeLight 57 = .ok (.aload_n 2, 1) := by decide +kernel
theorem dX2_takeLight_58 : decode cX2_takeLight 58 = .ok (.aastore, 1) := by decide +kernel
theorem dX2_takeLight_59 : decode cX2_takeLight 59 = .ok (.return_, 1) := by decide +kernel
theorem dX2_takeShip_0 : decode cX2_takeShip 0 = .ok (.aload_n 0, 1) := by decide +kernel
theorem dX2_takeShip_1 : decode cX2_takeShip 1 = .ok (.getfield 23, 3) := by decide +kernel
theorem dX2_takeShip_4 : decode cX2_takeShip 4 = .ok (.iload_n 1, 1) := by decide +kernel
theorem dX2_takeShip_5 : decode cX2_takeShip 5 = .ok (.aaload, 1) := by decide +kernel
theorem dX2_takeShip_6 : decode cX2_takeShip 6 = .ok (.astore_n 2, 1) := by decide +kernel
theorem dX2_takeShip_7 : decode cX2_takeShip 7 = .ok (.iload_n 1, 1) := by decide +kernel
theorem dX2_takeShip_8 : decode cX2_takeShip 8 = .ok (.iconst 1, 1) := by decide +kernel
theorem dX2_takeShip_9 : decode cX2_takeShip 9 = .ok (.iadd, 1) := by decide +kernel
theorem dX2_takeShip_10 : decode cX2_takeShip 10 = .ok (.istore_n 3, 1) := by decide +kernel
theorem dX2_takeShip_11 : decode cX2_takeShip 11 = .ok (.iload_n 3, 1) := by decide +kernel
theorem dX2_takeShip_12 : decode cX2_takeShip 12 = .ok (.aload_n 0, 1) := by decide +kernel
theorem dX2_takeShip_13 : decode cX2_takeShip 13 = .ok (.getfield 46, 3) := by decide +kernel
theorem dX2_takeShip_16 : decode cX2_takeShip 16 = .ok (.if_icmp .ge 23, 3) := by decide +kernel
theorem dX2_takeShip_19 : decode cX2_takeShip 19 = .ok (.aload_n 0, 1) := by decide +kernel
theorem dX2_takeShip_20 : decode cX2_takeShip 20 = .ok (.getfield 23, 3) := by decide +kernel
theorem dX2_takeShip_23 : decode cX2_takeShip 23 = .ok (.iload_n 3, 1) := by decide +kernel
theorem dX2_takeShip_24 : decode cX2_takeShip 24 = .ok (.iconst 1, 1) := by decide +kernel
theorem dX2_takeShip_25 : decode cX2_takeShip 25 = .ok (.isub, 1) := by decide +kernel
theorem dX2_takeShip_26 : decode cX2_takeShip 26 = .ok (.aload_n 0, 1) := by decide +kernel
theorem dX2_takeShip_27 : decode cX2_takeShip 27 = .ok (.getfield 23, 3) := by decide +kernel
theorem dX2_takeShip_30 : decode cX2_takeShip 30 = .ok (.iload_n 3, 1) := by decide +kernel
theorem dX2_takeShip_31 : decode cX2_takeShip 31 = .ok (.aaload, 1) := by decide +kernel
theorem dX2_takeShip_32 : decode cX2_takeShip 32 = .ok (.aastore, 1) := by decide +kernel
theorem dX2_takeShip_33 : decode cX2_takeShip 33 = .ok (.iinc 3 1, 3) := by decide +kernel
theorem dX2_takeShip_36 : decode cX2_takeShip 36 = .ok (.goto (-25), 3) := by decide +kernel
theorem dX2_takeShip_39 : decode cX2_takeShip 39 = .ok (.aload_n 0, 1) := by decide +kernel
theorem dX2_takeShip_40 : decode cX2_takeShip 40 = .ok (.dup, 1) := by decide +kernel
theorem dX2_takeShip_41 : decode cX2_takeShip 41 = .ok (.getfield 46, 3) := by decide +kernel
theorem dX2_takeShip_44 : decode cX2_takeShip 44 = .ok (.iconst 1, 1) := by decide +kernel
theorem dX2_takeShip_45 : decode cX2_takeShip 45 = .ok (.isub, 1) := by decide +kernel
theorem dX2_takeShip_46 : decode cX2_takeShip 46 = .ok (.putfield 46, 3) := by decide +kernel
theorem dX2_takeShip_49 : decode cX2_takeShip 49 = .ok (.aload_n 0, 1) := by decide +kernel
theorem dX2_takeShip_50 : decode cX2_takeShip 50 = .ok (.getfield 23, 3) := by decide +kernel
theorem dX2_takeShip_53 : decode cX2_takeShip 53 = .ok (.aload_n 0, 1) := by decide +kernel
theorem dX2_takeShip_54 : decode cX2_takeShip 54 = .ok (.getfield 46, 3) := by decide +kernel
theorem dX2_takeShip_57 : decode cX2_takeShip 57 = .ok (.aload_n 2, 1) := by decide +kernel
theorem dX2_takeShip_58 : decode cX2_takeShip 58 = .ok (.aastore, 1) := by decide +kernel
theorem dX2_takeShip_59 : decode cX2_takeShip 59 = .ok (.return_, 1) := by decide +kernel
theorem dX2_canReach_0 : decode cX2_canReach 0 = .ok (.iload_n 2, 1) := by decide +kernel
theorem dX2_canReach_1 : decode cX2_canReach 1 = .ok (.invokestatic 78, 3) := by decide +kernel
theorem dX2_canReach_4 : decode cX2_canReach 4 = .ok (.aload_n 1, 1) := by decide +kernel
theorem dX2_canReach_5 : decode cX2_canReach 5 = .ok (.getfield 75, 3) := by decide +kernel
theorem dX2_canReach_8 : decode cX2_canReach 8 = .ok (.invokestatic 78, 3) := by decide +kernel
theorem dX2_canReach_11 : decode cX2_canReach 11 = .ok (.isub, 1) := by decide +kernel
theorem dX2_canReach_12 : decode cX2_canReach 12 = .ok (.istore_n 3, 1) := by decide +kernel
theorem dX2_canReach_13 : decode cX2_canReach 13 = .ok (.iload_n 2, 1) := by decide +kernel
theorem dX2_canReach_14 : decode cX2_canReach 14 = .ok (.invokestatic 81, 3) := by decide +kernel
theorem dX2_canReach_17 : decode cX2_canReach 17 = .ok (.aload_n 1, 1) := by decide +kernel
theorem dX2_canReach_18 : decode cX2_canReach 18 = .ok (.getfield 75, 3) := by decide +kernel
theorem dX2_canReach_21 : decode cX2_canReach 21 = .ok (.invokestatic 81, 3) := by decide +kernel
theorem dX2_canReach_24 : decode cX2_canReach 24 = .ok (.isub, 1) := by decide +kernel
theorem dX2_canReach_25 : decode cX2_canReach 25 = .ok (.istore 4, 2) := by decide +kernel
theorem dX2_canReach_27 : decode cX2_canReach 27 = .ok (.iload_n 3, 1) := by decide +kernel
theorem dX2_canReach_28 : decode cX2_canReach 28 = .ok (.iload_n 3, 1) := by decide +kernel
theorem dX2_canReach_29 : decode cX2_canReach 29 = .ok (.imul, 1) := by decide +kernel
theorem dX2_canReach_30 : decode cX2_canReach 30 = .ok (.iload 4, 2) := by decide +kernel
theorem dX2_canReach_32 : decode cX2_canReach 32 = .ok (.iload 4, 2) := by decide +kernel
theorem dX2_canReach_34 : decode cX2_canReach 34 = .ok (.imul, 1) := by decide +kernel
theorem dX2_canReach_35 : decode cX2_canReach 35 = .ok (.iadd, 1) := by decide +kernel
theorem dX2_canReach_36 : decode cX2_canReach 36 = .ok (.aload_n 1, 1) := by decide +kernel
theorem dX2_canReach_37 : decode cX2_canReach 37 = .ok (.getfield 84, 3) := by decide +kernel
theorem dX2_canReach_40 : decode cX2_canReach 40 = .ok (.aload_n 1, 1) := by decide +kernel
theorem dX2_canReach_41 : decode cX2_canReach 41 = .ok (.getfield 84, 3) := by decide +kernel
theorem dX2_canReach_44 : decode cX2_canReach 44 = .ok (.imul, 1) := by decide +kernel
theorem dX2_canReach_45 : decode cX2_canReach 45 = .ok (.if_icmp .le 5, 3) := by decide +kernel
theorem dX2_canReach_48 : decode cX2_canReach 48 = .ok (.iconst 0, 1) := by decide +kernel
theorem dX2_canReach_49 : decode cX2_canReach 49 = .ok (.ireturn, 1) := by decide +kernel
theorem dX2_canReach_50 : decode cX2_canReach 50 = .ok (.iload_n 3, 1) := by decide +kernel
theorem dX2_canReach_51 : decode cX2_canReach 51 = .ok (.invokestatic 87, 3) := by decide +kernel
theorem dX2_canReach_54 : decode cX2_canReach 54 = .ok (.iload 4, 2) := by decide +kernel
theorem dX2_canReach_56 : decode cX2_canReach 56 = .ok (.invokestatic 87, 3) := by decide +kernel
theorem dX2_canReach_59 : decode cX2_canReach 59 = .ok (.invokestatic 92, 3) := by decide +kernel
theorem dX2_canReach_62 : decode cX2_canReach 62 = .ok (.istore 5, 2) := by decide +kernel
theorem dX2_canReach_64 : decode cX2_canReach 64 = .ok (.iconst 1, 1) := by decide +kernel
theorem dX2_canReach_65 : decode cX2_canReach 65 = .ok (.istore 6, 2) := by decide +kernel
theorem dX2_canReach_67 : decode cX2_canReach 67 = .ok (.iload 6, 2) := by decide +kernel
theorem dX2_canReach_69 : decode cX2_canReach 69 = .ok (.iload 5, 2) := by decide +kernel
theorem dX2_canReach_71 : decode cX2_canReach 71 = .ok (.if_icmp .ge 68, 3) := by decide +kernel
theorem dX2_canReach_74 : decode cX2_canReach 74 = .ok (.iconst 2, 1) := by decide +kernel
theorem dX2_canReach_75 : decode cX2_canReach 75 = .ok (.iload 6, 2) := by decide +kernel
theorem dX2_canReach_77 : decode cX2_canReach 77 = .ok (.imul, 1) := by decide +kernel
theorem dX2_canReach_78 : decode cX2_canReach 78 = .ok (.iload_n 3, 1) := by decide +kernel
theorem dX2_canReach_79 : decode cX2_canReach 79 = .ok (.imul, 1) := by decide +kernel
theorem dX2_canReach_80 : decode cX2_canReach 80 = .ok (.iload 5, 2) := by decide +kernel
theorem dX2_canReach_82 : decode cX2_canReach 82 = .ok (.iadd, 1) := by decide +kernel
theorem dX2_canReach_83 : decode cX2_canReach 83 = .ok (.iconst 2, 1) := by decide +kernel
theorem dX2_canReach_84 : decode cX2_canReach 84 = .ok (.iload 5, 2) := by decide +kernel
theorem dX2_canReach_86 : decode cX2_canReach 86 = .ok (.imul, 1) := by decide +kernel
theorem dX2_canReach_87 : decode cX2_canReach 87 = .ok (.invokestatic 95, 3) := by decide +kernel
theorem dX2_canReach_90 : decode cX2_canReach 90 = .ok (.istore 7, 2) := by decide +kernel
theorem dX2_canReach_92 : decode cX2_canReach 92 = .ok (.iconst 2, 1) := by decide +kernel
theorem dX2_canReach_93 : decode cX2_canReach 93 = .ok (.iload 6, 2) := by decide +kernel
theorem dX2_canReach_95 : decode cX2_canReach 95 = .ok (.imul, 1) := by decide +kernel
theorem dX2_canReach_96 : decode cX2_canReach 96 = .ok (.iload 4, 2) := by decide +kernel
theorem dX2_canReach_98 : decode cX2_canReach 98 = .ok (.imul, 1) := by decide +kernel
theorem dX2_canReach_99 : decode cX2_canReach 99 = .ok (.iload 5, 2) := by decide +kernel
theorem dX2_canReach_101 : decode cX2_canReach 101 = .ok (.iadd, 1) := by decide +kernel
theorem dX2_canReach_102 : decode cX2_canReach 102 = .ok (.iconst 2, 1) := by decide +kernel
theorem dX2_canReach_103 : decode cX2_canReach 103 = .ok (.iload 5, 2) := by decide +kernel
theorem dX2_canReach_105 : decode cX2_canReach 105 = .ok (.imul, 1) := by decide +kernel
theorem dX2_canReach_106 : decode cX2_canReach 106 = .ok (.invokestatic 95, 3) := by decide +kernel
theorem dX2_canReach_109 : decode cX2_canReach 109 = .ok (.istore 8, 2) := by decide +kernel
theorem dX2_canReach_111 : decode cX2_canReach 111 = .ok (.aload_n 0, 1) := by decide +kernel
theorem dX2_canReach_112 : decode cX2_canReach 112 = .ok (.aload_n 1, 1) := by decide +kernel
theorem dX2_canReach_113 : decode cX2_canReach 113 = .ok (.getfield 75, 3) := by decide +kernel
theorem dX2_canReach_116 : decode cX2_canReach 116 = .ok (.iload 8, 2) := by decide +kernel
theorem dX2_canReach_118 : decode cX2_canReach 118 = .ok (.bipush 8, 2) := by decide +kernel
theorem dX2_canReach_120 : decode cX2_canReach 120 = .ok (.imul, 1) := by decide +kernel
theorem dX2_canReach_121 : decode cX2_canReach 121 = .ok (.iadd, 1) := by decide +kernel
theorem dX2_canReach_122 : decode cX2_canReach 122 = .ok (.iload 7, 2) := by decide +kernel
theorem dX2_canReach_124 : decode cX2_canReach 124 = .ok (.iadd, 1) := by decide +kernel
theorem dX2_canReach_125 : decode cX2_canReach 125 = .ok (.invokevirtual 72, 3) := by decide +kernel
theorem dX2_canReach_128 : decode cX2_canReach 128 = .ok (.ifCond .ne 5, 3) := by decide +kernel
theorem dX2_canReach_131 : decode cX2_canReach 131 = .ok (.iconst 0, 1) := by decide +kernel
theorem dX2_canReach_132 : decode cX2_canReach 132 = .ok (.ireturn, 1) := by decide +kernel
theorem dX2_canReach_133 : decode cX2_canReach 133 = .ok (.iinc 6 1, 3) := by decide +kernel
theorem dX2_canReach_136 : decode cX2_canReach 136 = .ok (.goto (-69), 3) := by decide +kernel
theorem dX2_canReach_139 : decode cX2_canReach 139 = .ok (.iconst 1, 1) := by decide +kernel
theorem dX2_canReach_140 : decode cX2_canReach 140 = .ok (.ireturn, 1) := by decide +kernel
theorem dX2_isSwept_0 : decode cX2_isSwept 0 = .ok (.iload_n 2, 1) := by decide +kernel
theorem dX2_isSwept_1 : decode cX2_isSwept 1 = .ok (.aload_n 1, 1) := by decide +kernel
theorem dX2_isSwept_2 : decode cX2_isSwept 2 = .ok (.getfield 75, 3) := by decide +kernel
theorem dX2_isSwept_5 : decode cX2_isSwept 5 = .ok (.if_icmp .ne 5, 3) := by decide +kernel
theorem dX2_isSwept_8 : decode cX2_isSwept 8 = .ok (.iconst 1, 1) := by decide +kernel
theorem dX2_isSwept_9 : decode cX2_isSwept 9 = .ok (.ireturn, 1) := by decide +kernel
theorem dX2_isSwept_10 : decode cX2_isSwept 10 = .ok (.aload_n 1, 1) := by decide +kernel
theorem dX2_isSwept_11 : decode cX2_isSwept 11 = .ok (.aload_n 0, 1) := by decide +kernel
theorem dX2_isSwept_12 : decode cX2_isSwept 12 = .ok (.getfield 49, 3) := by decide +kernel
theorem dX2_isSwept_15 : decode cX2_isSwept 15 = .ok (.invokevirtual 98, 3) := by decide +kernel
theorem dX2_isSwept_18 : decode cX2_isSwept 18 = .ok (.aload_n 1, 1) := by decide +kernel
theorem dX2_isSwept_19 : decode cX2_isSwept 19 = .ok (.iload_n 2, 1) := by decide +kernel
theorem dX2_isSwept_20 : decode cX2_isSwept 20 = .ok (.invokevirtual 101, 3) := by decide +kernel
theorem dX2_isSwept_23 : decode cX2_isSwept 23 = .ok (.if_icmp .ne 16, 3) := by decide +kernel
theorem dX2_isSwept_26 : decode cX2_isSwept 26 = .ok (.aload_n 0, 1) := by decide +kernel
theorem dX2_isSwept_27 : decode cX2_isSwept 27 = .ok (.aload_n 1, 1) := by decide +kernel
theorem dX2_isSwept_28 : decode cX2_isSwept 28 = .ok (.iload_n 2, 1) := by decide +kernel
theorem dX2_isSwept_29 : decode cX2_isSwept 29 = .ok (.invokevirtual 104, 3) := by decide +kernel
theorem dX2_isSwept_32 : decode cX2_isSwept 32 = .ok (.ifCond .eq 7, 3) := by decide +kernel
theorem dX2_isSwept_35 : decode cX2_isSwept 35 = .ok (.iconst 1, 1) := by decide +kernel
theorem dX2_isSwept_36 : decode cX2_isSwept 36 = .ok (.goto 4, 3) := by decide +kernel
theorem dX2_isSwept_39 : decode cX2_isSwept 39 = .ok (.iconst 0, 1) := by decide +kernel
theorem dX2_isSwept_40 : decode cX2_isSwept 40 = .ok (.ireturn, 1) := by decide +kernel
theorem dX2_lightsSweeping_0 : decode cX2_lightsSweeping 0 = .ok (.iconst 0, 1) := by decide +kernel
theorem dX2_lightsSweeping_1 : decode cX2_lightsSweeping 1 = .ok (.istore_n 2, 1) := by decide +kernel
theorem dX2_lightsSweeping_2 : decode cX2_lightsSweeping 2 = .ok (.iconst 0, 1) := by decide +kernel
theorem dX2_lightsSweeping_3 : decode cX2_lightsSweeping 3 = .ok (.istore_n 3, 1) := by decide +kernel
theorem dX2_lightsSweeping_4 : decode cX2_lightsSweeping 4 = .ok (.iload_n 3, 1) := by decide +kernel
theorem dX2_lightsSweeping_5 : decode cX2_lightsSweeping 5 = .ok (.aload_n 0, 1) := by decide +kernel
theorem dX2_lightsSweeping_6 : decode cX2_lightsSweeping 6 = .ok (.getfield 42, 3) := by decide +kernel
theorem dX2_lightsSweeping_9 : decode cX2_lightsSweeping 9 = .ok (.if_icmp .ge 26, 3) := by decide +kernel
theorem dX2_lightsSweeping_12 : decode cX2_lightsSweeping 12 = .ok (.aload_n 0, 1) := by decide +kernel
theorem dX2_lightsSweeping_13 : decode cX2_lightsSweeping 13 = .ok (.aload_n 0, 1) := by decide +kernel
theorem dX2_lightsSweeping_14 : decode cX2_lightsSweeping 14 = .ok (.getfield 17, 3) := by decide +kernel
theorem dX2_lightsSweeping_17 : decode cX2_lightsSweeping 17 = .ok (.iload_n 3, 1) := by decide +kernel
theorem dX2_lightsSweeping_18 : decode cX2_lightsSweeping 18 = .ok (.aaload, 1) := by decide +kernel
theorem dX2_lightsSweeping_19 : decode cX2_lightsSweeping 19 = .ok (.iload_n 1, 1) := by decide +kernel
theorem dX2_lightsSweeping_20 : decode cX2_lightsSweeping 20 = .ok (.invokevirtual 108, 3) := by decide +kernel
theorem dX2_lightsSweeping_23 : decode cX2_lightsSweeping 23 = .ok (.ifCond .eq 6, 3) := by decide +kernel
theorem dX2_lightsSweeping_26 : decode cX2_lightsSweeping 26 = .ok (.iinc 2 1, 3) := by decide +kernel
theorem dX2_lightsSweeping_29 : decode cX2_lightsSweeping 29 = .ok (.iinc 3 1, 3) := by decide +kernel
theorem dX2_lightsSweeping_32 : decode cX2_lightsSweeping 32 = .ok (.goto (-28), 3) := by decide +kernel
theorem dX2_lightsSweeping_35 : decode cX2_lightsSweeping 35 = .ok (.iload_n 2, 1) := by decide +kernel
theorem dX2_lightsSweeping_36 : decode cX2_lightsSweeping 36 = .ok (.ireturn, 1) := by decide +kernel
theorem dX2_reachOf_0 : decode cX2_reachOf 0 = .ok (.lconst 0, 1) := by decide +kernel
theorem dX2_reachOf_1 : decode cX2_reachOf 1 = .ok (.lstore_n 2, 1) := by decide +kernel
theorem dX2_reachOf_2 : decode cX2_reachOf 2 = .ok (.iconst 0, 1) := by decide +kernel
theorem dX2_reachOf_3 : decode cX2_reachOf 3 = .ok (.istore 4, 2) := by decide +kernel
theorem dX2_reachOf_5 : decode cX2_reachOf 5 = .ok (.iload 4, 2) := by decide +kernel
theorem dX2_reachOf_7 : decode cX2_reachOf 7 = .ok (.bipush 64, 2) := by decide +kernel
theorem dX2_reachOf_9 : decode cX2_reachOf 9 = .ok (.if_icmp .ge 26, 3) := by decide +kernel
theorem dX2_reachOf_12 : decode cX2_reachOf 12 = .ok (.aload_n 0, 1) := by decide +kernel
theorem dX2_reachOf_13 : decode cX2_reachOf 13 = .ok (.aload_n 1, 1) := by decide +kernel
theorem dX2_reachOf_14 : decode cX2_reachOf 14 = .ok (.iload 4, 2) := by decide +kernel
theorem dX2_reachOf_16 : decode cX2_reachOf 16 = .ok (.invokevirtual 104, 3) := by decide +kernel
theorem dX2_reachOf_19 : decode cX2_reachOf 19 = .ok (.ifCond .eq 10, 3) := by decide +kernel
theorem dX2_reachOf_22 : decode cX2_reachOf 22 = .ok (.lload_n 2, 1) := by decide +kernel
theorem dX2_reachOf_23 : decode cX2_reachOf 23 = .ok (.lconst 1, 1) := by decide +kernel
theorem dX2_reachOf_24 : decode cX2_reachOf 24 = .ok (.iload 4, 2) := by decide +kernel
theorem dX2_reachOf_26 : decode cX2_reachOf 26 = .ok (.lshl, 1) := by decide +kernel
theorem dX2_reachOf_27 : decode cX2_reachOf 27 = .ok (.lor, 1) := by decide +kernel
theorem dX2_reachOf_28 : decode cX2_reachOf 28 = .ok (.lstore_n 2, 1) := by decide +kernel
theorem dX2_reachOf_29 : decode cX2_reachOf 29 = .ok (.iinc 4 1, 3) := by decide +kernel
theorem dX2_reachOf_32 : decode cX2_reachOf 32 = .ok (.goto (-27), 3) := by decide +kernel
theorem dX2_reachOf_35 : decode cX2_reachOf 35 = .ok (.lload_n 2, 1) := by decide +kernel
theorem dX2_reachOf_36 : decode cX2_reachOf 36 = .ok (.lreturn, 1) := by decide +kernel
theorem dX2_shipsDarkerThan_0 : decode cX2_shipsDarkerThan 0 = .ok (.iconst 0, 1) := by decide +kernel
theorem dX2_shipsDarkerThan_1 : decode cX2_shipsDarkerThan 1 = .ok (.istore_n 2, 1) := by decide +kernel
theorem dX2_shipsDarkerThan_2 : decode cX2_shipsDarkerThan 2 = .ok (.iconst 0, 1) := by decide +kernel
theorem dX2_shipsDarkerThan_3 : decode cX2_shipsDarkerThan 3 = .ok (.istore_n 3, 1) := by decide +kernel
theorem dX2_shipsDarkerThan_4 : decode cX2_shipsDarkerThan 4 = .ok (.iload_n 3, 1) := by decide +kernel
theorem dX2_shipsDarkerThan_5 : decode cX2_shipsDarkerThan 5 = .ok (.aload_n 0, 1) := by decide +kernel
theorem dX2_shipsDarkerThan_6 : decode cX2_shipsDarkerThan 6 = .ok (.getfield 46, 3) := by decide +kernel
theorem dX2_shipsDarkerThan_9 : decode cX2_shipsDarkerThan 9 = .ok (.if_icmp .ge 26, 3) := by decide +kernel
theorem dX2_shipsDarkerThan_12 : decode cX2_shipsDarkerThan 12 = .ok (.iload_n 3, 1) := by decide +kernel
theorem dX2_shipsDarkerThan_13 : decode cX2_shipsDarkerThan 13 = .ok (.iload_n 1, 1) := by decide +kernel
theorem dX2_shipsDarkerThan_14 : decode cX2_shipsDarkerThan 14 = .ok (.if_icmp .eq 15, 3) := by decide +kernel
theorem dX2_shipsDarkerThan_17 : decode cX2_shipsDarkerThan 17 = .ok (.aload_n 0, 1) := by decide +kernel
theorem dX2_shipsDarkerThan_18 : decode cX2_shipsDarkerThan 18 = .ok (.iload_n 3, 1) := by decide +kernel
theorem dX2_shipsDarkerThan_19 : decode cX2_shipsDarkerThan 19 = .ok (.iload_n 1, 1) := by decide +kernel
theorem dX2_shipsDarkerThan_20 : decode cX2_shipsDarkerThan 20 = .ok (.invokevirtual 111, 3) := by decide +kernel
theorem dX2_shipsDarkerThan_23 : decode cX2_shipsDarkerThan 23 = .ok (.ifCond .eq 6, 3) := by decide +kernel
theorem dX2_shipsDarkerThan_26 : decode cX2_shipsDarkerThan 26 = .ok (.iinc 2 1, 3) := by decide +kernel
theorem dX2_shipsDarkerThan_29 : decode cX2_shipsDarkerThan 29 = .ok (.iinc 3 1, 3) := by decide +kernel
theorem dX2_shipsDarkerThan_32 : decode cX2_shipsDarkerThan 32 = .ok (.goto (-28), 3) := by decide +kernel
theorem dX2_shipsDarkerThan_35 : decode cX2_shipsDarkerThan 35 = .ok (.iload_n 2, 1) := by decide +kernel
theorem dX2_shipsDarkerThan_36 : decode cX2_shipsDarkerThan 36 = .ok (.ireturn, 1) := by decide +kernel
theorem dX2_isDarker_0 : decode cX2_isDarker 0 = .ok (.aload_n 0, 1) := by decide +kernel
theorem dX2_isDarker_1 : decode cX2_isDarker 1 = .ok (.getfield 23, 3) := by decide +kernel
theorem dX2_isDarker_4 : decode cX2_isDarker 4 = .ok (.iload_n 1, 1) := by decide +kernel
theorem dX2_isDarker_5 : decode cX2_isDarker 5 = .ok (.aaload, 1) := by decide +kernel
theorem dX2_isDarker_6 : decode cX2_isDarker 6 = .ok (.astore_n 3, 1) := by decide +kernel
theorem dX2_isDarker_7 : decode cX2_isDarker 7 = .ok (.aload_n 0, 1) := by decide +kernel
theorem dX2_isDarker_8 : decode cX2_isDarker 8 = .ok (.getfield 23, 3) := by decide +kernel
theorem dX2_isDarker_11 : decode cX2_isDarker 11 = .ok (.iload_n 2, 1) := by decide +kernel
theorem dX2_isDarker_12 : decode cX2_isDarker 12 = .ok (.aaload, 1) := by decide +kernel
theorem dX2_isDarker_13 : decode cX2_isDarker 13 = .ok (.astore 4, 2) := by decide +kernel
theorem dX2_isDarker_15 : decode cX2_isDarker 15 = .ok (.aload_n 3, 1) := by decide +kernel
theorem dX2_isDarker_16 : decode cX2_isDarker 16 = .ok (.getfield 115, 3) := by decide +kernel
theorem dX2_isDarker_19 : decode cX2_isDarker 19 = .ok (.aload 4, 2) := by decide +kernel
theorem dX2_isDarker_21 : decode cX2_isDarker 21 = .ok (.getfield 115, 3) := by decide +kernel
theorem dX2_isDarker_24 : decode cX2_isDarker 24 = .ok (.if_icmp .eq 21, 3) := by decide +kernel
theorem dX2_isDarker_27 : decode cX2_isDarker 27 = .ok (.aload_n 3, 1) := by decide +kernel
theorem dX2_isDarker_28 : decode cX2_isDarker 28 = .ok (.getfield 115, 3) := by decide +kernel
theorem dX2_isDarker_31 : decode cX2_isDarker 31 = .ok (.aload 4, 2) := by decide +kernel
theorem dX2_isDarker_33 : decode cX2_isDarker 33 = .ok (.getfield 115, 3) := by decide +kernel
theorem dX2_isDarker_36 : decode cX2_isDarker 36 = .ok (.if_icmp .le 7, 3) := by decide +kernel
theorem dX2_isDarker_39 : decode cX2_isDarker 39 = .ok (.iconst 1, 1) := by decide +kernel
theorem dX2_isDarker_40 : decode cX2_isDarker 40 = .ok (.goto 4, 3) := by decide +kernel
theorem dX2_isDarker_43 : decode cX2_isDarker 43 = .ok (.iconst 0, 1) := by decide +kernel
theorem dX2_isDarker_44 : decode cX2_isDarker 44 = .ok (.ireturn, 1) := by decide +kernel
theorem dX2_isDarker_45 : decode cX2_isDarker 45 = .ok (.aload_n 3, 1) := by decide +kernel
theorem dX2_isDarker_46 : decode cX2_isDarker 46 = .ok (.getfield 118, 3) := by decide +kernel
theorem dX2_isDarker_49 : decode cX2_isDarker 49 = .ok (.aload 4, 2) := by decide +kernel
theorem dX2_isDarker_51 : decode cX2_isDarker 51 = .ok (.getfield 118, 3) := by decide +kernel
theorem dX2_isDarker_54 : decode cX2_isDarker 54 = .ok (.if_icmp .eq 23, 3) := by decide +kernel
theorem dX2_isDarker_57 : decode cX2_isDarker 57 = .ok (.aload_n 3, 1) := by decide +kernel
theorem dX2_isDarker_58 : decode cX2_isDarker 58 = .ok (.getfield 118, 3) := by decide +kernel
theorem dX2_isDarker_61 : decode cX2_isDarker 61 = .ok (.aload 4, 2) := by decide +kernel
theorem dX2_isDarker_63 : decode cX2_isDarker 63 = .ok (.getfield 118, 3) := by decide +kernel
theorem dX2_isDarker_66 : decode cX2_isDarker 66 = .ok (.if_icmp .le 7, 3) := by decide +kernel
theorem dX2_isDarker_69 : decode cX2_isDarker 69 = .ok (.iconst 1, 1) := by decide +kernel
theorem dX2_isDarker_70 : decode cX2_isDarker 70 = .ok (.goto 17, 3) := by decide +kernel
theorem dX2_isDarker_73 : decode cX2_isDarker 73 = .ok (.iconst 0, 1) := by decide +kernel
theorem dX2_isDarker_74 : decode cX2_isDarker 74 = .ok (.goto 13, 3) := by decide +kernel
theorem dX2_isDarker_77 : decode cX2_isDarker 77 = .ok (.iload_n 1, 1) := by decide +kernel
theorem dX2_isDarker_78 : decode cX2_isDarker 78 = .ok (.iload_n 2, 1) := by decide +kernel
theorem dX2_isDarker_79 : decode cX2_isDarker 79 = .ok (.if_icmp .ge 7, 3) := by decide +kernel
theorem dX2_isDarker_82 : decode cX2_isDarker 82 = .ok (.iconst 1, 1) := by decide +kernel
theorem dX2_isDarker_83 : decode cX2_isDarker 83 = .ok (.goto 4, 3) := by decide +kernel
theorem dX2_isDarker_86 : decode cX2_isDarker 86 = .ok (.iconst 0, 1) := by decide +kernel
theorem dX2_isDarker_87 : decode cX2_isDarker 87 = .ok (.ireturn, 1) := by decide +kernel
theorem dX2_moveShips_0 : decode cX2_moveShips 0 = .ok (.aload_n 0, 1) := by decide +kernel
theorem dX2_moveShips_1 : decode cX2_moveShips 1 = .ok (.getfield 49, 3) := by decide +kernel
theorem dX2_moveShips_4 : decode cX2_moveShips 4 = .ok (.invokestatic 64, 3) := by decide +kernel
theorem dX2_moveShips_7 : decode cX2_moveShips 7 = .ok (.istore_n 2, 1) := by decide +kernel
theorem dX2_moveShips_8 : decode cX2_moveShips 8 = .ok (.iconst 0, 1) := by decide +kernel
theorem dX2_moveShips_9 : decode cX2_moveShips 9 = .ok (.istore_n 3, 1) := by decide +kernel
theorem dX2_moveShips_10 : decode cX2_moveShips 10 = .ok (.iload_n 3, 1) := by decide +kernel
theorem dX2_moveShips_11 : decode cX2_moveShips 11 = .ok (.aload_n 0, 1) := by decide +kernel
theorem dX2_moveShips_12 : decode cX2_moveShips 12 = .ok (.getfield 46, 3) := by decide +kernel
theorem dX2_moveShips_15 : decode cX2_moveShips 15 = .ok (.if_icmp .ge 82, 3) := by decide +kernel
theorem dX2_moveShips_18 : decode cX2_moveShips 18 = .ok (.aload_n 0, 1) := by decide +kernel
theorem dX2_moveShips_19 : decode cX2_moveShips 19 = .ok (.getfield 23, 3) := by decide +kernel
theorem dX2_moveShips_22 : decode cX2_moveShips 22 = .ok (.iload_n 3, 1) := by decide +kernel
theorem dX2_moveShips_23 : decode cX2_moveShips 23 = .ok (.aaload, 1) := by decide +kernel
theorem dX2_moveShips_24 : decode cX2_moveShips 24 = .ok (.astore 4, 2) := by decide +kernel
theorem dX2_moveShips_26 : decode cX2_moveShips 26 = .ok (.aload 4, 2) := by decide +kernel
theorem dX2_moveShips_28 : decode cX2_moveShips 28 = .ok (.getfield 121, 3) := by decide +kernel
theorem dX2_moveShips_31 : decode cX2_moveShips 31 = .ok (.ifCond .ne 60, 3) := by decide +kernel
theorem dX2_moveShips_34 : decode cX2_moveShips 34 = .ok (.aload 4, 2) := by decide +kernel
theorem dX2_moveShips_36 : decode cX2_moveShips 36 = .ok (.getfield 125, 3) := by decide +kernel
theorem dX2_moveShips_39 : decode cX2_moveShips 39 = .ok (.iconst (-1), 1) := by decide +kernel
theorem dX2_moveShips_40 : decode cX2_moveShips 40 = .ok (.if_icmp .ne 6, 3) := by decide +kernel
theorem dX2_moveShips_43 : decode cX2_moveShips 43 = .ok (.goto 48, 3) := by decide +kernel
theorem dX2_moveShips_46 : decode cX2_moveShips 46 = .ok (.aload 4, 2) := by decide +kernel
theorem dX2_moveShips_48 : decode cX2_moveShips 48 = .ok (.aload_n 1, 1) := by decide +kernel
theorem dX2_moveShips_49 : decode cX2_moveShips 49 = .ok (.aload_n 0, 1) := by decide +kernel
theorem dX2_moveShips_50 : decode cX2_moveShips 50 = .ok (.iload_n 2, 1) := by decide +kernel
theorem dX2_moveShips_51 : decode cX2_moveShips 51 = .ok (.aload 4, 2) := by decide +kernel
theorem dX2_moveShips_53 : decode cX2_moveShips 53 = .ok (.getfield 118, 3) := by decide +kernel
theorem dX2_moveShips_56 : decode cX2_moveShips 56 = .ok (.aload 4, 2) := by decide +kernel
theorem dX2_moveShips_58 : decode cX2_moveShips 58 = .ok (.getfield 128, 3) := by decide +kernel
theorem dX2_moveShips_61 : decode cX2_moveShips 61 = .ok (.aload 4, 2) := by decide +kernel
theorem dX2_moveShips_63 : decode cX2_moveShips 63 = .ok (.getfield 125, 3) := by decide +kernel
theorem dX2_moveShips_66 : decode cX2_moveShips 66 = .ok (.invokevirtual 129, 3) := by decide +kernel
theorem dX2_moveShips_69 : decode cX2_moveShips 69 = .ok (.putfield 128, 3) := by decide +kernel
theorem dX2_moveShips_72 : decode cX2_moveShips 72 = .ok (.aload 4, 2) := by decide +kernel
theorem dX2_moveShips_74 : decode cX2_moveShips 74 = .ok (.getfield 128, 3) := by decide +kernel
theorem dX2_moveShips_77 : decode cX2_moveShips 77 = .ok (.aload 4, 2) := by decide +kernel
theorem dX2_moveShips_79 : decode cX2_moveShips 79 = .ok (.getfield 125, 3) := by decide +kernel
theorem dX2_moveShips_82 : decode cX2_moveShips 82 = .ok (.if_icmp .ne 9, 3) := by decide +kernel
theorem dX2_moveShips_85 : decode cX2_moveShips 85 = .ok (.aload 4, 2) := by decide +kernel
theorem dX2_moveShips_87 : decode cX2_moveShips 87 = .ok (.iconst (-1), 1) := by decide +kernel
theorem dX2_moveShips_88 : decode cX2_moveShips 88 = .ok (.putfield 125, 3) := by decide +kernel
theorem dX2_moveShips_91 : decode cX2_moveShips 91 = .ok (.iinc 3 1, 3) := by decide +kernel
theorem dX2_moveShips_94 : decode cX2_moveShips 94 = .ok (.goto (-84), 3) := by decide +kernel
theorem dX2_moveShips_97 : decode cX2_moveShips 97 = .ok (.return_, 1) := by decide +kernel
theorem dX2_wreckShips_0 : decode cX2_wreckShips 0 = .ok (.iconst 0, 1) := by decide +kernel
theorem dX2_wreckShips_1 : decode cX2_wreckShips 1 = .ok (.istore_n 1, 1) := by decide +kernel
theorem dX2_wreckShips_2 : decode cX2_wreckShips 2 = .ok (.iload_n 1, 1) := by decide +kernel
theorem dX2_wreckShips_3 : decode cX2_wreckShips 3 = .ok (.aload_n 0, 1) := by decide +kernel
theorem dX2_wreckShips_4 : decode cX2_wreckShips 4 = .ok (.getfield 46, 3) := by decide +kernel
theorem dX2_wreckShips_7 : decode cX2_wreckShips 7 = .ok (.if_icmp .ge 58, 3) := by decide +kernel
theorem dX2_wreckShips_10 : decode cX2_wreckShips 10 = .ok (.aload_n 0, 1) := by decide +kernel
theorem dX2_wreckShips_11 : decode cX2_wreckShips 11 = .ok (.getfield 23, 3) := by decide +kernel
theorem dX2_wreckShips_14 : decode cX2_wreckShips 14 = .ok (.iload_n 1, 1) := by decide +kernel
theorem dX2_wreckShips_15 : decode cX2_wreckShips 15 = .ok (.aaload, 1) := by decide +kernel
theorem dX2_wreckShips_16 : decode cX2_wreckShips 16 = .ok (.astore_n 2, 1) := by decide +kernel
theorem dX2_wreckShips_17 : decode cX2_wreckShips 17 = .ok (.aload_n 2, 1) := by decide +kernel
theorem dX2_wreckShips_18 : decode cX2_wreckShips 18 = .ok (.getfield 121, 3) := by decide +kernel
theorem dX2_wreckShips_21 : decode cX2_wreckShips 21 = .ok (.ifCond .ne 38, 3) := by decide +kernel
theorem dX2_wreckShips_24 : decode cX2_wreckShips 24 = .ok (.aload_n 0, 1) := by decide +kernel
theorem dX2_wreckShips_25 : decode cX2_wreckShips 25 = .ok (.aload_n 2, 1) := by decide +kernel
theorem dX2_wreckShips_26 : decode cX2_wreckShips 26 = .ok (.getfield 128, 3) := by decide +kernel
theorem dX2_wreckShips_29 : decode cX2_wreckShips 29 = .ok (.invokevirtual 135, 3) := by decide +kernel
theorem dX2_wreckShips_32 : decode cX2_wreckShips 32 = .ok (.aload_n 2, 1) := by decide +kernel
theorem dX2_wreckShips_33 : decode cX2_wreckShips 33 = .ok (.getfield 118, 3) := by decide +kernel
theorem dX2_wreckShips_36 : decode cX2_wreckShips 36 = .ok (.if_icmp .ge 23, 3) := by decide +kernel
theorem dX2_wreckShips_39 : decode cX2_wreckShips 39 = .ok (.aload_n 2, 1) := by decide +kernel
theorem dX2_wreckShips_40 : decode cX2_wreckShips 40 = .ok (.iconst 1, 1) := by decide +kernel
theorem dX2_wreckShips_41 : decode cX2_wreckShips 41 = .ok (.putfield 121, 3) := by decide +kernel
theorem dX2_wreckShips_44 : decode cX2_wreckShips 44 = .ok (.aload_n 2, 1) := by decide +kernel
theorem dX2_wreckShips_45 : decode cX2_wreckShips 45 = .ok (.iconst (-1), 1) := by decide +kernel
theorem dX2_wreckShips_46 : decode cX2_wreckShips 46 = .ok (.putfield 125, 3) := by decide +kernel
theorem dX2_wreckShips_49 : decode cX2_wreckShips 49 = .ok (.aload_n 0, 1) := by decide +kernel
theorem dX2_wreckShips_50 : decode cX2_wreckShips 50 = .ok (.dup, 1) := by decide +kernel
theorem dX2_wreckShips_51 : decode cX2_wreckShips 51 = .ok (.getfield 58, 3) := by decide +kernel
theorem dX2_wreckShips_54 : decode cX2_wreckShips 54 = .ok (.iconst 1, 1) := by decide +kernel
theorem dX2_wreckShips_55 : decode cX2_wreckShips 55 = .ok (.iadd, 1) := by decide +kernel
theorem dX2_wreckShips_56 : decode cX2_wreckShips 56 = .ok (.putfield 58, 3) := by decide +kernel
theorem dX2_wreckShips_59 : decode cX2_wreckShips 59 = .ok (.iinc 1 1, 3) := by decide +kernel
theorem dX2_wreckShips_62 : decode cX2_wreckShips 62 = .ok (.goto (-60), 3) := by decide +kernel
theorem dX2_wreckShips_65 : decode cX2_wreckShips 65 = .ok (.return_, 1) := by decide +kernel
theorem dX2_sightShips_0 : decode cX2_sightShips 0 = .ok (.iconst 0, 1) := by decide +kernel
theorem dX2_sightShips_1 : decode cX2_sightShips 1 = .ok (.istore_n 1, 1) := by decide +kernel
theorem dX2_sightShips_2 : decode cX2_sightShips 2 = .ok (.iload_n 1, 1) := by decide +kernel
theorem dX2_sightShips_3 : decode cX2_sightShips 3 = .ok (.aload_n 0, 1) := by decide +kernel
theorem dX2_sightShips_4 : decode cX2_sightShips 4 = .ok (.getfield 46, 3) := by decide +kernel
theorem dX2_sightShips_7 : decode cX2_sightShips 7 = .ok (.if_icmp .ge 115, 3) := by decide +kernel
theorem dX2_sightShips_10 : decode cX2_sightShips 10 = .ok (.aload_n 0, 1) := by decide +kernel
theorem dX2_sightShips_11 : decode cX2_sightShips 11 = .ok (.getfield 23, 3) := by decide +kernel
theorem dX2_sightShips_14 : decode cX2_sightShips 14 = .ok (.iload_n 1, 1) := by decide +kernel
theorem dX2_sightShips_15 : decode cX2_sightShips 15 = .ok (.aaload, 1) := by decide +kernel
theorem dX2_sightShips_16 : decode cX2_sightShips 16 = .ok (.astore_n 2, 1) := by decide +kernel
theorem dX2_sightShips_17 : decode cX2_sightShips 17 = .ok (.aload_n 2, 1) := by decide +kernel
theorem dX2_sightShips_18 : decode cX2_sightShips 18 = .ok (.getfield 121, 3) := by decide +kernel
theorem dX2_sightShips_21 : decode cX2_sightShips 21 = .ok (.ifCond .eq 6, 3) := by decide +kernel
theorem dX2_sightShips_24 : decode cX2_sightShips 24 = .ok (.goto 92, 3) := by decide +kernel
theorem dX2_sightShips_27 : decode cX2_sightShips 27 = .ok (.aload_n 0, 1) := by decide +kernel
theorem dX2_sightShips_28 : decode cX2_sightShips 28 = .ok (.getfield 52, 3) := by decide +kernel
theorem dX2_sightShips_31 : decode cX2_sightShips 31 = .ok (.istore_n 3, 1) := by decide +kernel
theorem dX2_sightShips_32 : decode cX2_sightShips 32 = .ok (.iconst 0, 1) := by decide +kernel
theorem dX2_sightShips_33 : decode cX2_sightShips 33 = .ok (.istore 4, 2) := by decide +kernel
theorem dX2_sightShips_35 : decode cX2_sightShips 35 = .ok (.iload 4, 2) := by decide +kernel
theorem dX2_sightShips_37 : decode cX2_sightShips 37 = .ok (.aload_n 0, 1) := by decide +kernel
theorem dX2_sightShips_38 : decode cX2_sightShips 38 = .ok (.getfield 42, 3) := by decide +kernel
theorem dX2_sightShips_41 : decode cX2_sightShips 41 = .ok (.if_icmp .ge 53, 3) := by decide +kernel
theorem dX2_sightShips_44 : decode cX2_sightShips 44 = .ok (.aload_n 0, 1) := by decide +kernel
theorem dX2_sightShips_45 : decode cX2_sightShips 45 = .ok (.aload_n 0, 1) := by decide +kernel
theorem dX2_sightShips_46 : decode cX2_sightShips 46 = .ok (.getfield 17, 3) := by decide +kernel
theorem dX2_sightShips_49 : decode cX2_sightShips 49 = .ok (.iload 4, 2) := by decide +kernel
theorem dX2_sightShips_51 : decode cX2_sightShips 51 = .ok (.aaload, 1) := by decide +kernel
theorem dX2_sightShips_52 : decode cX2_sightShips 52 = .ok (.aload_n 2, 1) := by decide +kernel
theorem dX2_sightShips_53 : decode cX2_sightShips 53 = .ok (.getfield 128, 3) := by decide +kernel
theorem dX2_sightShips_56 : decode cX2_sightShips 56 = .ok (.invokevirtual 108, 3) := by decide +kernel
theorem dX2_sightShips_59 : decode cX2_sightShips 59 = .ok (.ifCond .eq 29, 3) := by decide +kernel
theorem dX2_sightShips_62 : decode cX2_sightShips 62 = .ok (.aload_n 0, 1) := by decide +kernel
theorem dX2_sightShips_63 : decode cX2_sightShips 63 = .ok (.getfield 17, 3) := by decide +kernel
theorem dX2_sightShips_66 : decode cX2_sightShips 66 = .ok (.iload 4, 2) := by decide +kernel
theorem dX2_sightShips_68 : decode cX2_sightShips 68 = .ok (.aaload, 1) := by decide +kernel
theorem dX2_sightShips_69 : decode cX2_sightShips 69 = .ok (.dup, 1) := by decide +kernel
theorem dX2_sightShips_70 : decode cX2_sightShips 70 = .ok (.getfield 138, 3) := by decide +kernel
theorem dX2_sightShips_73 : decode cX2_sightShips 73 = .ok (.iconst 1, 1) := by decide +kernel
theorem dX2_sightShips_74 : decode cX2_sightShips 74 = .ok (.iadd, 1) := by decide +kernel
theorem dX2_sightShips_75 : decode cX2_sightShips 75 = .ok (.putfield 138, 3) := by decide +kernel
theorem dX2_sightShips_78 : decode cX2_sightShips 78 = .ok (.aload_n 0, 1) := by decide +kernel
theorem dX2_sightShips_79 : decode cX2_sightShips 79 = .ok (.dup, 1) := by decide +kernel
theorem dX2_sightShips_80 : decode cX2_sightShips 80 = .ok (.getfield 52, 3) := by decide +kernel
theorem dX2_sightShips_83 : decode cX2_sightShips 83 = .ok (.iconst 1, 1) := by decide +kernel
theorem dX2_sightShips_84 : decode cX2_sightShips 84 = .ok (.iadd, 1) := by decide +kernel
theorem dX2_sightShips_85 : decode cX2_sightShips 85 = .ok (.putfield 52, 3) := by decide +kernel
theorem dX2_sightShips_88 : decode cX2_sightShips 88 = .ok (.iinc 4 1, 3) := by decide +kernel
theorem dX2_sightShips_91 : decode cX2_sightShips 91 = .ok (.goto (-56), 3) := by decide +kernel
theorem dX2_sightShips_94 : decode cX2_sightShips 94 = .ok (.aload_n 2, 1) := by decide +kernel
theorem dX2_sightShips_95 : decode cX2_sightShips 95 = .ok (.aload_n 0, 1) := by decide +kernel
theorem dX2_sightShips_96 : decode cX2_sightShips 96 = .ok (.getfield 52, 3) := by decide +kernel
theorem dX2_sightShips_99 : decode cX2_sightShips 99 = .ok (.iload_n 3, 1) := by decide +kernel
theorem dX2_sightShips_100 : decode cX2_sightShips 100 = .ok (.if_icmp .ne 12, 3) := by decide +kernel
theorem dX2_sightShips_103 : decode cX2_sightShips 103 = .ok (.aload_n 2, 1) := by decide +kernel
theorem dX2_sightShips_104 : decode cX2_sightShips 104 = .ok (.getfield 115, 3) := by decide +kernel
theorem dX2_sightShips_107 : decode cX2_sightShips 107 = .ok (.iconst 1, 1) := by decide +kernel
theorem dX2_sightShips_108 : decode cX2_sightShips 108 = .ok (.iadd, 1) := by decide +kernel
theorem dX2_sightShips_109 : decode cX2_sightShips 109 = .ok (.goto 4, 3) := by decide +kernel
theorem dX2_sightShips_112 : decode cX2_sightShips 112 = .ok (.iconst 0, 1) := by decide +kernel
theorem dX2_sightShips_113 : decode cX2_sightShips 113 = .ok (.putfield 115, 3) := by decide +kernel
theorem dX2_sightShips_116 : decode cX2_sightShips 116 = .ok (.iinc 1 1, 3) := by decide +kernel
theorem dX2_sightShips_119 : decode cX2_sightShips 119 = .ok (.goto (-117), 3) := by decide +kernel
theorem dX2_sightShips_122 : decode cX2_sightShips 122 = .ok (.return_, 1) := by decide +kernel
theorem dX3_init_0 : decode cX3_init 0 = .ok (.aload_n 0, 1) := by decide +kernel
theorem dX3_init_1 : decode cX3_init 1 = .ok (.invokespecial 1, 3) := by decide +kernel
theorem dX3_init_4 : decode cX3_init 4 = .ok (.aload_n 0, 1) := by decide +kernel
theorem dX3_init_5 : decode cX3_init 5 = .ok (.getstatic 7, 3) := by decide +kernel
theorem dX3_init_8 : decode cX3_init 8 = .ok (.putfield 13, 3) := by decide +kernel
theorem dX3_init_11 : decode cX3_init 11 = .ok (.aload_n 0, 1) := by decide +kernel
theorem dX3_init_12 : decode cX3_init 12 = .ok (.iconst 4, 1) := by decide +kernel
theorem dX3_init_13 : decode cX3_init 13 = .ok (.newarray .int, 2) := by decide +kernel
theorem dX3_init_15 : decode cX3_init 15 = .ok (.putfield 18, 3) := by decide +kernel
theorem dX3_init_18 : decode cX3_init 18 = .ok (.return_, 1) := by decide +kernel
theorem dX5_init_0 : decode cX5_init 0 = .ok (.aload_n 0, 1) := by decide +kernel
theorem dX5_init_1 : decode cX5_init 1 = .ok (.invokespecial 3, 3) := by decide +kernel
theorem dX5_init_4 : decode cX5_init 4 = .ok (.aload_n 0, 1) := by decide +kernel
theorem dX5_init_5 : decode cX5_init 5 = .ok (.bipush 60, 2) := by decide +kernel
theorem dX5_init_7 : decode cX5_init 7 = .ok (.newarray .char, 2) := by decide +kernel
theorem dX5_init_9 : decode cX5_init 9 = .ok (.putfield 9, 3) := by decide +kernel
theorem dX5_init_12 : decode cX5_init 12 = .ok (.aload_n 0, 1) := by decide +kernel
theorem dX5_init_13 : decode cX5_init 13 = .ok (.bipush 10, 2) := by decide +kernel
theorem dX5_init_15 : decode cX5_init 15 = .ok (.anewarray 15, 3) := by decide +kernel
theorem dX5_init_18 : decode cX5_init 18 = .ok (.putfield 17, 3) := by decide +kernel
theorem dX5_init_21 : decode cX5_init 21 = .ok (.iconst 0, 1) := by decide +kernel
theorem dX5_init_22 : decode cX5_init 22 = .ok (.istore_n 1, 1) := by decide +kernel
theorem dX5_init_23 : decode cX5_init 23 = .ok (.iload_n 1, 1) := by decide +kernel
theorem dX5_init_24 : decode cX5_init 24 = .ok (.bipush 10, 2) := by decide +kernel
theorem dX5_init_26 : decode cX5_init 26 = .ok (.if_icmp .ge 22, 3) := by decide +kernel
theorem dX5_init_29 : decode cX5_init 29 = .ok (.aload_n 0, 1) := by decide +kernel
theorem dX5_init_30 : decode cX5_init 30 = .ok (.getfield 17, 3) := by decide +kernel
theorem dX5_init_33 : decode cX5_init 33 = .ok (.iload_n 1, 1) := by decide +kernel
theorem dX5_init_34 : decode cX5_init 34 = .ok (.new 15, 3) := by decide +kernel
theorem dX5_init_37 : decode cX5_init 37 = .ok (.dup, 1) := by decide +kernel
theorem dX5_init_38 : decode cX5_init 38 = .ok (.invokespecial 21, 3) := by decide +kernel
theorem dX5_init_41 : decode cX5_init 41 = .ok (.aastore, 1) := by decide +kernel
theorem dX5_init_42 : decode cX5_init 42 = .ok (.iinc 1 1, 3) := by decide +kernel
theorem dX5_init_45 : decode cX5_init 45 = .ok (.goto (-22), 3) := by decide +kernel
theorem dX5_init_48 : decode cX5_init 48 = .ok (.return_, 1) := by decide +kernel
theorem dX5_parse_0 : decode cX5_parse 0 = .ok (.aload_n 0, 1) := by decide +kernel
theorem dX5_parse_1 : decode cX5_parse 1 = .ok (.iconst 0, 1) := by decide +kernel
theorem dX5_parse_2 : decode cX5_parse 2 = .ok (.putfield 22, 3) := by decide +kernel
theorem dX5_parse_5 : decode cX5_parse 5 = .ok (.aload_n 0, 1) := by decide +kernel
theorem dX5_parse_6 : decode cX5_parse 6 = .ok (.iconst 0, 1) := by decide +kernel
theorem dX5_parse_7 : decode cX5_parse 7 = .ok (.putfield 26, 3) := by decide +kernel
theorem dX5_parse_10 : decode cX5_parse 10 = .ok (.aload_n 0, 1) := by decide +kernel
theorem dX5_parse_11 : decode cX5_parse 11 = .ok (.getfield 26, 3) := by decide +kernel
theorem dX5_parse_14 : decode cX5_parse 14 = .ok (.bipush 10, 2) := by decide +kernel
theorem dX5_parse_16 : decode cX5_parse 16 = .ok (.if_icmp .ge 72, 3) := by decide +kernel
theorem dX5_parse_19 : decode cX5_parse 19 = .ok (.aload_n 0, 1) := by decide +kernel
theorem dX5_parse_20 : decode cX5_parse 20 = .ok (.aload_n 0, 1) := by decide +kernel
theorem dX5_parse_21 : decode cX5_parse 21 = .ok (.getfield 17, 3) := by decide +kernel
theorem dX5_parse_24 : decode cX5_parse 24 = .ok (.aload_n 0, 1) := by decide +kernel
theorem dX5_parse_25 : decode cX5_parse 25 = .ok (.getfield 26, 3) := by decide +kernel
theorem dX5_parse_28 : decode cX5_parse 28 = .ok (.aaload, 1) := by decide +kernel
theorem dX5_parse_29 : decode cX5_parse 29 = .ok (.invokevirtual 29, 3) := by decide +kernel
theorem dX5_parse_32 : decode cX5_parse 32 = .ok (.ifCond .eq 56, 3) := by decide +kernel
theorem dX5_parse_35 : decode cX5_parse 35 = .ok (.aload_n 0, 1) := by decide +kernel
theorem dX5_parse_36 : decode cX5_parse 36 = .ok (.dup, 1) := by decide +kernel
theorem dX5_parse_37 : decode cX5_parse 37 = .ok (.getfield 26, 3) := by decide +kernel
theorem dX5_parse_40 : decode cX5_parse 40 = .ok (.iconst 1, 1) := by decide +kernel
theorem dX5_parse_41 : decode cX5_parse 41 = .ok (.iadd, 1) := by decide +kernel
theorem dX5_parse_42 : decode cX5_parse 42 = .ok (.putfield 26, 3) := by decide +kernel
theorem dX5_parse_45 : decode cX5_parse 45 = .ok (.aload_n 0, 1) := by decide +kernel
theorem dX5_parse_46 : decode cX5_parse 46 = .ok (.getfield 22, 3) := by decide +kernel
theorem dX5_parse_49 : decode cX5_parse 49 = .ok (.aload_n 0, 1) := by decide +kernel
theorem dX5_parse_50 : decode cX5_parse 50 = .ok (.getfield 33, 3) := by decide +kernel
theorem dX5_parse_53 : decode cX5_parse 53 = .ok (.if_icmp .lt 5, 3) := by decide +kernel
theorem dX5_parse_56 : decode cX5_parse 56 = .ok (.iconst (-1), 1) := by decide +kernel
theorem dX5_parse_57 : decode cX5_parse 57 = .ok (.ireturn, 1) := by decide +kernel
theorem dX5_parse_58 : decode cX5_parse 58 = .ok (.aload_n 0, 1) := by decide +kernel
theorem dX5_parse_59 : decode cX5_parse 59 = .ok (.getfield 9, 3) := by decide +kernel
theorem dX5_parse_62 : decode cX5_parse 62 = .ok (.aload_n 0, 1) := by decide +kernel
theorem dX5_parse_63 : decode cX5_parse 63 = .ok (.getfield 22, 3) := by decide +kernel
theorem dX5_parse_66 : decode cX5_parse 66 = .ok (.caload, 1) := by decide +kernel
theorem dX5_parse_67 : decode cX5_parse 67 = .ok (.bipush 59, 2) := by decide +kernel
theorem dX5_parse_69 : decode cX5_parse 69 = .ok (.if_icmp .eq 6, 3) := by decide +kernel
theorem dX5_parse_72 : decode cX5_parse 72 = .ok (.goto 16, 3) := by decide +kernel
theorem dX5_parse_75 : decode cX5_parse 75 = .ok (.aload_n 0, 1) := by decide +kernel
theorem dX5_parse_76 : decode cX5_parse 76 = .ok (.dup, 1) := by decide +kernel
theorem dX5_parse_77 : decode cX5_parse 77 = .ok (.getfield 22, 3) := by decide +kernel
theorem dX5_parse_80 : decode cX5_parse 80 = .ok (.iconst 1, 1) := by decide +kernel
theorem dX5_parse_81 : decode cX5_parse 81 = .ok (.iadd, 1) := by decide +kernel
theorem dX5_parse_82 : decode cX5_parse 82 = .ok (.putfield 22, 3) := by decide +kernel
theorem dX5_parse_85 : decode cX5_parse 85 = .ok (.goto (-75), 3) := by decide +kernel
theorem dX5_parse_88 : decode cX5_parse 88 = .ok (.aload_n 0, 1) := by decide +kernel
theorem dX5_parse_89 : decode cX5_parse 89 = .ok (.getfield 22, 3) := by decide +kernel
theorem dX5_parse_92 : decode cX5_parse 92 = .ok (.ireturn, 1) := by decide +kernel
theorem dX5_parseCommand_0 : decode cX5_parseCommand 0 = .ok (.aload_n 0, 1) := by decide +kernel
theorem dX5_parseCommand_1 : decode cX5_parseCommand 1 = .ok (.getfield 22, 3) := by decide +kernel
theorem dX5_parseCommand_4 : decode cX5_parseCommand 4 = .ok (.istore_n 2, 1) := by decide +kernel
theorem dX5_parseCommand_5 : decode cX5_parseCommand 5 = .ok (.iload_n 2, 1) := by decide +kernel
theorem dX5_parseCommand_6 : decode cX5_parseCommand 6 = .ok (.istore_n 3, 1) := by decide +kernel
theorem dX5_parseCommand_7 : decode cX5_parseCommand 7 = .ok (.iconst 0, 1) := by decide +kernel
theorem dX5_parseCommand_8 : decode cX5_parseCommand 8 = .ok (.istore 4, 2) := by decide +kernel
theorem dX5_parseCommand_10 : decode cX5_parseCommand 10 = .ok (.iload 4, 2) := by decide +kernel
theorem dX5_parseCommand_12 : decode cX5_parseCommand 12 = .ok (.getstatic 36, 3) := by decide +kernel
theorem dX5_parseCommand_15 : decode cX5_parseCommand 15 = .ok (.arraylength, 1) := by decide +kernel
theorem dX5_parseCommand_16 : decode cX5_parseCommand 16 = .ok (.if_icmp .ge 55, 3) := by decide +kernel
theorem dX5_parseCommand_19 : decode cX5_parseCommand 19 = .ok (.aload_n 0, 1) := by decide +kernel
theorem dX5_parseCommand_20 : decode cX5_parseCommand 20 = .ok (.iload_n 2, 1) := by decide +kernel
theorem dX5_parseCommand_21 : decode cX5_parseCommand 21 = .ok (.putfield 22, 3) := by decide +kernel
theorem dX5_parseCommand_24 : decode cX5_parseCommand 24 = .ok (.aload_n 0, 1) := by decide +kernel
theorem dX5_parseCommand_25 : decode cX5_parseCommand 25 = .ok (.getstatic 36, 3) := by decide +kernel
theorem dX5_parseCommand_28 : decode cX5_parseCommand 28 = .ok (.iload 4, 2) := by decide +kernel
theorem dX5_parseCommand_30 : decode cX5_parseCommand 30 = .ok (.aaload, 1) := by decide +kernel
theorem dX5_parseCommand_31 : decode cX5_parseCommand 31 = .ok (.getfield 40, 3) := by decide +kernel
theorem dX5_parseCommand_34 : decode cX5_parseCommand 34 = .ok (.aload_n 1, 1) := by decide +kernel
theorem dX5_parseCommand_35 : decode cX5_parseCommand 35 = .ok (.getfield 46, 3) := by decide +kernel
theorem dX5_parseCommand_38 : decode cX5_parseCommand 38 = .ok (.invokevirtual 50, 3) := by decide +kernel
theorem dX5_parseCommand_41 : decode cX5_parseCommand 41 = .ok (.ifCond .eq 15, 3) := by decide +kernel
theorem dX5_parseCommand_44 : decode cX5_parseCommand 44 = .ok (.aload_n 1, 1) := by decide +kernel
theorem dX5_parseCommand_45 : decode cX5_parseCommand 45 = .ok (.getstatic 36, 3) := by decide +kernel
theorem dX5_parseCommand_48 : decode cX5_parseCommand 48 = .ok (.iload 4, 2) := by decide +kernel
theorem dX5_parseCommand_50 : decode cX5_parseCommand 50 = .ok (.aaload, 1) := by decide +kernel
theorem dX5_parseCommand_51 : decode cX5_parseCommand 51 = .ok (.putfield 54, 3) := by decide +kernel
theorem dX5_parseCommand_54 : decode cX5_parseCommand 54 = .ok (.iconst 1, 1) := by decide +kernel
theorem dX5_parseCommand_55 : decode cX5_parseCommand 55 = .ok (.ireturn, 1) := by decide +kernel
theorem dX5_parseCommand_56 : decode cX5_parseCommand 56 = .ok (.iload_n 3, 1) := by decide +kernel
theorem dX5_parseCommand_57 : decode cX5_parseCommand 57 = .ok (.aload_n 0, 1) := by decide +kernel
theorem dX5_parseCommand_58 : decode cX5_parseCommand 58 = .ok (.getfield 22, 3) := by decide +kernel
theorem dX5_parseCommand_61 : decode cX5_parseCommand 61 = .ok (.invokestatic 58, 3) := by decide +kernel
theorem dX5_parseCommand_64 : decode cX5_parseCommand 64 = .ok (.istore_n 3, 1) := by decide +kernel
theorem dX5_parseCommand_65 : decode cX5_parseCommand 65 = .ok (.iinc 4 1, 3) := by decide +kernel
theorem dX5_parseCommand_68 : decode cX5_parseCommand 68 = .ok (.goto (-58), 3) := by decide +kernel
theorem dX5_parseCommand_71 : decode cX5_parseCommand 71 = .ok (.aload_n 0, 1) := by decide +kernel
theorem dX5_parseCommand_72 : decode cX5_parseCommand 72 = .ok (.iload_n 3, 1) := by decide +kernel
theorem dX5_parseCommand_73 : decode cX5_parseCommand 73 = .ok (.putfield 22, 3) := by decide +kernel
theorem dX5_parseCommand_76 : decode cX5_parseCommand 76 = .ok (.iconst 0, 1) := by decide +kernel
theorem dX5_parseCommand_77 : decode cX5_parseCommand 77 = .ok (.ireturn, 1) := by decide +kernel
theorem dX5_matches_0 : decode cX5_matches 0 = .ok (.iconst 0, 1) := by decide +kernel
theorem dX5_matches_1 : decode cX5_matches 1 = .ok (.istore_n 3, 1) := by decide +kernel
theorem dX5_matches_2 : decode cX5_matches 2 = .ok (.iconst 0, 1) := by decide +kernel
theorem dX5_matches_3 : decode cX5_matches 3 = .ok (.istore 4, 2) := by decide +kernel
theorem dX5_matches_5 : decode cX5_matches 5 = .ok (.iload 4, 2) := by decide +kernel
theorem dX5_matches_7 : decode cX5_matches 7 = .ok (.aload_n 1, 1) := by decide +kernel
theorem dX5_matches_8 : decode cX5_matches 8 = .ok (.invokevirtual 64, 3) := by decide +kernel
theorem dX5_matches_11 : decode cX5_matches 11 = .ok (.if_icmp .ge 125, 3) := by decide +kernel
theorem dX5_matches_14 : decode cX5_matches 14 = .ok (.aload_n 1, 1) := by decide +kernel
theorem dX5_matches_15 : decode cX5_matches 15 = .ok (.iload 4, 2) := by decide +kernel
theorem dX5_matches_17 : decode cX5_matches 17 = .ok (.invokevirtual 69, 3) := by decide +kernel
theorem dX5_matches_20 : decode cX5_matches 20 = .ok (.istore 5, 2) := by decide +kernel
theorem dX5_matches_22 : decode cX5_matches 22 = .ok (.iload 5, 2) := by decide +kernel
theorem dX5_matches_24 : decode cX5_matches 24 = .ok (.bipush 35, 2) := by decide +kernel
theorem dX5_matches_26 : decode cX5_matches 26 = .ok (.if_icmp .eq 50, 3) := by decide +kernel
theorem dX5_matches_29 : decode cX5_matches 29 = .ok (.iload 5, 2) := by decide +kernel
theorem dX5_matches_31 : decode cX5_matches 31 = .ok (.bipush 78, 2) := by decide +kernel
theorem dX5_matches_33 : decode cX5_matches 33 = .ok (.if_icmp .eq 43, 3) := by decide +kernel
theorem dX5_matches_36 : decode cX5_matches 36 = .ok (.aload_n 0, 1) := by decide +kernel
theorem dX5_matches_37 : decode cX5_matches 37 = .ok (.getfield 22, 3) := by decide +kernel
theorem dX5_matches_40 : decode cX5_matches 40 = .ok (.aload_n 0, 1) := by decide +kernel
theorem dX5_matches_41 : decode cX5_matches 41 = .ok (.getfield 33, 3) := by decide +kernel
theorem dX5_matches_44 : decode cX5_matches 44 = .ok (.if_icmp .ge 17, 3) := by decide +kernel
theorem dX5_matches_47 : decode cX5_matches 47 = .ok (.aload_n 0, 1) := by decide +kernel
theorem dX5_matches_48 : decode cX5_matches 48 = .ok (.getfield 9, 3) := by decide +kernel
theorem dX5_matches_51 : decode cX5_matches 51 = .ok (.aload_n 0, 1) := by decide +kernel
theorem dX5_matches_52 : decode cX5_matches 52 = .ok (.getfield 22, 3) := by decide +kernel
theorem dX5_matches_55 : decode cX5_matches 55 = .ok (.caload, 1) := by decide +kernel
theorem dX5_matches_56 : decode cX5_matches 56 = .ok (.iload 5, 2) := by decide +kernel
theorem dX5_matches_58 : decode cX5_matches 58 = .ok (.if_icmp .eq 5, 3) := by decide +kernel
theorem dX5_matches_61 : decode cX5_matches 61 = .ok (.iconst 0, 1) := by decide +kernel
theorem dX5_matches_62 : decode cX5_matches 62 = .ok (.ireturn, 1) := by decide +kernel
theorem dX5_matches_63 : decode cX5_matches 63 = .ok (.aload_n 0, 1) := by decide +kernel
theorem dX5_matches_64 : decode cX5_matches 64 = .ok (.dup, 1) := by decide +kernel
theorem dX5_matches_65 : decode cX5_matches 65 = .ok (.getfield 22, 3) := by decide +kernel
theorem dX5_matches_68 : decode cX5_matches 68 = .ok (.iconst 1, 1) := by decide +kernel
theorem dX5_matches_69 : decode cX5_matches 69 = .ok (.iadd, 1) := by decide +kernel
theorem dX5_matches_70 : decode cX5_matches 70 = .ok (.putfield 22, 3) := by decide +kernel
theorem dX5_matches_73 : decode cX5_matches 73 = .ok (.goto 57, 3) := by decide +kernel
theorem dX5_matches_76 : decode cX5_matches 76 = .ok (.aload_n 0, 1) := by decide +kernel
theorem dX5_matches_77 : decode cX5_matches 77 = .ok (.invokevirtual 73, 3) := by decide +kernel
theorem dX5_matches_80 : decode cX5_matches 80 = .ok (.ifCond .ne 5, 3) := by decide +kernel
theorem dX5_matches_83 : decode cX5_matches 83 = .ok (.iconst 0, 1) := by decide +kernel
theorem dX5_matches_84 : decode cX5_matches 84 = .ok (.ireturn, 1) := by decide +kernel
theorem dX5_matches_85 : decode cX5_matches 85 = .ok (.aload_n 0, 1) := by decide +kernel
theorem dX5_matches_86 : decode cX5_matches 86 = .ok (.invokevirtual 77, 3) := by decide +kernel
theorem dX5_matches_89 : decode cX5_matches 89 = .ok (.istore 6, 2) := by decide +kernel
theorem dX5_matches_91 : decode cX5_matches 91 = .ok (.iload 5, 2) := by decide +kernel
theorem dX5_matches_93 : decode cX5_matches 93 = .ok (.bipush 78, 2) := by decide +kernel
theorem dX5_matches_95 : decode cX5_matches 95 = .ok (.if_icmp .ne 22, 3) := by decide +kernel
theorem dX5_matches_98 : decode cX5_matches 98 = .ok (.aload_n 0, 1) := by decide +kernel
theorem dX5_matches_99 : decode cX5_matches 99 = .ok (.invokevirtual 73, 3) := by decide +kernel
theorem dX5_matches_102 : decode cX5_matches 102 = .ok (.ifCond .eq 15, 3) := by decide +kernel
theorem dX5_matches_105 : decode cX5_matches 105 = .ok (.bipush 10, 2) := by decide +kernel
theorem dX5_matches_107 : decode cX5_matches 107 = .ok (.iload 6, 2) := by decide +kernel
theorem dX5_matches_109 : decode cX5_matches 109 = .ok (.imul, 1) := by decide +kernel
theorem dX5_matches_110 : decode cX5_matches 110 = .ok (.aload_n 0, 1) := by decide +kernel
theorem dX5_matches_111 : decode cX5_matches 111 = .ok (.invokevirtual 77, 3) := by decide +kernel
theorem dX5_matches_114 : decode cX5_matches 114 = .ok (.iadd, 1) := by decide +kernel
theorem dX5_matches_115 : decode cX5_matches 115 = .ok (.istore 6, 2) := by decide +kernel
theorem dX5_matches_117 : decode cX5_matches 117 = .ok (.iload_n 3, 1) := by decide +kernel
theorem dX5_matches_118 : decode cX5_matches 118 = .ok (.iconst 4, 1) := by decide +kernel
theorem dX5_matches_119 : decode cX5_matches 119 = .ok (.if_icmp .ge 11, 3) := by decide +kernel
theorem dX5_matches_122 : decode cX5_matches 122 = .ok (.aload_n 2, 1) := by decide +kernel
theorem dX5_matches_123 : decode cX5_matches 123 = .ok (.iload_n 3, 1) := by decide +kernel
theorem dX5_matches_124 : decode cX5_matches 124 = .ok (.iload 6, 2) := by decide +kernel
theorem dX5_matches_126 : decode cX5_matches 126 = .ok (.iastore, 1) := by decide +kernel
theorem dX5_matches_127 : decode cX5_matches 127 = .ok (.iinc 3 1, 3) := by decide +kernel
theorem dX5_matches_130 : decode cX5_matches 130 = .ok (.iinc 4 1, 3) := by decide +kernel
theorem dX5_matches_133 : decode cX5_matches 133 = .ok (.goto (-128), 3) := by decide +kernel
theorem dX5_matches_136 : decode cX5_matches 136 = .ok (.iconst 1, 1) := by decide +kernel
theorem dX5_matches_137 : decode cX5_matches 137 = .ok (.ireturn, 1) := by decide +kernel
theorem dX5_isAtDigit_0 : decode cX5_isAtDigit 0 = .ok (.aload_n 0, 1) := by decide +kernel
theorem dX5_isAtDigit_1 : decode cX5_isAtDigit 1 = .ok (.getfield 22, 3) := by decide +kernel
theorem dX5_isAtDigit_4 : decode cX5_isAtDigit 4 = .ok (.aload_n 0, 1) := by decide +kernel
theorem dX5_isAtDigit_5 : decode cX5_isAtDigit 5 = .ok (.getfield 33, 3) := by decide +kernel
theorem dX5_isAtDigit_8 : decode cX5_isAtDigit 8 = .ok (.if_icmp .ge 35, 3) := by decide +kernel
theorem dX5_isAtDigit_11 : decode cX5_isAtDigit 11 = .ok (.aload_n 0, 1) := by decide +kernel
theorem dX5_isAtDigit_12 : decode cX5_isAtDigit 12 = .ok (.getfield 9, 3) := by decide +kernel
theorem dX5_isAtDigit_15 : decode cX5_isAtDigit 15 = .ok (.aload_n 0, 1) := by decide +kernel
theorem dX5_isAtDigit_16 : decode cX5_isAtDigit 16 = .ok (.getfield 22, 3) := by decide +kernel
theorem dX5_isAtDigit_19 : decode cX5_isAtDigit 19 = .ok (.caload, 1) := by decide +kernel
theorem dX5_isAtDigit_20 : decode cX5_isAtDigit 20 = .ok (.bipush 48, 2) := by decide +kernel
theorem dX5_isAtDigit_22 : decode cX5_isAtDigit 22 = .ok (.if_icmp .lt 21, 3) := by decide +kernel
theorem dX5_isAtDigit_25 : decode cX5_isAtDigit 25 = .ok (.aload_n 0, 1) := by decide +kernel
theorem dX5_isAtDigit_26 : decode cX5_isAtDigit 26 = .ok (.getfield 9, 3) := by decide +kernel
theorem dX5_isAtDigit_29 : decode cX5_isAtDigit 29 = .ok (.aload_n 0, 1) := by decide +kernel
theorem dX5_isAtDigit_30 : decode cX5_isAtDigit 30 = .ok (.getfield 22, 3) := by decide +kernel
theorem dX5_isAtDigit_33 : decode cX5_isAtDigit 33 = .ok (.caload, 1) := by decide +kernel
theorem dX5_isAtDigit_34 : decode cX5_isAtDigit 34 = .ok (.bipush 57, 2) := by decide +kernel
theorem dX5_isAtDigit_36 : decode cX5_isAtDigit 36 = .ok (.if_icmp .gt 7, 3) := by decide +kernel
theorem dX5_isAtDigit_39 : decode cX5_isAtDigit 39 = .ok (.iconst 1, 1) := by decide +kernel
theorem dX5_isAtDigit_40 : decode cX5_isAtDigit 40 = .ok (.goto 4, 3) := by decide +kernel
theorem dX5_isAtDigit_43 : decode cX5_isAtDigit 43 = .ok (.iconst 0, 1) := by decide +kernel
theorem dX5_isAtDigit_44 : decode cX5_isAtDigit 44 = .ok (.ireturn, 1) := by decide +kernel
theorem dX5_takeDigit_0 : decode cX5_takeDigit 0 = .ok (.aload_n 0, 1) := by decide +kernel
theorem dX5_takeDigit_1 : decode cX5_takeDigit 1 = .ok (.getfield 9, 3) := by decide +kernel
theorem dX5_takeDigit_4 : decode cX5_takeDigit 4 = .ok (.aload_n 0, 1) := by decide +kernel
theorem dX5_takeDigit_5 : decode cX5_takeDigit 5 = .ok (.getfield 22, 3) := by decide +kernel
theorem dX5_takeDigit_8 : decode cX5_takeDigit 8 = .ok (.caload, 1) := by decide +kernel
theorem dX5_takeDigit_9 : decode cX5_takeDigit 9 = .ok (.bipush 48, 2) := by decide +kernel
theorem dX5_takeDigit_11 : decode cX5_takeDigit 11 = .ok (.isub, 1) := by decide +kernel
theorem dX5_takeDigit_12 : decode cX5_takeDigit 12 = .ok (.istore_n 1, 1) := by decide +kernel
theorem dX5_takeDigit_13 : decode cX5_takeDigit 13 = .ok (.aload_n 0, 1) := by decide +kernel
theorem dX5_takeDigit_14 : decode cX5_takeDigit 14 = .ok (.dup, 1) := by decide +kernel
theorem dX5_takeDigit_15 : decode cX5_takeDigit 15 = .ok (.getfield 22, 3) := by decide +kernel
theorem dX5_takeDigit_18 : decode cX5_takeDigit 18 = .ok (.iconst 1, 1) := by decide +kernel
theorem dX5_takeDigit_19 : decode cX5_takeDigit 19 = .ok (.iadd, 1) := by decide +kernel
theorem dX5_takeDigit_20 : decode cX5_takeDigit 20 = .ok (.putfield 22, 3) := by decide +kernel
theorem dX5_takeDigit_23 : decode cX5_takeDigit 23 = .ok (.iload_n 1, 1) := by decide +kernel
theorem dX5_takeDigit_24 : decode cX5_takeDigit 24 = .ok (.ireturn, 1) := by decide +kernel
theorem dX6_init_0 : decode cX6_init 0 = .ok (.aload_n 0, 1) := by decide +kernel
theorem dX6_init_1 : decode cX6_init 1 = .ok (.invokespecial 3, 3) := by decide +kernel
theorem dX6_init_4 : decode cX6_init 4 = .ok (.aload_n 0, 1) := by decide +kernel
theorem dX6_init_5 : decode cX6_init 5 = .ok (.bipush 8, 2) := by decide +kernel
theorem dX6_init_7 : decode cX6_init 7 = .ok (.anewarray 9, 3) := by decide +kernel
theorem dX6_init_10 : decode cX6_init 10 = .ok (.putfield 11, 3) := by decide +kernel
theorem dX6_init_13 : decode cX6_init 13 = .ok (.aload_n 0, 1) := by decide +kernel
theorem dX6_init_14 : decode cX6_init 14 = .ok (.new 9, 3) := by decide +kernel
theorem dX6_init_17 : decode cX6_init 17 = .ok (.dup, 1) := by decide +kernel
theorem dX6_init_18 : decode cX6_init 18 = .ok (.invokespecial 17, 3) := by decide +kernel
theorem dX6_init_21 : decode cX6_init 21 = .ok (.putfield 18, 3) := by decide +kernel
theorem dX6_init_24 : decode cX6_init 24 = .ok (.iconst 0, 1) := by decide +kernel
theorem dX6_init_25 : decode cX6_init 25 = .ok (.istore_n 1, 1) := by decide +kernel
theorem dX6_init_26 : decode cX6_init 26 = .ok (.iload_n 1, 1) := by decide +kernel
theorem dX6_init_27 : decode cX6_init 27 = .ok (.bipush 8, 2) := by decide +kernel
theorem dX6_init_29 : decode cX6_init 29 = .ok (.if_icmp .ge 22, 3) := by decide +kernel
theorem dX6_init_32 : decode cX6_init 32 = .ok (.aload_n 0, 1) := by decide +kernel
theorem dX6_init_33 : decode cX6_init 33 = .ok (.getfield 11, 3) := by decide +kernel
theorem dX6_init_36 : decode cX6_init 36 = .ok (.iload_n 1, 1) := by decide +kernel
theorem dX6_init_37 : decode cX6_init 37 = .ok (.new 9, 3) := by decide +kernel
theorem dX6_init_40 : decode cX6_init 40 = .ok (.dup, 1) := by decide +kernel
theorem dX6_init_41 : decode cX6_init 41 = .ok (.invokespecial 17, 3) := by decide +kernel
theorem dX6_init_44 : decode cX6_init 44 = .ok (.aastore, 1) := by decide +kernel
theorem dX6_init_45 : decode cX6_init 45 = .ok (.iinc 1 1, 3) := by decide +kernel
theorem dX6_init_48 : decode cX6_init 48 = .ok (.goto (-22), 3) := by decide +kernel
theorem dX6_init_51 : decode cX6_init 51 = .ok (.return_, 1) := by decide +kernel
theorem dX6_prepare_0 : decode cX6_prepare 0 = .ok (.aload_n 0, 1) := by decide +kernel
theorem dX6_prepare_1 : decode cX6_prepare 1 = .ok (.getfield 18, 3) := by decide +kernel
theorem dX6_prepare_4 : decode cX6_prepare 4 = .ok (.aload_n 1, 1) := by decide +kernel
theorem dX6_prepare_5 : decode cX6_prepare 5 = .ok (.invokevirtual 22, 3) := by decide +kernel
theorem dX6_prepare_8 : decode cX6_prepare 8 = .ok (.return_, 1) := by decide +kernel
theorem dX6_rollBack_0 : decode cX6_rollBack 0 = .ok (.aload_n 1, 1) := by decide +kernel
theorem dX6_rollBack_1 : decode cX6_rollBack 1 = .ok (.aload_n 0, 1) := by decide +kernel
theorem dX6_rollBack_2 : decode cX6_rollBack 2 = .ok (.getfield 18, 3) := by decide +kernel
theorem dX6_rollBack_5 : decode cX6_rollBack 5 = .ok (.invokevirtual 22, 3) := by decide +kernel
theorem dX6_rollBack_8 : decode cX6_rollBack 8 = .ok (.return_, 1) := by decide +kernel
theorem dX6_keep_0 : decode cX6_keep 0 = .ok (.aload_n 0, 1) := by decide +kernel
theorem dX6_keep_1 : decode cX6_keep 1 = .ok (.getfield 26, 3) := by decide +kernel
theorem dX6_keep_4 : decode cX6_keep 4 = .ok (.aload_n 0, 1) := by decide +kernel
theorem dX6_keep_5 : decode cX6_keep 5 = .ok (.getfield 30, 3) := by decide +kernel
theorem dX6_keep_8 : decode cX6_keep 8 = .ok (.iadd, 1) := by decide +kernel
theorem dX6_keep_9 : decode cX6_keep 9 = .ok (.bipush 8, 2) := by decide +kernel
theorem dX6_keep_11 : decode cX6_keep 11 = .ok (.irem, 1) := by decide +kernel
theorem dX6_keep_12 : decode cX6_keep 12 = .ok (.istore_n 1, 1) := by decide +kernel
theorem dX6_keep_13 : decode cX6_keep 13 = .ok (.aload_n 0, 1) := by decide +kernel
theorem dX6_keep_14 : decode cX6_keep 14 = .ok (.getfield 11, 3) := by decide +kernel
theorem dX6_keep_17 : decode cX6_keep 17 = .ok (.iload_n 1, 1) := by decide +kernel
theorem dX6_keep_18 : decode cX6_keep 18 = .ok (.aaload, 1) := by decide +kernel
theorem dX6_keep_19 : decode cX6_keep 19 = .ok (.astore_n 2, 1) := by decide +kernel
theorem dX6_keep_20 : decode cX6_keep 20 = .ok (.aload_n 0, 1) := by decide +kernel
theorem dX6_keep_21 : decode cX6_keep 21 = .ok (.getfield 11, 3) := by decide +kernel
theorem dX6_keep_24 : decode cX6_keep 24 = .ok (.iload_n 1, 1) := by decide +kernel
theorem dX6_keep_25 : decode cX6_keep 25 = .ok (.aload_n 0, 1) := by decide +kernel
theorem dX6_keep_26 : decode cX6_keep 26 = .ok (.getfield 18, 3) := by decide +kernel
theorem dX6_keep_29 : decode cX6_keep 29 = .ok (.aastore, 1) := by decide +kernel
theorem dX6_keep_30 : decode cX6_keep 30 = .ok (.aload_n 0, 1) := by decide +kernel
theorem dX6_keep_31 : decode cX6_keep 31 = .ok (.aload_n 2, 1) := by decide +kernel
theorem dX6_keep_32 : decode cX6_keep 32 = .ok (.putfield 18, 3) := by decide +kernel
theorem dX6_keep_35 : decode cX6_keep 35 = .ok (.aload_n 0, 1) := by decide +kernel
theorem dX6_keep_36 : decode cX6_keep 36 = .ok (.getfield 30, 3) := by decide +kernel
theorem dX6_keep_39 : decode cX6_keep 39 = .ok (.bipush 8, 2) := by decide +kernel
theorem dX6_keep_41 : decode cX6_keep 41 = .ok (.if_icmp .ge 16, 3) := by decide +kernel
theorem dX6_keep_44 : decode cX6_keep 44 = .ok (.aload_n 0, 1) := by decide +kernel
theorem dX6_keep_45 : decode cX6_keep 45 = .ok (.dup, 1) := by decide +kernel
theorem dX6_keep_46 : decode cX6_keep 46 = .ok (.getfield 30, 3) := by decide +kernel
theorem dX6_keep_49 : decode cX6_keep 49 = .ok (.iconst 1, 1) := by decide +kernel
theorem dX6_keep_50 : decode cX6_keep 50 = .ok (.iadd, 1) := by decide +kernel
theorem dX6_keep_51 : decode cX6_keep 51 = .ok (.putfield 30, 3) := by decide +kernel
theorem dX6_keep_54 : decode cX6_keep 54 = .ok (.goto 16, 3) := by decide +kernel
theorem dX6_keep_57 : decode cX6_keep 57 = .ok (.aload_n 0, 1) := by decide +kernel
theorem dX6_keep_58 : decode cX6_keep 58 = .ok (.aload_n 0, 1) := by decide +kernel
theorem dX6_keep_59 : decode cX6_keep 59 = .ok (.getfield 26, 3) := by decide +kernel
theorem dX6_keep_62 : decode cX6_keep 62 = .ok (.iconst 1, 1) := by decide +kernel
theorem dX6_keep_63 : decode cX6_keep 63 = .ok (.iadd, 1) := by decide +kernel
theorem dX6_keep_64 : decode cX6_keep 64 = .ok (.bipush 8, 2) := by decide +kernel
theorem dX6_keep_66 : decode cX6_keep 66 = .ok (.irem, 1) := by decide +kernel
theorem dX6_keep_67 : decode cX6_keep 67 = .ok (.putfield 26, 3) := by decide +kernel
theorem dX6_keep_70 : decode cX6_keep 70 = .ok (.return_, 1) := by decide +kernel
theorem dX6_takeBack_0 : decode cX6_takeBack 0 = .ok (.aload_n 0, 1) := by decide +kernel
theorem dX6_takeBack_1 : decode cX6_takeBack 1 = .ok (.getfield 30, 3) := by decide +kernel
theorem dX6_takeBack_4 : decode cX6_takeBack 4 = .ok (.ifCond .le 34, 3) := by decide +kernel
theorem dX6_takeBack_7 : decode cX6_takeBack 7 = .ok (.aload_n 0, 1) := by decide +kernel
theorem dX6_takeBack_8 : decode cX6_takeBack 8 = .ok (.dup, 1) := by decide +kernel
theorem dX6_takeBack_9 : decode cX6_takeBack 9 = .ok (.getfield 30, 3) := by decide +kernel
theorem dX6_takeBack_12 : decode cX6_takeBack 12 = .ok (.iconst 1, 1) := by decide +kernel
theorem dX6_takeBack_13 : decode cX6_takeBack 13 = .ok (.isub, 1) := by decide +kernel
theorem dX6_takeBack_14 : decode cX6_takeBack 14 = .ok (.putfield 30, 3) := by decide +kernel
theorem dX6_takeBack_17 : decode cX6_takeBack 17 = .ok (.aload_n 1, 1) := by decide +kernel
theorem dX6_takeBack_18 : decode cX6_takeBack 18 = .ok (.aload_n 0, 1) := by decide +kernel
theorem dX6_takeBack_19 : decode cX6_takeBack 19 = .ok (.getfield 11, 3) := by decide +kernel
theorem dX6_takeBack_22 : decode cX6_takeBack 22 = .ok (.aload_n 0, 1) := by decide +kernel
theorem dX6_takeBack_23 : decode cX6_takeBack 23 = .ok (.getfield 26, 3) := by decide +kernel
theorem dX6_takeBack_26 : decode cX6_takeBack 26 = .ok (.aload_n 0, 1) := by decide +kernel
theorem dX6_takeBack_27 : decode cX6_takeBack 27 = .ok (.getfield 30, 3) := by decide +kernel
theorem dX6_takeBack_30 : decode cX6_takeBack 30 = .ok (.iadd, 1) := by decide +kernel
theorem dX6_takeBack_31 : decode cX6_takeBack 31 = .ok (.bipush 8, 2) := by decide +kernel
theorem dX6_takeBack_33 : decode cX6_takeBack 33 = .ok (.irem, 1) := by decide +kernel
theorem dX6_takeBack_34 : decode cX6_takeBack 34 = .ok (.aaload, 1) := by decide +kernel
theorem dX6_takeBack_35 : decode cX6_takeBack 35 = .ok (.invokevirtual 22, 3) := by decide +kernel
theorem dX6_takeBack_38 : decode cX6_takeBack 38 = .ok (.return_, 1) := by decide +kernel
theorem dX7_init_0 : decode cX7_init 0 = .ok (.aload_n 0, 1) := by decide +kernel
theorem dX7_init_1 : decode cX7_init 1 = .ok (.invokespecial 3, 3) := by decide +kernel
theorem dX7_init_4 : decode cX7_init 4 = .ok (.aload_n 0, 1) := by decide +kernel
theorem dX7_init_5 : decode cX7_init 5 = .ok (.bipush 8, 2) := by decide +kernel
theorem dX7_init_7 : decode cX7_init 7 = .ok (.putfield 9, 3) := by decide +kernel
theorem dX7_init_10 : decode cX7_init 10 = .ok (.return_, 1) := by decide +kernel
theorem dX7_start_0 : decode cX7_start 0 = .ok (.aload_n 0, 1) := by decide +kernel
theorem dX7_start_1 : decode cX7_start 1 = .ok (.iload_n 1, 1) := by decide +kernel
theorem dX7_start_2 : decode cX7_start 2 = .ok (.putfield 15, 3) := by decide +kernel
theorem dX7_start_5 : decode cX7_start 5 = .ok (.aload_n 0, 1) := by decide +kernel
theorem dX7_start_6 : decode cX7_start 6 = .ok (.iload_n 2, 1) := by decide +kernel
theorem dX7_start_7 : decode cX7_start 7 = .ok (.putfield 18, 3) := by decide +kernel
theorem dX7_start_10 : decode cX7_start 10 = .ok (.aload_n 0, 1) := by decide +kernel
theorem dX7_start_11 : decode cX7_start 11 = .ok (.iload_n 3, 1) := by decide +kernel
theorem dX7_start_12 : decode cX7_start 12 = .ok (.putfield 9, 3) := by decide +kernel
theorem dX7_start_15 : decode cX7_start 15 = .ok (.aload_n 0, 1) := by decide +kernel
theorem dX7_start_16 : decode cX7_start 16 = .ok (.iconst 0, 1) := by decide +kernel
theorem dX7_start_17 : decode cX7_start 17 = .ok (.putfield 21, 3) := by decide +kernel
theorem dX7_start_20 : decode cX7_start 20 = .ok (.aload_n 0, 1) := by decide +kernel
theorem dX7_start_21 : decode cX7_start 21 = .ok (.iconst 0, 1) := by decide +kernel
theorem dX7_start_22 : decode cX7_start 22 = .ok (.putfield 24, 3) := by decide +kernel
theorem dX7_start_25 : decode cX7_start 25 = .ok (.return_, 1) := by decide +kernel
theorem dX7_copyFrom_0 : decode cX7_copyFrom 0 = .ok (.aload_n 0, 1) := by decide +kernel
theorem dX7_copyFrom_1 : decode cX7_copyFrom 1 = .ok (.aload_n 1, 1) := by decide +kernel
theorem dX7_copyFrom_2 : decode cX7_copyFrom 2 = .ok (.getfield 15, 3) := by decide +kernel
theorem dX7_copyFrom_5 : decode cX7_copyFrom 5 = .ok (.putfield 15, 3) := by decide +kernel
theorem dX7_copyFrom_8 : decode cX7_copyFrom 8 = .ok (.aload_n 0, 1) := by decide +kernel
theorem dX7_copyFrom_9 : decode cX7_copyFrom 9 = .ok (.aload_n 1, 1) := by decide +kernel
theorem dX7_copyFrom_10 : decode cX7_copyFrom 10 = .ok (.getfield 18, 3) := by decide +kernel
theorem dX7_copyFrom_13 : decode cX7_copyFrom 13 = .ok (.putfield 18, 3) := by decide +kernel
theorem dX7_copyFrom_16 : decode cX7_copyFrom 16 = .ok (.aload_n 0, 1) := by decide +kernel
theorem dX7_copyFrom_17 : decode cX7_copyFrom 17 = .ok (.aload_n 1, 1) := by decide +kernel
theorem dX7_copyFrom_18 : decode cX7_copyFrom 18 = .ok (.getfield 9, 3) := by decide +kernel
theorem dX7_copyFrom_21 : decode cX7_copyFrom 21 = .ok (.putfield 9, 3) := by decide +kernel
theorem dX7_copyFrom_24 : decode cX7_copyFrom 24 = .ok (.aload_n 0, 1) := by decide +kernel
theorem dX7_copyFrom_25 : decode cX7_copyFrom 25 = .ok (.aload_n 1, 1) := by decide +kernel
theorem dX7_copyFrom_26 : decode cX7_copyFrom 26 = .ok (.getfield 21, 3) := by decide +kernel
theorem dX7_copyFrom_29 : decode cX7_copyFrom 29 = .ok (.putfield 21, 3) := by decide +kernel
theorem dX7_copyFrom_32 : decode cX7_copyFrom 32 = .ok (.aload_n 0, 1) := by decide +kernel
theorem dX7_copyFrom_33 : decode cX7_copyFrom 33 = .ok (.aload_n 1, 1) := by decide +kernel
theorem dX7_copyFrom_34 : decode cX7_copyFrom 34 = .ok (.getfield 24, 3) := by decide +kernel
theorem dX7_copyFrom_37 : decode cX7_copyFrom 37 = .ok (.putfield 24, 3) := by decide +kernel
theorem dX7_copyFrom_40 : decode cX7_copyFrom 40 = .ok (.return_, 1) := by decide +kernel
theorem dX7_turnAt_0 : decode cX7_turnAt 0 = .ok (.aload_n 0, 1) := by decide +kernel
theorem dX7_turnAt_1 : decode cX7_turnAt 1 = .ok (.getfield 9, 3) := by decide +kernel
theorem dX7_turnAt_4 : decode cX7_turnAt 4 = .ok (.ifCond .le 15, 3) := by decide +kernel
theorem dX7_turnAt_7 : decode cX7_turnAt 7 = .ok (.bipush 8, 2) := by decide +kernel
theorem dX7_turnAt_9 : decode cX7_turnAt 9 = .ok (.iload_n 1, 1) := by decide +kernel
theorem dX7_turnAt_10 : decode cX7_turnAt 10 = .ok (.imul, 1) := by decide +kernel
theorem dX7_turnAt_11 : decode cX7_turnAt 11 = .ok (.aload_n 0, 1) := by decide +kernel
theorem dX7_turnAt_12 : decode cX7_turnAt 12 = .ok (.getfield 9, 3) := by decide +kernel
theorem dX7_turnAt_15 : decode cX7_turnAt 15 = .ok (.idiv, 1) := by decide +kernel
theorem dX7_turnAt_16 : decode cX7_turnAt 16 = .ok (.goto 4, 3) := by decide +kernel
theorem dX7_turnAt_19 : decode cX7_turnAt 19 = .ok (.iconst 0, 1) := by decide +kernel
theorem dX7_turnAt_20 : decode cX7_turnAt 20 = .ok (.ireturn, 1) := by decide +kernel
theorem dX7_sectorAt_0 : decode cX7_sectorAt 0 = .ok (.aload_n 0, 1) := by decide +kernel
theorem dX7_sectorAt_1 : decode cX7_sectorAt 1 = .ok (.getfield 21, 3) := by decide +kernel
theorem dX7_sectorAt_4 : decode cX7_sectorAt 4 = .ok (.aload_n 0, 1) := by decide +kernel
theorem dX7_sectorAt_5 : decode cX7_sectorAt 5 = .ok (.iload_n 1, 1) := by decide +kernel
theorem dX7_sectorAt_6 : decode cX7_sectorAt 6 = .ok (.invokevirtual 27, 3) := by decide +kernel
theorem dX7_sectorAt_9 : decode cX7_sectorAt 9 = .ok (.iadd, 1) := by decide +kernel
theorem dX7_sectorAt_10 : decode cX7_sectorAt 10 = .ok (.bipush 8, 2) := by decide +kernel
theorem dX7_sectorAt_12 : decode cX7_sectorAt 12 = .ok (.invokestatic 31, 3) := by decide +kernel
theorem dX7_sectorAt_15 : decode cX7_sectorAt 15 = .ok (.ireturn, 1) := by decide +kernel
theorem dX7_sectorWith_0 : decode cX7_sectorWith 0 = .ok (.iload_n 1, 1) := by decide +kernel
theorem dX7_sectorWith_1 : decode cX7_sectorWith 1 = .ok (.invokestatic 37, 3) := by decide +kernel
theorem dX7_sectorWith_4 : decode cX7_sectorWith 4 = .ok (.aload_n 0, 1) := by decide +kernel
theorem dX7_sectorWith_5 : decode cX7_sectorWith 5 = .ok (.getfield 15, 3) := by decide +kernel
theorem dX7_sectorWith_8 : decode cX7_sectorWith 8 = .ok (.invokestatic 37, 3) := by decide +kernel
theorem dX7_sectorWith_11 : decode cX7_sectorWith 11 = .ok (.isub, 1) := by decide +kernel
theorem dX7_sectorWith_12 : decode cX7_sectorWith 12 = .ok (.istore_n 2, 1) := by decide +kernel
theorem dX7_sectorWith_13 : decode cX7_sectorWith 13 = .ok (.iload_n 1, 1) := by decide +kernel
theorem dX7_sectorWith_14 : decode cX7_sectorWith 14 = .ok (.invokestatic 40, 3) := by decide +kernel
theorem dX7_sectorWith_17 : decode cX7_sectorWith 17 = .ok (.aload_n 0, 1) := by decide +kernel
theorem dX7_sectorWith_18 : decode cX7_sectorWith 18 = .ok (.getfield 15, 3) := by decide +kernel
theorem dX7_sectorWith_21 : decode cX7_sectorWith 21 = .ok (.invokestatic 40, 3) := by decide +kernel
theorem dX7_sectorWith_24 : decode cX7_sectorWith 24 = .ok (.isub, 1) := by decide +kernel
theorem dX7_sectorWith_25 : decode cX7_sectorWith 25 = .ok (.istore_n 3, 1) := by decide +kernel
theorem dX7_sectorWith_26 : decode cX7_sectorWith 26 = .ok (.iload_n 3, 1) := by decide +kernel
theorem dX7_sectorWith_27 : decode cX7_sectorWith 27 = .ok (.ifCond .gt 11, 3) := by decide +kernel
theorem dX7_sectorWith_30 : decode cX7_sectorWith 30 = .ok (.iload_n 3, 1) := by decide +kernel
theorem dX7_sectorWith_31 : decode cX7_sectorWith 31 = .ok (.ifCond .ne 13, 3) := by decide +kernel
theorem dX7_sectorWith_34 : decode cX7_sectorWith 34 = .ok (.iload_n 2, 1) := by decide +kernel
theorem dX7_sectorWith_35 : decode cX7_sectorWith 35 = .ok (.ifCond .le 9, 3) := by decide +kernel
theorem dX7_sectorWith_38 : decode cX7_sectorWith 38 = .ok (.iload_n 2, 1) := by decide +kernel
theorem dX7_sectorWith_39 : decode cX7_sectorWith 39 = .ok (.iload_n 3, 1) := by decide +kernel
theorem dX7_sectorWith_40 : decode cX7_sectorWith 40 = .ok (.invokestatic 43, 3) := by decide +kernel
theorem dX7_sectorWith_43 : decode cX7_sectorWith 43 = .ok (.ireturn, 1) := by decide +kernel
theorem dX7_sectorWith_44 : decode cX7_sectorWith 44 = .ok (.iconst 4, 1) := by decide +kernel
theorem dX7_sectorWith_45 : decode cX7_sectorWith 45 = .ok (.iload_n 2, 1) := by decide +kernel
theorem dX7_sectorWith_46 : decode cX7_sectorWith 46 = .ok (.ineg, 1) := by decide +kernel
theorem dX7_sectorWith_47 : decode cX7_sectorWith 47 = .ok (.iload_n 3, 1) := by decide +kernel
theorem dX7_sectorWith_48 : decode cX7_sectorWith 48 = .ok (.ineg, 1) := by decide +kernel
theorem dX7_sectorWith_49 : decode cX7_sectorWith 49 = .ok (.invokestatic 43, 3) := by decide +kernel
theorem dX7_sectorWith_52 : decode cX7_sectorWith 52 = .ok (.iadd, 1) := by decide +kernel
theorem dX7_sectorWith_53 : decode cX7_sectorWith 53 = .ok (.ireturn, 1) := by decide +kernel
theorem dX7_upperSector_0 : decode cX7_upperSector 0 = .ok (.iload_n 0, 1) := by decide +kernel
theorem dX7_upperSector_1 : decode cX7_upperSector 1 = .ok (.ifCond .le 14, 3) := by decide +kernel
theorem dX7_upperSector_4 : decode cX7_upperSector 4 = .ok (.iload_n 1, 1) := by decide +kernel
theorem dX7_upperSector_5 : decode cX7_upperSector 5 = .ok (.iload_n 0, 1) := by decide +kernel
theorem dX7_upperSector_6 : decode cX7_upperSector 6 = .ok (.if_icmp .ge 7, 3) := by decide +kernel
theorem dX7_upperSector_9 : decode cX7_upperSector 9 = .ok (.iconst 0, 1) := by decide +kernel
theorem dX7_upperSector_10 : decode cX7_upperSector 10 = .ok (.goto 4, 3) := by decide +kernel
theorem dX7_upperSector_13 : decode cX7_upperSector 13 = .ok (.iconst 1, 1) := by decide +kernel
theorem dX7_upperSector_14 : decode cX7_upperSector 14 = .ok (.ireturn, 1) := by decide +kernel
theorem dX7_upperSector_15 : decode cX7_upperSector 15 = .ok (.iload_n 0, 1) := by decide +kernel
theorem dX7_upperSector_16 : decode cX7_upperSector 16 = .ok (.ineg, 1) := by decide +kernel
theorem dX7_upperSector_17 : decode cX7_upperSector 17 = .ok (.iload_n 1, 1) := by decide +kernel
theorem dX7_upperSector_18 : decode cX7_upperSector 18 = .ok (.if_icmp .ge 7, 3) := by decide +kernel
theorem dX7_upperSector_21 : decode cX7_upperSector 21 = .ok (.iconst 2, 1) := by decide +kernel
theorem dX7_upperSector_22 : decode cX7_upperSector 22 = .ok (.goto 4, 3) := by decide +kernel
theorem dX7_upperSector_25 : decode cX7_upperSector 25 = .ok (.iconst 3, 1) := by decide +kernel
theorem dX7_upperSector_26 : decode cX7_upperSector 26 = .ok (.ireturn, 1) := by decide +kernel
theorem dX8_init_0 : decode cX8_init 0 = .ok (.aload_n 0, 1) := by decide +kernel
theorem dX8_init_1 : decode cX8_init 1 = .ok (.invokespecial 3, 3) := by decide +kernel
theorem dX8_init_4 : decode cX8_init 4 = .ok (.aload_n 0, 1) := by decide +kernel
theorem dX8_init_5 : decode cX8_init 5 = .ok (.iconst (-1), 1) := by decide +kernel
theorem dX8_init_6 : decode cX8_init 6 = .ok (.putfield 9, 3) := by decide +kernel
theorem dX8_init_9 : decode cX8_init 9 = .ok (.return_, 1) := by decide +kernel
theorem dX8_start_0 : decode cX8_start 0 = .ok (.aload_n 0, 1) := by decide +kernel
theorem dX8_start_1 : decode cX8_start 1 = .ok (.iload_n 1, 1) := by decide +kernel
theorem dX8_start_2 : decode cX8_start 2 = .ok (.putfield 15, 3) := by decide +kernel
theorem dX8_start_5 : decode cX8_start 5 = .ok (.aload_n 0, 1) := by decide +kernel
theorem dX8_start_6 : decode cX8_start 6 = .ok (.iload_n 2, 1) := by decide +kernel
theorem dX8_start_7 : decode cX8_start 7 = .ok (.putfield 18, 3) := by decide +kernel
theorem dX8_start_10 : decode cX8_start 10 = .ok (.aload_n 0, 1) := by decide +kernel
theorem dX8_start_11 : decode cX8_start 11 = .ok (.iconst (-1), 1) := by decide +kernel
theorem dX8_start_12 : decode cX8_start 12 = .ok (.putfield 9, 3) := by decide +kernel
theorem dX8_start_15 : decode cX8_start 15 = .ok (.aload_n 0, 1) := by decide +kernel
theorem dX8_start_16 : decode cX8_start 16 = .ok (.iconst 0, 1) := by decide +kernel
theorem dX8_start_17 : decode cX8_start 17 = .ok (.putfield 21, 3) := by decide +kernel
theorem dX8_start_20 : decode cX8_start 20 = .ok (.aload_n 0, 1) := by decide +kernel
theorem dX8_start_21 : decode cX8_start 21 = .ok (.iconst 0, 1) := by decide +kernel
theorem dX8_start_22 : decode cX8_start 22 = .ok (.putfield 25, 3) := by decide +kernel
theorem dX8_start_25 : decode cX8_start 25 = .ok (.return_, 1) := by decide +kernel
theorem dX8_copyFrom_0 : decode cX8_copyFrom 0 = .ok (.aload_n 0, 1) := by decide +kernel
theorem dX8_copyFrom_1 : decode cX8_copyFrom 1 = .ok (.aload_n 1, 1) := by decide +kernel
theorem dX8_copyFrom_2 : decode cX8_copyFrom 2 = .ok (.getfield 15, 3) := by decide +kernel
theorem dX8_copyFrom_5 : decode cX8_copyFrom 5 = .ok (.putfield 15, 3) := by decide +kernel
theorem dX8_copyFrom_8 : decode cX8_copyFrom 8 = .ok (.aload_n 0, 1) := by decide +kernel
theorem dX8_copyFrom_9 : decode cX8_copyFrom 9 = .ok (.aload_n 1, 1) := by decide +kernel
theorem dX8_copyFrom_10 : decode cX8_copyFrom 10 = .ok (.getfield 18, 3) := by decide +kernel
theorem dX8_copyFrom_13 : decode cX8_copyFrom 13 = .ok (.putfield 18, 3) := by decide +kernel
theorem dX8_copyFrom_16 : decode cX8_copyFrom 16 = .ok (.aload_n 0, 1) := by decide +kernel
theorem dX8_copyFrom_17 : decode cX8_copyFrom 17 = .ok (.aload_n 1, 1) := by decide +kernel
theorem dX8_copyFrom_18 : decode cX8_copyFrom 18 = .ok (.getfield 9, 3) := by decide +kernel
theorem dX8_copyFrom_21 : decode cX8_copyFrom 21 = .ok (.putfield 9, 3) := by decide +kernel
theorem dX8_copyFrom_24 : decode cX8_copyFrom 24 = .ok (.aload_n 0, 1) := by decide +kernel
theorem dX8_copyFrom_25 : decode cX8_copyFrom 25 = .ok (.aload_n 1, 1) := by decide +kernel
theorem dX8_copyFrom_26 : decode cX8_copyFrom 26 = .ok (.getfield 21, 3) := by decide +kernel
theorem dX8_copyFrom_29 : decode cX8_copyFrom 29 = .ok (.putfield 21, 3) := by decide +kernel
theorem dX8_copyFrom_32 : decode cX8_copyFrom 32 = .ok (.aload_n 0, 1) := by decide +kernel
theorem dX8_copyFrom_33 : decode cX8_copyFrom 33 = .ok (.aload_n 1, 1) := by decide +kernel
theorem dX8_copyFrom_34 : decode cX8_copyFrom 34 = .ok (.getfield 25, 3) := by decide +kernel
theorem dX8_copyFrom_37 : decode cX8_copyFrom 37 = .ok (.putfield 25, 3) := by decide +kernel
theorem dX8_copyFrom_40 : decode cX8_copyFrom 40 = .ok (.return_, 1) := by decide +kernel
theorem dX9_init_0 : decode cX9_init 0 = .ok (.aload_n 0, 1) := by decide +kernel
theorem dX9_init_1 : decode cX9_init 1 = .ok (.invokespecial 3, 3) := by decide +kernel
theorem dX9_init_4 : decode cX9_init 4 = .ok (.aload_n 0, 1) := by decide +kernel
theorem dX9_init_5 : decode cX9_init 5 = .ok (.bipush 64, 2) := by decide +kernel
theorem dX9_init_7 : decode cX9_init 7 = .ok (.newarray .boolean, 2) := by decide +kernel
theorem dX9_init_9 : decode cX9_init 9 = .ok (.putfield 9, 3) := by decide +kernel
theorem dX9_init_12 : decode cX9_init 12 = .ok (.aload_n 0, 1) := by decide +kernel
theorem dX9_init_13 : decode cX9_init 13 = .ok (.bipush 64, 2) := by decide +kernel
theorem dX9_init_15 : decode cX9_init 15 = .ok (.newarray .int, 2) := by decide +kernel
theorem dX9_init_17 : decode cX9_init 17 = .ok (.putfield 15, 3) := by decide +kernel
theorem dX9_init_20 : decode cX9_init 20 = .ok (.aload_n 0, 1) := by decide +kernel
theorem dX9_init_21 : decode cX9_init 21 = .ok (.bipush 64, 2) := by decide +kernel
theorem dX9_init_23 : decode cX9_init 23 = .ok (.newarray .int, 2) := by decide +kernel
theorem dX9_init_25 : decode cX9_init 25 = .ok (.putfield 19, 3) := by decide +kernel
theorem dX9_init_28 : decode cX9_init 28 = .ok (.aload_n 0, 1) := by decide +kernel
theorem dX9_init_29 : decode cX9_init 29 = .ok (.bipush 64, 2) := by decide +kernel
theorem dX9_init_31 : decode cX9_init 31 = .ok (.newarray .int, 2) := by decide +kernel
theorem dX9_init_33 : decode cX9_init 33 = .ok (.putfield 22, 3) := by decide +kernel
theorem dX9_init_36 : decode cX9_init 36 = .ok (.return_, 1) := by decide +kernel
theorem dX9_openFor_0 : decode cX9_openFor 0 = .ok (.iconst 0, 1) := by decide +kernel
theorem dX9_openFor_1 : decode cX9_openFor 1 = .ok (.istore 4, 2) := by decide +kernel
theorem dX9_openFor_3 : decode cX9_openFor 3 = .ok (.iload 4, 2) := by decide +kernel
theorem dX9_openFor_5 : decode cX9_openFor 5 = .ok (.bipush 64, 2) := by decide +kernel
theorem dX9_openFor_7 : decode cX9_openFor 7 = .ok (.if_icmp .ge 43, 3) := by decide +kernel
theorem dX9_openFor_10 : decode cX9_openFor 10 = .ok (.aload_n 1, 1) := by decide +kernel
theorem dX9_openFor_11 : decode cX9_openFor 11 = .ok (.getfield 25, 3) := by decide +kernel
theorem dX9_openFor_14 : decode cX9_openFor 14 = .ok (.iload 4, 2) := by decide +kernel
theorem dX9_openFor_16 : decode cX9_openFor 16 = .ok (.iaload, 1) := by decide +kernel
theorem dX9_openFor_17 : decode cX9_openFor 17 = .ok (.istore 5, 2) := by decide +kernel
theorem dX9_openFor_19 : decode cX9_openFor 19 = .ok (.aload_n 0, 1) := by decide +kernel
theorem dX9_openFor_20 : decode cX9_openFor 20 = .ok (.getfield 9, 3) := by decide +kernel
theorem dX9_openFor_23 : decode cX9_openFor 23 = .ok (.iload 4, 2) := by decide +kernel
theorem dX9_openFor_25 : decode cX9_openFor 25 = .ok (.iload 5, 2) := by decide +kernel
theorem dX9_openFor_27 : decode cX9_openFor 27 = .ok (.ifCond .le 15, 3) := by decide +kernel
theorem dX9_openFor_30 : decode cX9_openFor 30 = .ok (.iload 5, 2) := by decide +kernel
theorem dX9_openFor_32 : decode cX9_openFor 32 = .ok (.iload_n 2, 1) := by decide +kernel
theorem dX9_openFor_33 : decode cX9_openFor 33 = .ok (.iadd, 1) := by decide +kernel
theorem dX9_openFor_34 : decode cX9_openFor 34 = .ok (.iload_n 3, 1) := by decide +kernel
theorem dX9_openFor_35 : decode cX9_openFor 35 = .ok (.if_icmp .lt 7, 3) := by decide +kernel
theorem dX9_openFor_38 : decode cX9_openFor 38 = .ok (.iconst 1, 1) := by decide +kernel
theorem dX9_openFor_39 : decode cX9_openFor 39 = .ok (.goto 4, 3) := by decide +kernel
theorem dX9_openFor_42 : decode cX9_openFor 42 = .ok (.iconst 0, 1) := by decide +kernel
theorem dX9_openFor_43 : decode cX9_openFor 43 = .ok (.bastore, 1) := by decide +kernel
theorem dX9_openFor_44 : decode cX9_openFor 44 = .ok (.iinc 4 1, 3) := by decide +kernel
theorem dX9_openFor_47 : decode cX9_openFor 47 = .ok (.goto (-44), 3) := by decide +kernel
theorem dX9_openFor_50 : decode cX9_openFor 50 = .ok (.return_, 1) := by decide +kernel
theorem dX9_openDeep_0 : decode cX9_openDeep 0 = .ok (.iconst 0, 1) := by decide +kernel
theorem dX9_openDeep_1 : decode cX9_openDeep 1 = .ok (.istore_n 3, 1) := by decide +kernel
theorem dX9_openDeep_2 : decode cX9_openDeep 2 = .ok (.iload_n 3, 1) := by decide +kernel
theorem dX9_openDeep_3 : decode cX9_openDeep 3 = .ok (.bipush 64, 2) := by decide +kernel
theorem dX9_openDeep_5 : decode cX9_openDeep 5 = .ok (.if_icmp .ge 30, 3) := by decide +kernel
theorem dX9_openDeep_8 : decode cX9_openDeep 8 = .ok (.aload_n 0, 1) := by decide +kernel
theorem dX9_openDeep_9 : decode cX9_openDeep 9 = .ok (.getfield 9, 3) := by decide +kernel
theorem dX9_openDeep_12 : decode cX9_openDeep 12 = .ok (.iload_n 3, 1) := by decide +kernel
theorem dX9_openDeep_13 : decode cX9_openDeep 13 = .ok (.aload_n 1, 1) := by decide +kernel
theorem dX9_openDeep_14 : decode cX9_openDeep 14 = .ok (.getfield 25, 3) := by decide +kernel
theorem dX9_openDeep_17 : decode cX9_openDeep 17 = .ok (.iload_n 3, 1) := by decide +kernel
theorem dX9_openDeep_18 : decode cX9_openDeep 18 = .ok (.iaload, 1) := by decide +kernel
theorem dX9_openDeep_19 : decode cX9_openDeep 19 = .ok (.iload_n 2, 1) := by decide +kernel
theorem dX9_openDeep_20 : decode cX9_openDeep 20 = .ok (.if_icmp .lt 7, 3) := by decide +kernel
theorem dX9_openDeep_23 : decode cX9_openDeep 23 = .ok (.iconst 1, 1) := by decide +kernel
theorem dX9_openDeep_24 : decode cX9_openDeep 24 = .ok (.goto 4, 3) := by decide +kernel
theorem dX9_openDeep_27 : decode cX9_openDeep 27 = .ok (.iconst 0, 1) := by decide +kernel
theorem dX9_openDeep_28 : decode cX9_openDeep 28 = .ok (.bastore, 1) := by decide +kernel
theorem dX9_openDeep_29 : decode cX9_openDeep 29 = .ok (.iinc 3 1, 3) := by decide +kernel
theorem dX9_openDeep_32 : decode cX9_openDeep 32 = .ok (.goto (-30), 3) := by decide +kernel
theorem dX9_openDeep_35 : decode cX9_openDeep 35 = .ok (.return_, 1) := by decide +kernel
theorem dX9_lengthTo_0 : decode cX9_lengthTo 0 = .ok (.iload_n 1, 1) := by decide +kernel
theorem dX9_lengthTo_1 : decode cX9_lengthTo 1 = .ok (.ifCond .lt 18, 3) := by decide +kernel
theorem dX9_lengthTo_4 : decode cX9_lengthTo 4 = .ok (.iload_n 1, 1) := by decide +kernel
theorem dX9_lengthTo_5 : decode cX9_lengthTo 5 = .ok (.bipush 64, 2) := by decide +kernel
theorem dX9_lengthTo_7 : decode cX9_lengthTo 7 = .ok (.if_icmp .ge 12, 3) := by decide +kernel
theorem dX9_lengthTo_10 : decode cX9_lengthTo 10 = .ok (.aload_n 0, 1) := by decide +kernel
theorem dX9_lengthTo_11 : decode cX9_lengthTo 11 = .ok (.getfield 15, 3) := by decide +kernel
theorem dX9_lengthTo_14 : decode cX9_lengthTo 14 = .ok (.iload_n 1, 1) := by decide +kernel
theorem dX9_lengthTo_15 : decode cX9_lengthTo 15 = .ok (.iaload, 1) := by decide +kernel
theorem dX9_lengthTo_16 : decode cX9_lengthTo 16 = .ok (.goto 4, 3) := by decide +kernel
theorem dX9_lengthTo_19 : decode cX9_lengthTo 19 = .ok (.iconst (-1), 1) := by decide +kernel
theorem dX9_lengthTo_20 : decode cX9_lengthTo 20 = .ok (.ireturn, 1) := by decide +kernel
theorem dX9_searchFrom_0 : decode cX9_searchFrom 0 = .ok (.aload_n 0, 1) := by decide +kernel
theorem dX9_searchFrom_1 : decode cX9_searchFrom 1 = .ok (.iload_n 1, 1) := by decide +kernel
theorem dX9_searchFrom_2 : decode cX9_searchFrom 2 = .ok (.invokevirtual 30, 3) := by decide +kernel
theorem dX9_searchFrom_5 : decode cX9_searchFrom 5 = .ok (.aload_n 0, 1) := by decide +kernel
theorem dX9_searchFrom_6 : decode cX9_searchFrom 6 = .ok (.getfield 22, 3) := by decide +kernel
theorem dX9_searchFrom_9 : decode cX9_searchFrom 9 = .ok (.iconst 0, 1) := by decide +kernel
theorem dX9_searchFrom_10 : decode cX9_searchFrom 10 = .ok (.iload_n 1, 1) := by decide +kernel
theorem dX9_searchFrom_11 : decode cX9_searchFrom 11 = .ok (.iastore, 1) := by decide +kernel
theorem dX9_searchFrom_12 : decode cX9_searchFrom 12 = .ok (.iconst 1, 1) := by decide +kernel
theorem dX9_searchFrom_13 : decode cX9_searchFrom 13 = .ok (.istore_n 2, 1) := by decide +kernel
theorem dX9_searchFrom_14 : decode cX9_searchFrom 14 = .ok (.iconst 0, 1) := by decide +kernel
theorem dX9_searchFrom_15 : decode cX9_searchFrom 15 = .ok (.istore_n 3, 1) := by decide +kernel
theorem dX9_searchFrom_16 : decode cX9_searchFrom 16 = .ok (.iload_n 3, 1) := by decide +kernel
theorem dX9_searchFrom_17 : decode cX9_searchFrom 17 = .ok (.iload_n 2, 1) := by decide +kernel
theorem dX9_searchFrom_18 : decode cX9_searchFrom 18 = .ok (.if_icmp .ge 133, 3) := by decide +kernel
theorem dX9_searchFrom_21 : decode cX9_searchFrom 21 = .ok (.iload_n 3, 1) := by decide +kernel
theorem dX9_searchFrom_22 : decode cX9_searchFrom 22 = .ok (.bipush 64, 2) := by decide +kernel
theorem dX9_searchFrom_24 : decode cX9_searchFrom 24 = .ok (.if_icmp .ge 127, 3) := by decide +kernel
theorem dX9_searchFrom_27 : decode cX9_searchFrom 27 = .ok (.aload_n 0, 1) := by decide +kernel
theorem dX9_searchFrom_28 : decode cX9_searchFrom 28 = .ok (.getfield 22, 3) := by decide +kernel
theorem dX9_searchFrom_31 : decode cX9_searchFrom 31 = .ok (.iload_n 3, 1) := by decide +kernel
theorem dX9_searchFrom_32 : decode cX9_searchFrom 32 = .ok (.iaload, 1) := by decide +kernel
theorem dX9_searchFrom_33 : decode cX9_searchFrom 33 = .ok (.istore 4, 2) := by decide +kernel
theorem dX9_searchFrom_35 : decode cX9_searchFrom 35 = .ok (.iconst 0, 1) := by decide +kernel
theorem dX9_searchFrom_36 : decode cX9_searchFrom 36 = .ok (.istore 5, 2) := by decide +kernel
theorem dX9_searchFrom_38 : decode cX9_searchFrom 38 = .ok (.iload 5, 2) := by decide +kernel
theorem dX9_searchFrom_40 : decode cX9_searchFrom 40 = .ok (.iconst 4, 1) := by decide +kernel
theorem dX9_searchFrom_41 : decode cX9_searchFrom 41 = .ok (.if_icmp .ge 104, 3) := by decide +kernel
theorem dX9_searchFrom_44 : decode cX9_searchFrom 44 = .ok (.iload 4, 2) := by decide +kernel
theorem dX9_searchFrom_46 : decode cX9_searchFrom 46 = .ok (.iload 5, 2) := by decide +kernel
theorem dX9_searchFrom_48 : decode cX9_searchFrom 48 = .ok (.invokestatic 34, 3) := by decide +kernel
theorem dX9_searchFrom_51 : decode cX9_searchFrom 51 = .ok (.istore 6, 2) := by decide +kernel
theorem dX9_searchFrom_53 : decode cX9_searchFrom 53 = .ok (.iload_n 2, 1) := by decide +kernel
theorem dX9_searchFrom_54 : decode cX9_searchFrom 54 = .ok (.bipush 64, 2) := by decide +kernel
theorem dX9_searchFrom_56 : decode cX9_searchFrom 56 = .ok (.if_icmp .ge 83, 3) := by decide +kernel
theorem dX9_searchFrom_59 : decode cX9_searchFrom 59 = .ok (.iload 6, 2) := by decide +kernel
theorem dX9_searchFrom_61 : decode cX9_searchFrom 61 = .ok (.iconst (-1), 1) := by decide +kernel
theorem dX9_searchFrom_62 : decode cX9_searchFrom 62 = .ok (.if_icmp .eq 77, 3) := by decide +kernel
theorem dX9_searchFrom_65 : decode cX9_searchFrom 65 = .ok (.aload_n 0, 1) := by decide +kernel
theorem dX9_searchFrom_66 : decode cX9_searchFrom 66 = .ok (.getfield 9, 3) := by decide +kernel
theorem dX9_searchFrom_69 : decode cX9_searchFrom 69 = .ok (.iload 6, 2) := by decide +kernel
theorem dX9_searchFrom_71 : decode cX9_searchFrom 71 = .ok (.baload, 1) := by decide +kernel
theorem dX9_searchFrom_72 : decode cX9_searchFrom 72 = .ok (.ifCond .eq 67, 3) := by decide +kernel
theorem dX9_searchFrom_75 : decode cX9_searchFrom 75 = .ok (.aload_n 0, 1) := by decide +kernel
theorem dX9_searchFrom_76 : decode cX9_searchFrom 76 = .ok (.getfield 15, 3) := by decide +kernel
theorem dX9_searchFrom_79 : decode cX9_searchFrom 79 = .ok (.iload 6, 2) := by decide +kernel
theorem dX9_searchFrom_81 : decode cX9_searchFrom 81 = .ok (.iaload, 1) := by decide +kernel
theorem dX9_searchFrom_82 : decode cX9_searchFrom 82 = .ok (.iconst (-1), 1) := by decide +kernel
theorem dX9_searchFrom_83 : decode cX9_searchFrom 83 = .ok (.if_icmp .eq 6, 3) := by decide +kernel
theorem dX9_searchFrom_86 : decode cX9_searchFrom 86 = .ok (.goto 53, 3) := by decide +kernel
theorem dX9_searchFrom_89 : decode cX9_searchFrom 89 = .ok (.aload_n 0, 1) := by decide +kernel
theorem dX9_searchFrom_90 : decode cX9_searchFrom 90 = .ok (.getfield 15, 3) := by decide +kernel
theorem dX9_searchFrom_93 : decode cX9_searchFrom 93 = .ok (.iload 6, 2) := by decide +kernel
theorem dX9_searchFrom_95 : decode cX9_searchFrom 95 = .ok (.aload_n 0, 1) := by decide +kernel
theorem dX9_searchFrom_96 : decode cX9_searchFrom 96 = .ok (.getfield 15, 3) := by decide +kernel
theorem dX9_searchFrom_99 : decode cX9_searchFrom 99 = .ok (.iload 4, 2) := by decide +kernel
theorem dX9_searchFrom_101 : decode cX9_searchFrom 101 = .ok (.iaload, 1) := by decide +kernel
theorem dX9_searchFrom_102 : decode cX9_searchFrom 102 = .ok (.iconst 1, 1) := by decide +kernel
theorem dX9_searchFrom_103 : decode cX9_searchFrom 103 = .ok (.iadd, 1) := by decide +kernel
theorem dX9_searchFrom_104 : decode cX9_searchFrom 104 = .ok (.iastore, 1) := by decide +kernel
theorem dX9_searchFrom_105 : decode cX9_searchFrom 105 = .ok (.aload_n 0, 1) := by decide +kernel
theorem dX9_searchFrom_106 : decode cX9_searchFrom 106 = .ok (.getfield 19, 3) := by decide +kernel
theorem dX9_searchFrom_109 : decode cX9_searchFrom 109 = .ok (.iload 6, 2) := by decide +kernel
theorem dX9_searchFrom_111 : decode cX9_searchFrom 111 = .ok (.iload_n 3, 1) := by decide +kernel
theorem dX9_searchFrom_112 : decode cX9_searchFrom 112 = .ok (.ifCond .ne 8, 3) := by decide +kernel
theorem dX9_searchFrom_115 : decode cX9_searchFrom 115 = .ok (.iload 6, 2) := by decide +kernel
theorem dX9_searchFrom_117 : decode cX9_searchFrom 117 = .ok (.goto 10, 3) := by decide +kernel
theorem dX9_searchFrom_120 : decode cX9_searchFrom 120 = .ok (.aload_n 0, 1) := by decide +kernel
theorem dX9_searchFrom_121 : decode cX9_searchFrom 121 = .ok (.getfield 19, 3) := by decide +kernel
theorem dX9_searchFrom_124 : decode cX9_searchFrom 124 = .ok (.iload 4, 2) := by decide +kernel
theorem dX9_searchFrom_126 : decode cX9_searchFrom 126 = .ok (.iaload, 1) := by decide +kernel
theorem dX9_searchFrom_127 : decode cX9_searchFrom 127 = .ok (.iastore, 1) := by decide +kernel
theorem dX9_searchFrom_128 : decode cX9_searchFrom 128 = .ok (.aload_n 0, 1) := by decide +kernel
theorem dX9_searchFrom_129 : decode cX9_searchFrom 129 = .ok (.getfield 22, 3) := by decide +kernel
theorem dX9_searchFrom_132 : decode cX9_searchFrom 132 = .ok (.iload_n 2, 1) := by decide +kernel
theorem dX9_searchFrom_133 : decode cX9_searchFrom 133 = .ok (.iload 6, 2) := by decide +kernel
theorem dX9_searchFrom_135 : decode cX9_searchFrom 135 = .ok (.iastore, 1) := by decide +kernel
theorem dX9_searchFrom_136 : decode cX9_searchFrom 136 = .ok (.iinc 2 1, 3) := by decide +kernel
theorem dX9_searchFrom_139 : decode cX9_searchFrom 139 = .ok (.iinc 5 1, 3) := by decide +kernel
theorem dX9_searchFrom_142 : decode cX9_searchFrom 142 = .ok (.goto (-104), 3) := by decide +kernel
theorem dX9_searchFrom_145 : decode cX9_searchFrom 145 = .ok (.iinc 3 1, 3) := by decide +kernel
theorem dX9_searchFrom_148 : decode cX9_searchFrom 148 = .ok (.goto (-132), 3) := by decide +kernel
theorem dX9_searchFrom_151 : decode cX9_searchFrom 151 = .ok (.return_, 1) := by decide +kernel
theorem dX9_improveFrom_0 : decode cX9_improveFrom 0 = .ok (.aload_n 0, 1) := by decide +kernel
theorem dX9_improveFrom_1 : decode cX9_improveFrom 1 = .ok (.iload_n 1, 1) := by decide +kernel
theorem dX9_improveFrom_2 : decode cX9_improveFrom 2 = .ok (.invokevirtual 30, 3) := by decide +kernel
theorem dX9_improveFrom_5 : decode cX9_improveFrom 5 = .ok (.iconst 1, 1) := by decide +kernel
theorem dX9_improveFrom_6 : decode cX9_improveFrom 6 = .ok (.istore_n 2, 1) := by decide +kernel
theorem dX9_improveFrom_7 : decode cX9_improveFrom 7 = .ok (.iconst 0, 1) := by decide +kernel
theorem dX9_improveFrom_8 : decode cX9_improveFrom 8 = .ok (.istore_n 3, 1) := by decide +kernel
theorem dX9_improveFrom_9 : decode cX9_improveFrom 9 = .ok (.iload_n 3, 1) := by decide +kernel
theorem dX9_improveFrom_10 : decode cX9_improveFrom 10 = .ok (.bipush 64, 2) := by decide +kernel
theorem dX9_improveFrom_12 : decode cX9_improveFrom 12 = .ok (.if_icmp .ge 18, 3) := by decide +kernel
theorem dX9_improveFrom_15 : decode cX9_improveFrom 15 = .ok (.iload_n 2, 1) := by decide +kernel
theorem dX9_improveFrom_16 : decode cX9_improveFrom 16 = .ok (.ifCond .eq 14, 3) := by decide +kernel
theorem dX9_improveFrom_19 : decode cX9_improveFrom 19 = .ok (.aload_n 0, 1) := by decide +kernel
theorem dX9_improveFrom_20 : decode cX9_improveFrom 20 = .ok (.invokevirtual 38, 3) := by decide +kernel
theorem dX9_improveFrom_23 : decode cX9_improveFrom 23 = .ok (.istore_n 2, 1) := by decide +kernel
theorem dX9_improveFrom_24 : decode cX9_improveFrom 24 = .ok (.iinc 3 1, 3) := by decide +kernel
theorem dX9_improveFrom_27 : decode cX9_improveFrom 27 = .ok (.goto (-18), 3) := by decide +kernel
theorem dX9_improveFrom_30 : decode cX9_improveFrom 30 = .ok (.return_, 1) := by decide +kernel
theorem dX9_nextCell_0 : decode cX9_nextCell 0 = .ok (.aload_n 0, 1) := by decide +kernel
theorem dX9_nextCell_1 : decode cX9_nextCell 1 = .ok (.aload_n 1, 1) := by decide +kernel
theorem dX9_nextCell_2 : decode cX9_nextCell 2 = .ok (.iload_n 2, 1) := by decide +kernel
theorem dX9_nextCell_3 : decode cX9_nextCell 3 = .ok (.iload_n 3, 1) := by decide +kernel
theorem dX9_nextCell_4 : decode cX9_nextCell 4 = .ok (.invokevirtual 42, 3) := by decide +kernel
theorem dX9_nextCell_7 : decode cX9_nextCell 7 = .ok (.aload_n 0, 1) := by decide +kernel
theorem dX9_nextCell_8 : decode cX9_nextCell 8 = .ok (.iload 4, 2) := by decide +kernel
theorem dX9_nextCell_10 : decode cX9_nextCell 10 = .ok (.invokevirtual 46, 3) := by decide +kernel
theorem dX9_nextCell_13 : decode cX9_nextCell 13 = .ok (.aload_n 0, 1) := by decide +kernel
theorem dX9_nextCell_14 : decode cX9_nextCell 14 = .ok (.iload 5, 2) := by decide +kernel
theorem dX9_nextCell_16 : decode cX9_nextCell 16 = .ok (.invokevirtual 49, 3) := by decide +kernel
theorem dX9_nextCell_19 : decode cX9_nextCell 19 = .ok (.ifCond .le 13, 3) := by decide +kernel
theorem dX9_nextCell_22 : decode cX9_nextCell 22 = .ok (.aload_n 0, 1) := by decide +kernel
theorem dX9_nextCell_23 : decode cX9_nextCell 23 = .ok (.getfield 19, 3) := by decide +kernel
theorem dX9_nextCell_26 : decode cX9_nextCell 26 = .ok (.iload 5, 2) := by decide +kernel
theorem dX9_nextCell_28 : decode cX9_nextCell 28 = .ok (.iaload, 1) := by decide +kernel
theorem dX9_nextCell_29 : decode cX9_nextCell 29 = .ok (.goto 5, 3) := by decide +kernel
theorem dX9_nextCell_32 : decode cX9_nextCell 32 = .ok (.iload 4, 2) := by decide +kernel
theorem dX9_nextCell_34 : decode cX9_nextCell 34 = .ok (.ireturn, 1) := by decide +kernel
theorem dX9_beginAt_0 : decode cX9_beginAt 0 = .ok (.iconst 0, 1) := by decide +kernel
theorem dX9_beginAt_1 : decode cX9_beginAt 1 = .ok (.istore_n 2, 1) := by decide +kernel
theorem dX9_beginAt_2 : decode cX9_beginAt 2 = .ok (.iload_n 2, 1) := by decide +kernel
theorem dX9_beginAt_3 : decode cX9_beginAt 3 = .ok (.bipush 64, 2) := by decide +kernel
theorem dX9_beginAt_5 : decode cX9_beginAt 5 = .ok (.if_icmp .ge 25, 3) := by decide +kernel
theorem dX9_beginAt_8 : decode cX9_beginAt 8 = .ok (.aload_n 0, 1) := by decide +kernel
theorem dX9_beginAt_9 : decode cX9_beginAt 9 = .ok (.getfield 15, 3) := by decide +kernel
theorem dX9_beginAt_12 : decode cX9_beginAt 12 = .ok (.iload_n 2, 1) := by decide +kernel
theorem dX9_beginAt_13 : decode cX9_beginAt 13 = .ok (.iload_n 2, 1) := by decide +kernel
theorem dX9_beginAt_14 : decode cX9_beginAt 14 = .ok (.iload_n 1, 1) := by decide +kernel
theorem dX9_beginAt_15 : decode cX9_beginAt 15 = .ok (.if_icmp .ne 7, 3) := by decide +kernel
theorem dX9_beginAt_18 : decode cX9_beginAt 18 = .ok (.iconst 0, 1) := by decide +kernel
theorem dX9_beginAt_19 : decode cX9_beginAt 19 = .ok (.goto 4, 3) := by decide +kernel
theorem dX9_beginAt_22 : decode cX9_beginAt 22 = .ok (.iconst (-1), 1) := by decide +kernel
theorem dX9_beginAt_23 : decode cX9_beginAt 23 = .ok (.iastore, 1) := by decide +kernel
theorem dX9_beginAt_24 : decode cX9_beginAt 24 = .ok (.iinc 2 1, 3) := by decide +kernel
theorem dX9_beginAt_27 : decode cX9_beginAt 27 = .ok (.goto (-25), 3) := by decide +kernel
theorem dX9_beginAt_30 : decode cX9_beginAt 30 = .ok (.return_, 1) := by decide +kernel
theorem dX9_improveAll_0 : decode cX9_improveAll 0 = .ok (.iconst 0, 1) := by decide +kernel
theorem dX9_improveAll_1 : decode cX9_improveAll 1 = .ok (.istore_n 1, 1) := by decide +kernel
theorem dX9_improveAll_2 : decode cX9_improveAll 2 = .ok (.iconst 0, 1) := by decide +kernel
theorem dX9_improveAll_3 : decode cX9_improveAll 3 = .ok (.istore_n 2, 1) := by decide +kernel
theorem dX9_improveAll_4 : decode cX9_improveAll 4 = .ok (.iload_n 2, 1) := by decide +kernel
theorem dX9_improveAll_5 : decode cX9_improveAll 5 = .ok (.bipush 64, 2) := by decide +kernel
theorem dX9_improveAll_7 : decode cX9_improveAll 7 = .ok (.if_icmp .ge 83, 3) := by decide +kernel
theorem dX9_improveAll_10 : decode cX9_improveAll 10 = .ok (.iconst 0, 1) := by decide +kernel
theorem dX9_improveAll_11 : decode cX9_improveAll 11 = .ok (.istore_n 3, 1) := by decide +kernel
theorem dX9_improveAll_12 : decode cX9_improveAll 12 = .ok (.aload_n 0, 1) := by decide +kernel
theorem dX9_improveAll_13 : decode cX9_improveAll 13 = .ok (.getfield 9, 3) := by decide +kernel
theorem dX9_improveAll_16 : decode cX9_improveAll 16 = .ok (.iload_n 2, 1) := by decide +kernel
theorem dX9_improveAll_17 : decode cX9_improveAll 17 = .ok (.baload, 1) := by decide +kernel
theorem dX9_improveAll_18 : decode cX9_improveAll 18 = .ok (.ifCond .eq 66, 3) := by decide +kernel
theorem dX9_improveAll_21 : decode cX9_improveAll 21 = .ok (.iload_n 3, 1) := by decide +kernel
theorem dX9_improveAll_22 : decode cX9_improveAll 22 = .ok (.iconst 4, 1) := by decide +kernel
theorem dX9_improveAll_23 : decode cX9_improveAll 23 = .ok (.if_icmp .ge 61, 3) := by decide +kernel
theorem dX9_improveAll_26 : decode cX9_improveAll 26 = .ok (.aload_n 0, 1) := by decide +kernel
theorem dX9_improveAll_27 : decode cX9_improveAll 27 = .ok (.iload_n 2, 1) := by decide +kernel
theorem dX9_improveAll_28 : decode cX9_improveAll 28 = .ok (.iload_n 3, 1) := by decide +kernel
theorem dX9_improveAll_29 : decode cX9_improveAll 29 = .ok (.invokestatic 34, 3) := by decide +kernel
theorem dX9_improveAll_32 : decode cX9_improveAll 32 = .ok (.invokevirtual 49, 3) := by decide +kernel
theorem dX9_improveAll_35 : decode cX9_improveAll 35 = .ok (.istore 4, 2) := by decide +kernel
theorem dX9_improveAll_37 : decode cX9_improveAll 37 = .ok (.iload 4, 2) := by decide +kernel
theorem dX9_improveAll_39 : decode cX9_improveAll 39 = .ok (.iconst (-1), 1) := by decide +kernel
theorem dX9_improveAll_40 : decode cX9_improveAll 40 = .ok (.if_icmp .eq 38, 3) := by decide +kernel
theorem dX9_improveAll_43 : decode cX9_improveAll 43 = .ok (.aload_n 0, 1) := by decide +kernel
theorem dX9_improveAll_44 : decode cX9_improveAll 44 = .ok (.getfield 15, 3) := by decide +kernel
theorem dX9_improveAll_47 : decode cX9_improveAll 47 = .ok (.iload_n 2, 1) := by decide +kernel
theorem dX9_improveAll_48 : decode cX9_improveAll 48 = .ok (.iaload, 1) := by decide +kernel
theorem dX9_improveAll_49 : decode cX9_improveAll 49 = .ok (.iconst (-1), 1) := by decide +kernel
theorem dX9_improveAll_50 : decode cX9_improveAll 50 = .ok (.if_icmp .eq 16, 3) := by decide +kernel
theorem dX9_improveAll_53 : decode cX9_improveAll 53 = .ok (.iload 4, 2) := by decide +kernel
theorem dX9_improveAll_55 : decode cX9_improveAll 55 = .ok (.iconst 1, 1) := by decide +kernel
theorem dX9_improveAll_56 : decode cX9_improveAll 56 = .ok (.iadd, 1) := by decide +kernel
theorem dX9_improveAll_57 : decode cX9_improveAll 57 = .ok (.aload_n 0, 1) := by decide +kernel
theorem dX9_improveAll_58 : decode cX9_improveAll 58 = .ok (.getfield 15, 3) := by decide +kernel
theorem dX9_improveAll_61 : decode cX9_improveAll 61 = .ok (.iload_n 2, 1) := by decide +kernel
theorem dX9_improveAll_62 : decode cX9_improveAll 62 = .ok (.iaload, 1) := by decide +kernel
theorem dX9_improveAll_63 : decode cX9_improveAll 63 = .ok (.if_icmp .ge 15, 3) := by decide +kernel
theorem dX9_improveAll_66 : decode cX9_improveAll 66 = .ok (.aload_n 0, 1) := by decide +kernel
theorem dX9_improveAll_67 : decode cX9_improveAll 67 = .ok (.getfield 15, 3) := by decide +kernel
theorem dX9_improveAll_70 : decode cX9_improveAll 70 = .ok (.iload_n 2, 1) := by decide +kernel
theorem dX9_improveAll_71 : decode cX9_improveAll 71 = .ok (.iload 4, 2) := by decide +kernel
theorem dX9_improveAll_73 : decode cX9_improveAll 73 = .ok (.iconst 1, 1) := by decide +kernel
theorem dX9_improveAll_74 : decode cX9_improveAll 74 = .ok (.iadd, 1) := by decide +kernel
theorem dX9_improveAll_75 : decode cX9_improveAll 75 = .ok (.iastore, 1) := by decide +kernel
theorem dX9_improveAll_76 : decode cX9_improveAll 76 = .ok (.iconst 1, 1) := by decide +kernel
theorem dX9_improveAll_77 : decode cX9_improveAll 77 = .ok (.istore_n 1, 1) := by decide +kernel
theorem dX9_improveAll_78 : decode cX9_improveAll 78 = .ok (.iinc 3 1, 3) := by decide +kernel
theorem dX9_improveAll_81 : decode cX9_improveAll 81 = .ok (.goto (-69), 3) := by decide +kernel
theorem dX9_improveAll_84 : decode cX9_improveAll 84 = .ok (.iinc 2 1, 3) := by decide +kernel
theorem dX9_improveAll_87 : decode cX9_improveAll 87 = .ok (.goto (-83), 3) := by decide +kernel
theorem dX9_improveAll_90 : decode cX9_improveAll 90 = .ok (.iload_n 1, 1) := by decide +kernel
theorem dX9_improveAll_91 : decode cX9_improveAll 91 = .ok (.ireturn, 1) := by decide +kernel
theorem dX10_init_0 : decode cX10_init 0 = .ok (.aload_n 0, 1) := by decide +kernel
theorem dX10_init_1 : decode cX10_init 1 = .ok (.invokespecial 3, 3) := by decide +kernel
theorem dX10_init_4 : decode cX10_init 4 = .ok (.aload_n 0, 1) := by decide +kernel
theorem dX10_init_5 : decode cX10_init 5 = .ok (.new 9, 3) := by decide +kernel
theorem dX10_init_8 : decode cX10_init 8 = .ok (.dup, 1) := by decide +kernel
theorem dX10_init_9 : decode cX10_init 9 = .ok (.invokespecial 11, 3) := by decide +kernel
theorem dX10_init_12 : decode cX10_init 12 = .ok (.putfield 12, 3) := by decide +kernel
theorem dX10_init_15 : decode cX10_init 15 = .ok (.aload_n 0, 1) := by decide +kernel
theorem dX10_init_16 : decode cX10_init 16 = .ok (.new 9, 3) := by decide +kernel
theorem dX10_init_19 : decode cX10_init 19 = .ok (.dup, 1) := by decide +kernel
theorem dX10_init_20 : decode cX10_init 20 = .ok (.invokespecial 11, 3) := by decide +kernel
theorem dX10_init_23 : decode cX10_init 23 = .ok (.putfield 16, 3) := by decide +kernel
theorem dX10_init_26 : decode cX10_init 26 = .ok (.aload_n 0, 1) := by decide +kernel
theorem dX10_init_27 : decode cX10_init 27 = .ok (.new 19, 3) := by decide +kernel
