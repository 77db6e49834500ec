theorem dX10_init_30 : decode cX10_init 30 = .ok (.dup, 1) := by decide +kernel
theorem dX10_init_31 : decode cX10_init 31 = .ok (.invokespecial 21, 3) := by decide +kernel
theorem dX10_init_34 : decode cX10_init 34 = .ok (.putfield 22, 3) := by decide +kernel
theorem dX10_init_37 : decode cX10_init 37 = .ok (.aload_n 0, 1) := by decide +kernel
theorem dX10_init_38 : decode cX10_init 38 = .ok (.new 26, 3) := by decide +kernel
theorem dX10_init_41 : decode cX10_init 41 = .ok (.dup, 1) := by decide +kernel
theorem dX10_init_42 : decode cX10_init 42 = .ok (.invokespecial 28, 3) := by decide +kernel
theorem dX10_init_45 : decode cX10_init 45 = .ok (.putfield 29, 3) := by decide +kernel
theorem dX10_init_48 : decode cX10_init 48 = .ok (.aload_n 0, 1) := by decide +kernel
theorem dX10_init_49 : decode cX10_init 49 = .ok (.new 33, 3) := by decide +kernel
theorem dX10_init_52 : decode cX10_init 52 = .ok (.dup, 1) := by decide +kernel
theorem dX10_init_53 : decode cX10_init 53 = .ok (.invokespecial 35, 3) := by decide +kernel
theorem dX10_init_56 : decode cX10_init 56 = .ok (.putfield 36, 3) := by decide +kernel
theorem dX10_init_59 : decode cX10_init 59 = .ok (.aload_n 0, 1) := by decide +kernel
theorem dX10_init_60 : decode cX10_init 60 = .ok (.bipush 6, 2) := by decide +kernel
theorem dX10_init_62 : decode cX10_init 62 = .ok (.newarray .long, 2) := by decide +kernel
theorem dX10_init_64 : decode cX10_init 64 = .ok (.putfield 40, 3) := by decide +kernel
theorem dX10_init_67 : decode cX10_init 67 = .ok (.aload_n 0, 1) := by decide +kernel
theorem dX10_init_68 : decode cX10_init 68 = .ok (.new 44, 3) := by decide +kernel
theorem dX10_init_71 : decode cX10_init 71 = .ok (.dup, 1) := by decide +kernel
theorem dX10_init_72 : decode cX10_init 72 = .ok (.invokespecial 46, 3) := by decide +kernel
theorem dX10_init_75 : decode cX10_init 75 = .ok (.putfield 47, 3) := by decide +kernel
theorem dX10_init_78 : decode cX10_init 78 = .ok (.aload_n 0, 1) := by decide +kernel
theorem dX10_init_79 : decode cX10_init 79 = .ok (.iconst (-1), 1) := by decide +kernel
theorem dX10_init_80 : decode cX10_init 80 = .ok (.putfield 51, 3) := by decide +kernel
theorem dX10_init_83 : decode cX10_init 83 = .ok (.aload_n 0, 1) := by decide +kernel
theorem dX10_init_84 : decode cX10_init 84 = .ok (.new 55, 3) := by decide +kernel
theorem dX10_init_87 : decode cX10_init 87 = .ok (.dup, 1) := by decide +kernel
theorem dX10_init_88 : decode cX10_init 88 = .ok (.invokespecial 57, 3) := by decide +kernel
theorem dX10_init_91 : decode cX10_init 91 = .ok (.putfield 58, 3) := by decide +kernel
theorem dX10_init_94 : decode cX10_init 94 = .ok (.return_, 1) := by decide +kernel
theorem dX10_setDepth_0 : decode cX10_setDepth 0 = .ok (.aload_n 0, 1) := by decide +kernel
theorem dX10_setDepth_1 : decode cX10_setDepth 1 = .ok (.getfield 22, 3) := by decide +kernel
theorem dX10_setDepth_4 : decode cX10_setDepth 4 = .ok (.aload_n 0, 1) := by decide +kernel
theorem dX10_setDepth_5 : decode cX10_setDepth 5 = .ok (.getfield 12, 3) := by decide +kernel
theorem dX10_setDepth_8 : decode cX10_setDepth 8 = .ok (.invokevirtual 62, 3) := by decide +kernel
theorem dX10_setDepth_11 : decode cX10_setDepth 11 = .ok (.aload_n 0, 1) := by decide +kernel
theorem dX10_setDepth_12 : decode cX10_setDepth 12 = .ok (.aload_n 0, 1) := by decide +kernel
theorem dX10_setDepth_13 : decode cX10_setDepth 13 = .ok (.iload_n 1, 1) := by decide +kernel
theorem dX10_setDepth_14 : decode cX10_setDepth 14 = .ok (.iload_n 2, 1) := by decide +kernel
theorem dX10_setDepth_15 : decode cX10_setDepth 15 = .ok (.iload_n 3, 1) := by decide +kernel
theorem dX10_setDepth_16 : decode cX10_setDepth 16 = .ok (.invokevirtual 66, 3) := by decide +kernel
theorem dX10_setDepth_19 : decode cX10_setDepth 19 = .ok (.invokevirtual 70, 3) := by decide +kernel
theorem dX10_setDepth_22 : decode cX10_setDepth 22 = .ok (.ireturn, 1) := by decide +kernel
theorem dX10_depth_0 : decode cX10_depth 0 = .ok (.aload_n 0, 1) := by decide +kernel
theorem dX10_depth_1 : decode cX10_depth 1 = .ok (.getfield 12, 3) := by decide +kernel
theorem dX10_depth_4 : decode cX10_depth 4 = .ok (.iload_n 1, 1) := by decide +kernel
theorem dX10_depth_5 : decode cX10_depth 5 = .ok (.iload_n 2, 1) := by decide +kernel
theorem dX10_depth_6 : decode cX10_depth 6 = .ok (.invokestatic 74, 3) := by decide +kernel
theorem dX10_depth_9 : decode cX10_depth 9 = .ok (.invokevirtual 78, 3) := by decide +kernel
theorem dX10_depth_12 : decode cX10_depth 12 = .ok (.ireturn, 1) := by decide +kernel
theorem dX10_water_0 : decode cX10_water 0 = .ok (.aload_n 0, 1) := by decide +kernel
theorem dX10_water_1 : decode cX10_water 1 = .ok (.getfield 12, 3) := by decide +kernel
theorem dX10_water_4 : decode cX10_water 4 = .ok (.iload_n 1, 1) := by decide +kernel
theorem dX10_water_5 : decode cX10_water 5 = .ok (.iload_n 2, 1) := by decide +kernel
theorem dX10_water_6 : decode cX10_water 6 = .ok (.invokestatic 74, 3) := by decide +kernel
theorem dX10_water_9 : decode cX10_water 9 = .ok (.invokevirtual 81, 3) := by decide +kernel
theorem dX10_water_12 : decode cX10_water 12 = .ok (.ireturn, 1) := by decide +kernel
theorem dX10_tide_0 : decode cX10_tide 0 = .ok (.aload_n 0, 1) := by decide +kernel
theorem dX10_tide_1 : decode cX10_tide 1 = .ok (.getfield 12, 3) := by decide +kernel
theorem dX10_tide_4 : decode cX10_tide 4 = .ok (.getfield 84, 3) := by decide +kernel
theorem dX10_tide_7 : decode cX10_tide 7 = .ok (.invokestatic 87, 3) := by decide +kernel
theorem dX10_tide_10 : decode cX10_tide 10 = .ok (.ireturn, 1) := by decide +kernel
theorem dX10_columnByDepth_0 : decode cX10_columnByDepth 0 = .ok (.aload_n 0, 1) := by decide +kernel
theorem dX10_columnByDepth_1 : decode cX10_columnByDepth 1 = .ok (.iload_n 1, 1) := by decide +kernel
theorem dX10_columnByDepth_2 : decode cX10_columnByDepth 2 = .ok (.invokevirtual 90, 3) := by decide +kernel
theorem dX10_columnByDepth_5 : decode cX10_columnByDepth 5 = .ok (.invokestatic 93, 3) := by decide +kernel
theorem dX10_columnByDepth_8 : decode cX10_columnByDepth 8 = .ok (.ireturn, 1) := by decide +kernel
theorem dX10_rowByDepth_0 : decode cX10_rowByDepth 0 = .ok (.aload_n 0, 1) := by decide +kernel
theorem dX10_rowByDepth_1 : decode cX10_rowByDepth 1 = .ok (.iload_n 1, 1) := by decide +kernel
theorem dX10_rowByDepth_2 : decode cX10_rowByDepth 2 = .ok (.invokevirtual 90, 3) := by decide +kernel
theorem dX10_rowByDepth_5 : decode cX10_rowByDepth 5 = .ok (.invokestatic 96, 3) := by decide +kernel
theorem dX10_rowByDepth_8 : decode cX10_rowByDepth 8 = .ok (.ireturn, 1) := by decide +kernel
theorem dX10_clearance_0 : decode cX10_clearance 0 = .ok (.iload_n 1, 1) := by decide +kernel
theorem dX10_clearance_1 : decode cX10_clearance 1 = .ok (.iload_n 2, 1) := by decide +kernel
theorem dX10_clearance_2 : decode cX10_clearance 2 = .ok (.invokestatic 74, 3) := by decide +kernel
theorem dX10_clearance_5 : decode cX10_clearance 5 = .ok (.istore 5, 2) := by decide +kernel
theorem dX10_clearance_7 : decode cX10_clearance 7 = .ok (.iload_n 3, 1) := by decide +kernel
theorem dX10_clearance_8 : decode cX10_clearance 8 = .ok (.iload 4, 2) := by decide +kernel
theorem dX10_clearance_10 : decode cX10_clearance 10 = .ok (.invokestatic 74, 3) := by decide +kernel
theorem dX10_clearance_13 : decode cX10_clearance 13 = .ok (.istore 6, 2) := by decide +kernel
theorem dX10_clearance_15 : decode cX10_clearance 15 = .ok (.aload_n 0, 1) := by decide +kernel
theorem dX10_clearance_16 : decode cX10_clearance 16 = .ok (.getfield 12, 3) := by decide +kernel
theorem dX10_clearance_19 : decode cX10_clearance 19 = .ok (.iload 5, 2) := by decide +kernel
theorem dX10_clearance_21 : decode cX10_clearance 21 = .ok (.invokevirtual 78, 3) := by decide +kernel
theorem dX10_clearance_24 : decode cX10_clearance 24 = .ok (.aload_n 0, 1) := by decide +kernel
theorem dX10_clearance_25 : decode cX10_clearance 25 = .ok (.getfield 12, 3) := by decide +kernel
theorem dX10_clearance_28 : decode cX10_clearance 28 = .ok (.iload 6, 2) := by decide +kernel
theorem dX10_clearance_30 : decode cX10_clearance 30 = .ok (.invokevirtual 78, 3) := by decide +kernel
theorem dX10_clearance_33 : decode cX10_clearance 33 = .ok (.invokestatic 99, 3) := by decide +kernel
theorem dX10_clearance_36 : decode cX10_clearance 36 = .ok (.istore 7, 2) := by decide +kernel
theorem dX10_clearance_38 : decode cX10_clearance 38 = .ok (.aload_n 0, 1) := by decide +kernel
theorem dX10_clearance_39 : decode cX10_clearance 39 = .ok (.getfield 36, 3) := by decide +kernel
theorem dX10_clearance_42 : decode cX10_clearance 42 = .ok (.invokevirtual 104, 3) := by decide +kernel
theorem dX10_clearance_45 : decode cX10_clearance 45 = .ok (.bipush 9, 2) := by decide +kernel
theorem dX10_clearance_47 : decode cX10_clearance 47 = .ok (.istore 8, 2) := by decide +kernel
theorem dX10_clearance_49 : decode cX10_clearance 49 = .ok (.iload 8, 2) := by decide +kernel
theorem dX10_clearance_51 : decode cX10_clearance 51 = .ok (.ifCond .le 53, 3) := by decide +kernel
theorem dX10_clearance_54 : decode cX10_clearance 54 = .ok (.aload_n 0, 1) := by decide +kernel
theorem dX10_clearance_55 : decode cX10_clearance 55 = .ok (.getfield 36, 3) := by decide +kernel
theorem dX10_clearance_58 : decode cX10_clearance 58 = .ok (.aload_n 0, 1) := by decide +kernel
theorem dX10_clearance_59 : decode cX10_clearance 59 = .ok (.getfield 12, 3) := by decide +kernel
theorem dX10_clearance_62 : decode cX10_clearance 62 = .ok (.iload 8, 2) := by decide +kernel
theorem dX10_clearance_64 : decode cX10_clearance 64 = .ok (.invokevirtual 107, 3) := by decide +kernel
theorem dX10_clearance_67 : decode cX10_clearance 67 = .ok (.iload 8, 2) := by decide +kernel
theorem dX10_clearance_69 : decode cX10_clearance 69 = .ok (.iload 7, 2) := by decide +kernel
theorem dX10_clearance_71 : decode cX10_clearance 71 = .ok (.if_icmp .gt 27, 3) := by decide +kernel
theorem dX10_clearance_74 : decode cX10_clearance 74 = .ok (.aload_n 0, 1) := by decide +kernel
theorem dX10_clearance_75 : decode cX10_clearance 75 = .ok (.getfield 36, 3) := by decide +kernel
theorem dX10_clearance_78 : decode cX10_clearance 78 = .ok (.iload 5, 2) := by decide +kernel
theorem dX10_clearance_80 : decode cX10_clearance 80 = .ok (.invokevirtual 111, 3) := by decide +kernel
theorem dX10_clearance_83 : decode cX10_clearance 83 = .ok (.aload_n 0, 1) := by decide +kernel
theorem dX10_clearance_84 : decode cX10_clearance 84 = .ok (.getfield 36, 3) := by decide +kernel
theorem dX10_clearance_87 : decode cX10_clearance 87 = .ok (.iload 6, 2) := by decide +kernel
theorem dX10_clearance_89 : decode cX10_clearance 89 = .ok (.invokevirtual 111, 3) := by decide +kernel
theorem dX10_clearance_92 : decode cX10_clearance 92 = .ok (.if_icmp .ne 6, 3) := by decide +kernel
theorem dX10_clearance_95 : decode cX10_clearance 95 = .ok (.iload 8, 2) := by decide +kernel
theorem dX10_clearance_97 : decode cX10_clearance 97 = .ok (.ireturn, 1) := by decide +kernel
theorem dX10_clearance_98 : decode cX10_clearance 98 = .ok (.iinc 8 (-1), 3) := by decide +kernel
theorem dX10_clearance_101 : decode cX10_clearance 101 = .ok (.goto (-52), 3) := by decide +kernel
theorem dX10_clearance_104 : decode cX10_clearance 104 = .ok (.iconst 0, 1) := by decide +kernel
theorem dX10_clearance_105 : decode cX10_clearance 105 = .ok (.ireturn, 1) := by decide +kernel
theorem dX10_clearanceByFlooding_0 : decode cX10_clearanceByFlooding 0 = .ok (.iload_n 1, 1) := by decide +kernel
theorem dX10_clearanceByFlooding_1 : decode cX10_clearanceByFlooding 1 = .ok (.iload_n 2, 1) := by decide +kernel
theorem dX10_clearanceByFlooding_2 : decode cX10_clearanceByFlooding 2 = .ok (.invokestatic 74, 3) := by decide +kernel
theorem dX10_clearanceByFlooding_5 : decode cX10_clearanceByFlooding 5 = .ok (.istore 5, 2) := by decide +kernel
theorem dX10_clearanceByFlooding_7 : decode cX10_clearanceByFlooding 7 = .ok (.iload_n 3, 1) := by decide +kernel
theorem dX10_clearanceByFlooding_8 : decode cX10_clearanceByFlooding 8 = .ok (.iload 4, 2) := by decide +kernel
theorem dX10_clearanceByFlooding_10 : decode cX10_clearanceByFlooding 10 = .ok (.invokestatic 74, 3) := by decide +kernel
theorem dX10_clearanceByFlooding_13 : decode cX10_clearanceByFlooding 13 = .ok (.istore 6, 2) := by decide +kernel
theorem dX10_clearanceByFlooding_15 : decode cX10_clearanceByFlooding 15 = .ok (.iconst 0, 1) := by decide +kernel
theorem dX10_clearanceByFlooding_16 : decode cX10_clearanceByFlooding 16 = .ok (.istore 7, 2) := by decide +kernel
theorem dX10_clearanceByFlooding_18 : decode cX10_clearanceByFlooding 18 = .ok (.iconst 1, 1) := by decide +kernel
theorem dX10_clearanceByFlooding_19 : decode cX10_clearanceByFlooding 19 = .ok (.istore 8, 2) := by decide +kernel
theorem dX10_clearanceByFlooding_21 : decode cX10_clearanceByFlooding 21 = .ok (.iload 8, 2) := by decide +kernel
theorem dX10_clearanceByFlooding_23 : decode cX10_clearanceByFlooding 23 = .ok (.aload_n 0, 1) := by decide +kernel
theorem dX10_clearanceByFlooding_24 : decode cX10_clearanceByFlooding 24 = .ok (.getfield 12, 3) := by decide +kernel
theorem dX10_clearanceByFlooding_27 : decode cX10_clearanceByFlooding 27 = .ok (.iload 5, 2) := by decide +kernel
theorem dX10_clearanceByFlooding_29 : decode cX10_clearanceByFlooding 29 = .ok (.invokevirtual 78, 3) := by decide +kernel
theorem dX10_clearanceByFlooding_32 : decode cX10_clearanceByFlooding 32 = .ok (.if_icmp .gt 51, 3) := by decide +kernel
theorem dX10_clearanceByFlooding_35 : decode cX10_clearanceByFlooding 35 = .ok (.aload_n 0, 1) := by decide +kernel
theorem dX10_clearanceByFlooding_36 : decode cX10_clearanceByFlooding 36 = .ok (.getfield 29, 3) := by decide +kernel
theorem dX10_clearanceByFlooding_39 : decode cX10_clearanceByFlooding 39 = .ok (.aload_n 0, 1) := by decide +kernel
theorem dX10_clearanceByFlooding_40 : decode cX10_clearanceByFlooding 40 = .ok (.getfield 12, 3) := by decide +kernel
theorem dX10_clearanceByFlooding_43 : decode cX10_clearanceByFlooding 43 = .ok (.iload 8, 2) := by decide +kernel
theorem dX10_clearanceByFlooding_45 : decode cX10_clearanceByFlooding 45 = .ok (.invokevirtual 114, 3) := by decide +kernel
theorem dX10_clearanceByFlooding_48 : decode cX10_clearanceByFlooding 48 = .ok (.aload_n 0, 1) := by decide +kernel
theorem dX10_clearanceByFlooding_49 : decode cX10_clearanceByFlooding 49 = .ok (.getfield 29, 3) := by decide +kernel
theorem dX10_clearanceByFlooding_52 : decode cX10_clearanceByFlooding 52 = .ok (.iload 5, 2) := by decide +kernel
theorem dX10_clearanceByFlooding_54 : decode cX10_clearanceByFlooding 54 = .ok (.invokevirtual 117, 3) := by decide +kernel
theorem dX10_clearanceByFlooding_57 : decode cX10_clearanceByFlooding 57 = .ok (.aload_n 0, 1) := by decide +kernel
theorem dX10_clearanceByFlooding_58 : decode cX10_clearanceByFlooding 58 = .ok (.getfield 29, 3) := by decide +kernel
theorem dX10_clearanceByFlooding_61 : decode cX10_clearanceByFlooding 61 = .ok (.iload 6, 2) := by decide +kernel
theorem dX10_clearanceByFlooding_63 : decode cX10_clearanceByFlooding 63 = .ok (.invokevirtual 121, 3) := by decide +kernel
theorem dX10_clearanceByFlooding_66 : decode cX10_clearanceByFlooding 66 = .ok (.iconst (-1), 1) := by decide +kernel
theorem dX10_clearanceByFlooding_67 : decode cX10_clearanceByFlooding 67 = .ok (.if_icmp .ne 6, 3) := by decide +kernel
theorem dX10_clearanceByFlooding_70 : decode cX10_clearanceByFlooding 70 = .ok (.goto 13, 3) := by decide +kernel
theorem dX10_clearanceByFlooding_73 : decode cX10_clearanceByFlooding 73 = .ok (.iload 8, 2) := by decide +kernel
theorem dX10_clearanceByFlooding_75 : decode cX10_clearanceByFlooding 75 = .ok (.istore 7, 2) := by decide +kernel
theorem dX10_clearanceByFlooding_77 : decode cX10_clearanceByFlooding 77 = .ok (.iinc 8 1, 3) := by decide +kernel
theorem dX10_clearanceByFlooding_80 : decode cX10_clearanceByFlooding 80 = .ok (.goto (-59), 3) := by decide +kernel
theorem dX10_clearanceByFlooding_83 : decode cX10_clearanceByFlooding 83 = .ok (.iload 7, 2) := by decide +kernel
theorem dX10_clearanceByFlooding_85 : decode cX10_clearanceByFlooding 85 = .ok (.ireturn, 1) := by decide +kernel
theorem dX10_addLight_0 : decode cX10_addLight 0 = .ok (.aload_n 0, 1) := by decide +kernel
theorem dX10_addLight_1 : decode cX10_addLight 1 = .ok (.getfield 22, 3) := by decide +kernel
theorem dX10_addLight_4 : decode cX10_addLight 4 = .ok (.aload_n 0, 1) := by decide +kernel
theorem dX10_addLight_5 : decode cX10_addLight 5 = .ok (.getfield 12, 3) := by decide +kernel
theorem dX10_addLight_8 : decode cX10_addLight 8 = .ok (.invokevirtual 62, 3) := by decide +kernel
theorem dX10_addLight_11 : decode cX10_addLight 11 = .ok (.aload_n 0, 1) := by decide +kernel
theorem dX10_addLight_12 : decode cX10_addLight 12 = .ok (.aload_n 0, 1) := by decide +kernel
theorem dX10_addLight_13 : decode cX10_addLight 13 = .ok (.iload_n 1, 1) := by decide +kernel
theorem dX10_addLight_14 : decode cX10_addLight 14 = .ok (.iload_n 2, 1) := by decide +kernel
theorem dX10_addLight_15 : decode cX10_addLight 15 = .ok (.iload_n 3, 1) := by decide +kernel
theorem dX10_addLight_16 : decode cX10_addLight 16 = .ok (.iload 4, 2) := by decide +kernel
theorem dX10_addLight_18 : decode cX10_addLight 18 = .ok (.invokevirtual 124, 3) := by decide +kernel
theorem dX10_addLight_21 : decode cX10_addLight 21 = .ok (.invokevirtual 70, 3) := by decide +kernel
theorem dX10_addLight_24 : decode cX10_addLight 24 = .ok (.ireturn, 1) := by decide +kernel
theorem dX10_setPhase_0 : decode cX10_setPhase 0 = .ok (.aload_n 0, 1) := by decide +kernel
theorem dX10_setPhase_1 : decode cX10_setPhase 1 = .ok (.getfield 22, 3) := by decide +kernel
theorem dX10_setPhase_4 : decode cX10_setPhase 4 = .ok (.aload_n 0, 1) := by decide +kernel
theorem dX10_setPhase_5 : decode cX10_setPhase 5 = .ok (.getfield 12, 3) := by decide +kernel
theorem dX10_setPhase_8 : decode cX10_setPhase 8 = .ok (.invokevirtual 62, 3) := by decide +kernel
theorem dX10_setPhase_11 : decode cX10_setPhase 11 = .ok (.aload_n 0, 1) := by decide +kernel
theorem dX10_setPhase_12 : decode cX10_setPhase 12 = .ok (.aload_n 0, 1) := by decide +kernel
theorem dX10_setPhase_13 : decode cX10_setPhase 13 = .ok (.iload_n 1, 1) := by decide +kernel
theorem dX10_setPhase_14 : decode cX10_setPhase 14 = .ok (.iload_n 2, 1) := by decide +kernel
theorem dX10_setPhase_15 : decode cX10_setPhase 15 = .ok (.invokevirtual 128, 3) := by decide +kernel
theorem dX10_setPhase_18 : decode cX10_setPhase 18 = .ok (.invokevirtual 70, 3) := by decide +kernel
theorem dX10_setPhase_21 : decode cX10_setPhase 21 = .ok (.ireturn, 1) := by decide +kernel
theorem dX10_removeLight_0 : decode cX10_removeLight 0 = .ok (.aload_n 0, 1) := by decide +kernel
theorem dX10_removeLight_1 : decode cX10_removeLight 1 = .ok (.getfield 22, 3) := by decide +kernel
theorem dX10_removeLight_4 : decode cX10_removeLight 4 = .ok (.aload_n 0, 1) := by decide +kernel
theorem dX10_removeLight_5 : decode cX10_removeLight 5 = .ok (.getfield 12, 3) := by decide +kernel
theorem dX10_removeLight_8 : decode cX10_removeLight 8 = .ok (.invokevirtual 62, 3) := by decide +kernel
theorem dX10_removeLight_11 : decode cX10_removeLight 11 = .ok (.aload_n 0, 1) := by decide +kernel
theorem dX10_removeLight_12 : decode cX10_removeLight 12 = .ok (.aload_n 0, 1) := by decide +kernel
theorem dX10_removeLight_13 : decode cX10_removeLight 13 = .ok (.iload_n 1, 1) := by decide +kernel
theorem dX10_removeLight_14 : decode cX10_removeLight 14 = .ok (.invokevirtual 131, 3) := by decide +kernel
theorem dX10_removeLight_17 : decode cX10_removeLight 17 = .ok (.invokevirtual 70, 3) := by decide +kernel
theorem dX10_removeLight_20 : decode cX10_removeLight 20 = .ok (.ireturn, 1) := by decide +kernel
theorem dX10_lightCount_0 : decode cX10_lightCount 0 = .ok (.aload_n 0, 1) := by decide +kernel
theorem dX10_lightCount_1 : decode cX10_lightCount 1 = .ok (.getfield 12, 3) := by decide +kernel
theorem dX10_lightCount_4 : decode cX10_lightCount 4 = .ok (.getfield 134, 3) := by decide +kernel
theorem dX10_lightCount_7 : decode cX10_lightCount 7 = .ok (.ireturn, 1) := by decide +kernel
theorem dX10_lightOn_0 : decode cX10_lightOn 0 = .ok (.aload_n 0, 1) := by decide +kernel
theorem dX10_lightOn_1 : decode cX10_lightOn 1 = .ok (.getfield 12, 3) := by decide +kernel
theorem dX10_lightOn_4 : decode cX10_lightOn 4 = .ok (.iload_n 1, 1) := by decide +kernel
theorem dX10_lightOn_5 : decode cX10_lightOn 5 = .ok (.iload_n 2, 1) := by decide +kernel
theorem dX10_lightOn_6 : decode cX10_lightOn 6 = .ok (.invokestatic 74, 3) := by decide +kernel
theorem dX10_lightOn_9 : decode cX10_lightOn 9 = .ok (.invokevirtual 137, 3) := by decide +kernel
theorem dX10_lightOn_12 : decode cX10_lightOn 12 = .ok (.istore_n 3, 1) := by decide +kernel
theorem dX10_lightOn_13 : decode cX10_lightOn 13 = .ok (.iload_n 3, 1) := by decide +kernel
theorem dX10_lightOn_14 : decode cX10_lightOn 14 = .ok (.ifCond .ge 13, 3) := by decide +kernel
theorem dX10_lightOn_17 : decode cX10_lightOn 17 = .ok (.new 140, 3) := by decide +kernel
theorem dX10_lightOn_20 : decode cX10_lightOn 20 = .ok (.dup, 1) := by decide +kernel
theorem dX10_lightOn_21 : decode cX10_lightOn 21 = .ok (.ldc 142, 2) := by decide +kernel
theorem dX10_lightOn_23 : decode cX10_lightOn 23 = .ok (.invokespecial 144, 3) := by decide +kernel
theorem dX10_lightOn_26 : decode cX10_lightOn 26 = .ok (.athrow, 1) := by decide +kernel
theorem dX10_lightOn_27 : decode cX10_lightOn 27 = .ok (.iload_n 3, 1) := by decide +kernel
theorem dX10_lightOn_28 : decode cX10_lightOn 28 = .ok (.ireturn, 1) := by decide +kernel
theorem dX10_beam_0 : decode cX10_beam 0 = .ok (.aload_n 0, 1) := by decide +kernel
theorem dX10_beam_1 : decode cX10_beam 1 = .ok (.iload_n 1, 1) := by decide +kernel
theorem dX10_beam_2 : decode cX10_beam 2 = .ok (.invokevirtual 147, 3) := by decide +kernel
theorem dX10_beam_5 : decode cX10_beam 5 = .ok (.aload_n 0, 1) := by decide +kernel
theorem dX10_beam_6 : decode cX10_beam 6 = .ok (.getfield 12, 3) := by decide +kernel
theorem dX10_beam_9 : decode cX10_beam 9 = .ok (.getfield 84, 3) := by decide +kernel
theorem dX10_beam_12 : decode cX10_beam 12 = .ok (.invokevirtual 151, 3) := by decide +kernel
theorem dX10_beam_15 : decode cX10_beam 15 = .ok (.ireturn, 1) := by decide +kernel
theorem dX10_sectorOf_0 : decode cX10_sectorOf 0 = .ok (.aload_n 0, 1) := by decide +kernel
theorem dX10_sectorOf_1 : decode cX10_sectorOf 1 = .ok (.iload_n 1, 1) := by decide +kernel
theorem dX10_sectorOf_2 : decode cX10_sectorOf 2 = .ok (.invokevirtual 147, 3) := by decide +kernel
theorem dX10_sectorOf_5 : decode cX10_sectorOf 5 = .ok (.astore 4, 2) := by decide +kernel
theorem dX10_sectorOf_7 : decode cX10_sectorOf 7 = .ok (.iload_n 2, 1) := by decide +kernel
theorem dX10_sectorOf_8 : decode cX10_sectorOf 8 = .ok (.iload_n 3, 1) := by decide +kernel
theorem dX10_sectorOf_9 : decode cX10_sectorOf 9 = .ok (.invokestatic 74, 3) := by decide +kernel
theorem dX10_sectorOf_12 : decode cX10_sectorOf 12 = .ok (.istore 5, 2) := by decide +kernel
theorem dX10_sectorOf_14 : decode cX10_sectorOf 14 = .ok (.iload 5, 2) := by decide +kernel
theorem dX10_sectorOf_16 : decode cX10_sectorOf 16 = .ok (.aload 4, 2) := by decide +kernel
theorem dX10_sectorOf_18 : decode cX10_sectorOf 18 = .ok (.getfield 156, 3) := by decide +kernel
theorem dX10_sectorOf_21 : decode cX10_sectorOf 21 = .ok (.if_icmp .ne 13, 3) := by decide +kernel
theorem dX10_sectorOf_24 : decode cX10_sectorOf 24 = .ok (.new 140, 3) := by decide +kernel
theorem dX10_sectorOf_27 : decode cX10_sectorOf 27 = .ok (.dup, 1) := by decide +kernel
theorem dX10_sectorOf_28 : decode cX10_sectorOf 28 = .ok (.ldc 159, 2) := by decide +kernel
theorem dX10_sectorOf_30 : decode cX10_sectorOf 30 = .ok (.invokespecial 144, 3) := by decide +kernel
theorem dX10_sectorOf_33 : decode cX10_sectorOf 33 = .ok (.athrow, 1) := by decide +kernel
theorem dX10_sectorOf_34 : decode cX10_sectorOf 34 = .ok (.aload 4, 2) := by decide +kernel
theorem dX10_sectorOf_36 : decode cX10_sectorOf 36 = .ok (.iload 5, 2) := by decide +kernel
theorem dX10_sectorOf_38 : decode cX10_sectorOf 38 = .ok (.invokevirtual 161, 3) := by decide +kernel
theorem dX10_sectorOf_41 : decode cX10_sectorOf 41 = .ok (.ireturn, 1) := by decide +kernel
theorem dX10_reaches_0 : decode cX10_reaches 0 = .ok (.aload_n 0, 1) := by decide +kernel
theorem dX10_reaches_1 : decode cX10_reaches 1 = .ok (.iload_n 1, 1) := by decide +kernel
theorem dX10_reaches_2 : decode cX10_reaches 2 = .ok (.invokevirtual 147, 3) := by decide +kernel
theorem dX10_reaches_5 : decode cX10_reaches 5 = .ok (.astore 4, 2) := by decide +kernel
theorem dX10_reaches_7 : decode cX10_reaches 7 = .ok (.aload_n 0, 1) := by decide +kernel
theorem dX10_reaches_8 : decode cX10_reaches 8 = .ok (.getfield 12, 3) := by decide +kernel
theorem dX10_reaches_11 : decode cX10_reaches 11 = .ok (.aload 4, 2) := by decide +kernel
theorem dX10_reaches_13 : decode cX10_reaches 13 = .ok (.iload_n 2, 1) := by decide +kernel
theorem dX10_reaches_14 : decode cX10_reaches 14 = .ok (.iload_n 3, 1) := by decide +kernel
theorem dX10_reaches_15 : decode cX10_reaches 15 = .ok (.invokestatic 74, 3) := by decide +kernel
theorem dX10_reaches_18 : decode cX10_reaches 18 = .ok (.invokevirtual 164, 3) := by decide +kernel
theorem dX10_reaches_21 : decode cX10_reaches 21 = .ok (.ireturn, 1) := by decide +kernel
theorem dX10_sweeps_0 : decode cX10_sweeps 0 = .ok (.aload_n 0, 1) := by decide +kernel
theorem dX10_sweeps_1 : decode cX10_sweeps 1 = .ok (.iload_n 1, 1) := by decide +kernel
theorem dX10_sweeps_2 : decode cX10_sweeps 2 = .ok (.invokevirtual 147, 3) := by decide +kernel
theorem dX10_sweeps_5 : decode cX10_sweeps 5 = .ok (.astore 4, 2) := by decide +kernel
theorem dX10_sweeps_7 : decode cX10_sweeps 7 = .ok (.aload_n 0, 1) := by decide +kernel
theorem dX10_sweeps_8 : decode cX10_sweeps 8 = .ok (.getfield 12, 3) := by decide +kernel
theorem dX10_sweeps_11 : decode cX10_sweeps 11 = .ok (.aload 4, 2) := by decide +kernel
theorem dX10_sweeps_13 : decode cX10_sweeps 13 = .ok (.iload_n 2, 1) := by decide +kernel
theorem dX10_sweeps_14 : decode cX10_sweeps 14 = .ok (.iload_n 3, 1) := by decide +kernel
theorem dX10_sweeps_15 : decode cX10_sweeps 15 = .ok (.invokestatic 74, 3) := by decide +kernel
theorem dX10_sweeps_18 : decode cX10_sweeps 18 = .ok (.invokevirtual 168, 3) := by decide +kernel
theorem dX10_sweeps_21 : decode cX10_sweeps 21 = .ok (.ireturn, 1) := by decide +kernel
theorem dX10_minutesUntilSwept_0 : decode cX10_minutesUntilSwept 0 = .ok (.aload_n 0, 1) := by decide +kernel
theorem dX10_minutesUntilSwept_1 : decode cX10_minutesUntilSwept 1 = .ok (.iload_n 1, 1) := by decide +kernel
theorem dX10_minutesUntilSwept_2 : decode cX10_minutesUntilSwept 2 = .ok (.invokevirtual 147, 3) := by decide +kernel
theorem dX10_minutesUntilSwept_5 : decode cX10_minutesUntilSwept 5 = .ok (.astore 4, 2) := by decide +kernel
theorem dX10_minutesUntilSwept_7 : decode cX10_minutesUntilSwept 7 = .ok (.aload_n 0, 1) := by decide +kernel
theorem dX10_minutesUntilSwept_8 : decode cX10_minutesUntilSwept 8 = .ok (.aload 4, 2) := by decide +kernel
theorem dX10_minutesUntilSwept_10 : decode cX10_minutesUntilSwept 10 = .ok (.iload_n 2, 1) := by decide +kernel
theorem dX10_minutesUntilSwept_11 : decode cX10_minutesUntilSwept 11 = .ok (.iload_n 3, 1) := by decide +kernel
theorem dX10_minutesUntilSwept_12 : decode cX10_minutesUntilSwept 12 = .ok (.invokevirtual 171, 3) := by decide +kernel
theorem dX10_minutesUntilSwept_15 : decode cX10_minutesUntilSwept 15 = .ok (.istore 5, 2) := by decide +kernel
theorem dX10_minutesUntilSwept_17 : decode cX10_minutesUntilSwept 17 = .ok (.iload 5, 2) := by decide +kernel
theorem dX10_minutesUntilSwept_19 : decode cX10_minutesUntilSwept 19 = .ok (.aload 4, 2) := by decide +kernel
theorem dX10_minutesUntilSwept_21 : decode cX10_minutesUntilSwept 21 = .ok (.getfield 156, 3) := by decide +kernel
theorem dX10_minutesUntilSwept_24 : decode cX10_minutesUntilSwept 24 = .ok (.if_icmp .ne 5, 3) := by decide +kernel
theorem dX10_minutesUntilSwept_27 : decode cX10_minutesUntilSwept 27 = .ok (.iconst 0, 1) := by decide +kernel
theorem dX10_minutesUntilSwept_28 : decode cX10_minutesUntilSwept 28 = .ok (.ireturn, 1) := by decide +kernel
theorem dX10_minutesUntilSwept_29 : decode cX10_minutesUntilSwept 29 = .ok (.aload 4, 2) := by decide +kernel
theorem dX10_minutesUntilSwept_31 : decode cX10_minutesUntilSwept 31 = .ok (.iload 5, 2) := by decide +kernel
theorem dX10_minutesUntilSwept_33 : decode cX10_minutesUntilSwept 33 = .ok (.invokevirtual 161, 3) := by decide +kernel
theorem dX10_minutesUntilSwept_36 : decode cX10_minutesUntilSwept 36 = .ok (.istore 6, 2) := by decide +kernel
theorem dX10_minutesUntilSwept_38 : decode cX10_minutesUntilSwept 38 = .ok (.iconst 0, 1) := by decide +kernel
theorem dX10_minutesUntilSwept_39 : decode cX10_minutesUntilSwept 39 = .ok (.istore 7, 2) := by decide +kernel
theorem dX10_minutesUntilSwept_41 : decode cX10_minutesUntilSwept 41 = .ok (.iload 7, 2) := by decide +kernel
theorem dX10_minutesUntilSwept_43 : decode cX10_minutesUntilSwept 43 = .ok (.bipush 24, 2) := by decide +kernel
theorem dX10_minutesUntilSwept_45 : decode cX10_minutesUntilSwept 45 = .ok (.if_icmp .ge 29, 3) := by decide +kernel
theorem dX10_minutesUntilSwept_48 : decode cX10_minutesUntilSwept 48 = .ok (.aload 4, 2) := by decide +kernel
theorem dX10_minutesUntilSwept_50 : decode cX10_minutesUntilSwept 50 = .ok (.aload_n 0, 1) := by decide +kernel
theorem dX10_minutesUntilSwept_51 : decode cX10_minutesUntilSwept 51 = .ok (.getfield 12, 3) := by decide +kernel
theorem dX10_minutesUntilSwept_54 : decode cX10_minutesUntilSwept 54 = .ok (.getfield 84, 3) := by decide +kernel
theorem dX10_minutesUntilSwept_57 : decode cX10_minutesUntilSwept 57 = .ok (.iload 7, 2) := by decide +kernel
theorem dX10_minutesUntilSwept_59 : decode cX10_minutesUntilSwept 59 = .ok (.iadd, 1) := by decide +kernel
theorem dX10_minutesUntilSwept_60 : decode cX10_minutesUntilSwept 60 = .ok (.invokevirtual 151, 3) := by decide +kernel
theorem dX10_minutesUntilSwept_63 : decode cX10_minutesUntilSwept 63 = .ok (.iload 6, 2) := by decide +kernel
theorem dX10_minutesUntilSwept_65 : decode cX10_minutesUntilSwept 65 = .ok (.if_icmp .eq 9, 3) := by decide +kernel
theorem dX10_minutesUntilSwept_68 : decode cX10_minutesUntilSwept 68 = .ok (.iinc 7 1, 3) := by decide +kernel
theorem dX10_minutesUntilSwept_71 : decode cX10_minutesUntilSwept 71 = .ok (.goto (-30), 3) := by decide +kernel
theorem dX10_minutesUntilSwept_74 : decode cX10_minutesUntilSwept 74 = .ok (.iload 7, 2) := by decide +kernel
theorem dX10_minutesUntilSwept_76 : decode cX10_minutesUntilSwept 76 = .ok (.ireturn, 1) := by decide +kernel
theorem dX10_minutesUntilSweptByDivision_0 : decode cX10_minutesUntilSweptByDivision 0 = .ok (.aload_n 0, 1) := by decide +kernel
theorem dX10_minutesUntilSweptByDivision_1 : decode cX10_minutesUntilSweptByDivision 1 = .ok (.iload_n 1, 1) := by decide +kernel
theorem dX10_minutesUntilSweptByDivision_2 : decode cX10_minutesUntilSweptByDivision 2 = .ok (.invokevirtual 147, 3) := by decide +kernel
theorem dX10_minutesUntilSweptByDivision_5 : decode cX10_minutesUntilSweptByDivision 5 = .ok (.astore 4, 2) := by decide +kernel
theorem dX10_minutesUntilSweptByDivision_7 : decode cX10_minutesUntilSweptByDivision 7 = .ok (.aload_n 0, 1) := by decide +kernel
theorem dX10_minutesUntilSweptByDivision_8 : decode cX10_minutesUntilSweptByDivision 8 = .ok (.aload 4, 2) := by decide +kernel
theorem dX10_minutesUntilSweptByDivision_10 : decode cX10_minutesUntilSweptByDivision 10 = .ok (.iload_n 2, 1) := by decide +kernel
theorem dX10_minutesUntilSweptByDivision_11 : decode cX10_minutesUntilSweptByDivision 11 = .ok (.iload_n 3, 1) := by decide +kernel
theorem dX10_minutesUntilSweptByDivision_12 : decode cX10_minutesUntilSweptByDivision 12 = .ok (.invokevirtual 171, 3) := by decide +kernel
theorem dX10_minutesUntilSweptByDivision_15 : decode cX10_minutesUntilSweptByDivision 15 = .ok (.istore 5, 2) := by decide +kernel
theorem dX10_minutesUntilSweptByDivision_17 : decode cX10_minutesUntilSweptByDivision 17 = .ok (.iload 5, 2) := by decide +kernel
theorem dX10_minutesUntilSweptByDivision_19 : decode cX10_minutesUntilSweptByDivision 19 = .ok (.aload 4, 2) := by decide +kernel
theorem dX10_minutesUntilSweptByDivision_21 : decode cX10_minutesUntilSweptByDivision 21 = .ok (.getfield 156, 3) := by decide +kernel
theorem dX10_minutesUntilSweptByDivision_24 : decode cX10_minutesUntilSweptByDivision 24 = .ok (.if_icmp .ne 5, 3) := by decide +kernel
theorem dX10_minutesUntilSweptByDivision_27 : decode cX10_minutesUntilSweptByDivision 27 = .ok (.iconst 0, 1) := by decide +kernel
theorem dX10_minutesUntilSweptByDivision_28 : decode cX10_minutesUntilSweptByDivision 28 = .ok (.ireturn, 1) := by decide +kernel
theorem dX10_minutesUntilSweptByDivision_29 : decode cX10_minutesUntilSweptByDivision 29 = .ok (.aload 4, 2) := by decide +kernel
theorem dX10_minutesUntilSweptByDivision_31 : decode cX10_minutesUntilSweptByDivision 31 = .ok (.iload 5, 2) := by decide +kernel
theorem dX10_minutesUntilSweptByDivision_33 : decode cX10_minutesUntilSweptByDivision 33 = .ok (.invokevirtual 161, 3) := by decide +kernel
theorem dX10_minutesUntilSweptByDivision_36 : decode cX10_minutesUntilSweptByDivision 36 = .ok (.aload 4, 2) := by decide +kernel
theorem dX10_minutesUntilSweptByDivision_38 : decode cX10_minutesUntilSweptByDivision 38 = .ok (.aload_n 0, 1) := by decide +kernel
theorem dX10_minutesUntilSweptByDivision_39 : decode cX10_minutesUntilSweptByDivision 39 = .ok (.getfield 12, 3) := by decide +kernel
theorem dX10_minutesUntilSweptByDivision_42 : decode cX10_minutesUntilSweptByDivision 42 = .ok (.getfield 84, 3) := by decide +kernel
theorem dX10_minutesUntilSweptByDivision_45 : decode cX10_minutesUntilSweptByDivision 45 = .ok (.invokevirtual 151, 3) := by decide +kernel
theorem dX10_minutesUntilSweptByDivision_48 : decode cX10_minutesUntilSweptByDivision 48 = .ok (.isub, 1) := by decide +kernel
theorem dX10_minutesUntilSweptByDivision_49 : decode cX10_minutesUntilSweptByDivision 49 = .ok (.bipush 8, 2) := by decide +kernel
theorem dX10_minutesUntilSweptByDivision_51 : decode cX10_minutesUntilSweptByDivision 51 = .ok (.invokestatic 175, 3) := by decide +kernel
theorem dX10_minutesUntilSweptByDivision_54 : decode cX10_minutesUntilSweptByDivision 54 = .ok (.istore 6, 2) := by decide +kernel
theorem dX10_minutesUntilSweptByDivision_56 : decode cX10_minutesUntilSweptByDivision 56 = .ok (.iload 6, 2) := by decide +kernel
theorem dX10_minutesUntilSweptByDivision_58 : decode cX10_minutesUntilSweptByDivision 58 = .ok (.ifCond .ne 5, 3) := by decide +kernel
theorem dX10_minutesUntilSweptByDivision_61 : decode cX10_minutesUntilSweptByDivision 61 = .ok (.iconst 0, 1) := by decide +kernel
theorem dX10_minutesUntilSweptByDivision_62 : decode cX10_minutesUntilSweptByDivision 62 = .ok (.ireturn, 1) := by decide +kernel
theorem dX10_minutesUntilSweptByDivision_63 : decode cX10_minutesUntilSweptByDivision 63 = .ok (.aload 4, 2) := by decide +kernel
theorem dX10_minutesUntilSweptByDivision_65 : decode cX10_minutesUntilSweptByDivision 65 = .ok (.aload_n 0, 1) := by decide +kernel
theorem dX10_minutesUntilSweptByDivision_66 : decode cX10_minutesUntilSweptByDivision 66 = .ok (.getfield 12, 3) := by decide +kernel
theorem dX10_minutesUntilSweptByDivision_69 : decode cX10_minutesUntilSweptByDivision 69 = .ok (.getfield 84, 3) := by decide +kernel
theorem dX10_minutesUntilSweptByDivision_72 : decode cX10_minutesUntilSweptByDivision 72 = .ok (.invokevirtual 178, 3) := by decide +kernel
theorem dX10_minutesUntilSweptByDivision_75 : decode cX10_minutesUntilSweptByDivision 75 = .ok (.iload 6, 2) := by decide +kernel
theorem dX10_minutesUntilSweptByDivision_77 : decode cX10_minutesUntilSweptByDivision 77 = .ok (.iadd, 1) := by decide +kernel
theorem dX10_minutesUntilSweptByDivision_78 : decode cX10_minutesUntilSweptByDivision 78 = .ok (.aload 4, 2) := by decide +kernel
theorem dX10_minutesUntilSweptByDivision_80 : decode cX10_minutesUntilSweptByDivision 80 = .ok (.getfield 181, 3) := by decide +kernel
theorem dX10_minutesUntilSweptByDivision_83 : decode cX10_minutesUntilSweptByDivision 83 = .ok (.imul, 1) := by decide +kernel
theorem dX10_minutesUntilSweptByDivision_84 : decode cX10_minutesUntilSweptByDivision 84 = .ok (.istore 7, 2) := by decide +kernel
theorem dX10_minutesUntilSweptByDivision_86 : decode cX10_minutesUntilSweptByDivision 86 = .ok (.iload 7, 2) := by decide +kernel
theorem dX10_minutesUntilSweptByDivision_88 : decode cX10_minutesUntilSweptByDivision 88 = .ok (.bipush 8, 2) := by decide +kernel
theorem dX10_minutesUntilSweptByDivision_90 : decode cX10_minutesUntilSweptByDivision 90 = .ok (.iadd, 1) := by decide +kernel
theorem dX10_minutesUntilSweptByDivision_91 : decode cX10_minutesUntilSweptByDivision 91 = .ok (.iconst 1, 1) := by decide +kernel
theorem dX10_minutesUntilSweptByDivision_92 : decode cX10_minutesUntilSweptByDivision 92 = .ok (.isub, 1) := by decide +kernel
theorem dX10_minutesUntilSweptByDivision_93 : decode cX10_minutesUntilSweptByDivision 93 = .ok (.bipush 8, 2) := by decide +kernel
theorem dX10_minutesUntilSweptByDivision_95 : decode cX10_minutesUntilSweptByDivision 95 = .ok (.idiv, 1) := by decide +kernel
theorem dX10_minutesUntilSweptByDivision_96 : decode cX10_minutesUntilSweptByDivision 96 = .ok (.aload_n 0, 1) := by decide +kernel
theorem dX10_minutesUntilSweptByDivision_97 : decode cX10_minutesUntilSweptByDivision 97 = .ok (.getfield 12, 3) := by decide +kernel
theorem dX10_minutesUntilSweptByDivision_100 : decode cX10_minutesUntilSweptByDivision 100 = .ok (.getfield 84, 3) := by decide +kernel
theorem dX10_minutesUntilSweptByDivision_103 : decode cX10_minutesUntilSweptByDivision 103 = .ok (.isub, 1) := by decide +kernel
theorem dX10_minutesUntilSweptByDivision_104 : decode cX10_minutesUntilSweptByDivision 104 = .ok (.ireturn, 1) := by decide +kernel
theorem dX10_reachedCells_0 : decode cX10_reachedCells 0 = .ok (.aload_n 0, 1) := by decide +kernel
theorem dX10_reachedCells_1 : decode cX10_reachedCells 1 = .ok (.getfield 12, 3) := by decide +kernel
theorem dX10_reachedCells_4 : decode cX10_reachedCells 4 = .ok (.aload_n 0, 1) := by decide +kernel
theorem dX10_reachedCells_5 : decode cX10_reachedCells 5 = .ok (.iload_n 1, 1) := by decide +kernel
theorem dX10_reachedCells_6 : decode cX10_reachedCells 6 = .ok (.invokevirtual 147, 3) := by decide +kernel
theorem dX10_reachedCells_9 : decode cX10_reachedCells 9 = .ok (.invokevirtual 184, 3) := by decide +kernel
theorem dX10_reachedCells_12 : decode cX10_reachedCells 12 = .ok (.invokestatic 188, 3) := by decide +kernel
theorem dX10_reachedCells_15 : decode cX10_reachedCells 15 = .ok (.ireturn, 1) := by decide +kernel
theorem dX10_litCells_0 : decode cX10_litCells 0 = .ok (.aload_n 0, 1) := by decide +kernel
theorem dX10_litCells_1 : decode cX10_litCells 1 = .ok (.invokevirtual 194, 3) := by decide +kernel
theorem dX10_litCells_4 : decode cX10_litCells 4 = .ok (.invokestatic 188, 3) := by decide +kernel
theorem dX10_litCells_7 : decode cX10_litCells 7 = .ok (.ireturn, 1) := by decide +kernel
theorem dX10_fewestLights_0 : decode cX10_fewestLights 0 = .ok (.aload_n 0, 1) := by decide +kernel
theorem dX10_fewestLights_1 : decode cX10_fewestLights 1 = .ok (.invokevirtual 194, 3) := by decide +kernel
theorem dX10_fewestLights_4 : decode cX10_fewestLights 4 = .ok (.lstore_n 1, 1) := by decide +kernel
theorem dX10_fewestLights_5 : decode cX10_fewestLights 5 = .ok (.aload_n 0, 1) := by decide +kernel
theorem dX10_fewestLights_6 : decode cX10_fewestLights 6 = .ok (.getfield 12, 3) := by decide +kernel
theorem dX10_fewestLights_9 : decode cX10_fewestLights 9 = .ok (.getfield 134, 3) := by decide +kernel
theorem dX10_fewestLights_12 : decode cX10_fewestLights 12 = .ok (.istore_n 3, 1) := by decide +kernel
theorem dX10_fewestLights_13 : decode cX10_fewestLights 13 = .ok (.iconst 0, 1) := by decide +kernel
theorem dX10_fewestLights_14 : decode cX10_fewestLights 14 = .ok (.istore 4, 2) := by decide +kernel
theorem dX10_fewestLights_16 : decode cX10_fewestLights 16 = .ok (.iload 4, 2) := by decide +kernel
theorem dX10_fewestLights_18 : decode cX10_fewestLights 18 = .ok (.iconst 1, 1) := by decide +kernel
theorem dX10_fewestLights_19 : decode cX10_fewestLights 19 = .ok (.aload_n 0, 1) := by decide +kernel
theorem dX10_fewestLights_20 : decode cX10_fewestLights 20 = .ok (.getfield 12, 3) := by decide +kernel
theorem dX10_fewestLights_23 : decode cX10_fewestLights 23 = .ok (.getfield 134, 3) := by decide +kernel
theorem dX10_fewestLights_26 : decode cX10_fewestLights 26 = .ok (.ishl, 1) := by decide +kernel
theorem dX10_fewestLights_27 : decode cX10_fewestLights 27 = .ok (.if_icmp .ge 35, 3) := by decide +kernel
theorem dX10_fewestLights_30 : decode cX10_fewestLights 30 = .ok (.iload 4, 2) := by decide +kernel
theorem dX10_fewestLights_32 : decode cX10_fewestLights 32 = .ok (.invokestatic 198, 3) := by decide +kernel
theorem dX10_fewestLights_35 : decode cX10_fewestLights 35 = .ok (.iload_n 3, 1) := by decide +kernel
theorem dX10_fewestLights_36 : decode cX10_fewestLights 36 = .ok (.if_icmp .ge 20, 3) := by decide +kernel
theorem dX10_fewestLights_39 : decode cX10_fewestLights 39 = .ok (.aload_n 0, 1) := by decide +kernel
theorem dX10_fewestLights_40 : decode cX10_fewestLights 40 = .ok (.iload 4, 2) := by decide +kernel
theorem dX10_fewestLights_42 : decode cX10_fewestLights 42 = .ok (.invokevirtual 202, 3) := by decide +kernel
theorem dX10_fewestLights_45 : decode cX10_fewestLights 45 = .ok (.lload_n 1, 1) := by decide +kernel
theorem dX10_fewestLights_46 : decode cX10_fewestLights 46 = .ok (.lcmp, 1) := by decide +kernel
theorem dX10_fewestLights_47 : decode cX10_fewestLights 47 = .ok (.ifCond .ne 9, 3) := by decide +kernel
theorem dX10_fewestLights_50 : decode cX10_fewestLights 50 = .ok (.iload 4, 2) := by decide +kernel
theorem dX10_fewestLights_52 : decode cX10_fewestLights 52 = .ok (.invokestatic 198, 3) := by decide +kernel
theorem dX10_fewestLights_55 : decode cX10_fewestLights 55 = .ok (.istore_n 3, 1) := by decide +kernel
theorem dX10_fewestLights_56 : decode cX10_fewestLights 56 = .ok (.iinc 4 1, 3) := by decide +kernel
theorem dX10_fewestLights_59 : decode cX10_fewestLights 59 = .ok (.goto (-43), 3) := by decide +kernel
theorem dX10_fewestLights_62 : decode cX10_fewestLights 62 = .ok (.iload_n 3, 1) := by decide +kernel
theorem dX10_fewestLights_63 : decode cX10_fewestLights 63 = .ok (.ireturn, 1) := by decide +kernel
theorem dX10_fewestLightsBySearch_0 : decode cX10_fewestLightsBySearch 0 = .ok (.aload_n 0, 1) := by decide +kernel
theorem dX10_fewestLightsBySearch_1 : decode cX10_fewestLightsBySearch 1 = .ok (.invokevirtual 194, 3) := by decide +kernel
theorem dX10_fewestLightsBySearch_4 : decode cX10_fewestLightsBySearch 4 = .ok (.lstore_n 1, 1) := by decide +kernel
theorem dX10_fewestLightsBySearch_5 : decode cX10_fewestLightsBySearch 5 = .ok (.aload_n 0, 1) := by decide +kernel
theorem dX10_fewestLightsBySearch_6 : decode cX10_fewestLightsBySearch 6 = .ok (.getfield 40, 3) := by decide +kernel
theorem dX10_fewestLightsBySearch_9 : decode cX10_fewestLightsBySearch 9 = .ok (.aload_n 0, 1) := by decide +kernel
theorem dX10_fewestLightsBySearch_10 : decode cX10_fewestLightsBySearch 10 = .ok (.getfield 12, 3) := by decide +kernel
theorem dX10_fewestLightsBySearch_13 : decode cX10_fewestLightsBySearch 13 = .ok (.getfield 134, 3) := by decide +kernel
theorem dX10_fewestLightsBySearch_16 : decode cX10_fewestLightsBySearch 16 = .ok (.lload_n 1, 1) := by decide +kernel
theorem dX10_fewestLightsBySearch_17 : decode cX10_fewestLightsBySearch 17 = .ok (.iconst 0, 1) := by decide +kernel
theorem dX10_fewestLightsBySearch_18 : decode cX10_fewestLightsBySearch 18 = .ok (.invokestatic 206, 3) := by decide +kernel
theorem dX10_fewestLightsBySearch_21 : decode cX10_fewestLightsBySearch 21 = .ok (.ireturn, 1) := by decide +kernel
theorem dX10_addShip_0 : decode cX10_addShip 0 = .ok (.aload_n 0, 1) := by decide +kernel
theorem dX10_addShip_1 : decode cX10_addShip 1 = .ok (.getfield 22, 3) := by decide +kernel
theorem dX10_addShip_4 : decode cX10_addShip 4 = .ok (.aload_n 0, 1) := by decide +kernel
theorem dX10_addShip_5 : decode cX10_addShip 5 = .ok (.getfield 12, 3) := by decide +kernel
theorem dX10_addShip_8 : decode cX10_addShip 8 = .ok (.invokevirtual 62, 3) := by decide +kernel
theorem dX10_addShip_11 : decode cX10_addShip 11 = .ok (.aload_n 0, 1) := by decide +kernel
theorem dX10_addShip_12 : decode cX10_addShip 12 = .ok (.aload_n 0, 1) := by decide +kernel
theorem dX10_addShip_13 : decode cX10_addShip 13 = .ok (.iload_n 1, 1) := by decide +kernel
theorem dX10_addShip_14 : decode cX10_addShip 14 = .ok (.iload_n 2, 1) := by decide +kernel
theorem dX10_addShip_15 : decode cX10_addShip 15 = .ok (.iload_n 3, 1) := by decide +kernel
theorem dX10_addShip_16 : decode cX10_addShip 16 = .ok (.invokevirtual 210, 3) := by decide +kernel
theorem dX10_addShip_19 : decode cX10_addShip 19 = .ok (.invokevirtual 70, 3) := by decide +kernel
theorem dX10_addShip_22 : decode cX10_addShip 22 = .ok (.ireturn, 1) := by decide +kernel
theorem dX10_steer_0 : decode cX10_steer 0 = .ok (.aload_n 0, 1) := by decide +kernel
theorem dX10_steer_1 : decode cX10_steer 1 = .ok (.getfield 22, 3) := by decide +kernel
theorem dX10_steer_4 : decode cX10_steer 4 = .ok (.aload_n 0, 1) := by decide +kernel
theorem dX10_steer_5 : decode cX10_steer 5 = .ok (.getfield 12, 3) := by decide +kernel
theorem dX10_steer_8 : decode cX10_steer 8 = .ok (.invokevirtual 62, 3) := by decide +kernel
theorem dX10_steer_11 : decode cX10_steer 11 = .ok (.aload_n 0, 1) := by decide +kernel
theorem dX10_steer_12 : decode cX10_steer 12 = .ok (.aload_n 0, 1) := by decide +kernel
theorem dX10_steer_13 : decode cX10_steer 13 = .ok (.iload_n 1, 1) := by decide +kernel
theorem dX10_steer_14 : decode cX10_steer 14 = .ok (.iload_n 2, 1) := by decide +kernel
theorem dX10_steer_15 : decode cX10_steer 15 = .ok (.iload_n 3, 1) := by decide +kernel
theorem dX10_steer_16 : decode cX10_steer 16 = .ok (.invokevirtual 213, 3) := by decide +kernel
theorem dX10_steer_19 : decode cX10_steer 19 = .ok (.invokevirtual 70, 3) := by decide +kernel
theorem dX10_steer_22 : decode cX10_steer 22 = .ok (.ireturn, 1) := by decide +kernel
theorem dX10_salvage_0 : decode cX10_salvage 0 = .ok (.aload_n 0, 1) := by decide +kernel
theorem dX10_salvage_1 : decode cX10_salvage 1 = .ok (.getfield 22, 3) := by decide +kernel
theorem dX10_salvage_4 : decode cX10_salvage 4 = .ok (.aload_n 0, 1) := by decide +kernel
theorem dX10_salvage_5 : decode cX10_salvage 5 = .ok (.getfield 12, 3) := by decide +kernel
theorem dX10_salvage_8 : decode cX10_salvage 8 = .ok (.invokevirtual 62, 3) := by decide +kernel
theorem dX10_salvage_11 : decode cX10_salvage 11 = .ok (.aload_n 0, 1) := by decide +kernel
theorem dX10_salvage_12 : decode cX10_salvage 12 = .ok (.aload_n 0, 1) := by decide +kernel
theorem dX10_salvage_13 : decode cX10_salvage 13 = .ok (.iload_n 1, 1) := by decide +kernel
theorem dX10_salvage_14 : decode cX10_salvage 14 = .ok (.invokevirtual 216, 3) := by decide +kernel
theorem dX10_salvage_17 : decode cX10_salvage 17 = .ok (.invokevirtual 70, 3) := by decide +kernel
theorem dX10_salvage_20 : decode cX10_salvage 20 = .ok (.ireturn, 1) := by decide +kernel
theorem dX10_pass_0 : decode cX10_pass 0 = .ok (.aload_n 0, 1) := by decide +kernel
theorem dX10_pass_1 : decode cX10_pass 1 = .ok (.getfield 22, 3) := by decide +kernel
theorem dX10_pass_4 : decode cX10_pass 4 = .ok (.aload_n 0, 1) := by decide +kernel
theorem dX10_pass_5 : decode cX10_pass 5 = .ok (.getfield 12, 3) := by decide +kernel
theorem dX10_pass_8 : decode cX10_pass 8 = .ok (.invokevirtual 62, 3) := by decide +kernel
theorem dX10_pass_11 : decode cX10_pass 11 = .ok (.aload_n 0, 1) := by decide +kernel
theorem dX10_pass_12 : decode cX10_pass 12 = .ok (.aload_n 0, 1) := by decide +kernel
theorem dX10_pass_13 : decode cX10_pass 13 = .ok (.iload_n 1, 1) := by decide +kernel
theorem dX10_pass_14 : decode cX10_pass 14 = .ok (.invokevirtual 219, 3) := by decide +kernel
theorem dX10_pass_17 : decode cX10_pass 17 = .ok (.invokevirtual 70, 3) := by decide +kernel
theorem dX10_pass_20 : decode cX10_pass 20 = .ok (.ireturn, 1) := by decide +kernel
theorem dX10_shipCount_0 : decode cX10_shipCount 0 = .ok (.aload_n 0, 1) := by decide +kernel
theorem dX10_shipCount_1 : decode cX10_shipCount 1 = .ok (.getfield 12, 3) := by decide +kernel
theorem dX10_shipCount_4 : decode cX10_shipCount 4 = .ok (.getfield 222, 3) := by decide +kernel
theorem dX10_shipCount_7 : decode cX10_shipCount 7 = .ok (.ireturn, 1) := by decide +kernel
theorem dX10_columnOf_0 : decode cX10_columnOf 0 = .ok (.aload_n 0, 1) := by decide +kernel
theorem dX10_columnOf_1 : decode cX10_columnOf 1 = .ok (.iload_n 1, 1) := by decide +kernel
theorem dX10_columnOf_2 : decode cX10_columnOf 2 = .ok (.invokevirtual 225, 3) := by decide +kernel
theorem dX10_columnOf_5 : decode cX10_columnOf 5 = .ok (.getfield 229, 3) := by decide +kernel
theorem dX10_columnOf_8 : decode cX10_columnOf 8 = .ok (.invokestatic 93, 3) := by decide +kernel
theorem dX10_columnOf_11 : decode cX10_columnOf 11 = .ok (.ireturn, 1) := by decide +kernel
theorem dX10_rowOf_0 : decode cX10_rowOf 0 = .ok (.aload_n 0, 1) := by decide +kernel
theorem dX10_rowOf_1 : decode cX10_rowOf 1 = .ok (.iload_n 1, 1) := by decide +kernel
theorem dX10_rowOf_2 : decode cX10_rowOf 2 = .ok (.invokevirtual 225, 3) := by decide +kernel
theorem dX10_rowOf_5 : decode cX10_rowOf 5 = .ok (.getfield 229, 3) := by decide +kernel
theorem dX10_rowOf_8 : decode cX10_rowOf 8 = .ok (.invokestatic 96, 3) := by decide +kernel
theorem dX10_rowOf_11 : decode cX10_rowOf 11 = .ok (.ireturn, 1) := by decide +kernel
theorem dX10_goalColumn_0 : decode cX10_goalColumn 0 = .ok (.aload_n 0, 1) := by decide +kernel
theorem dX10_goalColumn_1 : decode cX10_goalColumn 1 = .ok (.iload_n 1, 1) := by decide +kernel
theorem dX10_goalColumn_2 : decode cX10_goalColumn 2 = .ok (.invokevirtual 225, 3) := by decide +kernel
theorem dX10_goalColumn_5 : decode cX10_goalColumn 5 = .ok (.invokestatic 232, 3) := by decide +kernel
theorem dX10_goalColumn_8 : decode cX10_goalColumn 8 = .ok (.invokestatic 93, 3) := by decide +kernel
theorem dX10_goalColumn_11 : decode cX10_goalColumn 11 = .ok (.ireturn, 1) := by decide +kernel
theorem dX10_goalRow_0 : decode cX10_goalRow 0 = .ok (.aload_n 0, 1) := by decide +kernel
theorem dX10_goalRow_1 : decode cX10_goalRow 1 = .ok (.iload_n 1, 1) := by decide +kernel
theorem dX10_goalRow_2 : decode cX10_goalRow 2 = .ok (.invokevirtual 225, 3) := by decide +kernel
theorem dX10_goalRow_5 : decode cX10_goalRow 5 = .ok (.invokestatic 232, 3) := by decide +kernel
theorem dX10_goalRow_8 : decode cX10_goalRow 8 = .ok (.invokestatic 96, 3) := by decide +kernel
theorem dX10_goalRow_11 : decode cX10_goalRow 11 = .ok (.ireturn, 1) := by decide +kernel
theorem dX10_isWrecked_0 : decode cX10_isWrecked 0 = .ok (.aload_n 0, 1) := by decide +kernel
theorem dX10_isWrecked_1 : decode cX10_isWrecked 1 = .ok (.iload_n 1, 1) := by decide +kernel
theorem dX10_isWrecked_2 : decode cX10_isWrecked 2 = .ok (.invokevirtual 225, 3) := by decide +kernel
theorem dX10_isWrecked_5 : decode cX10_isWrecked 5 = .ok (.getfield 236, 3) := by decide +kernel
theorem dX10_isWrecked_8 : decode cX10_isWrecked 8 = .ok (.ireturn, 1) := by decide +kernel
theorem dX10_seenBy_0 : decode cX10_seenBy 0 = .ok (.aload_n 0, 1) := by decide +kernel
theorem dX10_seenBy_1 : decode cX10_seenBy 1 = .ok (.getfield 12, 3) := by decide +kernel
theorem dX10_seenBy_4 : decode cX10_seenBy 4 = .ok (.aload_n 0, 1) := by decide +kernel
theorem dX10_seenBy_5 : decode cX10_seenBy 5 = .ok (.iload_n 1, 1) := by decide +kernel
theorem dX10_seenBy_6 : decode cX10_seenBy 6 = .ok (.invokevirtual 225, 3) := by decide +kernel
theorem dX10_seenBy_9 : decode cX10_seenBy 9 = .ok (.getfield 229, 3) := by decide +kernel
theorem dX10_seenBy_12 : decode cX10_seenBy 12 = .ok (.invokevirtual 240, 3) := by decide +kernel
theorem dX10_seenBy_15 : decode cX10_seenBy 15 = .ok (.ireturn, 1) := by decide +kernel
theorem dX10_darkMinutes_0 : decode cX10_darkMinutes 0 = .ok (.aload_n 0, 1) := by decide +kernel
theorem dX10_darkMinutes_1 : decode cX10_darkMinutes 1 = .ok (.iload_n 1, 1) := by decide +kernel
theorem dX10_darkMinutes_2 : decode cX10_darkMinutes 2 = .ok (.invokevirtual 225, 3) := by decide +kernel
theorem dX10_darkMinutes_5 : decode cX10_darkMinutes 5 = .ok (.getfield 243, 3) := by decide +kernel
theorem dX10_darkMinutes_8 : decode cX10_darkMinutes 8 = .ok (.ireturn, 1) := by decide +kernel
theorem dX10_wayLength_0 : decode cX10_wayLength 0 = .ok (.aload_n 0, 1) := by decide +kernel
theorem dX10_wayLength_1 : decode cX10_wayLength 1 = .ok (.iload_n 1, 1) := by decide +kernel
theorem dX10_wayLength_2 : decode cX10_wayLength 2 = .ok (.invokevirtual 225, 3) := by decide +kernel
theorem dX10_wayLength_5 : decode cX10_wayLength 5 = .ok (.astore 4, 2) := by decide +kernel
theorem dX10_wayLength_7 : decode cX10_wayLength 7 = .ok (.iload_n 2, 1) := by decide +kernel
theorem dX10_wayLength_8 : decode cX10_wayLength 8 = .ok (.iload_n 3, 1) := by decide +kernel
theorem dX10_wayLength_9 : decode cX10_wayLength 9 = .ok (.invokestatic 74, 3) := by decide +kernel
theorem dX10_wayLength_12 : decode cX10_wayLength 12 = .ok (.istore 5, 2) := by decide +kernel
theorem dX10_wayLength_14 : decode cX10_wayLength 14 = .ok (.aload_n 0, 1) := by decide +kernel
theorem dX10_wayLength_15 : decode cX10_wayLength 15 = .ok (.getfield 29, 3) := by decide +kernel
theorem dX10_wayLength_18 : decode cX10_wayLength 18 = .ok (.aload_n 0, 1) := by decide +kernel
theorem dX10_wayLength_19 : decode cX10_wayLength 19 = .ok (.getfield 12, 3) := by decide +kernel
theorem dX10_wayLength_22 : decode cX10_wayLength 22 = .ok (.aload_n 0, 1) := by decide +kernel
theorem dX10_wayLength_23 : decode cX10_wayLength 23 = .ok (.getfield 12, 3) := by decide +kernel
theorem dX10_wayLength_26 : decode cX10_wayLength 26 = .ok (.getfield 84, 3) := by decide +kernel
theorem dX10_wayLength_29 : decode cX10_wayLength 29 = .ok (.invokestatic 87, 3) := by decide +kernel
theorem dX10_wayLength_32 : decode cX10_wayLength 32 = .ok (.aload 4, 2) := by decide +kernel
theorem dX10_wayLength_34 : decode cX10_wayLength 34 = .ok (.getfield 246, 3) := by decide +kernel
theorem dX10_wayLength_37 : decode cX10_wayLength 37 = .ok (.invokevirtual 249, 3) := by decide +kernel
theorem dX10_wayLength_40 : decode cX10_wayLength 40 = .ok (.aload_n 0, 1) := by decide +kernel
theorem dX10_wayLength_41 : decode cX10_wayLength 41 = .ok (.getfield 29, 3) := by decide +kernel
theorem dX10_wayLength_44 : decode cX10_wayLength 44 = .ok (.aload 4, 2) := by decide +kernel
theorem dX10_wayLength_46 : decode cX10_wayLength 46 = .ok (.getfield 229, 3) := by decide +kernel
theorem dX10_wayLength_49 : decode cX10_wayLength 49 = .ok (.invokevirtual 117, 3) := by decide +kernel
theorem dX10_wayLength_52 : decode cX10_wayLength 52 = .ok (.aload_n 0, 1) := by decide +kernel
theorem dX10_wayLength_53 : decode cX10_wayLength 53 = .ok (.iload 5, 2) := by decide +kernel
theorem dX10_wayLength_55 : decode cX10_wayLength 55 = .ok (.invokevirtual 253, 3) := by decide +kernel
theorem dX10_wayLength_58 : decode cX10_wayLength 58 = .ok (.ireturn, 1) := by decide +kernel
theorem dX10_wayLengthByRounds_0 : decode cX10_wayLengthByRounds 0 = .ok (.aload_n 0, 1) := by decide +kernel
theorem dX10_wayLengthByRounds_1 : decode cX10_wayLengthByRounds 1 = .ok (.iload_n 1, 1) := by decide +kernel
theorem dX10_wayLengthByRounds_2 : decode cX10_wayLengthByRounds 2 = .ok (.invokevirtual 225, 3) := by decide +kernel
theorem dX10_wayLengthByRounds_5 : decode cX10_wayLengthByRounds 5 = .ok (.astore 4, 2) := by decide +kernel
theorem dX10_wayLengthByRounds_7 : decode cX10_wayLengthByRounds 7 = .ok (.iload_n 2, 1) := by decide +kernel
theorem dX10_wayLengthByRounds_8 : decode cX10_wayLengthByRounds 8 = .ok (.iload_n 3, 1) := by decide +kernel
theorem dX10_wayLengthByRounds_9 : decode cX10_wayLengthByRounds 9 = .ok (.invokestatic 74, 3) := by decide +kernel
theorem dX10_wayLengthByRounds_12 : decode cX10_wayLengthByRounds 12 = .ok (.istore 5, 2) := by decide +kernel
theorem dX10_wayLengthByRounds_14 : decode cX10_wayLengthByRounds 14 = .ok (.aload_n 0, 1) := by decide +kernel
theorem dX10_wayLengthByRounds_15 : decode cX10_wayLengthByRounds 15 = .ok (.getfield 29, 3) := by decide +kernel
theorem dX10_wayLengthByRounds_18 : decode cX10_wayLengthByRounds 18 = .ok (.aload_n 0, 1) := by decide +kernel
theorem dX10_wayLengthByRounds_19 : decode cX10_wayLengthByRounds 19 = .ok (.getfield 12, 3) := by decide +kernel
theorem dX10_wayLengthByRounds_22 : decode cX10_wayLengthByRounds 22 = .ok (.aload_n 0, 1) := by decide +kernel
theorem dX10_wayLengthByRounds_23 : decode cX10_wayLengthByRounds 23 = .ok (.getfield 12, 3) := by decide +kernel
theorem dX10_wayLengthByRounds_26 : decode cX10_wayLengthByRounds 26 = .ok (.getfield 84, 3) := by decide +kernel
theorem dX10_wayLengthByRounds_29 : decode cX10_wayLengthByRounds 29 = .ok (.invokestatic 87, 3) := by decide +kernel
theorem dX10_wayLengthByRounds_32 : decode cX10_wayLengthByRounds 32 = .ok (.aload 4, 2) := by decide +kernel
theorem dX10_wayLengthByRounds_34 : decode cX10_wayLengthByRounds 34 = .ok (.getfield 246, 3) := by decide +kernel
theorem dX10_wayLengthByRounds_37 : decode cX10_wayLengthByRounds 37 = .ok (.invokevirtual 249, 3) := by decide +kernel
theorem dX10_wayLengthByRounds_40 : decode cX10_wayLengthByRounds 40 = .ok (.aload_n 0, 1) := by decide +kernel
theorem dX10_wayLengthByRounds_41 : decode cX10_wayLengthByRounds 41 = .ok (.getfield 29, 3) := by decide +kernel
theorem dX10_wayLengthByRounds_44 : decode cX10_wayLengthByRounds 44 = .ok (.aload 4, 2) := by decide +kernel
theorem dX10_wayLengthByRounds_46 : decode cX10_wayLengthByRounds 46 = .ok (.getfield 229, 3) := by decide +kernel
theorem dX10_wayLengthByRounds_49 : decode cX10_wayLengthByRounds 49 = .ok (.invokevirtual 256, 3) := by decide +kernel
theorem dX10_wayLengthByRounds_52 : decode cX10_wayLengthByRounds 52 = .ok (.aload_n 0, 1) := by decide +kernel
theorem dX10_wayLengthByRounds_53 : decode cX10_wayLengthByRounds 53 = .ok (.iload 5, 2) := by decide +kernel
theorem dX10_wayLengthByRounds_55 : decode cX10_wayLengthByRounds 55 = .ok (.invokevirtual 253, 3) := by decide +kernel
theorem dX10_wayLengthByRounds_58 : decode cX10_wayLengthByRounds 58 = .ok (.ireturn, 1) := by decide +kernel
theorem dX10_minutesUntilArrival_0 : decode cX10_minutesUntilArrival 0 = .ok (.aload_n 0, 1) := by decide +kernel
theorem dX10_minutesUntilArrival_1 : decode cX10_minutesUntilArrival 1 = .ok (.iload_n 1, 1) := by decide +kernel
theorem dX10_minutesUntilArrival_2 : decode cX10_minutesUntilArrival 2 = .ok (.invokevirtual 225, 3) := by decide +kernel
theorem dX10_minutesUntilArrival_5 : decode cX10_minutesUntilArrival 5 = .ok (.astore_n 2, 1) := by decide +kernel
theorem dX10_minutesUntilArrival_6 : decode cX10_minutesUntilArrival 6 = .ok (.aload_n 2, 1) := by decide +kernel
theorem dX10_minutesUntilArrival_7 : decode cX10_minutesUntilArrival 7 = .ok (.invokestatic 232, 3) := by decide +kernel
theorem dX10_minutesUntilArrival_10 : decode cX10_minutesUntilArrival 10 = .ok (.istore_n 3, 1) := by decide +kernel
theorem dX10_minutesUntilArrival_11 : decode cX10_minutesUntilArrival 11 = .ok (.aload_n 2, 1) := by decide +kernel
theorem dX10_minutesUntilArrival_12 : decode cX10_minutesUntilArrival 12 = .ok (.getfield 229, 3) := by decide +kernel
theorem dX10_minutesUntilArrival_15 : decode cX10_minutesUntilArrival 15 = .ok (.istore 4, 2) := by decide +kernel
theorem dX10_minutesUntilArrival_17 : decode cX10_minutesUntilArrival 17 = .ok (.iconst 1, 1) := by decide +kernel
theorem dX10_minutesUntilArrival_18 : decode cX10_minutesUntilArrival 18 = .ok (.istore 5, 2) := by decide +kernel
theorem dX10_minutesUntilArrival_20 : decode cX10_minutesUntilArrival 20 = .ok (.iload 5, 2) := by decide +kernel
theorem dX10_minutesUntilArrival_22 : decode cX10_minutesUntilArrival 22 = .ok (.bipush 48, 2) := by decide +kernel
theorem dX10_minutesUntilArrival_24 : decode cX10_minutesUntilArrival 24 = .ok (.if_icmp .gt 76, 3) := by decide +kernel
theorem dX10_minutesUntilArrival_27 : decode cX10_minutesUntilArrival 27 = .ok (.aload_n 0, 1) := by decide +kernel
theorem dX10_minutesUntilArrival_28 : decode cX10_minutesUntilArrival 28 = .ok (.getfield 12, 3) := by decide +kernel
theorem dX10_minutesUntilArrival_31 : decode cX10_minutesUntilArrival 31 = .ok (.getfield 84, 3) := by decide +kernel
theorem dX10_minutesUntilArrival_34 : decode cX10_minutesUntilArrival 34 = .ok (.iload 5, 2) := by decide +kernel
theorem dX10_minutesUntilArrival_36 : decode cX10_minutesUntilArrival 36 = .ok (.iadd, 1) := by decide +kernel
theorem dX10_minutesUntilArrival_37 : decode cX10_minutesUntilArrival 37 = .ok (.invokestatic 87, 3) := by decide +kernel
theorem dX10_minutesUntilArrival_40 : decode cX10_minutesUntilArrival 40 = .ok (.istore 6, 2) := by decide +kernel
theorem dX10_minutesUntilArrival_42 : decode cX10_minutesUntilArrival 42 = .ok (.aload_n 0, 1) := by decide +kernel
theorem dX10_minutesUntilArrival_43 : decode cX10_minutesUntilArrival 43 = .ok (.getfield 29, 3) := by decide +kernel
theorem dX10_minutesUntilArrival_46 : decode cX10_minutesUntilArrival 46 = .ok (.aload_n 0, 1) := by decide +kernel
theorem dX10_minutesUntilArrival_47 : decode cX10_minutesUntilArrival 47 = .ok (.getfield 12, 3) := by decide +kernel
theorem dX10_minutesUntilArrival_50 : decode cX10_minutesUntilArrival 50 = .ok (.iload 6, 2) := by decide +kernel
theorem dX10_minutesUntilArrival_52 : decode cX10_minutesUntilArrival 52 = .ok (.aload_n 2, 1) := by decide +kernel
theorem dX10_minutesUntilArrival_53 : decode cX10_minutesUntilArrival 53 = .ok (.getfield 246, 3) := by decide +kernel
theorem dX10_minutesUntilArrival_56 : decode cX10_minutesUntilArrival 56 = .ok (.iload 4, 2) := by decide +kernel
theorem dX10_minutesUntilArrival_58 : decode cX10_minutesUntilArrival 58 = .ok (.iload_n 3, 1) := by decide +kernel
theorem dX10_minutesUntilArrival_59 : decode cX10_minutesUntilArrival 59 = .ok (.invokevirtual 259, 3) := by decide +kernel
theorem dX10_minutesUntilArrival_62 : decode cX10_minutesUntilArrival 62 = .ok (.istore 4, 2) := by decide +kernel
theorem dX10_minutesUntilArrival_64 : decode cX10_minutesUntilArrival 64 = .ok (.iload 4, 2) := by decide +kernel
theorem dX10_minutesUntilArrival_66 : decode cX10_minutesUntilArrival 66 = .ok (.iload_n 3, 1) := by decide +kernel
theorem dX10_minutesUntilArrival_67 : decode cX10_minutesUntilArrival 67 = .ok (.if_icmp .ne 6, 3) := by decide +kernel
theorem dX10_minutesUntilArrival_70 : decode cX10_minutesUntilArrival 70 = .ok (.iload 5, 2) := by decide +kernel
theorem dX10_minutesUntilArrival_72 : decode cX10_minutesUntilArrival 72 = .ok (.ireturn, 1) := by decide +kernel
theorem dX10_minutesUntilArrival_73 : decode cX10_minutesUntilArrival 73 = .ok (.aload_n 0, 1) := by decide +kernel
theorem dX10_minutesUntilArrival_74 : decode cX10_minutesUntilArrival 74 = .ok (.getfield 12, 3) := by decide +kernel
theorem dX10_minutesUntilArrival_77 : decode cX10_minutesUntilArrival 77 = .ok (.iload 4, 2) := by decide +kernel
theorem dX10_minutesUntilArrival_79 : decode cX10_minutesUntilArrival 79 = .ok (.iload 6, 2) := by decide +kernel
theorem dX10_minutesUntilArrival_81 : decode cX10_minutesUntilArrival 81 = .ok (.invokevirtual 263, 3) := by decide +kernel
theorem dX10_minutesUntilArrival_84 : decode cX10_minutesUntilArrival 84 = .ok (.aload_n 2, 1) := by decide +kernel
theorem dX10_minutesUntilArrival_85 : decode cX10_minutesUntilArrival 85 = .ok (.getfield 246, 3) := by decide +kernel
theorem dX10_minutesUntilArrival_88 : decode cX10_minutesUntilArrival 88 = .ok (.if_icmp .ge 6, 3) := by decide +kernel
theorem dX10_minutesUntilArrival_91 : decode cX10_minutesUntilArrival 91 = .ok (.goto 9, 3) := by decide +kernel
theorem dX10_minutesUntilArrival_94 : decode cX10_minutesUntilArrival 94 = .ok (.iinc 5 1, 3) := by decide +kernel
theorem dX10_minutesUntilArrival_97 : decode cX10_minutesUntilArrival 97 = .ok (.goto (-77), 3) := by decide +kernel
theorem dX10_minutesUntilArrival_100 : decode cX10_minutesUntilArrival 100 = .ok (.new 140, 3) := by decide +kernel
theorem dX10_minutesUntilArrival_103 : decode cX10_minutesUntilArrival 103 = .ok (.dup, 1) := by decide +kernel
theorem dX10_minutesUntilArrival_104 : decode cX10_minutesUntilArrival 104 = .ok (.ldc_w 266, 3) := by decide +kernel
theorem dX10_minutesUntilArrival_107 : decode cX10_minutesUntilArrival 107 = .ok (.invokespecial 144, 3) := by decide +kernel
theorem dX10_minutesUntilArrival_110 : decode cX10_minutesUntilArrival 110 = .ok (.athrow, 1) := by decide +kernel
theorem dX10_shipByDarkness_0 : decode cX10_shipByDarkness 0 = .ok (.iconst 0, 1) := by decide +kernel
theorem dX10_shipByDarkness_1 : decode cX10_shipByDarkness 1 = .ok (.istore_n 2, 1) := by decide +kernel
theorem dX10_shipByDarkness_2 : decode cX10_shipByDarkness 2 = .ok (.iload_n 2, 1) := by decide +kernel
theorem dX10_shipByDarkness_3 : decode cX10_shipByDarkness 3 = .ok (.aload_n 0, 1) := by decide +kernel
theorem dX10_shipByDarkness_4 : decode cX10_shipByDarkness 4 = .ok (.getfield 12, 3) := by decide +kernel
theorem dX10_shipByDarkness_7 : decode cX10_shipByDarkness 7 = .ok (.getfield 222, 3) := by decide +kernel
theorem dX10_shipByDarkness_10 : decode cX10_shipByDarkness 10 = .ok (.if_icmp .ge 23, 3) := by decide +kernel
theorem dX10_shipByDarkness_13 : decode cX10_shipByDarkness 13 = .ok (.aload_n 0, 1) := by decide +kernel
theorem dX10_shipByDarkness_14 : decode cX10_shipByDarkness 14 = .ok (.getfield 12, 3) := by decide +kernel
theorem dX10_shipByDarkness_17 : decode cX10_shipByDarkness 17 = .ok (.iload_n 2, 1) := by decide +kernel
theorem dX10_shipByDarkness_18 : decode cX10_shipByDarkness 18 = .ok (.invokevirtual 268, 3) := by decide +kernel
theorem dX10_shipByDarkness_21 : decode cX10_shipByDarkness 21 = .ok (.iload_n 1, 1) := by decide +kernel
theorem dX10_shipByDarkness_22 : decode cX10_shipByDarkness 22 = .ok (.if_icmp .ne 5, 3) := by decide +kernel
theorem dX10_shipByDarkness_25 : decode cX10_shipByDarkness 25 = .ok (.iload_n 2, 1) := by decide +kernel
theorem dX10_shipByDarkness_26 : decode cX10_shipByDarkness 26 = .ok (.ireturn, 1) := by decide +kernel
theorem dX10_shipByDarkness_27 : decode cX10_shipByDarkness 27 = .ok (.iinc 2 1, 3) := by decide +kernel
theorem dX10_shipByDarkness_30 : decode cX10_shipByDarkness 30 = .ok (.goto (-28), 3) := by decide +kernel
theorem dX10_shipByDarkness_33 : decode cX10_shipByDarkness 33 = .ok (.new 140, 3) := by decide +kernel
theorem dX10_shipByDarkness_36 : decode cX10_shipByDarkness 36 = .ok (.dup, 1) := by decide +kernel
theorem dX10_shipByDarkness_37 : decode cX10_shipByDarkness 37 = .ok (.ldc_w 271, 3) := by decide +kernel
theorem dX10_shipByDarkness_40 : decode cX10_shipByDarkness 40 = .ok (.invokespecial 144, 3) := by decide +kernel
theorem dX10_shipByDarkness_43 : decode cX10_shipByDarkness 43 = .ok (.athrow, 1) := by decide +kernel
theorem dX10_minute_0 : decode cX10_minute 0 = .ok (.aload_n 0, 1) := by decide +kernel
theorem dX10_minute_1 : decode cX10_minute 1 = .ok (.getfield 12, 3) := by decide +kernel
theorem dX10_minute_4 : decode cX10_minute 4 = .ok (.getfield 84, 3) := by decide +kernel
theorem dX10_minute_7 : decode cX10_minute 7 = .ok (.ireturn, 1) := by decide +kernel
theorem dX10_sightingsOf_0 : decode cX10_sightingsOf 0 = .ok (.aload_n 0, 1) := by decide +kernel
theorem dX10_sightingsOf_1 : decode cX10_sightingsOf 1 = .ok (.iload_n 1, 1) := by decide +kernel
theorem dX10_sightingsOf_2 : decode cX10_sightingsOf 2 = .ok (.invokevirtual 147, 3) := by decide +kernel
theorem dX10_sightingsOf_5 : decode cX10_sightingsOf 5 = .ok (.getfield 273, 3) := by decide +kernel
theorem dX10_sightingsOf_8 : decode cX10_sightingsOf 8 = .ok (.ireturn, 1) := by decide +kernel
theorem dX10_sightings_0 : decode cX10_sightings 0 = .ok (.aload_n 0, 1) := by decide +kernel
theorem dX10_sightings_1 : decode cX10_sightings 1 = .ok (.getfield 12, 3) := by decide +kernel
theorem dX10_sightings_4 : decode cX10_sightings 4 = .ok (.getfield 276, 3) := by decide +kernel
theorem dX10_sightings_7 : decode cX10_sightings 7 = .ok (.ireturn, 1) := by decide +kernel
theorem dX10_sightingsByLights_0 : decode cX10_sightingsByLights 0 = .ok (.aload_n 0, 1) := by decide +kernel
theorem dX10_sightingsByLights_1 : decode cX10_sightingsByLights 1 = .ok (.getfield 12, 3) := by decide +kernel
theorem dX10_sightingsByLights_4 : decode cX10_sightingsByLights 4 = .ok (.getfield 277, 3) := by decide +kernel
theorem dX10_sightingsByLights_7 : decode cX10_sightingsByLights 7 = .ok (.istore_n 1, 1) := by decide +kernel
theorem dX10_sightingsByLights_8 : decode cX10_sightingsByLights 8 = .ok (.iconst 0, 1) := by decide +kernel
theorem dX10_sightingsByLights_9 : decode cX10_sightingsByLights 9 = .ok (.istore_n 2, 1) := by decide +kernel
theorem dX10_sightingsByLights_10 : decode cX10_sightingsByLights 10 = .ok (.iload_n 2, 1) := by decide +kernel
theorem dX10_sightingsByLights_11 : decode cX10_sightingsByLights 11 = .ok (.aload_n 0, 1) := by decide +kernel
theorem dX10_sightingsByLights_12 : decode cX10_sightingsByLights 12 = .ok (.getfield 12, 3) := by decide +kernel
theorem dX10_sightingsByLights_15 : decode cX10_sightingsByLights 15 = .ok (.getfield 134, 3) := by decide +kernel
theorem dX10_sightingsByLights_18 : decode cX10_sightingsByLights 18 = .ok (.if_icmp .ge 24, 3) := by decide +kernel
theorem dX10_sightingsByLights_21 : decode cX10_sightingsByLights 21 = .ok (.iload_n 1, 1) := by decide +kernel
theorem dX10_sightingsByLights_22 : decode cX10_sightingsByLights 22 = .ok (.aload_n 0, 1) := by decide +kernel
theorem dX10_sightingsByLights_23 : decode cX10_sightingsByLights 23 = .ok (.getfield 12, 3) := by decide +kernel
theorem dX10_sightingsByLights_26 : decode cX10_sightingsByLights 26 = .ok (.getfield 280, 3) := by decide +kernel
theorem dX10_sightingsByLights_29 : decode cX10_sightingsByLights 29 = .ok (.iload_n 2, 1) := by decide +kernel
theorem dX10_sightingsByLights_30 : decode cX10_sightingsByLights 30 = .ok (.aaload, 1) := by decide +kernel
theorem dX10_sightingsByLights_31 : decode cX10_sightingsByLights 31 = .ok (.getfield 273, 3) := by decide +kernel
theorem dX10_sightingsByLights_34 : decode cX10_sightingsByLights 34 = .ok (.iadd, 1) := by decide +kernel
theorem dX10_sightingsByLights_35 : decode cX10_sightingsByLights 35 = .ok (.istore_n 1, 1) := by decide +kernel
theorem dX10_sightingsByLights_36 : decode cX10_sightingsByLights 36 = .ok (.iinc 2 1, 3) := by decide +kernel
theorem dX10_sightingsByLights_39 : decode cX10_sightingsByLights 39 = .ok (.goto (-29), 3) := by decide +kernel
theorem dX10_sightingsByLights_42 : decode cX10_sightingsByLights 42 = .ok (.iload_n 1, 1) := by decide +kernel
theorem dX10_sightingsByLights_43 : decode cX10_sightingsByLights 43 = .ok (.ireturn, 1) := by decide +kernel
theorem dX10_wrecks_0 : decode cX10_wrecks 0 = .ok (.aload_n 0, 1) := by decide +kernel
theorem dX10_wrecks_1 : decode cX10_wrecks 1 = .ok (.getfield 12, 3) := by decide +kernel
theorem dX10_wrecks_4 : decode cX10_wrecks 4 = .ok (.getfield 284, 3) := by decide +kernel
theorem dX10_wrecks_7 : decode cX10_wrecks 7 = .ok (.ireturn, 1) := by decide +kernel
theorem dX10_salvaged_0 : decode cX10_salvaged 0 = .ok (.aload_n 0, 1) := by decide +kernel
theorem dX10_salvaged_1 : decode cX10_salvaged 1 = .ok (.getfield 12, 3) := by decide +kernel
theorem dX10_salvaged_4 : decode cX10_salvaged 4 = .ok (.getfield 287, 3) := by decide +kernel
theorem dX10_salvaged_7 : decode cX10_salvaged 7 = .ok (.ireturn, 1) := by decide +kernel
theorem dX10_meanDepth_0 : decode cX10_meanDepth 0 = .ok (.iconst 0, 1) := by decide +kernel
theorem dX10_meanDepth_1 : decode cX10_meanDepth 1 = .ok (.istore_n 1, 1) := by decide +kernel
theorem dX10_meanDepth_2 : decode cX10_meanDepth 2 = .ok (.iconst 0, 1) := by decide +kernel
theorem dX10_meanDepth_3 : decode cX10_meanDepth 3 = .ok (.istore_n 2, 1) := by decide +kernel
theorem dX10_meanDepth_4 : decode cX10_meanDepth 4 = .ok (.iload_n 2, 1) := by decide +kernel
theorem dX10_meanDepth_5 : decode cX10_meanDepth 5 = .ok (.bipush 64, 2) := by decide +kernel
theorem dX10_meanDepth_7 : decode cX10_meanDepth 7 = .ok (.if_icmp .ge 21, 3) := by decide +kernel
theorem dX10_meanDepth_10 : decode cX10_meanDepth 10 = .ok (.iload_n 1, 1) := by decide +kernel
theorem dX10_meanDepth_11 : decode cX10_meanDepth 11 = .ok (.aload_n 0, 1) := by decide +kernel
theorem dX10_meanDepth_12 : decode cX10_meanDepth 12 = .ok (.getfield 12, 3) := by decide +kernel
theorem dX10_meanDepth_15 : decode cX10_meanDepth 15 = .ok (.getfield 290, 3) := by decide +kernel
theorem dX10_meanDepth_18 : decode cX10_meanDepth 18 = .ok (.iload_n 2, 1) := by decide +kernel
theorem dX10_meanDepth_19 : decode cX10_meanDepth 19 = .ok (.iaload, 1) := by decide +kernel
theorem dX10_meanDepth_20 : decode cX10_meanDepth 20 = .ok (.iadd, 1) := by decide +kernel
theorem dX10_meanDepth_21 : decode cX10_meanDepth 21 = .ok (.istore_n 1, 1) := by decide +kernel
theorem dX10_meanDepth_22 : decode cX10_meanDepth 22 = .ok (.iinc 2 1, 3) := by decide +kernel
theorem dX10_meanDepth_25 : decode cX10_meanDepth 25 = .ok (.goto (-21), 3) := by decide +kernel
theorem dX10_meanDepth_28 : decode cX10_meanDepth 28 = .ok (.iload_n 1, 1) := by decide +kernel
theorem dX10_meanDepth_29 : decode cX10_meanDepth 29 = .ok (.i2d, 1) := by decide +kernel
theorem dX10_meanDepth_30 : decode cX10_meanDepth 30 = .ok (.ldc2_w 294, 3) := by decide +kernel
theorem dX10_meanDepth_33 : decode cX10_meanDepth 33 = .ok (.ddiv, 1) := by decide +kernel
theorem dX10_meanDepth_34 : decode cX10_meanDepth 34 = .ok (.dreturn, 1) := by decide +kernel
theorem dX10_seenShare_0 : decode cX10_seenShare 0 = .ok (.aload_n 0, 1) := by decide +kernel
theorem dX10_seenShare_1 : decode cX10_seenShare 1 = .ok (.getfield 12, 3) := by decide +kernel
theorem dX10_seenShare_4 : decode cX10_seenShare 4 = .ok (.getfield 222, 3) := by decide +kernel
theorem dX10_seenShare_7 : decode cX10_seenShare 7 = .ok (.ifCond .ne 14, 3) := by decide +kernel
theorem dX10_seenShare_10 : decode cX10_seenShare 10 = .ok (.new 296, 3) := by decide +kernel
theorem dX10_seenShare_13 : decode cX10_seenShare 13 = .ok (.dup, 1) := by decide +kernel
theorem dX10_seenShare_14 : decode cX10_seenShare 14 = .ok (.ldc_w 298, 3) := by decide +kernel
theorem dX10_seenShare_17 : decode cX10_seenShare 17 = .ok (.invokespecial 300, 3) := by decide +kernel
theorem dX10_seenShare_20 : decode cX10_seenShare 20 = .ok (.athrow, 1) := by decide +kernel
theorem dX10_seenShare_21 : decode cX10_seenShare 21 = .ok (.iconst 0, 1) := by decide +kernel
theorem dX10_seenShare_22 : decode cX10_seenShare 22 = .ok (.istore_n 1, 1) := by decide +kernel
theorem dX10_seenShare_23 : decode cX10_seenShare 23 = .ok (.iconst 0, 1) := by decide +kernel
theorem dX10_seenShare_24 : decode cX10_seenShare 24 = .ok (.istore_n 2, 1) := by decide +kernel
theorem dX10_seenShare_25 : decode cX10_seenShare 25 = .ok (.iload_n 2, 1) := by decide +kernel
theorem dX10_seenShare_26 : decode cX10_seenShare 26 = .ok (.aload_n 0, 1) := by decide +kernel
theorem dX10_seenShare_27 : decode cX10_seenShare 27 = .ok (.getfield 12, 3) := by decide +kernel
theorem dX10_seenShare_30 : decode cX10_seenShare 30 = .ok (.getfield 222, 3) := by decide +kernel
theorem dX10_seenShare_33 : decode cX10_seenShare 33 = .ok (.if_icmp .ge 34, 3) := by decide +kernel
theorem dX10_seenShare_36 : decode cX10_seenShare 36 = .ok (.aload_n 0, 1) := by decide +kernel
theorem dX10_seenShare_37 : decode cX10_seenShare 37 = .ok (.getfield 12, 3) := by decide +kernel
theorem dX10_seenShare_40 : decode cX10_seenShare 40 = .ok (.aload_n 0, 1) := by decide +kernel
theorem dX10_seenShare_41 : decode cX10_seenShare 41 = .ok (.getfield 12, 3) := by decide +kernel
theorem dX10_seenShare_44 : decode cX10_seenShare 44 = .ok (.getfield 301, 3) := by decide +kernel
theorem dX10_seenShare_47 : decode cX10_seenShare 47 = .ok (.iload_n 2, 1) := by decide +kernel
theorem dX10_seenShare_48 : decode cX10_seenShare 48 = .ok (.aaload, 1) := by decide +kernel
theorem dX10_seenShare_49 : decode cX10_seenShare 49 = .ok (.getfield 229, 3) := by decide +kernel
theorem dX10_seenShare_52 : decode cX10_seenShare 52 = .ok (.invokevirtual 240, 3) := by decide +kernel
theorem dX10_seenShare_55 : decode cX10_seenShare 55 = .ok (.ifCond .le 6, 3) := by decide +kernel
theorem dX10_seenShare_58 : decode cX10_seenShare 58 = .ok (.iinc 1 1, 3) := by decide +kernel
theorem dX10_seenShare_61 : decode cX10_seenShare 61 = .ok (.iinc 2 1, 3) := by decide +kernel
theorem dX10_seenShare_64 : decode cX10_seenShare 64 = .ok (.goto (-39), 3) := by decide +kernel
theorem dX10_seenShare_67 : decode cX10_seenShare 67 = .ok (.iload_n 1, 1) := by decide +kernel
theorem dX10_seenShare_68 : decode cX10_seenShare 68 = .ok (.i2f, 1) := by decide +kernel
theorem dX10_seenShare_69 : decode cX10_seenShare 69 = .ok (.aload_n 0, 1) := by decide +kernel
theorem dX10_seenShare_70 : decode cX10_seenShare 70 = .ok (.getfield 12, 3) := by decide +kernel
theorem dX10_seenShare_73 : decode cX10_seenShare 73 = .ok (.getfield 222, 3) := by decide +kernel
theorem dX10_seenShare_76 : decode cX10_seenShare 76 = .ok (.i2f, 1) := by decide +kernel
theorem dX10_seenShare_77 : decode cX10_seenShare 77 = .ok (.fdiv, 1) := by decide +kernel
theorem dX10_seenShare_78 : decode cX10_seenShare 78 = .ok (.freturn, 1) := by decide +kernel
theorem dX10_feed_0 : decode cX10_feed 0 = .ok (.aload_n 0, 1) := by decide +kernel
theorem dX10_feed_1 : decode cX10_feed 1 = .ok (.getfield 47, 3) := by decide +kernel
theorem dX10_feed_4 : decode cX10_feed 4 = .ok (.getfield 305, 3) := by decide +kernel
theorem dX10_feed_7 : decode cX10_feed 7 = .ok (.bipush 60, 2) := by decide +kernel
theorem dX10_feed_9 : decode cX10_feed 9 = .ok (.if_icmp .lt 14, 3) := by decide +kernel
theorem dX10_feed_12 : decode cX10_feed 12 = .ok (.new 308, 3) := by decide +kernel
theorem dX10_feed_15 : decode cX10_feed 15 = .ok (.dup, 1) := by decide +kernel
theorem dX10_feed_16 : decode cX10_feed 16 = .ok (.ldc_w 310, 3) := by decide +kernel
theorem dX10_feed_19 : decode cX10_feed 19 = .ok (.invokespecial 312, 3) := by decide +kernel
theorem dX10_feed_22 : decode cX10_feed 22 = .ok (.athrow, 1) := by decide +kernel
theorem dX10_feed_23 : decode cX10_feed 23 = .ok (.aload_n 0, 1) := by decide +kernel
theorem dX10_feed_24 : decode cX10_feed 24 = .ok (.getfield 47, 3) := by decide +kernel
theorem dX10_feed_27 : decode cX10_feed 27 = .ok (.getfield 313, 3) := by decide +kernel
theorem dX10_feed_30 : decode cX10_feed 30 = .ok (.aload_n 0, 1) := by decide +kernel
theorem dX10_feed_31 : decode cX10_feed 31 = .ok (.getfield 47, 3) := by decide +kernel
theorem dX10_feed_34 : decode cX10_feed 34 = .ok (.getfield 305, 3) := by decide +kernel
theorem dX10_feed_37 : decode cX10_feed 37 = .ok (.iload_n 1, 1) := by decide +kernel
theorem dX10_feed_38 : decode cX10_feed 38 = .ok (.castore, 1) := by decide +kernel
theorem dX10_feed_39 : decode cX10_feed 39 = .ok (.aload_n 0, 1) := by decide +kernel
theorem dX10_feed_40 : decode cX10_feed 40 = .ok (.getfield 47, 3) := by decide +kernel
theorem dX10_feed_43 : decode cX10_feed 43 = .ok (.dup, 1) := by decide +kernel
theorem dX10_feed_44 : decode cX10_feed 44 = .ok (.getfield 305, 3) := by decide +kernel
theorem dX10_feed_47 : decode cX10_feed 47 = .ok (.iconst 1, 1) := by decide +kernel
theorem dX10_feed_48 : decode cX10_feed 48 = .ok (.iadd, 1) := by decide +kernel
theorem dX10_feed_49 : decode cX10_feed 49 = .ok (.putfield 305, 3) := by decide +kernel
theorem dX10_feed_52 : decode cX10_feed 52 = .ok (.aload_n 0, 1) := by decide +kernel
theorem dX10_feed_53 : decode cX10_feed 53 = .ok (.getfield 47, 3) := by decide +kernel
theorem dX10_feed_56 : decode cX10_feed 56 = .ok (.getfield 305, 3) := by decide +kernel
theorem dX10_feed_59 : decode cX10_feed 59 = .ok (.ireturn, 1) := by decide +kernel
theorem dX10_execute_0 : decode cX10_execute 0 = .ok (.aload_n 0, 1) := by decide +kernel
theorem dX10_execute_1 : decode cX10_execute 1 = .ok (.getfield 47, 3) := by decide +kernel
theorem dX10_execute_4 : decode cX10_execute 4 = .ok (.invokevirtual 317, 3) := by decide +kernel
theorem dX10_execute_7 : decode cX10_execute 7 = .ok (.istore_n 1, 1) := by decide +kernel
theorem dX10_execute_8 : decode cX10_execute 8 = .ok (.aload_n 0, 1) := by decide +kernel
theorem dX10_execute_9 : decode cX10_execute 9 = .ok (.getfield 47, 3) := by decide +kernel
theorem dX10_execute_12 : decode cX10_execute 12 = .ok (.iconst 0, 1) := by decide +kernel
theorem dX10_execute_13 : decode cX10_execute 13 = .ok (.putfield 305, 3) := by decide +kernel
theorem dX10_execute_16 : decode cX10_execute 16 = .ok (.iload_n 1, 1) := by decide +kernel
theorem dX10_execute_17 : decode cX10_execute 17 = .ok (.iconst (-1), 1) := by decide +kernel
theorem dX10_execute_18 : decode cX10_execute 18 = .ok (.if_icmp .eq 19, 3) := by decide +kernel
theorem dX10_execute_21 : decode cX10_execute 21 = .ok (.aload_n 0, 1) := by decide +kernel
theorem dX10_execute_22 : decode cX10_execute 22 = .ok (.iload_n 1, 1) := by decide +kernel
theorem dX10_execute_23 : decode cX10_execute 23 = .ok (.putfield 51, 3) := by decide +kernel
theorem dX10_execute_26 : decode cX10_execute 26 = .ok (.new 321, 3) := by decide +kernel
theorem dX10_execute_29 : decode cX10_execute 29 = .ok (.dup, 1) := by decide +kernel
theorem dX10_execute_30 : decode cX10_execute 30 = .ok (.ldc_w 323, 3) := by decide +kernel
theorem dX10_execute_33 : decode cX10_execute 33 = .ok (.invokespecial 325, 3) := by decide +kernel
theorem dX10_execute_36 : decode cX10_execute 36 = .ok (.athrow, 1) := by decide +kernel
theorem dX10_execute_37 : decode cX10_execute 37 = .ok (.aload_n 0, 1) := by decide +kernel
theorem dX10_execute_38 : decode cX10_execute 38 = .ok (.getfield 22, 3) := by decide +kernel
theorem dX10_execute_41 : decode cX10_execute 41 = .ok (.aload_n 0, 1) := by decide +kernel
theorem dX10_execute_42 : decode cX10_execute 42 = .ok (.getfield 12, 3) := by decide +kernel
theorem dX10_execute_45 : decode cX10_execute 45 = .ok (.invokevirtual 62, 3) := by decide +kernel
theorem dX10_execute_48 : decode cX10_execute 48 = .ok (.iconst 0, 1) := by decide +kernel
theorem dX10_execute_49 : decode cX10_execute 49 = .ok (.istore_n 2, 1) := by decide +kernel
theorem dX10_execute_50 : decode cX10_execute 50 = .ok (.iload_n 2, 1) := by decide +kernel
theorem dX10_execute_51 : decode cX10_execute 51 = .ok (.aload_n 0, 1) := by decide +kernel
theorem dX10_execute_52 : decode cX10_execute 52 = .ok (.getfield 47, 3) := by decide +kernel
theorem dX10_execute_55 : decode cX10_execute 55 = .ok (.getfield 326, 3) := by decide +kernel
theorem dX10_execute_58 : decode cX10_execute 58 = .ok (.if_icmp .ge 75, 3) := by decide +kernel
theorem dX10_execute_61 : decode cX10_execute 61 = .ok (.aload_n 0, 1) := by decide +kernel
theorem dX10_execute_62 : decode cX10_execute 62 = .ok (.aload_n 0, 1) := by decide +kernel
theorem dX10_execute_63 : decode cX10_execute 63 = .ok (.getfield 47, 3) := by decide +kernel
theorem dX10_execute_66 : decode cX10_execute 66 = .ok (.getfield 329, 3) := by decide +kernel
theorem dX10_execute_69 : decode cX10_execute 69 = .ok (.iload_n 2, 1) := by decide +kernel
theorem dX10_execute_70 : decode cX10_execute 70 = .ok (.aaload, 1) := by decide +kernel
theorem dX10_execute_71 : decode cX10_execute 71 = .ok (.invokevirtual 333, 3) := by decide +kernel
theorem dX10_execute_74 : decode cX10_execute 74 = .ok (.istore_n 3, 1) := by decide +kernel
theorem dX10_execute_75 : decode cX10_execute 75 = .ok (.iload_n 3, 1) := by decide +kernel
theorem dX10_execute_76 : decode cX10_execute 76 = .ok (.ifCond .ge 51, 3) := by decide +kernel
theorem dX10_execute_79 : decode cX10_execute 79 = .ok (.aload_n 0, 1) := by decide +kernel
theorem dX10_execute_80 : decode cX10_execute 80 = .ok (.getfield 22, 3) := by decide +kernel
theorem dX10_execute_83 : decode cX10_execute 83 = .ok (.aload_n 0, 1) := by decide +kernel
theorem dX10_execute_84 : decode cX10_execute 84 = .ok (.getfield 12, 3) := by decide +kernel
theorem dX10_execute_87 : decode cX10_execute 87 = .ok (.invokevirtual 337, 3) := by decide +kernel
theorem dX10_execute_90 : decode cX10_execute 90 = .ok (.iload_n 3, 1) := by decide +kernel
theorem dX10_execute_91 : decode cX10_execute 91 = .ok (.bipush (-3), 2) := by decide +kernel
theorem dX10_execute_93 : decode cX10_execute 93 = .ok (.if_icmp .ne 10, 3) := by decide +kernel
theorem dX10_execute_96 : decode cX10_execute 96 = .ok (.aload_n 0, 1) := by decide +kernel
theorem dX10_execute_97 : decode cX10_execute 97 = .ok (.getfield 340, 3) := by decide +kernel
theorem dX10_execute_100 : decode cX10_execute 100 = .ok (.goto 5, 3) := by decide +kernel
theorem dX10_execute_103 : decode cX10_execute 103 = .ok (.bipush 9, 2) := by decide +kernel
theorem dX10_execute_105 : decode cX10_execute 105 = .ok (.istore 4, 2) := by decide +kernel
theorem dX10_execute_107 : decode cX10_execute 107 = .ok (.aload_n 0, 1) := by decide +kernel
theorem dX10_execute_108 : decode cX10_execute 108 = .ok (.bipush 8, 2) := by decide +kernel
theorem dX10_execute_110 : decode cX10_execute 110 = .ok (.iload_n 2, 1) := by decide +kernel
theorem dX10_execute_111 : decode cX10_execute 111 = .ok (.iload 4, 2) := by decide +kernel
theorem dX10_execute_113 : decode cX10_execute 113 = .ok (.invokevirtual 343, 3) := by decide +kernel
theorem dX10_execute_116 : decode cX10_execute 116 = .ok (.new 347, 3) := by decide +kernel
theorem dX10_execute_119 : decode cX10_execute 119 = .ok (.dup, 1) := by decide +kernel
theorem dX10_execute_120 : decode cX10_execute 120 = .ok (.ldc_w 349, 3) := by decide +kernel
theorem dX10_execute_123 : decode cX10_execute 123 = .ok (.invokespecial 351, 3) := by decide +kernel
theorem dX10_execute_126 : decode cX10_execute 126 = .ok (.athrow, 1) := by decide +kernel
theorem dX10_execute_127 : decode cX10_execute 127 = .ok (.iinc 2 1, 3) := by decide +kernel
theorem dX10_execute_130 : decode cX10_execute 130 = .ok (.goto (-80), 3) := by decide +kernel
theorem dX10_execute_133 : decode cX10_execute 133 = .ok (.aload_n 0, 1) := by decide +kernel
theorem dX10_execute_134 : decode cX10_execute 134 = .ok (.getfield 22, 3) := by decide +kernel
theorem dX10_execute_137 : decode cX10_execute 137 = .ok (.invokevirtual 352, 3) := by decide +kernel
theorem dX10_execute_140 : decode cX10_execute 140 = .ok (.aload_n 0, 1) := by decide +kernel
theorem dX10_execute_141 : decode cX10_execute 141 = .ok (.getfield 47, 3) := by decide +kernel
theorem dX10_execute_144 : decode cX10_execute 144 = .ok (.getfield 326, 3) := by decide +kernel
theorem dX10_execute_147 : decode cX10_execute 147 = .ok (.ireturn, 1) := by decide +kernel
theorem dX10_writeShip_0 : decode cX10_writeShip 0 = .ok (.aload_n 0, 1) := by decide +kernel
theorem dX10_writeShip_1 : decode cX10_writeShip 1 = .ok (.iload_n 1, 1) := by decide +kernel
theorem dX10_writeShip_2 : decode cX10_writeShip 2 = .ok (.invokevirtual 225, 3) := by decide +kernel
theorem dX10_writeShip_5 : decode cX10_writeShip 5 = .ok (.astore_n 2, 1) := by decide +kernel
theorem dX10_writeShip_6 : decode cX10_writeShip 6 = .ok (.aload_n 0, 1) := by decide +kernel
theorem dX10_writeShip_7 : decode cX10_writeShip 7 = .ok (.getfield 58, 3) := by decide +kernel
theorem dX10_writeShip_10 : decode cX10_writeShip 10 = .ok (.iconst 0, 1) := by decide +kernel
theorem dX10_writeShip_11 : decode cX10_writeShip 11 = .ok (.invokevirtual 362, 3) := by decide +kernel
theorem dX10_writeShip_14 : decode cX10_writeShip 14 = .ok (.aload_n 0, 1) := by decide +kernel
theorem dX10_writeShip_15 : decode cX10_writeShip 15 = .ok (.getfield 58, 3) := by decide +kernel
theorem dX10_writeShip_18 : decode cX10_writeShip 18 = .ok (.aload_n 2, 1) := by decide +kernel
theorem dX10_writeShip_19 : decode cX10_writeShip 19 = .ok (.getfield 229, 3) := by decide +kernel
theorem dX10_writeShip_22 : decode cX10_writeShip 22 = .ok (.invokestatic 93, 3) := by decide +kernel
theorem dX10_writeShip_25 : decode cX10_writeShip 25 = .ok (.invokevirtual 375, 3) := by decide +kernel
theorem dX10_writeShip_28 : decode cX10_writeShip 28 = .ok (.aload_n 2, 1) := by decide +kernel
theorem dX10_writeShip_29 : decode cX10_writeShip 29 = .ok (.getfield 229, 3) := by decide +kernel
theorem dX10_writeShip_32 : decode cX10_writeShip 32 = .ok (.invokestatic 96, 3) := by decide +kernel
theorem dX10_writeShip_35 : decode cX10_writeShip 35 = .ok (.invokevirtual 375, 3) := by decide +kernel
theorem dX10_writeShip_38 : decode cX10_writeShip 38 = .ok (.pop, 1) := by decide +kernel
theorem dX10_writeShip_39 : decode cX10_writeShip 39 = .ok (.aload_n 0, 1) := by decide +kernel
theorem dX10_writeShip_40 : decode cX10_writeShip 40 = .ok (.getfield 58, 3) := by decide +kernel
theorem dX10_writeShip_43 : decode cX10_writeShip 43 = .ok (.bipush 100, 2) := by decide +kernel
theorem dX10_writeShip_45 : decode cX10_writeShip 45 = .ok (.invokevirtual 369, 3) := by decide +kernel
theorem dX10_writeShip_48 : decode cX10_writeShip 48 = .ok (.aload_n 2, 1) := by decide +kernel
theorem dX10_writeShip_49 : decode cX10_writeShip 49 = .ok (.getfield 246, 3) := by decide +kernel
theorem dX10_writeShip_52 : decode cX10_writeShip 52 = .ok (.invokevirtual 375, 3) := by decide +kernel
theorem dX10_writeShip_55 : decode cX10_writeShip 55 = .ok (.pop, 1) := by decide +kernel
theorem dX10_writeShip_56 : decode cX10_writeShip 56 = .ok (.aload_n 2, 1) := by decide +kernel
theorem dX10_writeShip_57 : decode cX10_writeShip 57 = .ok (.getfield 236, 3) := by decide +kernel
theorem dX10_writeShip_60 : decode cX10_writeShip 60 = .ok (.ifCond .eq 13, 3) := by decide +kernel
theorem dX10_writeShip_63 : decode cX10_writeShip 63 = .ok (.aload_n 0, 1) := by decide +kernel
theorem dX10_writeShip_64 : decode cX10_writeShip 64 = .ok (.getfield 58, 3) := by decide +kernel
theorem dX10_writeShip_67 : decode cX10_writeShip 67 = .ok (.bipush 33, 2) := by decide +kernel
theorem dX10_writeShip_69 : decode cX10_writeShip 69 = .ok (.invokevirtual 369, 3) := by decide +kernel
theorem dX10_writeShip_72 : decode cX10_writeShip 72 = .ok (.pop, 1) := by decide +kernel
theorem dX10_writeShip_73 : decode cX10_writeShip 73 = .ok (.aload_n 2, 1) := by decide +kernel
theorem dX10_writeShip_74 : decode cX10_writeShip 74 = .ok (.getfield 378, 3) := by decide +kernel
theorem dX10_writeShip_77 : decode cX10_writeShip 77 = .ok (.iconst (-1), 1) := by decide +kernel
theorem dX10_writeShip_78 : decode cX10_writeShip 78 = .ok (.if_icmp .eq 33, 3) := by decide +kernel
theorem dX10_writeShip_81 : decode cX10_writeShip 81 = .ok (.aload_n 0, 1) := by decide +kernel
theorem dX10_writeShip_82 : decode cX10_writeShip 82 = .ok (.getfield 58, 3) := by decide +kernel
theorem dX10_writeShip_85 : decode cX10_writeShip 85 = .ok (.bipush 62, 2) := by decide +kernel
theorem dX10_writeShip_87 : decode cX10_writeShip 87 = .ok (.invokevirtual 369, 3) := by decide +kernel
theorem dX10_writeShip_90 : decode cX10_writeShip 90 = .ok (.aload_n 2, 1) := by decide +kernel
theorem dX10_writeShip_91 : decode cX10_writeShip 91 = .ok (.getfield 378, 3) := by decide +kernel
theorem dX10_writeShip_94 : decode cX10_writeShip 94 = .ok (.invokestatic 93, 3) := by decide +kernel
theorem dX10_writeShip_97 : decode cX10_writeShip 97 = .ok (.invokevirtual 375, 3) := by decide +kernel
theorem dX10_writeShip_100 : decode cX10_writeShip 100 = .ok (.aload_n 2, 1) := by decide +kernel
theorem dX10_writeShip_101 : decode cX10_writeShip 101 = .ok (.getfield 378, 3) := by decide +kernel
theorem dX10_writeShip_104 : decode cX10_writeShip 104 = .ok (.invokestatic 96, 3) := by decide +kernel
theorem dX10_writeShip_107 : decode cX10_writeShip 107 = .ok (.invokevirtual 375, 3) := by decide +kernel
theorem dX10_writeShip_110 : decode cX10_writeShip 110 = .ok (.pop, 1) := by decide +kernel
theorem dX10_writeShip_111 : decode cX10_writeShip 111 = .ok (.aload_n 0, 1) := by decide +kernel
theorem dX10_writeShip_112 : decode cX10_writeShip 112 = .ok (.getfield 58, 3) := by decide +kernel
theorem dX10_writeShip_115 : decode cX10_writeShip 115 = .ok (.bipush 126, 2) := by decide +kernel
theorem dX10_writeShip_117 : decode cX10_writeShip 117 = .ok (.invokevirtual 369, 3) := by decide +kernel
theorem dX10_writeShip_120 : decode cX10_writeShip 120 = .ok (.aload_n 2, 1) := by decide +kernel
theorem dX10_writeShip_121 : decode cX10_writeShip 121 = .ok (.getfield 243, 3) := by decide +kernel
theorem dX10_writeShip_124 : decode cX10_writeShip 124 = .ok (.invokevirtual 375, 3) := by decide +kernel
theorem dX10_writeShip_127 : decode cX10_writeShip 127 = .ok (.pop, 1) := by decide +kernel
theorem dX10_writeShip_128 : decode cX10_writeShip 128 = .ok (.aload_n 0, 1) := by decide +kernel
theorem dX10_writeShip_129 : decode cX10_writeShip 129 = .ok (.getfield 58, 3) := by decide +kernel
theorem dX10_writeShip_132 : decode cX10_writeShip 132 = .ok (.invokevirtual 373, 3) := by decide +kernel
theorem dX10_writeShip_135 : decode cX10_writeShip 135 = .ok (.ireturn, 1) := by decide +kernel
theorem dX10_denial_0 : decode cX10_denial 0 = .ok (.aload_n 0, 1) := by decide +kernel
theorem dX10_denial_1 : decode cX10_denial 1 = .ok (.getfield 340, 3) := by decide +kernel
theorem dX10_denial_4 : decode cX10_denial 4 = .ok (.ifCond .ne 14, 3) := by decide +kernel
theorem dX10_denial_7 : decode cX10_denial 7 = .ok (.new 140, 3) := by decide +kernel
theorem dX10_denial_10 : decode cX10_denial 10 = .ok (.dup, 1) := by decide +kernel
theorem dX10_denial_11 : decode cX10_denial 11 = .ok (.ldc_w 386, 3) := by decide +kernel
theorem dX10_denial_14 : decode cX10_denial 14 = .ok (.invokespecial 144, 3) := by decide +kernel
theorem dX10_denial_17 : decode cX10_denial 17 = .ok (.athrow, 1) := by decide +kernel
theorem dX10_denial_18 : decode cX10_denial 18 = .ok (.aload_n 0, 1) := by decide +kernel
theorem dX10_denial_19 : decode cX10_denial 19 = .ok (.getfield 340, 3) := by decide +kernel
theorem dX10_denial_22 : decode cX10_denial 22 = .ok (.ireturn, 1) := by decide +kernel
theorem dX10_denialCause_0 : decode cX10_denialCause 0 = .ok (.aload_n 0, 1) := by decide +kernel
theorem dX10_denialCause_1 : decode cX10_denialCause 1 = .ok (.getfield 391, 3) := by decide +kernel
theorem dX10_denialCause_4 : decode cX10_denialCause 4 = .ok (.ifCond .ne 14, 3) := by decide +kernel
theorem dX10_denialCause_7 : decode cX10_denialCause 7 = .ok (.new 140, 3) := by decide +kernel
theorem dX10_denialCause_10 : decode cX10_denialCause 10 = .ok (.dup, 1) := by decide +kernel
theorem dX10_denialCause_11 : decode cX10_denialCause 11 = .ok (.ldc_w 394, 3) := by decide +kernel
theorem dX10_denialCause_14 : decode cX10_denialCause 14 = .ok (.invokespecial 144, 3) := by decide +kernel
theorem dX10_denialCause_17 : decode cX10_denialCause 17 = .ok (.athrow, 1) := by decide +kernel
theorem dX10_denialCause_18 : decode cX10_denialCause 18 = .ok (.aload_n 0, 1) := by decide +kernel
theorem dX10_denialCause_19 : decode cX10_denialCause 19 = .ok (.getfield 391, 3) := by decide +kernel
theorem dX10_denialCause_22 : decode cX10_denialCause 22 = .ok (.ireturn, 1) := by decide +kernel
theorem dX10_undo_0 : decode cX10_undo 0 = .ok (.aload_n 0, 1) := by decide +kernel
theorem dX10_undo_1 : decode cX10_undo 1 = .ok (.getfield 22, 3) := by decide +kernel
theorem dX10_undo_4 : decode cX10_undo 4 = .ok (.getfield 396, 3) := by decide +kernel
theorem dX10_undo_7 : decode cX10_undo 7 = .ok (.ifCond .ne 14, 3) := by decide +kernel
theorem dX10_undo_10 : decode cX10_undo 10 = .ok (.new 308, 3) := by decide +kernel
theorem dX10_undo_13 : decode cX10_undo 13 = .ok (.dup, 1) := by decide +kernel
theorem dX10_undo_14 : decode cX10_undo 14 = .ok (.ldc_w 397, 3) := by decide +kernel
theorem dX10_undo_17 : decode cX10_undo 17 = .ok (.invokespecial 312, 3) := by decide +kernel
theorem dX10_undo_20 : decode cX10_undo 20 = .ok (.athrow, 1) := by decide +kernel
theorem dX10_undo_21 : decode cX10_undo 21 = .ok (.aload_n 0, 1) := by decide +kernel
theorem dX10_undo_22 : decode cX10_undo 22 = .ok (.getfield 22, 3) := by decide +kernel
theorem dX10_undo_25 : decode cX10_undo 25 = .ok (.aload_n 0, 1) := by decide +kernel
theorem dX10_undo_26 : decode cX10_undo 26 = .ok (.getfield 12, 3) := by decide +kernel
theorem dX10_undo_29 : decode cX10_undo 29 = .ok (.invokevirtual 399, 3) := by decide +kernel
theorem dX10_undo_32 : decode cX10_undo 32 = .ok (.aload_n 0, 1) := by decide +kernel
theorem dX10_undo_33 : decode cX10_undo 33 = .ok (.getfield 22, 3) := by decide +kernel
theorem dX10_undo_36 : decode cX10_undo 36 = .ok (.getfield 396, 3) := by decide +kernel
theorem dX10_undo_39 : decode cX10_undo 39 = .ok (.ireturn, 1) := by decide +kernel
theorem dX10_undoCount_0 : decode cX10_undoCount 0 = .ok (.aload_n 0, 1) := by decide +kernel
theorem dX10_undoCount_1 : decode cX10_undoCount 1 = .ok (.getfield 22, 3) := by decide +kernel
theorem dX10_undoCount_4 : decode cX10_undoCount 4 = .ok (.getfield 396, 3) := by decide +kernel
theorem dX10_undoCount_7 : decode cX10_undoCount 7 = .ok (.ireturn, 1) := by decide +kernel
theorem dX10_saveSnapshot_0 : decode cX10_saveSnapshot 0 = .ok (.aload_n 0, 1) := by decide +kernel
theorem dX10_saveSnapshot_1 : decode cX10_saveSnapshot 1 = .ok (.getfield 16, 3) := by decide +kernel
theorem dX10_saveSnapshot_4 : decode cX10_saveSnapshot 4 = .ok (.aload_n 0, 1) := by decide +kernel
theorem dX10_saveSnapshot_5 : decode cX10_saveSnapshot 5 = .ok (.getfield 12, 3) := by decide +kernel
theorem dX10_saveSnapshot_8 : decode cX10_saveSnapshot 8 = .ok (.invokevirtual 402, 3) := by decide +kernel
theorem dX10_saveSnapshot_11 : decode cX10_saveSnapshot 11 = .ok (.aload_n 0, 1) := by decide +kernel
theorem dX10_saveSnapshot_12 : decode cX10_saveSnapshot 12 = .ok (.iconst 1, 1) := by decide +kernel
theorem dX10_saveSnapshot_13 : decode cX10_saveSnapshot 13 = .ok (.putfield 405, 3) := by decide +kernel
theorem dX10_saveSnapshot_16 : decode cX10_saveSnapshot 16 = .ok (.aload_n 0, 1) := by decide +kernel
theorem dX10_saveSnapshot_17 : decode cX10_saveSnapshot 17 = .ok (.getfield 12, 3) := by decide +kernel
theorem dX10_saveSnapshot_20 : decode cX10_saveSnapshot 20 = .ok (.getfield 222, 3) := by decide +kernel
theorem dX10_saveSnapshot_23 : decode cX10_saveSnapshot 23 = .ok (.ireturn, 1) := by decide +kernel
theorem dX10_restoreSnapshot_0 : decode cX10_restoreSnapshot 0 = .ok (.aload_n 0, 1) := by decide +kernel
theorem dX10_restoreSnapshot_1 : decode cX10_restoreSnapshot 1 = .ok (.getfield 405, 3) := by decide +kernel
theorem dX10_restoreSnapshot_4 : decode cX10_restoreSnapshot 4 = .ok (.ifCond .ne 14, 3) := by decide +kernel
theorem dX10_restoreSnapshot_7 : decode cX10_restoreSnapshot 7 = .ok (.new 308, 3) := by decide +kernel
theorem dX10_restoreSnapshot_10 : decode cX10_restoreSnapshot 10 = .ok (.dup, 1) := by decide +kernel
theorem dX10_restoreSnapshot_11 : decode cX10_restoreSnapshot 11 = .ok (.ldc_w 408, 3) := by decide +kernel
theorem dX10_restoreSnapshot_14 : decode cX10_restoreSnapshot 14 = .ok (.invokespecial 312, 3) := by decide +kernel
theorem dX10_restoreSnapshot_17 : decode cX10_restoreSnapshot 17 = .ok (.athrow, 1) := by decide +kernel
theorem dX10_restoreSnapshot_18 : decode cX10_restoreSnapshot 18 = .ok (.aload_n 0, 1) := by decide +kernel
theorem dX10_restoreSnapshot_19 : decode cX10_restoreSnapshot 19 = .ok (.getfield 12, 3) := by decide +kernel
theorem dX10_restoreSnapshot_22 : decode cX10_restoreSnapshot 22 = .ok (.aload_n 0, 1) := by decide +kernel
theorem dX10_restoreSnapshot_23 : decode cX10_restoreSnapshot 23 = .ok (.getfield 16, 3) := by decide +kernel
theorem dX10_restoreSnapshot_26 : decode cX10_restoreSnapshot 26 = .ok (.invokevirtual 402, 3) := by decide +kernel
theorem dX10_restoreSnapshot_29 : decode cX10_restoreSnapshot 29 = .ok (.aload_n 0, 1) := by decide +kernel
theorem dX10_restoreSnapshot_30 : decode cX10_restoreSnapshot 30 = .ok (.getfield 22, 3) := by decide +kernel
theorem dX10_restoreSnapshot_33 : decode cX10_restoreSnapshot 33 = .ok (.iconst 0, 1) := by decide +kernel
theorem dX10_restoreSnapshot_34 : decode cX10_restoreSnapshot 34 = .ok (.putfield 396, 3) := by decide +kernel
theorem dX10_restoreSnapshot_37 : decode cX10_restoreSnapshot 37 = .ok (.aload_n 0, 1) := by decide +kernel
theorem dX10_restoreSnapshot_38 : decode cX10_restoreSnapshot 38 = .ok (.getfield 12, 3) := by decide +kernel
theorem dX10_restoreSnapshot_41 : decode cX10_restoreSnapshot 41 = .ok (.getfield 222, 3) := by decide +kernel
theorem dX10_restoreSnapshot_44 : decode cX10_restoreSnapshot 44 = .ok (.ireturn, 1) := by decide +kernel
theorem dX10_changeDepth_0 : decode cX10_changeDepth 0 = .ok (.iload_n 1, 1) := by decide +kernel
theorem dX10_changeDepth_1 : decode cX10_changeDepth 1 = .ok (.iload_n 2, 1) := by decide +kernel
theorem dX10_changeDepth_2 : decode cX10_changeDepth 2 = .ok (.invokestatic 410, 3) := by decide +kernel
theorem dX10_changeDepth_5 : decode cX10_changeDepth 5 = .ok (.ifCond .ne 5, 3) := by decide +kernel
theorem dX10_changeDepth_8 : decode cX10_changeDepth 8 = .ok (.iconst (-1), 1) := by decide +kernel
theorem dX10_changeDepth_9 : decode cX10_changeDepth 9 = .ok (.ireturn, 1) := by decide +kernel
theorem dX10_changeDepth_10 : decode cX10_changeDepth 10 = .ok (.iload_n 3, 1) := by decide +kernel
theorem dX10_changeDepth_11 : decode cX10_changeDepth 11 = .ok (.ifCond .lt 9, 3) := by decide +kernel
theorem dX10_changeDepth_14 : decode cX10_changeDepth 14 = .ok (.iload_n 3, 1) := by decide +kernel
theorem dX10_changeDepth_15 : decode cX10_changeDepth 15 = .ok (.bipush 9, 2) := by decide +kernel
theorem dX10_changeDepth_17 : decode cX10_changeDepth 17 = .ok (.if_icmp .le 6, 3) := by decide +kernel
theorem dX10_changeDepth_20 : decode cX10_changeDepth 20 = .ok (.bipush (-2), 2) := by decide +kernel
theorem dX10_changeDepth_22 : decode cX10_changeDepth 22 = .ok (.ireturn, 1) := by decide +kernel
theorem dX10_changeDepth_23 : decode cX10_changeDepth 23 = .ok (.iload_n 2, 1) := by decide +kernel
theorem dX10_changeDepth_24 : decode cX10_changeDepth 24 = .ok (.bipush 8, 2) := by decide +kernel
theorem dX10_changeDepth_26 : decode cX10_changeDepth 26 = .ok (.imul, 1) := by decide +kernel
theorem dX10_changeDepth_27 : decode cX10_changeDepth 27 = .ok (.iload_n 1, 1) := by decide +kernel
theorem dX10_changeDepth_28 : decode cX10_changeDepth 28 = .ok (.iadd, 1) := by decide +kernel
theorem dX10_changeDepth_29 : decode cX10_changeDepth 29 = .ok (.istore 4, 2) := by decide +kernel
theorem dX10_changeDepth_31 : decode cX10_changeDepth 31 = .ok (.aload_n 0, 1) := by decide +kernel
theorem dX10_changeDepth_32 : decode cX10_changeDepth 32 = .ok (.getfield 12, 3) := by decide +kernel
theorem dX10_changeDepth_35 : decode cX10_changeDepth 35 = .ok (.getfield 290, 3) := by decide +kernel
theorem dX10_changeDepth_38 : decode cX10_changeDepth 38 = .ok (.iload 4, 2) := by decide +kernel
theorem dX10_changeDepth_40 : decode cX10_changeDepth 40 = .ok (.iaload, 1) := by decide +kernel
theorem dX10_changeDepth_41 : decode cX10_changeDepth 41 = .ok (.istore 5, 2) := by decide +kernel
theorem dX10_changeDepth_43 : decode cX10_changeDepth 43 = .ok (.iload 5, 2) := by decide +kernel
theorem dX10_changeDepth_45 : decode cX10_changeDepth 45 = .ok (.iload_n 3, 1) := by decide +kernel
theorem dX10_changeDepth_46 : decode cX10_changeDepth 46 = .ok (.if_icmp .ne 11, 3) := by decide +kernel
theorem dX10_changeDepth_49 : decode cX10_changeDepth 49 = .ok (.aload_n 0, 1) := by decide +kernel
theorem dX10_changeDepth_50 : decode cX10_changeDepth 50 = .ok (.bipush 7, 2) := by decide +kernel
theorem dX10_changeDepth_52 : decode cX10_changeDepth 52 = .ok (.iload_n 3, 1) := by decide +kernel
theorem dX10_changeDepth_53 : decode cX10_changeDepth 53 = .ok (.invokevirtual 414, 3) := by decide +kernel
theorem dX10_changeDepth_56 : decode cX10_changeDepth 56 = .ok (.ireturn, 1) := by decide +kernel
theorem dX10_changeDepth_57 : decode cX10_changeDepth 57 = .ok (.aload_n 0, 1) := by decide +kernel
theorem dX10_changeDepth_58 : decode cX10_changeDepth 58 = .ok (.getfield 12, 3) := by decide +kernel
theorem dX10_changeDepth_61 : decode cX10_changeDepth 61 = .ok (.getfield 290, 3) := by decide +kernel
theorem dX10_changeDepth_64 : decode cX10_changeDepth 64 = .ok (.iload 4, 2) := by decide +kernel
theorem dX10_changeDepth_66 : decode cX10_changeDepth 66 = .ok (.iload_n 3, 1) := by decide +kernel
theorem dX10_changeDepth_67 : decode cX10_changeDepth 67 = .ok (.iastore, 1) := by decide +kernel
theorem dX10_changeDepth_68 : decode cX10_changeDepth 68 = .ok (.iload 5, 2) := by decide +kernel
theorem dX10_changeDepth_70 : decode cX10_changeDepth 70 = .ok (.ireturn, 1) := by decide +kernel
theorem dX10_placeLight_0 : decode cX10_placeLight 0 = .ok (.iload_n 1, 1) := by decide +kernel
theorem dX10_placeLight_1 : decode cX10_placeLight 1 = .ok (.iload_n 2, 1) := by decide +kernel
theorem dX10_placeLight_2 : decode cX10_placeLight 2 = .ok (.invokestatic 410, 3) := by decide +kernel
theorem dX10_placeLight_5 : decode cX10_placeLight 5 = .ok (.ifCond .ne 5, 3) := by decide +kernel
theorem dX10_placeLight_8 : decode cX10_placeLight 8 = .ok (.iconst (-1), 1) := by decide +kernel
theorem dX10_placeLight_9 : decode cX10_placeLight 9 = .ok (.ireturn, 1) := by decide +kernel
theorem dX10_placeLight_10 : decode cX10_placeLight 10 = .ok (.iload_n 3, 1) := by decide +kernel
theorem dX10_placeLight_11 : decode cX10_placeLight 11 = .ok (.iconst 1, 1) := by decide +kernel
theorem dX10_placeLight_12 : decode cX10_placeLight 12 = .ok (.if_icmp .lt 23, 3) := by decide +kernel
theorem dX10_placeLight_15 : decode cX10_placeLight 15 = .ok (.iload_n 3, 1) := by decide +kernel
theorem dX10_placeLight_16 : decode cX10_placeLight 16 = .ok (.bipush 9, 2) := by decide +kernel
theorem dX10_placeLight_18 : decode cX10_placeLight 18 = .ok (.if_icmp .gt 17, 3) := by decide +kernel
theorem dX10_placeLight_21 : decode cX10_placeLight 21 = .ok (.iload 4, 2) := by decide +kernel
theorem dX10_placeLight_23 : decode cX10_placeLight 23 = .ok (.bipush 8, 2) := by decide +kernel
theorem dX10_placeLight_25 : decode cX10_placeLight 25 = .ok (.if_icmp .lt 10, 3) := by decide +kernel
theorem dX10_placeLight_28 : decode cX10_placeLight 28 = .ok (.iload 4, 2) := by decide +kernel
theorem dX10_placeLight_30 : decode cX10_placeLight 30 = .ok (.bipush 24, 2) := by decide +kernel
theorem dX10_placeLight_32 : decode cX10_placeLight 32 = .ok (.if_icmp .le 6, 3) := by decide +kernel
theorem dX10_placeLight_35 : decode cX10_placeLight 35 = .ok (.bipush (-2), 2) := by decide +kernel
theorem dX10_placeLight_37 : decode cX10_placeLight 37 = .ok (.ireturn, 1) := by decide +kernel
theorem dX10_placeLight_38 : decode cX10_placeLight 38 = .ok (.aload_n 0, 1) := by decide +kernel
theorem dX10_placeLight_39 : decode cX10_placeLight 39 = .ok (.getfield 12, 3) := by decide +kernel
theorem dX10_placeLight_42 : decode cX10_placeLight 42 = .ok (.getfield 134, 3) := by decide +kernel
theorem dX10_placeLight_45 : decode cX10_placeLight 45 = .ok (.istore 5, 2) := by decide +kernel
theorem dX10_placeLight_47 : decode cX10_placeLight 47 = .ok (.iload 5, 2) := by decide +kernel
theorem dX10_placeLight_49 : decode cX10_placeLight 49 = .ok (.bipush 6, 2) := by decide +kernel
theorem dX10_placeLight_51 : decode cX10_placeLight 51 = .ok (.if_icmp .lt 11, 3) := by decide +kernel
theorem dX10_placeLight_54 : decode cX10_placeLight 54 = .ok (.aload_n 0, 1) := by decide +kernel
theorem dX10_placeLight_55 : decode cX10_placeLight 55 = .ok (.iconst 1, 1) := by decide +kernel
theorem dX10_placeLight_56 : decode cX10_placeLight 56 = .ok (.bipush 6, 2) := by decide +kernel
theorem dX10_placeLight_58 : decode cX10_placeLight 58 = .ok (.invokevirtual 414, 3) := by decide +kernel
theorem dX10_placeLight_61 : decode cX10_placeLight 61 = .ok (.ireturn, 1) := by decide +kernel
theorem dX10_placeLight_62 : decode cX10_placeLight 62 = .ok (.iload_n 2, 1) := by decide +kernel
theorem dX10_placeLight_63 : decode cX10_placeLight 63 = .ok (.bipush 8, 2) := by decide +kernel
theorem dX10_placeLight_65 : decode cX10_placeLight 65 = .ok (.imul, 1) := by decide +kernel
theorem dX10_placeLight_66 : decode cX10_placeLight 66 = .ok (.iload_n 1, 1) := by decide +kernel
theorem dX10_placeLight_67 : decode cX10_placeLight 67 = .ok (.iadd, 1) := by decide +kernel
theorem dX10_placeLight_68 : decode cX10_placeLight 68 = .ok (.istore 6, 2) := by decide +kernel
theorem dX10_placeLight_70 : decode cX10_placeLight 70 = .ok (.aload_n 0, 1) := by decide +kernel
theorem dX10_placeLight_71 : decode cX10_placeLight 71 = .ok (.getfield 12, 3) := by decide +kernel
theorem dX10_placeLight_74 : decode cX10_placeLight 74 = .ok (.iload 6, 2) := by decide +kernel
theorem dX10_placeLight_76 : decode cX10_placeLight 76 = .ok (.invokevirtual 137, 3) := by decide +kernel
theorem dX10_placeLight_79 : decode cX10_placeLight 79 = .ok (.istore 7, 2) := by decide +kernel
theorem dX10_placeLight_81 : decode cX10_placeLight 81 = .ok (.iload 7, 2) := by decide +kernel
theorem dX10_placeLight_83 : decode cX10_placeLight 83 = .ok (.ifCond .lt 11, 3) := by decide +kernel
theorem dX10_placeLight_86 : decode cX10_placeLight 86 = .ok (.aload_n 0, 1) := by decide +kernel
theorem dX10_placeLight_87 : decode cX10_placeLight 87 = .ok (.iconst 2, 1) := by decide +kernel
theorem dX10_placeLight_88 : decode cX10_placeLight 88 = .ok (.iload 7, 2) := by decide +kernel
theorem dX10_placeLight_90 : decode cX10_placeLight 90 = .ok (.invokevirtual 414, 3) := by decide +kernel
theorem dX10_placeLight_93 : decode cX10_placeLight 93 = .ok (.ireturn, 1) := by decide +kernel
theorem dX10_placeLight_94 : decode cX10_placeLight 94 = .ok (.aload_n 0, 1) := by decide +kernel
theorem dX10_placeLight_95 : decode cX10_placeLight 95 = .ok (.getfield 12, 3) := by decide +kernel
theorem dX10_placeLight_98 : decode cX10_placeLight 98 = .ok (.getfield 280, 3) := by decide +kernel
theorem dX10_placeLight_101 : decode cX10_placeLight 101 = .ok (.iload 5, 2) := by decide +kernel
theorem dX10_placeLight_103 : decode cX10_placeLight 103 = .ok (.aaload, 1) := by decide +kernel
theorem dX10_placeLight_104 : decode cX10_placeLight 104 = .ok (.iload 6, 2) := by decide +kernel
theorem dX10_placeLight_106 : decode cX10_placeLight 106 = .ok (.iload_n 3, 1) := by decide +kernel
theorem dX10_placeLight_107 : decode cX10_placeLight 107 = .ok (.iload 4, 2) := by decide +kernel
theorem dX10_placeLight_109 : decode cX10_placeLight 109 = .ok (.invokevirtual 417, 3) := by decide +kernel
theorem dX10_placeLight_112 : decode cX10_placeLight 112 = .ok (.aload_n 0, 1) := by decide +kernel
theorem dX10_placeLight_113 : decode cX10_placeLight 113 = .ok (.getfield 12, 3) := by decide +kernel
theorem dX10_placeLight_116 : decode cX10_placeLight 116 = .ok (.dup, 1) := by decide +kernel
theorem dX10_placeLight_117 : decode cX10_placeLight 117 = .ok (.getfield 134, 3) := by decide +kernel
theorem dX10_placeLight_120 : decode cX10_placeLight 120 = .ok (.iconst 1, 1) := by decide +kernel
theorem dX10_placeLight_121 : decode cX10_placeLight 121 = .ok (.iadd, 1) := by decide +kernel
theorem dX10_placeLight_122 : decode cX10_placeLight 122 = .ok (.putfield 134, 3) := by decide +kernel
theorem dX10_placeLight_125 : decode cX10_placeLight 125 = .ok (.iload 5, 2) := by decide +kernel
theorem dX10_placeLight_127 : decode cX10_placeLight 127 = .ok (.ireturn, 1) := by decide +kernel
theorem dX10_changePhase_0 : decode cX10_changePhase 0 = .ok (.aload_n 0, 1) := by decide +kernel
theorem dX10_changePhase_1 : decode cX10_changePhase 1 = .ok (.getfield 12, 3) := by decide +kernel
theorem dX10_changePhase_4 : decode cX10_changePhase 4 = .ok (.iload_n 1, 1) := by decide +kernel
theorem dX10_changePhase_5 : decode cX10_changePhase 5 = .ok (.invokevirtual 420, 3) := by decide +kernel
theorem dX10_changePhase_8 : decode cX10_changePhase 8 = .ok (.ifCond .ne 5, 3) := by decide +kernel
theorem dX10_changePhase_11 : decode cX10_changePhase 11 = .ok (.iconst (-1), 1) := by decide +kernel
theorem dX10_changePhase_12 : decode cX10_changePhase 12 = .ok (.ireturn, 1) := by decide +kernel
theorem dX10_changePhase_13 : decode cX10_changePhase 13 = .ok (.iload_n 2, 1) := by decide +kernel
theorem dX10_changePhase_14 : decode cX10_changePhase 14 = .ok (.ifCond .lt 9, 3) := by decide +kernel
theorem dX10_changePhase_17 : decode cX10_changePhase 17 = .ok (.iload_n 2, 1) := by decide +kernel
theorem dX10_changePhase_18 : decode cX10_changePhase 18 = .ok (.bipush 8, 2) := by decide +kernel
theorem dX10_changePhase_20 : decode cX10_changePhase 20 = .ok (.if_icmp .lt 6, 3) := by decide +kernel
theorem dX10_changePhase_23 : decode cX10_changePhase 23 = .ok (.bipush (-2), 2) := by decide +kernel
theorem dX10_changePhase_25 : decode cX10_changePhase 25 = .ok (.ireturn, 1) := by decide +kernel
theorem dX10_changePhase_26 : decode cX10_changePhase 26 = .ok (.aload_n 0, 1) := by decide +kernel
theorem dX10_changePhase_27 : decode cX10_changePhase 27 = .ok (.getfield 12, 3) := by decide +kernel
theorem dX10_changePhase_30 : decode cX10_changePhase 30 = .ok (.getfield 280, 3) := by decide +kernel
theorem dX10_changePhase_33 : decode cX10_changePhase 33 = .ok (.iload_n 1, 1) := by decide +kernel
theorem dX10_changePhase_34 : decode cX10_changePhase 34 = .ok (.aaload, 1) := by decide +kernel
theorem dX10_changePhase_35 : decode cX10_changePhase 35 = .ok (.astore_n 3, 1) := by decide +kernel
theorem dX10_changePhase_36 : decode cX10_changePhase 36 = .ok (.aload_n 3, 1) := by decide +kernel
theorem dX10_changePhase_37 : decode cX10_changePhase 37 = .ok (.getfield 424, 3) := by decide +kernel
theorem dX10_changePhase_40 : decode cX10_changePhase 40 = .ok (.istore 4, 2) := by decide +kernel
theorem dX10_changePhase_42 : decode cX10_changePhase 42 = .ok (.iload 4, 2) := by decide +kernel
theorem dX10_changePhase_44 : decode cX10_changePhase 44 = .ok (.iload_n 2, 1) := by decide +kernel
theorem dX10_changePhase_45 : decode cX10_changePhase 45 = .ok (.if_icmp .ne 11, 3) := by decide +kernel
theorem dX10_changePhase_48 : decode cX10_changePhase 48 = .ok (.aload_n 0, 1) := by decide +kernel
theorem dX10_changePhase_49 : decode cX10_changePhase 49 = .ok (.bipush 7, 2) := by decide +kernel
theorem dX10_changePhase_51 : decode cX10_changePhase 51 = .ok (.iload_n 2, 1) := by decide +kernel
theorem dX10_changePhase_52 : decode cX10_changePhase 52 = .ok (.invokevirtual 414, 3) := by decide +kernel
theorem dX10_changePhase_55 : decode cX10_changePhase 55 = .ok (.ireturn, 1) := by decide +kernel
theorem dX10_changePhase_56 : decode cX10_changePhase 56 = .ok (.aload_n 3, 1) := by decide +kernel
theorem dX10_changePhase_57 : decode cX10_changePhase 57 = .ok (.iload_n 2, 1) := by decide +kernel
theorem dX10_changePhase_58 : decode cX10_changePhase 58 = .ok (.putfield 424, 3) := by decide +kernel
theorem dX10_changePhase_61 : decode cX10_changePhase 61 = .ok (.iload 4, 2) := by decide +kernel
theorem dX10_changePhase_63 : decode cX10_changePhase 63 = .ok (.ireturn, 1) := by decide +kernel
theorem dX10_douseLight_0 : decode cX10_douseLight 0 = .ok (.aload_n 0, 1) := by decide +kernel
theorem dX10_douseLight_1 : decode cX10_douseLight 1 = .ok (.getfield 12, 3) := by decide +kernel
theorem dX10_douseLight_4 : decode cX10_douseLight 4 = .ok (.iload_n 1, 1) := by decide +kernel
theorem dX10_douseLight_5 : decode cX10_douseLight 5 = .ok (.invokevirtual 420, 3) := by decide +kernel
theorem dX10_douseLight_8 : decode cX10_douseLight 8 = .ok (.ifCond .ne 5, 3) := by decide +kernel
theorem dX10_douseLight_11 : decode cX10_douseLight 11 = .ok (.iconst (-1), 1) := by decide +kernel
theorem dX10_douseLight_12 : decode cX10_douseLight 12 = .ok (.ireturn, 1) := by decide +kernel
theorem dX10_douseLight_13 : decode cX10_douseLight 13 = .ok (.aload_n 0, 1) := by decide +kernel
theorem dX10_douseLight_14 : decode cX10_douseLight 14 = .ok (.getfield 12, 3) := by decide +kernel
theorem dX10_douseLight_17 : decode cX10_douseLight 17 = .ok (.getfield 280, 3) := by decide +kernel
theorem dX10_douseLight_20 : decode cX10_douseLight 20 = .ok (.iload_n 1, 1) := by decide +kernel
theorem dX10_douseLight_21 : decode cX10_douseLight 21 = .ok (.aaload, 1) := by decide +kernel
theorem dX10_douseLight_22 : decode cX10_douseLight 22 = .ok (.getfield 273, 3) := by decide +kernel
theorem dX10_douseLight_25 : decode cX10_douseLight 25 = .ok (.istore_n 2, 1) := by decide +kernel
theorem dX10_douseLight_26 : decode cX10_douseLight 26 = .ok (.aload_n 0, 1) := by decide +kernel
theorem dX10_douseLight_27 : decode cX10_douseLight 27 = .ok (.getfield 12, 3) := by decide +kernel
theorem dX10_douseLight_30 : decode cX10_douseLight 30 = .ok (.iload_n 1, 1) := by decide +kernel
theorem dX10_douseLight_31 : decode cX10_douseLight 31 = .ok (.invokevirtual 427, 3) := by decide +kernel
theorem dX10_douseLight_34 : decode cX10_douseLight 34 = .ok (.aload_n 0, 1) := by decide +kernel
theorem dX10_douseLight_35 : decode cX10_douseLight 35 = .ok (.getfield 12, 3) := by decide +kernel
theorem dX10_douseLight_38 : decode cX10_douseLight 38 = .ok (.dup, 1) := by decide +kernel
theorem dX10_douseLight_39 : decode cX10_douseLight 39 = .ok (.getfield 277, 3) := by decide +kernel
theorem dX10_douseLight_42 : decode cX10_douseLight 42 = .ok (.iload_n 2, 1) := by decide +kernel
theorem dX10_douseLight_43 : decode cX10_douseLight 43 = .ok (.iadd, 1) := by decide +kernel
theorem dX10_douseLight_44 : decode cX10_douseLight 44 = .ok (.putfield 277, 3) := by decide +kernel
theorem dX10_douseLight_47 : decode cX10_douseLight 47 = .ok (.iload_n 2, 1) := by decide +kernel
theorem dX10_douseLight_48 : decode cX10_douseLight 48 = .ok (.ireturn, 1) := by decide +kernel
theorem dX10_launchShip_0 : decode cX10_launchShip 0 = .ok (.iload_n 1, 1) := by decide +kernel
theorem dX10_launchShip_1 : decode cX10_launchShip 1 = .ok (.iload_n 2, 1) := by decide +kernel
theorem dX10_launchShip_2 : decode cX10_launchShip 2 = .ok (.invokestatic 410, 3) := by decide +kernel
theorem dX10_launchShip_5 : decode cX10_launchShip 5 = .ok (.ifCond .ne 5, 3) := by decide +kernel
theorem dX10_launchShip_8 : decode cX10_launchShip 8 = .ok (.iconst (-1), 1) := by decide +kernel
theorem dX10_launchShip_9 : decode cX10_launchShip 9 = .ok (.ireturn, 1) := by decide +kernel
theorem dX10_launchShip_10 : decode cX10_launchShip 10 = .ok (.iload_n 3, 1) := by decide +kernel
theorem dX10_launchShip_11 : decode cX10_launchShip 11 = .ok (.iconst 1, 1) := by decide +kernel
theorem dX10_launchShip_12 : decode cX10_launchShip 12 = .ok (.if_icmp .lt 9, 3) := by decide +kernel
theorem dX10_launchShip_15 : decode cX10_launchShip 15 = .ok (.iload_n 3, 1) := by decide +kernel
theorem dX10_launchShip_16 : decode cX10_launchShip 16 = .ok (.bipush 9, 2) := by decide +kernel
theorem dX10_launchShip_18 : decode cX10_launchShip 18 = .ok (.if_icmp .le 6, 3) := by decide +kernel
theorem dX10_launchShip_21 : decode cX10_launchShip 21 = .ok (.bipush (-2), 2) := by decide +kernel
theorem dX10_launchShip_23 : decode cX10_launchShip 23 = .ok (.ireturn, 1) := by decide +kernel
theorem dX10_launchShip_24 : decode cX10_launchShip 24 = .ok (.aload_n 0, 1) := by decide +kernel
theorem dX10_launchShip_25 : decode cX10_launchShip 25 = .ok (.getfield 12, 3) := by decide +kernel
theorem dX10_launchShip_28 : decode cX10_launchShip 28 = .ok (.getfield 222, 3) := by decide +kernel
theorem dX10_launchShip_31 : decode cX10_launchShip 31 = .ok (.istore 4, 2) := by decide +kernel
theorem dX10_launchShip_33 : decode cX10_launchShip 33 = .ok (.iload 4, 2) := by decide +kernel
theorem dX10_launchShip_35 : decode cX10_launchShip 35 = .ok (.bipush 6, 2) := by decide +kernel
theorem dX10_launchShip_37 : decode cX10_launchShip 37 = .ok (.if_icmp .lt 11, 3) := by decide +kernel
theorem dX10_launchShip_40 : decode cX10_launchShip 40 = .ok (.aload_n 0, 1) := by decide +kernel
theorem dX10_launchShip_41 : decode cX10_launchShip 41 = .ok (.iconst 1, 1) := by decide +kernel
theorem dX10_launchShip_42 : decode cX10_launchShip 42 = .ok (.bipush 6, 2) := by decide +kernel
theorem dX10_launchShip_44 : decode cX10_launchShip 44 = .ok (.invokevirtual 414, 3) := by decide +kernel
theorem dX10_launchShip_47 : decode cX10_launchShip 47 = .ok (.ireturn, 1) := by decide +kernel
theorem dX10_launchShip_48 : decode cX10_launchShip 48 = .ok (.iload_n 2, 1) := by decide +kernel
theorem dX10_launchShip_49 : decode cX10_launchShip 49 = .ok (.bipush 8, 2) := by decide +kernel
theorem dX10_launchShip_51 : decode cX10_launchShip 51 = .ok (.imul, 1) := by decide +kernel
theorem dX10_launchShip_52 : decode cX10_launchShip 52 = .ok (.iload_n 1, 1) := by decide +kernel
theorem dX10_launchShip_53 : decode cX10_launchShip 53 = .ok (.iadd, 1) := by decide +kernel
theorem dX10_launchShip_54 : decode cX10_launchShip 54 = .ok (.istore 5, 2) := by decide +kernel
theorem dX10_launchShip_56 : decode cX10_launchShip 56 = .ok (.aload_n 0, 1) := by decide +kernel
theorem dX10_launchShip_57 : decode cX10_launchShip 57 = .ok (.getfield 12, 3) := by decide +kernel
theorem dX10_launchShip_60 : decode cX10_launchShip 60 = .ok (.iload 5, 2) := by decide +kernel
theorem dX10_launchShip_62 : decode cX10_launchShip 62 = .ok (.invokevirtual 81, 3) := by decide +kernel
theorem dX10_launchShip_65 : decode cX10_launchShip 65 = .ok (.istore 6, 2) := by decide +kernel
theorem dX10_launchShip_67 : decode cX10_launchShip 67 = .ok (.iload 6, 2) := by decide +kernel
theorem dX10_launchShip_69 : decode cX10_launchShip 69 = .ok (.iload_n 3, 1) := by decide +kernel
theorem dX10_launchShip_70 : decode cX10_launchShip 70 = .ok (.if_icmp .ge 11, 3) := by decide +kernel
theorem dX10_launchShip_73 : decode cX10_launchShip 73 = .ok (.aload_n 0, 1) := by decide +kernel
theorem dX10_launchShip_74 : decode cX10_launchShip 74 = .ok (.iconst 3, 1) := by decide +kernel
theorem dX10_launchShip_75 : decode cX10_launchShip 75 = .ok (.iload 6, 2) := by decide +kernel
theorem dX10_launchShip_77 : decode cX10_launchShip 77 = .ok (.invokevirtual 414, 3) := by decide +kernel
theorem dX10_launchShip_80 : decode cX10_launchShip 80 = .ok (.ireturn, 1) := by decide +kernel
theorem dX10_launchShip_81 : decode cX10_launchShip 81 = .ok (.aload_n 0, 1) := by decide +kernel
theorem dX10_launchShip_82 : decode cX10_launchShip 82 = .ok (.getfield 12, 3) := by decide +kernel
theorem dX10_launchShip_85 : decode cX10_launchShip 85 = .ok (.getfield 301, 3) := by decide +kernel
theorem dX10_launchShip_88 : decode cX10_launchShip 88 = .ok (.iload 4, 2) := by decide +kernel
theorem dX10_launchShip_90 : decode cX10_launchShip 90 = .ok (.aaload, 1) := by decide +kernel
theorem dX10_launchShip_91 : decode cX10_launchShip 91 = .ok (.iload 5, 2) := by decide +kernel
theorem dX10_launchShip_93 : decode cX10_launchShip 93 = .ok (.iload_n 3, 1) := by decide +kernel
theorem dX10_launchShip_94 : decode cX10_launchShip 94 = .ok (.invokevirtual 430, 3) := by decide +kernel
theorem dX10_launchShip_97 : decode cX10_launchShip 97 = .ok (.aload_n 0, 1) := by decide +kernel
theorem dX10_launchShip_98 : decode cX10_launchShip 98 = .ok (.getfield 12, 3) := by decide +kernel
theorem dX10_launchShip_101 : decode cX10_launchShip 101 = .ok (.dup, 1) := by decide +kernel
theorem dX10_launchShip_102 : decode cX10_launchShip 102 = .ok (.getfield 222, 3) := by decide +kernel
theorem dX10_launchShip_105 : decode cX10_launchShip 105 = .ok (.iconst 1, 1) := by decide +kernel
theorem dX10_launchShip_106 : decode cX10_launchShip 106 = .ok (.iadd, 1) := by decide +kernel
theorem dX10_launchShip_107 : decode cX10_launchShip 107 = .ok (.putfield 222, 3) := by decide +kernel
theorem dX10_launchShip_110 : decode cX10_launchShip 110 = .ok (.iload 4, 2) := by decide +kernel
theorem dX10_launchShip_112 : decode cX10_launchShip 112 = .ok (.ireturn, 1) := by decide +kernel
theorem dX10_changeGoal_0 : decode cX10_changeGoal 0 = .ok (.aload_n 0, 1) := by decide +kernel
theorem dX10_changeGoal_1 : decode cX10_changeGoal 1 = .ok (.getfield 12, 3) := by decide +kernel
theorem dX10_changeGoal_4 : decode cX10_changeGoal 4 = .ok (.iload_n 1, 1) := by decide +kernel
theorem dX10_changeGoal_5 : decode cX10_changeGoal 5 = .ok (.invokevirtual 433, 3) := by decide +kernel
theorem dX10_changeGoal_8 : decode cX10_changeGoal 8 = .ok (.ifCond .eq 11, 3) := by decide +kernel
theorem dX10_changeGoal_11 : decode cX10_changeGoal 11 = .ok (.iload_n 2, 1) := by decide +kernel
theorem dX10_changeGoal_12 : decode cX10_changeGoal 12 = .ok (.iload_n 3, 1) := by decide +kernel
theorem dX10_changeGoal_13 : decode cX10_changeGoal 13 = .ok (.invokestatic 410, 3) := by decide +kernel
theorem dX10_changeGoal_16 : decode cX10_changeGoal 16 = .ok (.ifCond .ne 5, 3) := by decide +kernel
theorem dX10_changeGoal_19 : decode cX10_changeGoal 19 = .ok (.iconst (-1), 1) := by decide +kernel
theorem dX10_changeGoal_20 : decode cX10_changeGoal 20 = .ok (.ireturn, 1) := by decide +kernel
theorem dX10_changeGoal_21 : decode cX10_changeGoal 21 = .ok (.aload_n 0, 1) := by decide +kernel
theorem dX10_changeGoal_22 : decode cX10_changeGoal 22 = .ok (.getfield 12, 3) := by decide +kernel
theorem dX10_changeGoal_25 : decode cX10_changeGoal 25 = .ok (.getfield 301, 3) := by decide +kernel
theorem dX10_changeGoal_28 : decode cX10_changeGoal 28 = .ok (.iload_n 1, 1) := by decide +kernel
theorem dX10_changeGoal_29 : decode cX10_changeGoal 29 = .ok (.aaload, 1) := by decide +kernel
theorem dX10_changeGoal_30 : decode cX10_changeGoal 30 = .ok (.astore 4, 2) := by decide +kernel
theorem dX10_changeGoal_32 : decode cX10_changeGoal 32 = .ok (.aload 4, 2) := by decide +kernel
theorem dX10_changeGoal_34 : decode cX10_changeGoal 34 = .ok (.getfield 236, 3) := by decide +kernel
theorem dX10_changeGoal_37 : decode cX10_changeGoal 37 = .ok (.ifCond .eq 10, 3) := by decide +kernel
theorem dX10_changeGoal_40 : decode cX10_changeGoal 40 = .ok (.aload_n 0, 1) := by decide +kernel
theorem dX10_changeGoal_41 : decode cX10_changeGoal 41 = .ok (.iconst 5, 1) := by decide +kernel
theorem dX10_changeGoal_42 : decode cX10_changeGoal 42 = .ok (.iload_n 1, 1) := by decide +kernel
theorem dX10_changeGoal_43 : decode cX10_changeGoal 43 = .ok (.invokevirtual 414, 3) := by decide +kernel
theorem dX10_changeGoal_46 : decode cX10_changeGoal 46 = .ok (.ireturn, 1) := by decide +kernel
theorem dX10_changeGoal_47 : decode cX10_changeGoal 47 = .ok (.iload_n 3, 1) := by decide +kernel
theorem dX10_changeGoal_48 : decode cX10_changeGoal 48 = .ok (.bipush 8, 2) := by decide +kernel
theorem dX10_changeGoal_50 : decode cX10_changeGoal 50 = .ok (.imul, 1) := by decide +kernel
theorem dX10_changeGoal_51 : decode cX10_changeGoal 51 = .ok (.iload_n 2, 1) := by decide +kernel
theorem dX10_changeGoal_52 : decode cX10_changeGoal 52 = .ok (.iadd, 1) := by decide +kernel
theorem dX10_changeGoal_53 : decode cX10_changeGoal 53 = .ok (.istore 5, 2) := by decide +kernel
theorem dX10_changeGoal_55 : decode cX10_changeGoal 55 = .ok (.aload_n 0, 1) := by decide +kernel
theorem dX10_changeGoal_56 : decode cX10_changeGoal 56 = .ok (.getfield 29, 3) := by decide +kernel
theorem dX10_changeGoal_59 : decode cX10_changeGoal 59 = .ok (.aload_n 0, 1) := by decide +kernel
theorem dX10_changeGoal_60 : decode cX10_changeGoal 60 = .ok (.getfield 12, 3) := by decide +kernel
theorem dX10_changeGoal_63 : decode cX10_changeGoal 63 = .ok (.aload_n 0, 1) := by decide +kernel
theorem dX10_changeGoal_64 : decode cX10_changeGoal 64 = .ok (.getfield 12, 3) := by decide +kernel
theorem dX10_changeGoal_67 : decode cX10_changeGoal 67 = .ok (.getfield 84, 3) := by decide +kernel
theorem dX10_changeGoal_70 : decode cX10_changeGoal 70 = .ok (.invokestatic 87, 3) := by decide +kernel
theorem dX10_changeGoal_73 : decode cX10_changeGoal 73 = .ok (.aload 4, 2) := by decide +kernel
theorem dX10_changeGoal_75 : decode cX10_changeGoal 75 = .ok (.getfield 246, 3) := by decide +kernel
theorem dX10_changeGoal_78 : decode cX10_changeGoal 78 = .ok (.invokevirtual 249, 3) := by decide +kernel
theorem dX10_changeGoal_81 : decode cX10_changeGoal 81 = .ok (.aload_n 0, 1) := by decide +kernel
theorem dX10_changeGoal_82 : decode cX10_changeGoal 82 = .ok (.getfield 29, 3) := by decide +kernel
theorem dX10_changeGoal_85 : decode cX10_changeGoal 85 = .ok (.aload 4, 2) := by decide +kernel
theorem dX10_changeGoal_87 : decode cX10_changeGoal 87 = .ok (.getfield 229, 3) := by decide +kernel
theorem dX10_changeGoal_90 : decode cX10_changeGoal 90 = .ok (.invokevirtual 117, 3) := by decide +kernel
theorem dX10_changeGoal_93 : decode cX10_changeGoal 93 = .ok (.aload_n 0, 1) := by decide +kernel
theorem dX10_changeGoal_94 : decode cX10_changeGoal 94 = .ok (.getfield 29, 3) := by decide +kernel
theorem dX10_changeGoal_97 : decode cX10_changeGoal 97 = .ok (.iload 5, 2) := by decide +kernel
theorem dX10_changeGoal_99 : decode cX10_changeGoal 99 = .ok (.invokevirtual 121, 3) := by decide +kernel
theorem dX10_changeGoal_102 : decode cX10_changeGoal 102 = .ok (.istore 6, 2) := by decide +kernel
theorem dX10_changeGoal_104 : decode cX10_changeGoal 104 = .ok (.iload 6, 2) := by decide +kernel
theorem dX10_changeGoal_106 : decode cX10_changeGoal 106 = .ok (.iconst (-1), 1) := by decide +kernel
theorem dX10_changeGoal_107 : decode cX10_changeGoal 107 = .ok (.if_icmp .ne 10, 3) := by decide +kernel
theorem dX10_changeGoal_110 : decode cX10_changeGoal 110 = .ok (.aload_n 0, 1) := by decide +kernel
theorem dX10_changeGoal_111 : decode cX10_changeGoal 111 = .ok (.iconst 4, 1) := by decide +kernel
theorem dX10_changeGoal_112 : decode cX10_changeGoal 112 = .ok (.iload_n 1, 1) := by decide +kernel
theorem dX10_changeGoal_113 : decode cX10_changeGoal 113 = .ok (.invokevirtual 414, 3) := by decide +kernel
theorem dX10_changeGoal_116 : decode cX10_changeGoal 116 = .ok (.ireturn, 1) := by decide +kernel
theorem dX10_changeGoal_117 : decode cX10_changeGoal 117 = .ok (.aload 4, 2) := by decide +kernel
theorem dX10_changeGoal_119 : decode cX10_changeGoal 119 = .ok (.iload 5, 2) := by decide +kernel
theorem dX10_changeGoal_121 : decode cX10_changeGoal 121 = .ok (.aload 4, 2) := by decide +kernel
theorem dX10_changeGoal_123 : decode cX10_changeGoal 123 = .ok (.getfield 229, 3) := by decide +kernel
theorem dX10_changeGoal_126 : decode cX10_changeGoal 126 = .ok (.if_icmp .ne 7, 3) := by decide +kernel
theorem dX10_changeGoal_129 : decode cX10_changeGoal 129 = .ok (.iconst (-1), 1) := by decide +kernel
theorem dX10_changeGoal_130 : decode cX10_changeGoal 130 = .ok (.goto 5, 3) := by decide +kernel
theorem dX10_changeGoal_133 : decode cX10_changeGoal 133 = .ok (.iload 5, 2) := by decide +kernel
theorem dX10_changeGoal_135 : decode cX10_changeGoal 135 = .ok (.putfield 378, 3) := by decide +kernel
theorem dX10_changeGoal_138 : decode cX10_changeGoal 138 = .ok (.iload 6, 2) := by decide +kernel
theorem dX10_changeGoal_140 : decode cX10_changeGoal 140 = .ok (.ireturn, 1) := by decide +kernel
theorem dX10_salvageShip_0 : decode cX10_salvageShip 0 = .ok (.aload_n 0, 1) := by decide +kernel
theorem dX10_salvageShip_1 : decode cX10_salvageShip 1 = .ok (.getfield 12, 3) := by decide +kernel
theorem dX10_salvageShip_4 : decode cX10_salvageShip 4 = .ok (.iload_n 1, 1) := by decide +kernel
theorem dX10_salvageShip_5 : decode cX10_salvageShip 5 = .ok (.invokevirtual 433, 3) := by decide +kernel
theorem dX10_salvageShip_8 : decode cX10_salvageShip 8 = .ok (.ifCond .ne 5, 3) := by decide +kernel
theorem dX10_salvageShip_11 : decode cX10_salvageShip 11 = .ok (.iconst (-1), 1) := by decide +kernel
theorem dX10_salvageShip_12 : decode cX10_salvageShip 12 = .ok (.ireturn, 1) := by decide +kernel
theorem dX10_salvageShip_13 : decode cX10_salvageShip 13 = .ok (.aload_n 0, 1) := by decide +kernel
theorem dX10_salvageShip_14 : decode cX10_salvageShip 14 = .ok (.getfield 12, 3) := by decide +kernel
theorem dX10_salvageShip_17 : decode cX10_salvageShip 17 = .ok (.getfield 301, 3) := by decide +kernel
theorem dX10_salvageShip_20 : decode cX10_salvageShip 20 = .ok (.iload_n 1, 1) := by decide +kernel
theorem dX10_salvageShip_21 : decode cX10_salvageShip 21 = .ok (.aaload, 1) := by decide +kernel
theorem dX10_salvageShip_22 : decode cX10_salvageShip 22 = .ok (.getfield 236, 3) := by decide +kernel
theorem dX10_salvageShip_25 : decode cX10_salvageShip 25 = .ok (.ifCond .ne 11, 3) := by decide +kernel
theorem dX10_salvageShip_28 : decode cX10_salvageShip 28 = .ok (.aload_n 0, 1) := by decide +kernel
theorem dX10_salvageShip_29 : decode cX10_salvageShip 29 = .ok (.bipush 6, 2) := by decide +kernel
theorem dX10_salvageShip_31 : decode cX10_salvageShip 31 = .ok (.iload_n 1, 1) := by decide +kernel
theorem dX10_salvageShip_32 : decode cX10_salvageShip 32 = .ok (.invokevirtual 414, 3) := by decide +kernel
theorem dX10_salvageShip_35 : decode cX10_salvageShip 35 = .ok (.ireturn, 1) := by decide +kernel
theorem dX10_salvageShip_36 : decode cX10_salvageShip 36 = .ok (.bipush 10, 2) := by decide +kernel
theorem dX10_salvageShip_38 : decode cX10_salvageShip 38 = .ok (.aload_n 0, 1) := by decide +kernel
theorem dX10_salvageShip_39 : decode cX10_salvageShip 39 = .ok (.getfield 12, 3) := by decide +kernel
theorem dX10_salvageShip_42 : decode cX10_salvageShip 42 = .ok (.getfield 301, 3) := by decide +kernel
theorem dX10_salvageShip_45 : decode cX10_salvageShip 45 = .ok (.iload_n 1, 1) := by decide +kernel
theorem dX10_salvageShip_46 : decode cX10_salvageShip 46 = .ok (.aaload, 1) := by decide +kernel
theorem dX10_salvageShip_47 : decode cX10_salvageShip 47 = .ok (.getfield 246, 3) := by decide +kernel
theorem dX10_salvageShip_50 : decode cX10_salvageShip 50 = .ok (.imul, 1) := by decide +kernel
theorem dX10_salvageShip_51 : decode cX10_salvageShip 51 = .ok (.istore_n 2, 1) := by decide +kernel
theorem dX10_salvageShip_52 : decode cX10_salvageShip 52 = .ok (.aload_n 0, 1) := by decide +kernel
theorem dX10_salvageShip_53 : decode cX10_salvageShip 53 = .ok (.getfield 12, 3) := by decide +kernel
theorem dX10_salvageShip_56 : decode cX10_salvageShip 56 = .ok (.iload_n 1, 1) := by decide +kernel
theorem dX10_salvageShip_57 : decode cX10_salvageShip 57 = .ok (.invokevirtual 436, 3) := by decide +kernel
theorem dX10_salvageShip_60 : decode cX10_salvageShip 60 = .ok (.aload_n 0, 1) := by decide +kernel
theorem dX10_salvageShip_61 : decode cX10_salvageShip 61 = .ok (.getfield 12, 3) := by decide +kernel
theorem dX10_salvageShip_64 : decode cX10_salvageShip 64 = .ok (.dup, 1) := by decide +kernel
theorem dX10_salvageShip_65 : decode cX10_salvageShip 65 = .ok (.getfield 287, 3) := by decide +kernel
theorem dX10_salvageShip_68 : decode cX10_salvageShip 68 = .ok (.iload_n 2, 1) := by decide +kernel
theorem dX10_salvageShip_69 : decode cX10_salvageShip 69 = .ok (.iadd, 1) := by decide +kernel
theorem dX10_salvageShip_70 : decode cX10_salvageShip 70 = .ok (.putfield 287, 3) := by decide +kernel
theorem dX10_salvageShip_73 : decode cX10_salvageShip 73 = .ok (.iload_n 2, 1) := by decide +kernel
theorem dX10_salvageShip_74 : decode cX10_salvageShip 74 = .ok (.ireturn, 1) := by decide +kernel
theorem dX10_passMinutes_0 : decode cX10_passMinutes 0 = .ok (.iload_n 1, 1) := by decide +kernel
theorem dX10_passMinutes_1 : decode cX10_passMinutes 1 = .ok (.iconst 1, 1) := by decide +kernel
theorem dX10_passMinutes_2 : decode cX10_passMinutes 2 = .ok (.if_icmp .lt 9, 3) := by decide +kernel
theorem dX10_passMinutes_5 : decode cX10_passMinutes 5 = .ok (.iload_n 1, 1) := by decide +kernel
theorem dX10_passMinutes_6 : decode cX10_passMinutes 6 = .ok (.bipush 48, 2) := by decide +kernel
theorem dX10_passMinutes_8 : decode cX10_passMinutes 8 = .ok (.if_icmp .le 6, 3) := by decide +kernel
theorem dX10_passMinutes_11 : decode cX10_passMinutes 11 = .ok (.bipush (-2), 2) := by decide +kernel
theorem dX10_passMinutes_13 : decode cX10_passMinutes 13 = .ok (.ireturn, 1) := by decide +kernel
theorem dX10_passMinutes_14 : decode cX10_passMinutes 14 = .ok (.aload_n 0, 1) := by decide +kernel
theorem dX10_passMinutes_15 : decode cX10_passMinutes 15 = .ok (.getfield 12, 3) := by decide +kernel
theorem dX10_passMinutes_18 : decode cX10_passMinutes 18 = .ok (.getfield 276, 3) := by decide +kernel
theorem dX10_passMinutes_21 : decode cX10_passMinutes 21 = .ok (.istore_n 2, 1) := by decide +kernel
theorem dX10_passMinutes_22 : decode cX10_passMinutes 22 = .ok (.iconst 0, 1) := by decide +kernel
theorem dX10_passMinutes_23 : decode cX10_passMinutes 23 = .ok (.istore_n 3, 1) := by decide +kernel
theorem dX10_passMinutes_24 : decode cX10_passMinutes 24 = .ok (.iload_n 3, 1) := by decide +kernel
theorem dX10_passMinutes_25 : decode cX10_passMinutes 25 = .ok (.iload_n 1, 1) := by decide +kernel
theorem dX10_passMinutes_26 : decode cX10_passMinutes 26 = .ok (.if_icmp .ge 47, 3) := by decide +kernel
theorem dX10_passMinutes_29 : decode cX10_passMinutes 29 = .ok (.aload_n 0, 1) := by decide +kernel
theorem dX10_passMinutes_30 : decode cX10_passMinutes 30 = .ok (.getfield 12, 3) := by decide +kernel
theorem dX10_passMinutes_33 : decode cX10_passMinutes 33 = .ok (.dup, 1) := by decide +kernel
theorem dX10_passMinutes_34 : decode cX10_passMinutes 34 = .ok (.getfield 84, 3) := by decide +kernel
theorem dX10_passMinutes_37 : decode cX10_passMinutes 37 = .ok (.iconst 1, 1) := by decide +kernel
theorem dX10_passMinutes_38 : decode cX10_passMinutes 38 = .ok (.iadd, 1) := by decide +kernel
theorem dX10_passMinutes_39 : decode cX10_passMinutes 39 = .ok (.putfield 84, 3) := by decide +kernel
theorem dX10_passMinutes_42 : decode cX10_passMinutes 42 = .ok (.aload_n 0, 1) := by decide +kernel
theorem dX10_passMinutes_43 : decode cX10_passMinutes 43 = .ok (.getfield 12, 3) := by decide +kernel
theorem dX10_passMinutes_46 : decode cX10_passMinutes 46 = .ok (.aload_n 0, 1) := by decide +kernel
theorem dX10_passMinutes_47 : decode cX10_passMinutes 47 = .ok (.getfield 29, 3) := by decide +kernel
theorem dX10_passMinutes_50 : decode cX10_passMinutes 50 = .ok (.invokevirtual 439, 3) := by decide +kernel
theorem dX10_passMinutes_53 : decode cX10_passMinutes 53 = .ok (.aload_n 0, 1) := by decide +kernel
theorem dX10_passMinutes_54 : decode cX10_passMinutes 54 = .ok (.getfield 12, 3) := by decide +kernel
theorem dX10_passMinutes_57 : decode cX10_passMinutes 57 = .ok (.invokevirtual 443, 3) := by decide +kernel
theorem dX10_passMinutes_60 : decode cX10_passMinutes 60 = .ok (.aload_n 0, 1) := by decide +kernel
theorem dX10_passMinutes_61 : decode cX10_passMinutes 61 = .ok (.getfield 12, 3) := by decide +kernel
theorem dX10_passMinutes_64 : decode cX10_passMinutes 64 = .ok (.invokevirtual 446, 3) := by decide +kernel
theorem dX10_passMinutes_67 : decode cX10_passMinutes 67 = .ok (.iinc 3 1, 3) := by decide +kernel
theorem dX10_passMinutes_70 : decode cX10_passMinutes 70 = .ok (.goto (-46), 3) := by decide +kernel
theorem dX10_passMinutes_73 : decode cX10_passMinutes 73 = .ok (.aload_n 0, 1) := by decide +kernel
theorem dX10_passMinutes_74 : decode cX10_passMinutes 74 = .ok (.getfield 12, 3) := by decide +kernel
theorem dX10_passMinutes_77 : decode cX10_passMinutes 77 = .ok (.getfield 276, 3) := by decide +kernel
theorem dX10_passMinutes_80 : decode cX10_passMinutes 80 = .ok (.iload_n 2, 1) := by decide +kernel
theorem dX10_passMinutes_81 : decode cX10_passMinutes 81 = .ok (.isub, 1) := by decide +kernel
theorem dX10_passMinutes_82 : decode cX10_passMinutes 82 = .ok (.ireturn, 1) := by decide +kernel
theorem dX10_perform_0 : decode cX10_perform 0 = .ok (.aload_n 1, 1) := by decide +kernel
theorem dX10_perform_1 : decode cX10_perform 1 = .ok (.getfield 449, 3) := by decide +kernel
theorem dX10_perform_4 : decode cX10_perform 4 = .ok (.astore_n 2, 1) := by decide +kernel
theorem dX10_perform_5 : decode cX10_perform 5 = .ok (.getstatic 454, 3) := by decide +kernel
theorem dX10_perform_8 : decode cX10_perform 8 = .ok (.aload_n 1, 1) := by decide +kernel
theorem dX10_perform_9 : decode cX10_perform 9 = .ok (.getfield 459, 3) := by decide +kernel
theorem dX10_perform_12 : decode cX10_perform 12 = .ok (.invokevirtual 463, 3) := by decide +kernel
theorem dX10_perform_15 : decode cX10_perform 15 = .ok (.iaload, 1) := by decide +kernel
theorem dX10_perform_16 : decode cX10_perform 16 = .ok (.tableswitch 130 1 7 #[44, 58, 75, 86, 94, 108, 122], 44) := by decide +kernel
theorem dX10_perform_60 : decode cX10_perform 60 = .ok (.aload_n 0, 1) := by decide +kernel
theorem dX10_perform_61 : decode cX10_perform 61 = .ok (.aload_n 2, 1) := by decide +kernel
theorem dX10_perform_62 : decode cX10_perform 62 = .ok (.iconst 0, 1) := by decide +kernel
theorem dX10_perform_63 : decode cX10_perform 63 = .ok (.iaload, 1) := by decide +kernel
theorem dX10_perform_64 : decode cX10_perform 64 = .ok (.aload_n 2, 1) := by decide +kernel
theorem dX10_perform_65 : decode cX10_perform 65 = .ok (.iconst 1, 1) := by decide +kernel
theorem dX10_perform_66 : decode cX10_perform 66 = .ok (.iaload, 1) := by decide +kernel
theorem dX10_perform_67 : decode cX10_perform 67 = .ok (.aload_n 2, 1) := by decide +kernel
theorem dX10_perform_68 : decode cX10_perform 68 = .ok (.iconst 2, 1) := by decide +kernel
theorem dX10_perform_69 : decode cX10_perform 69 = .ok (.iaload, 1) := by decide +kernel
theorem dX10_perform_70 : decode cX10_perform 70 = .ok (.invokevirtual 66, 3) := by decide +kernel
theorem dX10_perform_73 : decode cX10_perform 73 = .ok (.ireturn, 1) := by decide +kernel
theorem dX10_perform_74 : decode cX10_perform 74 = .ok (.aload_n 0, 1) := by decide +kernel
theorem dX10_perform_75 : decode cX10_perform 75 = .ok (.aload_n 2, 1) := by decide +kernel
theorem dX10_perform_76 : decode cX10_perform 76 = .ok (.iconst 0, 1) := by decide +kernel
theorem dX10_perform_77 : decode cX10_perform 77 = .ok (.iaload, 1) := by decide +kernel
theorem dX10_perform_78 : decode cX10_perform 78 = .ok (.aload_n 2, 1) := by decide +kernel
theorem dX10_perform_79 : decode cX10_perform 79 = .ok (.iconst 1, 1) := by decide +kernel
theorem dX10_perform_80 : decode cX10_perform 80 = .ok (.iaload, 1) := by decide +kernel
theorem dX10_perform_81 : decode cX10_perform 81 = .ok (.aload_n 2, 1) := by decide +kernel
theorem dX10_perform_82 : decode cX10_perform 82 = .ok (.iconst 2, 1) := by decide +kernel
theorem dX10_perform_83 : decode cX10_perform 83 = .ok (.iaload, 1) := by decide +kernel
theorem dX10_perform_84 : decode cX10_perform 84 = .ok (.aload_n 2, 1) := by decide +kernel
theorem dX10_perform_85 : decode cX10_perform 85 = .ok (.iconst 3, 1) := by decide +kernel
theorem dX10_perform_86 : decode cX10_perform 86 = .ok (.iaload, 1) := by decide +kernel
theorem dX10_perform_87 : decode cX10_perform 87 = .ok (.invokevirtual 124, 3) := by decide +kernel
theorem dX10_perform_90 : decode cX10_perform 90 = .ok (.ireturn, 1) := by decide +kernel
theorem dX10_perform_91 : decode cX10_perform 91 = .ok (.aload_n 0, 1) := by decide +kernel
theorem dX10_perform_92 : decode cX10_perform 92 = .ok (.aload_n 2, 1) := by decide +kernel
theorem dX10_perform_93 : decode cX10_perform 93 = .ok (.iconst 0, 1) := by decide +kernel
theorem dX10_perform_94 : decode cX10_perform 94 = .ok (.iaload, 1) := by decide +kernel
theorem dX10_perform_95 : decode cX10_perform 95 = .ok (.aload_n 2, 1) := by decide +kernel
theorem dX10_perform_96 : decode cX10_perform 96 = .ok (.iconst 1, 1) := by decide +kernel
theorem dX10_perform_97 : decode cX10_perform 97 = .ok (.iaload, 1) := by decide +kernel
theorem dX10_perform_98 : decode cX10_perform 98 = .ok (.invokevirtual 128, 3) := by decide +kernel
theorem dX10_perform_101 : decode cX10_perform 101 = .ok (.ireturn, 1) := by decide +kernel
theorem dX10_perform_102 : decode cX10_perform 102 = .ok (.aload_n 0, 1) := by decide +kernel
theorem dX10_perform_103 : decode cX10_perform 103 = .ok (.aload_n 2, 1) := by decide +kernel
theorem dX10_perform_104 : decode cX10_perform 104 = .ok (.iconst 0, 1) := by decide +kernel
theorem dX10_perform_105 : decode cX10_perform 105 = .ok (.iaload, 1) := by decide +kernel
theorem dX10_perform_106 : decode cX10_perform 106 = .ok (.invokevirtual 131, 3) := by decide +kernel
theorem dX10_perform_109 : decode cX10_perform 109 = .ok (.ireturn, 1) := by decide +kernel
theorem dX10_perform_110 : decode cX10_perform 110 = .ok (.aload_n 0, 1) := by decide +kernel
theorem dX10_perform_111 : decode cX10_perform 111 = .ok (.aload_n 2, 1) := by decide +kernel
theorem dX10_perform_112 : decode cX10_perform 112 = .ok (.iconst 0, 1) := by decide +kernel
theorem dX10_perform_113 : decode cX10_perform 113 = .ok (.iaload, 1) := by decide +kernel
theorem dX10_perform_114 : decode cX10_perform 114 = .ok (.aload_n 2, 1) := by decide +kernel
theorem dX10_perform_115 : decode cX10_perform 115 = .ok (.iconst 1, 1) := by decide +kernel
theorem dX10_perform_116 : decode cX10_perform 116 = .ok (.iaload, 1) := by decide +kernel
theorem dX10_perform_117 : decode cX10_perform 117 = .ok (.aload_n 2, 1) := by decide +kernel
theorem dX10_perform_118 : decode cX10_perform 118 = .ok (.iconst 2, 1) := by decide +kernel
theorem dX10_perform_119 : decode cX10_perform 119 = .ok (.iaload, 1) := by decide +kernel
theorem dX10_perform_120 : decode cX10_perform 120 = .ok (.invokevirtual 210, 3) := by decide +kernel
theorem dX10_perform_123 : decode cX10_perform 123 = .ok (.ireturn, 1) := by decide +kernel
theorem dX10_perform_124 : decode cX10_perform 124 = .ok (.aload_n 0, 1) := by decide +kernel
theorem dX10_perform_125 : decode cX10_perform 125 = .ok (.aload_n 2, 1) := by decide +kernel
theorem dX10_perform_126 : decode cX10_perform 126 = .ok (.iconst 0, 1) := by decide +kernel
theorem dX10_perform_127 : decode cX10_perform 127 = .ok (.iaload, 1) := by decide +kernel
theorem dX10_perform_128 : decode cX10_perform 128 = .ok (.aload_n 2, 1) := by decide +kernel
theorem dX10_perform_129 : decode cX10_perform 129 = .ok (.iconst 1, 1) := by decide +kernel
theorem dX10_perform_130 : decode cX10_perform 130 = .ok (.iaload, 1) := by decide +kernel
theorem dX10_perform_131 : decode cX10_perform 131 = .ok (.aload_n 2, 1) := by decide +kernel
theorem dX10_perform_132 : decode cX10_perform 132 = .ok (.iconst 2, 1) := by decide +kernel
theorem dX10_perform_133 : decode cX10_perform 133 = .ok (.iaload, 1) := by decide +kernel
theorem dX10_perform_134 : decode cX10_perform 134 = .ok (.invokevirtual 213, 3) := by decide +kernel
theorem dX10_perform_137 : decode cX10_perform 137 = .ok (.ireturn, 1) := by decide +kernel
theorem dX10_perform_138 : decode cX10_perform 138 = .ok (.aload_n 0, 1) := by decide +kernel
theorem dX10_perform_139 : decode cX10_perform 139 = .ok (.aload_n 2, 1) := by decide +kernel
theorem dX10_perform_140 : decode cX10_perform 140 = .ok (.iconst 0, 1) := by decide +kernel
theorem dX10_perform_141 : decode cX10_perform 141 = .ok (.iaload, 1) := by decide +kernel
theorem dX10_perform_142 : decode cX10_perform 142 = .ok (.invokevirtual 216, 3) := by decide +kernel
theorem dX10_perform_145 : decode cX10_perform 145 = .ok (.ireturn, 1) := by decide +kernel
theorem dX10_perform_146 : decode cX10_perform 146 = .ok (.aload_n 0, 1) := by decide +kernel
theorem dX10_perform_147 : decode cX10_perform 147 = .ok (.aload_n 2, 1) := by decide +kernel
theorem dX10_perform_148 : decode cX10_perform 148 = .ok (.iconst 0, 1) := by decide +kernel
theorem dX10_perform_149 : decode cX10_perform 149 = .ok (.iaload, 1) := by decide +kernel
theorem dX10_perform_150 : decode cX10_perform 150 = .ok (.invokevirtual 219, 3) := by decide +kernel
theorem dX10_perform_153 : decode cX10_perform 153 = .ok (.ireturn, 1) := by decide +kernel
theorem dX10_deny_0 : decode cX10_deny 0 = .ok (.aload_n 0, 1) := by decide +kernel
theorem dX10_deny_1 : decode cX10_deny 1 = .ok (.iload_n 1, 1) := by decide +kernel
theorem dX10_deny_2 : decode cX10_deny 2 = .ok (.iload_n 2, 1) := by decide +kernel
theorem dX10_deny_3 : decode cX10_deny 3 = .ok (.iconst 0, 1) := by decide +kernel
theorem dX10_deny_4 : decode cX10_deny 4 = .ok (.invokevirtual 343, 3) := by decide +kernel
theorem dX10_deny_7 : decode cX10_deny 7 = .ok (.bipush (-3), 2) := by decide +kernel
theorem dX10_deny_9 : decode cX10_deny 9 = .ok (.ireturn, 1) := by decide +kernel
theorem dX10_keepDenial_0 : decode cX10_keepDenial 0 = .ok (.aload_n 0, 1) := by decide +kernel
theorem dX10_keepDenial_1 : decode cX10_keepDenial 1 = .ok (.iload_n 1, 1) := by decide +kernel
theorem dX10_keepDenial_2 : decode cX10_keepDenial 2 = .ok (.putfield 340, 3) := by decide +kernel
theorem dX10_keepDenial_5 : decode cX10_keepDenial 5 = .ok (.aload_n 0, 1) := by decide +kernel
theorem dX10_keepDenial_6 : decode cX10_keepDenial 6 = .ok (.iload_n 2, 1) := by decide +kernel
theorem dX10_keepDenial_7 : decode cX10_keepDenial 7 = .ok (.putfield 388, 3) := by decide +kernel
theorem dX10_keepDenial_10 : decode cX10_keepDenial 10 = .ok (.aload_n 0, 1) := by decide +kernel
theorem dX10_keepDenial_11 : decode cX10_keepDenial 11 = .ok (.iload_n 3, 1) := by decide +kernel
theorem dX10_keepDenial_12 : decode cX10_keepDenial 12 = .ok (.putfield 391, 3) := by decide +kernel
theorem dX10_keepDenial_15 : decode cX10_keepDenial 15 = .ok (.return_, 1) := by decide +kernel
theorem dX10_settle_0 : decode cX10_settle 0 = .ok (.iload_n 1, 1) := by decide +kernel
theorem dX10_settle_1 : decode cX10_settle 1 = .ok (.iconst (-1), 1) := by decide +kernel
theorem dX10_settle_2 : decode cX10_settle 2 = .ok (.if_icmp .ne 14, 3) := by decide +kernel
theorem dX10_settle_5 : decode cX10_settle 5 = .ok (.new 357, 3) := by decide +kernel
theorem dX10_settle_8 : decode cX10_settle 8 = .ok (.dup, 1) := by decide +kernel
theorem dX10_settle_9 : decode cX10_settle 9 = .ok (.ldc_w 468, 3) := by decide +kernel
theorem dX10_settle_12 : decode cX10_settle 12 = .ok (.invokespecial 361, 3) := by decide +kernel
theorem dX10_settle_15 : decode cX10_settle 15 = .ok (.athrow, 1) := by decide +kernel
theorem dX10_settle_16 : decode cX10_settle 16 = .ok (.iload_n 1, 1) := by decide +kernel
