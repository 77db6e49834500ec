theorem dJ2_getChars_ba4f3_91 : decode cJ2_getChars_ba4f3 91 = .ok (.iload_n 0, 1) := by decide +kernel
theorem dJ2_getChars_ba4f3_92 : decode cJ2_getChars_ba4f3 92 = .ok (.bipush (-9), 2) := by decide +kernel
theorem dJ2_getChars_ba4f3_94 : decode cJ2_getChars_ba4f3 94 = .ok (.if_icmp .ge 18, 3) := by decide +kernel
theorem dJ2_getChars_ba4f3_97 : decode cJ2_getChars_ba4f3 97 = .ok (.aload_n 2, 1) := by decide +kernel
theorem dJ2_getChars_ba4f3_98 : decode cJ2_getChars_ba4f3 98 = .ok (.iinc 5 (-1), 3) := by decide +kernel
theorem dJ2_getChars_ba4f3_101 : decode cJ2_getChars_ba4f3 101 = .ok (.iload 5, 2) := by decide +kernel
theorem dJ2_getChars_ba4f3_103 : decode cJ2_getChars_ba4f3 103 = .ok (.getstatic 407, 3) := by decide +kernel
theorem dJ2_getChars_ba4f3_106 : decode cJ2_getChars_ba4f3 106 = .ok (.iload_n 0, 1) := by decide +kernel
theorem dJ2_getChars_ba4f3_107 : decode cJ2_getChars_ba4f3 107 = .ok (.ineg, 1) := by decide +kernel
theorem dJ2_getChars_ba4f3_108 : decode cJ2_getChars_ba4f3 108 = .ok (.baload, 1) := by decide +kernel
theorem dJ2_getChars_ba4f3_109 : decode cJ2_getChars_ba4f3 109 = .ok (.invokestatic 111, 3) := by decide +kernel
theorem dJ2_getChars_ba4f3_112 : decode cJ2_getChars_ba4f3 112 = .ok (.iload 6, 2) := by decide +kernel
theorem dJ2_getChars_ba4f3_114 : decode cJ2_getChars_ba4f3 114 = .ok (.ifCond .eq 14, 3) := by decide +kernel
theorem dJ2_getChars_ba4f3_117 : decode cJ2_getChars_ba4f3 117 = .ok (.aload_n 2, 1) := by decide +kernel
theorem dJ2_getChars_ba4f3_118 : decode cJ2_getChars_ba4f3 118 = .ok (.iinc 5 (-1), 3) := by decide +kernel
theorem dJ2_getChars_ba4f3_121 : decode cJ2_getChars_ba4f3 121 = .ok (.iload 5, 2) := by decide +kernel
theorem dJ2_getChars_ba4f3_123 : decode cJ2_getChars_ba4f3 123 = .ok (.bipush 45, 2) := by decide +kernel
theorem dJ2_getChars_ba4f3_125 : decode cJ2_getChars_ba4f3 125 = .ok (.invokestatic 111, 3) := by decide +kernel
theorem dJ2_getChars_ba4f3_128 : decode cJ2_getChars_ba4f3 128 = .ok (.iload 5, 2) := by decide +kernel
theorem dJ2_getChars_ba4f3_130 : decode cJ2_getChars_ba4f3 130 = .ok (.ireturn, 1) := by decide +kernel
theorem dJ2_checkIndex_2214a_0 : decode cJ2_checkIndex_2214a 0 = .ok (.iload_n 0, 1) := by decide +kernel
theorem dJ2_checkIndex_2214a_1 : decode cJ2_checkIndex_2214a 1 = .ok (.aload_n 1, 1) := by decide +kernel
theorem dJ2_checkIndex_2214a_2 : decode cJ2_checkIndex_2214a 2 = .ok (.invokestatic 48, 3) := by decide +kernel
theorem dJ2_checkIndex_2214a_5 : decode cJ2_checkIndex_2214a 5 = .ok (.invokestatic 414, 3) := by decide +kernel
theorem dJ2_checkIndex_2214a_8 : decode cJ2_checkIndex_2214a 8 = .ok (.return_, 1) := by decide +kernel
theorem dJ2_checkBoundsBeginEnd_d044e_0 : decode cJ2_checkBoundsBeginEnd_d044e 0 = .ok (.iload_n 0, 1) := by decide +kernel
theorem dJ2_checkBoundsBeginEnd_d044e_1 : decode cJ2_checkBoundsBeginEnd_d044e 1 = .ok (.iload_n 1, 1) := by decide +kernel
theorem dJ2_checkBoundsBeginEnd_d044e_2 : decode cJ2_checkBoundsBeginEnd_d044e 2 = .ok (.aload_n 2, 1) := by decide +kernel
theorem dJ2_checkBoundsBeginEnd_d044e_3 : decode cJ2_checkBoundsBeginEnd_d044e 3 = .ok (.invokestatic 48, 3) := by decide +kernel
theorem dJ2_checkBoundsBeginEnd_d044e_6 : decode cJ2_checkBoundsBeginEnd_d044e 6 = .ok (.invokestatic 241, 3) := by decide +kernel
theorem dJ2_checkBoundsBeginEnd_d044e_9 : decode cJ2_checkBoundsBeginEnd_d044e 9 = .ok (.return_, 1) := by decide +kernel
theorem dJ2_checkBoundsOffCount_d044e_0 : decode cJ2_checkBoundsOffCount_d044e 0 = .ok (.iload_n 0, 1) := by decide +kernel
theorem dJ2_checkBoundsOffCount_d044e_1 : decode cJ2_checkBoundsOffCount_d044e 1 = .ok (.iload_n 1, 1) := by decide +kernel
theorem dJ2_checkBoundsOffCount_d044e_2 : decode cJ2_checkBoundsOffCount_d044e 2 = .ok (.aload_n 2, 1) := by decide +kernel
theorem dJ2_checkBoundsOffCount_d044e_3 : decode cJ2_checkBoundsOffCount_d044e 3 = .ok (.invokestatic 48, 3) := by decide +kernel
theorem dJ2_checkBoundsOffCount_d044e_6 : decode cJ2_checkBoundsOffCount_d044e 6 = .ok (.invokestatic 419, 3) := by decide +kernel
theorem dJ2_checkBoundsOffCount_d044e_9 : decode cJ2_checkBoundsOffCount_d044e 9 = .ok (.pop, 1) := by decide +kernel
theorem dJ2_checkBoundsOffCount_d044e_10 : decode cJ2_checkBoundsOffCount_d044e 10 = .ok (.return_, 1) := by decide +kernel
theorem dJ7_rangeCheck_23922_0 : decode cJ7_rangeCheck_23922 0 = .ok (.iload_n 1, 1) := by decide +kernel
theorem dJ7_rangeCheck_23922_1 : decode cJ7_rangeCheck_23922 1 = .ok (.iload_n 2, 1) := by decide +kernel
theorem dJ7_rangeCheck_23922_2 : decode cJ7_rangeCheck_23922 2 = .ok (.if_icmp .le 44, 3) := by decide +kernel
theorem dJ7_rangeCheck_23922_5 : decode cJ7_rangeCheck_23922 5 = .ok (.new 43, 3) := by decide +kernel
theorem dJ7_rangeCheck_23922_8 : decode cJ7_rangeCheck_23922 8 = .ok (.dup, 1) := by decide +kernel
theorem dJ7_rangeCheck_23922_9 : decode cJ7_rangeCheck_23922 9 = .ok (.new 45, 3) := by decide +kernel
theorem dJ7_rangeCheck_23922_12 : decode cJ7_rangeCheck_23922 12 = .ok (.dup, 1) := by decide +kernel
theorem dJ7_rangeCheck_23922_13 : decode cJ7_rangeCheck_23922 13 = .ok (.invokespecial 47, 3) := by decide +kernel
theorem dJ7_rangeCheck_23922_16 : decode cJ7_rangeCheck_23922 16 = .ok (.ldc 48, 2) := by decide +kernel
theorem dJ7_rangeCheck_23922_18 : decode cJ7_rangeCheck_23922 18 = .ok (.invokevirtual 50, 3) := by decide +kernel
theorem dJ7_rangeCheck_23922_21 : decode cJ7_rangeCheck_23922 21 = .ok (.iload_n 1, 1) := by decide +kernel
theorem dJ7_rangeCheck_23922_22 : decode cJ7_rangeCheck_23922 22 = .ok (.invokevirtual 54, 3) := by decide +kernel
theorem dJ7_rangeCheck_23922_25 : decode cJ7_rangeCheck_23922 25 = .ok (.ldc 57, 2) := by decide +kernel
theorem dJ7_rangeCheck_23922_27 : decode cJ7_rangeCheck_23922 27 = .ok (.invokevirtual 50, 3) := by decide +kernel
theorem dJ7_rangeCheck_23922_30 : decode cJ7_rangeCheck_23922 30 = .ok (.iload_n 2, 1) := by decide +kernel
theorem dJ7_rangeCheck_23922_31 : decode cJ7_rangeCheck_23922 31 = .ok (.invokevirtual 54, 3) := by decide +kernel
theorem dJ7_rangeCheck_23922_34 : decode cJ7_rangeCheck_23922 34 = .ok (.ldc 59, 2) := by decide +kernel
theorem dJ7_rangeCheck_23922_36 : decode cJ7_rangeCheck_23922 36 = .ok (.invokevirtual 50, 3) := by decide +kernel
theorem dJ7_rangeCheck_23922_39 : decode cJ7_rangeCheck_23922 39 = .ok (.invokevirtual 61, 3) := by decide +kernel
theorem dJ7_rangeCheck_23922_42 : decode cJ7_rangeCheck_23922 42 = .ok (.invokespecial 65, 3) := by decide +kernel
theorem dJ7_rangeCheck_23922_45 : decode cJ7_rangeCheck_23922 45 = .ok (.athrow, 1) := by decide +kernel
theorem dJ7_rangeCheck_23922_46 : decode cJ7_rangeCheck_23922 46 = .ok (.iload_n 1, 1) := by decide +kernel
theorem dJ7_rangeCheck_23922_47 : decode cJ7_rangeCheck_23922 47 = .ok (.ifCond .ge 12, 3) := by decide +kernel
theorem dJ7_rangeCheck_23922_50 : decode cJ7_rangeCheck_23922 50 = .ok (.new 68, 3) := by decide +kernel
theorem dJ7_rangeCheck_23922_53 : decode cJ7_rangeCheck_23922 53 = .ok (.dup, 1) := by decide +kernel
theorem dJ7_rangeCheck_23922_54 : decode cJ7_rangeCheck_23922 54 = .ok (.iload_n 1, 1) := by decide +kernel
theorem dJ7_rangeCheck_23922_55 : decode cJ7_rangeCheck_23922 55 = .ok (.invokespecial 70, 3) := by decide +kernel
theorem dJ7_rangeCheck_23922_58 : decode cJ7_rangeCheck_23922 58 = .ok (.athrow, 1) := by decide +kernel
theorem dJ7_rangeCheck_23922_59 : decode cJ7_rangeCheck_23922 59 = .ok (.iload_n 2, 1) := by decide +kernel
theorem dJ7_rangeCheck_23922_60 : decode cJ7_rangeCheck_23922 60 = .ok (.iload_n 0, 1) := by decide +kernel
theorem dJ7_rangeCheck_23922_61 : decode cJ7_rangeCheck_23922 61 = .ok (.if_icmp .le 12, 3) := by decide +kernel
theorem dJ7_rangeCheck_23922_64 : decode cJ7_rangeCheck_23922 64 = .ok (.new 68, 3) := by decide +kernel
theorem dJ7_rangeCheck_23922_67 : decode cJ7_rangeCheck_23922 67 = .ok (.dup, 1) := by decide +kernel
theorem dJ7_rangeCheck_23922_68 : decode cJ7_rangeCheck_23922 68 = .ok (.iload_n 2, 1) := by decide +kernel
theorem dJ7_rangeCheck_23922_69 : decode cJ7_rangeCheck_23922 69 = .ok (.invokespecial 70, 3) := by decide +kernel
theorem dJ7_rangeCheck_23922_72 : decode cJ7_rangeCheck_23922 72 = .ok (.athrow, 1) := by decide +kernel
theorem dJ7_rangeCheck_23922_73 : decode cJ7_rangeCheck_23922 73 = .ok (.return_, 1) := by decide +kernel
theorem dJ7_fill_eb02e_0 : decode cJ7_fill_eb02e 0 = .ok (.aload_n 0, 1) := by decide +kernel
theorem dJ7_fill_eb02e_1 : decode cJ7_fill_eb02e 1 = .ok (.arraylength, 1) := by decide +kernel
theorem dJ7_fill_eb02e_2 : decode cJ7_fill_eb02e 2 = .ok (.iload_n 1, 1) := by decide +kernel
theorem dJ7_fill_eb02e_3 : decode cJ7_fill_eb02e 3 = .ok (.iload_n 2, 1) := by decide +kernel
theorem dJ7_fill_eb02e_4 : decode cJ7_fill_eb02e 4 = .ok (.invokestatic 13, 3) := by decide +kernel
theorem dJ7_fill_eb02e_7 : decode cJ7_fill_eb02e 7 = .ok (.iload_n 1, 1) := by decide +kernel
theorem dJ7_fill_eb02e_8 : decode cJ7_fill_eb02e 8 = .ok (.istore 4, 2) := by decide +kernel
theorem dJ7_fill_eb02e_10 : decode cJ7_fill_eb02e 10 = .ok (.iload 4, 2) := by decide +kernel
theorem dJ7_fill_eb02e_12 : decode cJ7_fill_eb02e 12 = .ok (.iload_n 2, 1) := by decide +kernel
theorem dJ7_fill_eb02e_13 : decode cJ7_fill_eb02e 13 = .ok (.if_icmp .ge 14, 3) := by decide +kernel
theorem dJ7_fill_eb02e_16 : decode cJ7_fill_eb02e 16 = .ok (.aload_n 0, 1) := by decide +kernel
theorem dJ7_fill_eb02e_17 : decode cJ7_fill_eb02e 17 = .ok (.iload 4, 2) := by decide +kernel
theorem dJ7_fill_eb02e_19 : decode cJ7_fill_eb02e 19 = .ok (.iload_n 3, 1) := by decide +kernel
theorem dJ7_fill_eb02e_20 : decode cJ7_fill_eb02e 20 = .ok (.bastore, 1) := by decide +kernel
theorem dJ7_fill_eb02e_21 : decode cJ7_fill_eb02e 21 = .ok (.iinc 4 1, 3) := by decide +kernel
theorem dJ7_fill_eb02e_24 : decode cJ7_fill_eb02e 24 = .ok (.goto (-14), 3) := by decide +kernel
theorem dJ7_fill_eb02e_27 : decode cJ7_fill_eb02e 27 = .ok (.return_, 1) := by decide +kernel
theorem dJ7_copyOf_9075b_0 : decode cJ7_copyOf_9075b 0 = .ok (.iload_n 1, 1) := by decide +kernel
theorem dJ7_copyOf_9075b_1 : decode cJ7_copyOf_9075b 1 = .ok (.aload_n 0, 1) := by decide +kernel
theorem dJ7_copyOf_9075b_2 : decode cJ7_copyOf_9075b 2 = .ok (.arraylength, 1) := by decide +kernel
theorem dJ7_copyOf_9075b_3 : decode cJ7_copyOf_9075b 3 = .ok (.if_icmp .ne 11, 3) := by decide +kernel
theorem dJ7_copyOf_9075b_6 : decode cJ7_copyOf_9075b 6 = .ok (.aload_n 0, 1) := by decide +kernel
theorem dJ7_copyOf_9075b_7 : decode cJ7_copyOf_9075b 7 = .ok (.invokevirtual 310, 3) := by decide +kernel
theorem dJ7_copyOf_9075b_10 : decode cJ7_copyOf_9075b 10 = .ok (.checkcast 311, 3) := by decide +kernel
theorem dJ7_copyOf_9075b_13 : decode cJ7_copyOf_9075b 13 = .ok (.areturn, 1) := by decide +kernel
theorem dJ7_copyOf_9075b_14 : decode cJ7_copyOf_9075b 14 = .ok (.iload_n 1, 1) := by decide +kernel
theorem dJ7_copyOf_9075b_15 : decode cJ7_copyOf_9075b 15 = .ok (.newarray .byte, 2) := by decide +kernel
theorem dJ7_copyOf_9075b_17 : decode cJ7_copyOf_9075b 17 = .ok (.astore_n 2, 1) := by decide +kernel
theorem dJ7_copyOf_9075b_18 : decode cJ7_copyOf_9075b 18 = .ok (.aload_n 0, 1) := by decide +kernel
theorem dJ7_copyOf_9075b_19 : decode cJ7_copyOf_9075b 19 = .ok (.iconst 0, 1) := by decide +kernel
theorem dJ7_copyOf_9075b_20 : decode cJ7_copyOf_9075b 20 = .ok (.aload_n 2, 1) := by decide +kernel
theorem dJ7_copyOf_9075b_21 : decode cJ7_copyOf_9075b 21 = .ok (.iconst 0, 1) := by decide +kernel
theorem dJ7_copyOf_9075b_22 : decode cJ7_copyOf_9075b 22 = .ok (.aload_n 0, 1) := by decide +kernel
theorem dJ7_copyOf_9075b_23 : decode cJ7_copyOf_9075b 23 = .ok (.arraylength, 1) := by decide +kernel
theorem dJ7_copyOf_9075b_24 : decode cJ7_copyOf_9075b 24 = .ok (.iload_n 1, 1) := by decide +kernel
theorem dJ7_copyOf_9075b_25 : decode cJ7_copyOf_9075b 25 = .ok (.invokestatic 304, 3) := by decide +kernel
theorem dJ7_copyOf_9075b_28 : decode cJ7_copyOf_9075b 28 = .ok (.invokestatic 150, 3) := by decide +kernel
theorem dJ7_copyOf_9075b_31 : decode cJ7_copyOf_9075b 31 = .ok (.aload_n 2, 1) := by decide +kernel
theorem dJ7_copyOf_9075b_32 : decode cJ7_copyOf_9075b 32 = .ok (.areturn, 1) := by decide +kernel
theorem dJ7_checkLength_df160_0 : decode cJ7_checkLength_df160 0 = .ok (.iload_n 1, 1) := by decide +kernel
theorem dJ7_checkLength_df160_1 : decode cJ7_checkLength_df160 1 = .ok (.iload_n 0, 1) := by decide +kernel
theorem dJ7_checkLength_df160_2 : decode cJ7_checkLength_df160 2 = .ok (.if_icmp .ge 35, 3) := by decide +kernel
theorem dJ7_checkLength_df160_5 : decode cJ7_checkLength_df160 5 = .ok (.new 43, 3) := by decide +kernel
theorem dJ7_checkLength_df160_8 : decode cJ7_checkLength_df160 8 = .ok (.dup, 1) := by decide +kernel
theorem dJ7_checkLength_df160_9 : decode cJ7_checkLength_df160 9 = .ok (.new 45, 3) := by decide +kernel
theorem dJ7_checkLength_df160_12 : decode cJ7_checkLength_df160 12 = .ok (.dup, 1) := by decide +kernel
theorem dJ7_checkLength_df160_13 : decode cJ7_checkLength_df160 13 = .ok (.invokespecial 47, 3) := by decide +kernel
theorem dJ7_checkLength_df160_16 : decode cJ7_checkLength_df160 16 = .ok (.iload_n 0, 1) := by decide +kernel
theorem dJ7_checkLength_df160_17 : decode cJ7_checkLength_df160 17 = .ok (.invokevirtual 54, 3) := by decide +kernel
theorem dJ7_checkLength_df160_20 : decode cJ7_checkLength_df160 20 = .ok (.ldc_w 337, 3) := by decide +kernel
theorem dJ7_checkLength_df160_23 : decode cJ7_checkLength_df160 23 = .ok (.invokevirtual 50, 3) := by decide +kernel
theorem dJ7_checkLength_df160_26 : decode cJ7_checkLength_df160 26 = .ok (.iload_n 1, 1) := by decide +kernel
theorem dJ7_checkLength_df160_27 : decode cJ7_checkLength_df160 27 = .ok (.invokevirtual 54, 3) := by decide +kernel
theorem dJ7_checkLength_df160_30 : decode cJ7_checkLength_df160 30 = .ok (.invokevirtual 61, 3) := by decide +kernel
theorem dJ7_checkLength_df160_33 : decode cJ7_checkLength_df160 33 = .ok (.invokespecial 65, 3) := by decide +kernel
theorem dJ7_checkLength_df160_36 : decode cJ7_checkLength_df160 36 = .ok (.athrow, 1) := by decide +kernel
theorem dJ7_checkLength_df160_37 : decode cJ7_checkLength_df160 37 = .ok (.return_, 1) := by decide +kernel
theorem dJ7_copyOfRange_39247_0 : decode cJ7_copyOfRange_39247 0 = .ok (.iload_n 1, 1) := by decide +kernel
theorem dJ7_copyOfRange_39247_1 : decode cJ7_copyOfRange_39247 1 = .ok (.ifCond .ne 9, 3) := by decide +kernel
theorem dJ7_copyOfRange_39247_4 : decode cJ7_copyOfRange_39247 4 = .ok (.iload_n 2, 1) := by decide +kernel
theorem dJ7_copyOfRange_39247_5 : decode cJ7_copyOfRange_39247 5 = .ok (.aload_n 0, 1) := by decide +kernel
theorem dJ7_copyOfRange_39247_6 : decode cJ7_copyOfRange_39247 6 = .ok (.arraylength, 1) := by decide +kernel
theorem dJ7_copyOfRange_39247_7 : decode cJ7_copyOfRange_39247 7 = .ok (.if_icmp .eq 10, 3) := by decide +kernel
theorem dJ7_copyOfRange_39247_10 : decode cJ7_copyOfRange_39247 10 = .ok (.aload_n 0, 1) := by decide +kernel
theorem dJ7_copyOfRange_39247_11 : decode cJ7_copyOfRange_39247 11 = .ok (.iload_n 1, 1) := by decide +kernel
theorem dJ7_copyOfRange_39247_12 : decode cJ7_copyOfRange_39247 12 = .ok (.iload_n 2, 1) := by decide +kernel
theorem dJ7_copyOfRange_39247_13 : decode cJ7_copyOfRange_39247 13 = .ok (.invokestatic 339, 3) := by decide +kernel
theorem dJ7_copyOfRange_39247_16 : decode cJ7_copyOfRange_39247 16 = .ok (.areturn, 1) := by decide +kernel
theorem dJ7_copyOfRange_39247_17 : decode cJ7_copyOfRange_39247 17 = .ok (.aload_n 0, 1) := by decide +kernel
theorem dJ7_copyOfRange_39247_18 : decode cJ7_copyOfRange_39247 18 = .ok (.invokevirtual 310, 3) := by decide +kernel
theorem dJ7_copyOfRange_39247_21 : decode cJ7_copyOfRange_39247 21 = .ok (.checkcast 311, 3) := by decide +kernel
theorem dJ7_copyOfRange_39247_24 : decode cJ7_copyOfRange_39247 24 = .ok (.areturn, 1) := by decide +kernel
theorem dJ7_copyOfRangeByte_39247_0 : decode cJ7_copyOfRangeByte_39247 0 = .ok (.iload_n 1, 1) := by decide +kernel
theorem dJ7_copyOfRangeByte_39247_1 : decode cJ7_copyOfRangeByte_39247 1 = .ok (.iload_n 2, 1) := by decide +kernel
theorem dJ7_copyOfRangeByte_39247_2 : decode cJ7_copyOfRangeByte_39247 2 = .ok (.invokestatic 343, 3) := by decide +kernel
theorem dJ7_copyOfRangeByte_39247_5 : decode cJ7_copyOfRangeByte_39247 5 = .ok (.iload_n 2, 1) := by decide +kernel
theorem dJ7_copyOfRangeByte_39247_6 : decode cJ7_copyOfRangeByte_39247 6 = .ok (.iload_n 1, 1) := by decide +kernel
theorem dJ7_copyOfRangeByte_39247_7 : decode cJ7_copyOfRangeByte_39247 7 = .ok (.isub, 1) := by decide +kernel
theorem dJ7_copyOfRangeByte_39247_8 : decode cJ7_copyOfRangeByte_39247 8 = .ok (.istore_n 3, 1) := by decide +kernel
theorem dJ7_copyOfRangeByte_39247_9 : decode cJ7_copyOfRangeByte_39247 9 = .ok (.iload_n 3, 1) := by decide +kernel
theorem dJ7_copyOfRangeByte_39247_10 : decode cJ7_copyOfRangeByte_39247 10 = .ok (.newarray .byte, 2) := by decide +kernel
theorem dJ7_copyOfRangeByte_39247_12 : decode cJ7_copyOfRangeByte_39247 12 = .ok (.astore 4, 2) := by decide +kernel
theorem dJ7_copyOfRangeByte_39247_14 : decode cJ7_copyOfRangeByte_39247 14 = .ok (.aload_n 0, 1) := by decide +kernel
theorem dJ7_copyOfRangeByte_39247_15 : decode cJ7_copyOfRangeByte_39247 15 = .ok (.iload_n 1, 1) := by decide +kernel
theorem dJ7_copyOfRangeByte_39247_16 : decode cJ7_copyOfRangeByte_39247 16 = .ok (.aload 4, 2) := by decide +kernel
theorem dJ7_copyOfRangeByte_39247_18 : decode cJ7_copyOfRangeByte_39247 18 = .ok (.iconst 0, 1) := by decide +kernel
theorem dJ7_copyOfRangeByte_39247_19 : decode cJ7_copyOfRangeByte_39247 19 = .ok (.aload_n 0, 1) := by decide +kernel
theorem dJ7_copyOfRangeByte_39247_20 : decode cJ7_copyOfRangeByte_39247 20 = .ok (.arraylength, 1) := by decide +kernel
theorem dJ7_copyOfRangeByte_39247_21 : decode cJ7_copyOfRangeByte_39247 21 = .ok (.iload_n 1, 1) := by decide +kernel
theorem dJ7_copyOfRangeByte_39247_22 : decode cJ7_copyOfRangeByte_39247 22 = .ok (.isub, 1) := by decide +kernel
theorem dJ7_copyOfRangeByte_39247_23 : decode cJ7_copyOfRangeByte_39247 23 = .ok (.iload_n 3, 1) := by decide +kernel
theorem dJ7_copyOfRangeByte_39247_24 : decode cJ7_copyOfRangeByte_39247 24 = .ok (.invokestatic 304, 3) := by decide +kernel
theorem dJ7_copyOfRangeByte_39247_27 : decode cJ7_copyOfRangeByte_39247 27 = .ok (.invokestatic 150, 3) := by decide +kernel
theorem dJ7_copyOfRangeByte_39247_30 : decode cJ7_copyOfRangeByte_39247 30 = .ok (.aload 4, 2) := by decide +kernel
theorem dJ7_copyOfRangeByte_39247_32 : decode cJ7_copyOfRangeByte_39247 32 = .ok (.areturn, 1) := by decide +kernel
theorem dJ8_newLength_cabcc_0 : decode cJ8_newLength_cabcc 0 = .ok (.iload_n 0, 1) := by decide +kernel
theorem dJ8_newLength_cabcc_1 : decode cJ8_newLength_cabcc 1 = .ok (.iload_n 1, 1) := by decide +kernel
theorem dJ8_newLength_cabcc_2 : decode cJ8_newLength_cabcc 2 = .ok (.iload_n 2, 1) := by decide +kernel
theorem dJ8_newLength_cabcc_3 : decode cJ8_newLength_cabcc 3 = .ok (.invokestatic 194, 3) := by decide +kernel
theorem dJ8_newLength_cabcc_6 : decode cJ8_newLength_cabcc 6 = .ok (.iadd, 1) := by decide +kernel
theorem dJ8_newLength_cabcc_7 : decode cJ8_newLength_cabcc 7 = .ok (.istore_n 3, 1) := by decide +kernel
theorem dJ8_newLength_cabcc_8 : decode cJ8_newLength_cabcc 8 = .ok (.iconst 0, 1) := by decide +kernel
theorem dJ8_newLength_cabcc_9 : decode cJ8_newLength_cabcc 9 = .ok (.iload_n 3, 1) := by decide +kernel
theorem dJ8_newLength_cabcc_10 : decode cJ8_newLength_cabcc 10 = .ok (.if_icmp .ge 11, 3) := by decide +kernel
theorem dJ8_newLength_cabcc_13 : decode cJ8_newLength_cabcc 13 = .ok (.iload_n 3, 1) := by decide +kernel
theorem dJ8_newLength_cabcc_14 : decode cJ8_newLength_cabcc 14 = .ok (.ldc 200, 2) := by decide +kernel
theorem dJ8_newLength_cabcc_16 : decode cJ8_newLength_cabcc 16 = .ok (.if_icmp .gt 5, 3) := by decide +kernel
theorem dJ8_newLength_cabcc_19 : decode cJ8_newLength_cabcc 19 = .ok (.iload_n 3, 1) := by decide +kernel
theorem dJ8_newLength_cabcc_20 : decode cJ8_newLength_cabcc 20 = .ok (.ireturn, 1) := by decide +kernel
theorem dJ8_newLength_cabcc_21 : decode cJ8_newLength_cabcc 21 = .ok (.iload_n 0, 1) := by decide +kernel
theorem dJ8_newLength_cabcc_22 : decode cJ8_newLength_cabcc 22 = .ok (.iload_n 1, 1) := by decide +kernel
theorem dJ8_newLength_cabcc_23 : decode cJ8_newLength_cabcc 23 = .ok (.invokestatic 201, 3) := by decide +kernel
theorem dJ8_newLength_cabcc_26 : decode cJ8_newLength_cabcc 26 = .ok (.ireturn, 1) := by decide +kernel
theorem dJ8_hugeLength_7cf53_0 : decode cJ8_hugeLength_7cf53 0 = .ok (.iload_n 0, 1) := by decide +kernel
theorem dJ8_hugeLength_7cf53_1 : decode cJ8_hugeLength_7cf53 1 = .ok (.iload_n 1, 1) := by decide +kernel
theorem dJ8_hugeLength_7cf53_2 : decode cJ8_hugeLength_7cf53 2 = .ok (.iadd, 1) := by decide +kernel
theorem dJ8_hugeLength_7cf53_3 : decode cJ8_hugeLength_7cf53 3 = .ok (.istore_n 2, 1) := by decide +kernel
theorem dJ8_hugeLength_7cf53_4 : decode cJ8_hugeLength_7cf53 4 = .ok (.iload_n 2, 1) := by decide +kernel
theorem dJ8_hugeLength_7cf53_5 : decode cJ8_hugeLength_7cf53 5 = .ok (.ifCond .ge 44, 3) := by decide +kernel
theorem dJ8_hugeLength_7cf53_8 : decode cJ8_hugeLength_7cf53 8 = .ok (.new 204, 3) := by decide +kernel
theorem dJ8_hugeLength_7cf53_11 : decode cJ8_hugeLength_7cf53 11 = .ok (.dup, 1) := by decide +kernel
theorem dJ8_hugeLength_7cf53_12 : decode cJ8_hugeLength_7cf53 12 = .ok (.new 89, 3) := by decide +kernel
theorem dJ8_hugeLength_7cf53_15 : decode cJ8_hugeLength_7cf53 15 = .ok (.dup, 1) := by decide +kernel
theorem dJ8_hugeLength_7cf53_16 : decode cJ8_hugeLength_7cf53 16 = .ok (.invokespecial 91, 3) := by decide +kernel
theorem dJ8_hugeLength_7cf53_19 : decode cJ8_hugeLength_7cf53 19 = .ok (.ldc 206, 2) := by decide +kernel
theorem dJ8_hugeLength_7cf53_21 : decode cJ8_hugeLength_7cf53 21 = .ok (.invokevirtual 94, 3) := by decide +kernel
theorem dJ8_hugeLength_7cf53_24 : decode cJ8_hugeLength_7cf53 24 = .ok (.iload_n 0, 1) := by decide +kernel
theorem dJ8_hugeLength_7cf53_25 : decode cJ8_hugeLength_7cf53 25 = .ok (.invokevirtual 98, 3) := by decide +kernel
theorem dJ8_hugeLength_7cf53_28 : decode cJ8_hugeLength_7cf53 28 = .ok (.ldc 208, 2) := by decide +kernel
theorem dJ8_hugeLength_7cf53_30 : decode cJ8_hugeLength_7cf53 30 = .ok (.invokevirtual 94, 3) := by decide +kernel
theorem dJ8_hugeLength_7cf53_33 : decode cJ8_hugeLength_7cf53 33 = .ok (.iload_n 1, 1) := by decide +kernel
theorem dJ8_hugeLength_7cf53_34 : decode cJ8_hugeLength_7cf53 34 = .ok (.invokevirtual 98, 3) := by decide +kernel
theorem dJ8_hugeLength_7cf53_37 : decode cJ8_hugeLength_7cf53 37 = .ok (.ldc 210, 2) := by decide +kernel
theorem dJ8_hugeLength_7cf53_39 : decode cJ8_hugeLength_7cf53 39 = .ok (.invokevirtual 94, 3) := by decide +kernel
theorem dJ8_hugeLength_7cf53_42 : decode cJ8_hugeLength_7cf53 42 = .ok (.invokevirtual 101, 3) := by decide +kernel
theorem dJ8_hugeLength_7cf53_45 : decode cJ8_hugeLength_7cf53 45 = .ok (.invokespecial 212, 3) := by decide +kernel
theorem dJ8_hugeLength_7cf53_48 : decode cJ8_hugeLength_7cf53 48 = .ok (.athrow, 1) := by decide +kernel
theorem dJ8_hugeLength_7cf53_49 : decode cJ8_hugeLength_7cf53 49 = .ok (.iload_n 2, 1) := by decide +kernel
theorem dJ8_hugeLength_7cf53_50 : decode cJ8_hugeLength_7cf53 50 = .ok (.ldc 200, 2) := by decide +kernel
theorem dJ8_hugeLength_7cf53_52 : decode cJ8_hugeLength_7cf53 52 = .ok (.if_icmp .gt 6, 3) := by decide +kernel
theorem dJ8_hugeLength_7cf53_55 : decode cJ8_hugeLength_7cf53 55 = .ok (.ldc 200, 2) := by decide +kernel
theorem dJ8_hugeLength_7cf53_57 : decode cJ8_hugeLength_7cf53 57 = .ok (.ireturn, 1) := by decide +kernel
theorem dJ8_hugeLength_7cf53_58 : decode cJ8_hugeLength_7cf53 58 = .ok (.iload_n 2, 1) := by decide +kernel
theorem dJ8_hugeLength_7cf53_59 : decode cJ8_hugeLength_7cf53 59 = .ok (.ireturn, 1) := by decide +kernel
theorem dJ3_checkIndex_8e157_0 : decode cJ3_checkIndex_8e157 0 = .ok (.iload_n 0, 1) := by decide +kernel
theorem dJ3_checkIndex_8e157_1 : decode cJ3_checkIndex_8e157 1 = .ok (.ifCond .lt 8, 3) := by decide +kernel
theorem dJ3_checkIndex_8e157_4 : decode cJ3_checkIndex_8e157 4 = .ok (.iload_n 0, 1) := by decide +kernel
theorem dJ3_checkIndex_8e157_5 : decode cJ3_checkIndex_8e157 5 = .ok (.iload_n 1, 1) := by decide +kernel
theorem dJ3_checkIndex_8e157_6 : decode cJ3_checkIndex_8e157 6 = .ok (.if_icmp .lt 10, 3) := by decide +kernel
theorem dJ3_checkIndex_8e157_9 : decode cJ3_checkIndex_8e157 9 = .ok (.aload_n 2, 1) := by decide +kernel
theorem dJ3_checkIndex_8e157_10 : decode cJ3_checkIndex_8e157 10 = .ok (.iload_n 0, 1) := by decide +kernel
theorem dJ3_checkIndex_8e157_11 : decode cJ3_checkIndex_8e157 11 = .ok (.iload_n 1, 1) := by decide +kernel
theorem dJ3_checkIndex_8e157_12 : decode cJ3_checkIndex_8e157 12 = .ok (.invokestatic 95, 3) := by decide +kernel
theorem dJ3_checkIndex_8e157_15 : decode cJ3_checkIndex_8e157 15 = .ok (.athrow, 1) := by decide +kernel
theorem dJ3_checkIndex_8e157_16 : decode cJ3_checkIndex_8e157 16 = .ok (.iload_n 0, 1) := by decide +kernel
theorem dJ3_checkIndex_8e157_17 : decode cJ3_checkIndex_8e157 17 = .ok (.ireturn, 1) := by decide +kernel
theorem dJ3_checkFromToIndex_8c36e_0 : decode cJ3_checkFromToIndex_8c36e 0 = .ok (.iload_n 0, 1) := by decide +kernel
theorem dJ3_checkFromToIndex_8c36e_1 : decode cJ3_checkFromToIndex_8c36e 1 = .ok (.ifCond .lt 13, 3) := by decide +kernel
theorem dJ3_checkFromToIndex_8c36e_4 : decode cJ3_checkFromToIndex_8c36e 4 = .ok (.iload_n 0, 1) := by decide +kernel
theorem dJ3_checkFromToIndex_8c36e_5 : decode cJ3_checkFromToIndex_8c36e 5 = .ok (.iload_n 1, 1) := by decide +kernel
theorem dJ3_checkFromToIndex_8c36e_6 : decode cJ3_checkFromToIndex_8c36e 6 = .ok (.if_icmp .gt 8, 3) := by decide +kernel
theorem dJ3_checkFromToIndex_8c36e_9 : decode cJ3_checkFromToIndex_8c36e 9 = .ok (.iload_n 1, 1) := by decide +kernel
theorem dJ3_checkFromToIndex_8c36e_10 : decode cJ3_checkFromToIndex_8c36e 10 = .ok (.iload_n 2, 1) := by decide +kernel
theorem dJ3_checkFromToIndex_8c36e_11 : decode cJ3_checkFromToIndex_8c36e 11 = .ok (.if_icmp .le 11, 3) := by decide +kernel
theorem dJ3_checkFromToIndex_8c36e_14 : decode cJ3_checkFromToIndex_8c36e 14 = .ok (.aload_n 3, 1) := by decide +kernel
theorem dJ3_checkFromToIndex_8c36e_15 : decode cJ3_checkFromToIndex_8c36e 15 = .ok (.iload_n 0, 1) := by decide +kernel
theorem dJ3_checkFromToIndex_8c36e_16 : decode cJ3_checkFromToIndex_8c36e 16 = .ok (.iload_n 1, 1) := by decide +kernel
theorem dJ3_checkFromToIndex_8c36e_17 : decode cJ3_checkFromToIndex_8c36e 17 = .ok (.iload_n 2, 1) := by decide +kernel
theorem dJ3_checkFromToIndex_8c36e_18 : decode cJ3_checkFromToIndex_8c36e 18 = .ok (.invokestatic 99, 3) := by decide +kernel
theorem dJ3_checkFromToIndex_8c36e_21 : decode cJ3_checkFromToIndex_8c36e 21 = .ok (.athrow, 1) := by decide +kernel
theorem dJ3_checkFromToIndex_8c36e_22 : decode cJ3_checkFromToIndex_8c36e 22 = .ok (.iload_n 0, 1) := by decide +kernel
theorem dJ3_checkFromToIndex_8c36e_23 : decode cJ3_checkFromToIndex_8c36e 23 = .ok (.ireturn, 1) := by decide +kernel
theorem dJ3_checkFromIndexSize_8c36e_0 : decode cJ3_checkFromIndexSize_8c36e 0 = .ok (.iload_n 2, 1) := by decide +kernel
theorem dJ3_checkFromIndexSize_8c36e_1 : decode cJ3_checkFromIndexSize_8c36e 1 = .ok (.iload_n 0, 1) := by decide +kernel
theorem dJ3_checkFromIndexSize_8c36e_2 : decode cJ3_checkFromIndexSize_8c36e 2 = .ok (.ior, 1) := by decide +kernel
theorem dJ3_checkFromIndexSize_8c36e_3 : decode cJ3_checkFromIndexSize_8c36e 3 = .ok (.iload_n 1, 1) := by decide +kernel
theorem dJ3_checkFromIndexSize_8c36e_4 : decode cJ3_checkFromIndexSize_8c36e 4 = .ok (.ior, 1) := by decide +kernel
theorem dJ3_checkFromIndexSize_8c36e_5 : decode cJ3_checkFromIndexSize_8c36e 5 = .ok (.ifCond .lt 10, 3) := by decide +kernel
theorem dJ3_checkFromIndexSize_8c36e_8 : decode cJ3_checkFromIndexSize_8c36e 8 = .ok (.iload_n 1, 1) := by decide +kernel
theorem dJ3_checkFromIndexSize_8c36e_9 : decode cJ3_checkFromIndexSize_8c36e 9 = .ok (.iload_n 2, 1) := by decide +kernel
theorem dJ3_checkFromIndexSize_8c36e_10 : decode cJ3_checkFromIndexSize_8c36e 10 = .ok (.iload_n 0, 1) := by decide +kernel
theorem dJ3_checkFromIndexSize_8c36e_11 : decode cJ3_checkFromIndexSize_8c36e 11 = .ok (.isub, 1) := by decide +kernel
theorem dJ3_checkFromIndexSize_8c36e_12 : decode cJ3_checkFromIndexSize_8c36e 12 = .ok (.if_icmp .le 11, 3) := by decide +kernel
theorem dJ3_checkFromIndexSize_8c36e_15 : decode cJ3_checkFromIndexSize_8c36e 15 = .ok (.aload_n 3, 1) := by decide +kernel
theorem dJ3_checkFromIndexSize_8c36e_16 : decode cJ3_checkFromIndexSize_8c36e 16 = .ok (.iload_n 0, 1) := by decide +kernel
theorem dJ3_checkFromIndexSize_8c36e_17 : decode cJ3_checkFromIndexSize_8c36e 17 = .ok (.iload_n 1, 1) := by decide +kernel
theorem dJ3_checkFromIndexSize_8c36e_18 : decode cJ3_checkFromIndexSize_8c36e 18 = .ok (.iload_n 2, 1) := by decide +kernel
theorem dJ3_checkFromIndexSize_8c36e_19 : decode cJ3_checkFromIndexSize_8c36e 19 = .ok (.invokestatic 103, 3) := by decide +kernel
theorem dJ3_checkFromIndexSize_8c36e_22 : decode cJ3_checkFromIndexSize_8c36e 22 = .ok (.athrow, 1) := by decide +kernel
theorem dJ3_checkFromIndexSize_8c36e_23 : decode cJ3_checkFromIndexSize_8c36e 23 = .ok (.iload_n 0, 1) := by decide +kernel
theorem dJ3_checkFromIndexSize_8c36e_24 : decode cJ3_checkFromIndexSize_8c36e 24 = .ok (.ireturn, 1) := by decide +kernel
theorem dL_cell_0 : decode cL_cell 0 = .ok (.aload_n 0, 1) := by decide +kernel
theorem dL_cell_1 : decode cL_cell 1 = .ok (.arraylength, 1) := by decide +kernel
theorem dL_cell_2 : decode cL_cell 2 = .ok (.ifCond .ne 11, 3) := by decide +kernel
theorem dL_cell_5 : decode cL_cell 5 = .ok (.sipush 577, 3) := by decide +kernel
theorem dL_cell_8 : decode cL_cell 8 = .ok (.iload_n 1, 1) := by decide +kernel
theorem dL_cell_9 : decode cL_cell 9 = .ok (.imul, 1) := by decide +kernel
theorem dL_cell_10 : decode cL_cell 10 = .ok (.goto 12, 3) := by decide +kernel
theorem dL_cell_13 : decode cL_cell 13 = .ok (.aload_n 0, 1) := by decide +kernel
theorem dL_cell_14 : decode cL_cell 14 = .ok (.iload_n 1, 1) := by decide +kernel
theorem dL_cell_15 : decode cL_cell 15 = .ok (.ldc 7, 2) := by decide +kernel
theorem dL_cell_17 : decode cL_cell 17 = .ok (.iand, 1) := by decide +kernel
theorem dL_cell_18 : decode cL_cell 18 = .ok (.aload_n 0, 1) := by decide +kernel
theorem dL_cell_19 : decode cL_cell 19 = .ok (.arraylength, 1) := by decide +kernel
theorem dL_cell_20 : decode cL_cell 20 = .ok (.irem, 1) := by decide +kernel
theorem dL_cell_21 : decode cL_cell 21 = .ok (.iaload, 1) := by decide +kernel
theorem dL_cell_22 : decode cL_cell 22 = .ok (.ireturn, 1) := by decide +kernel
theorem dL_setDepth_0 : decode cL_setDepth 0 = .ok (.ldc 10, 2) := by decide +kernel
theorem dL_setDepth_2 : decode cL_setDepth 2 = .ok (.istore 4, 2) := by decide +kernel
theorem dL_setDepth_4 : decode cL_setDepth 4 = .ok (.aload_n 0, 1) := by decide +kernel
theorem dL_setDepth_5 : decode cL_setDepth 5 = .ok (.iload_n 1, 1) := by decide +kernel
theorem dL_setDepth_6 : decode cL_setDepth 6 = .ok (.iload_n 2, 1) := by decide +kernel
theorem dL_setDepth_7 : decode cL_setDepth 7 = .ok (.iload_n 3, 1) := by decide +kernel
theorem dL_setDepth_8 : decode cL_setDepth 8 = .ok (.invokevirtual 11, 3) := by decide +kernel
theorem dL_setDepth_11 : decode cL_setDepth 11 = .ok (.istore 4, 2) := by decide +kernel
theorem dL_setDepth_13 : decode cL_setDepth 13 = .ok (.goto 18, 3) := by decide +kernel
theorem dL_setDepth_16 : decode cL_setDepth 16 = .ok (.astore 5, 2) := by decide +kernel
theorem dL_setDepth_18 : decode cL_setDepth 18 = .ok (.ldc 10, 2) := by decide +kernel
theorem dL_setDepth_20 : decode cL_setDepth 20 = .ok (.ireturn, 1) := by decide +kernel
theorem dL_setDepth_21 : decode cL_setDepth 21 = .ok (.astore 5, 2) := by decide +kernel
theorem dL_setDepth_23 : decode cL_setDepth 23 = .ok (.ldc 10, 2) := by decide +kernel
theorem dL_setDepth_25 : decode cL_setDepth 25 = .ok (.ireturn, 1) := by decide +kernel
theorem dL_setDepth_26 : decode cL_setDepth 26 = .ok (.astore 5, 2) := by decide +kernel
theorem dL_setDepth_28 : decode cL_setDepth 28 = .ok (.ldc 10, 2) := by decide +kernel
theorem dL_setDepth_30 : decode cL_setDepth 30 = .ok (.ireturn, 1) := by decide +kernel
theorem dL_setDepth_31 : decode cL_setDepth 31 = .ok (.iload 4, 2) := by decide +kernel
theorem dL_setDepth_33 : decode cL_setDepth 33 = .ok (.ireturn, 1) := by decide +kernel
theorem dL_addLight_0 : decode cL_addLight 0 = .ok (.ldc 10, 2) := by decide +kernel
theorem dL_addLight_2 : decode cL_addLight 2 = .ok (.istore 5, 2) := by decide +kernel
theorem dL_addLight_4 : decode cL_addLight 4 = .ok (.aload_n 0, 1) := by decide +kernel
theorem dL_addLight_5 : decode cL_addLight 5 = .ok (.iload_n 1, 1) := by decide +kernel
theorem dL_addLight_6 : decode cL_addLight 6 = .ok (.iload_n 2, 1) := by decide +kernel
theorem dL_addLight_7 : decode cL_addLight 7 = .ok (.iload_n 3, 1) := by decide +kernel
theorem dL_addLight_8 : decode cL_addLight 8 = .ok (.iload 4, 2) := by decide +kernel
theorem dL_addLight_10 : decode cL_addLight 10 = .ok (.invokevirtual 23, 3) := by decide +kernel
theorem dL_addLight_13 : decode cL_addLight 13 = .ok (.istore 5, 2) := by decide +kernel
theorem dL_addLight_15 : decode cL_addLight 15 = .ok (.goto 18, 3) := by decide +kernel
theorem dL_addLight_18 : decode cL_addLight 18 = .ok (.astore 6, 2) := by decide +kernel
theorem dL_addLight_20 : decode cL_addLight 20 = .ok (.ldc 10, 2) := by decide +kernel
theorem dL_addLight_22 : decode cL_addLight 22 = .ok (.ireturn, 1) := by decide +kernel
theorem dL_addLight_23 : decode cL_addLight 23 = .ok (.astore 6, 2) := by decide +kernel
theorem dL_addLight_25 : decode cL_addLight 25 = .ok (.ldc 10, 2) := by decide +kernel
theorem dL_addLight_27 : decode cL_addLight 27 = .ok (.ireturn, 1) := by decide +kernel
theorem dL_addLight_28 : decode cL_addLight 28 = .ok (.astore 6, 2) := by decide +kernel
theorem dL_addLight_30 : decode cL_addLight 30 = .ok (.ldc 10, 2) := by decide +kernel
theorem dL_addLight_32 : decode cL_addLight 32 = .ok (.ireturn, 1) := by decide +kernel
theorem dL_addLight_33 : decode cL_addLight 33 = .ok (.iload 5, 2) := by decide +kernel
theorem dL_addLight_35 : decode cL_addLight 35 = .ok (.ireturn, 1) := by decide +kernel
theorem dL_setPhase_0 : decode cL_setPhase 0 = .ok (.ldc 10, 2) := by decide +kernel
theorem dL_setPhase_2 : decode cL_setPhase 2 = .ok (.istore_n 3, 1) := by decide +kernel
theorem dL_setPhase_3 : decode cL_setPhase 3 = .ok (.aload_n 0, 1) := by decide +kernel
theorem dL_setPhase_4 : decode cL_setPhase 4 = .ok (.iload_n 1, 1) := by decide +kernel
theorem dL_setPhase_5 : decode cL_setPhase 5 = .ok (.iload_n 2, 1) := by decide +kernel
theorem dL_setPhase_6 : decode cL_setPhase 6 = .ok (.invokevirtual 27, 3) := by decide +kernel
theorem dL_setPhase_9 : decode cL_setPhase 9 = .ok (.istore_n 3, 1) := by decide +kernel
theorem dL_setPhase_10 : decode cL_setPhase 10 = .ok (.goto 18, 3) := by decide +kernel
theorem dL_setPhase_13 : decode cL_setPhase 13 = .ok (.astore 4, 2) := by decide +kernel
theorem dL_setPhase_15 : decode cL_setPhase 15 = .ok (.ldc 10, 2) := by decide +kernel
theorem dL_setPhase_17 : decode cL_setPhase 17 = .ok (.ireturn, 1) := by decide +kernel
theorem dL_setPhase_18 : decode cL_setPhase 18 = .ok (.astore 4, 2) := by decide +kernel
theorem dL_setPhase_20 : decode cL_setPhase 20 = .ok (.ldc 10, 2) := by decide +kernel
theorem dL_setPhase_22 : decode cL_setPhase 22 = .ok (.ireturn, 1) := by decide +kernel
theorem dL_setPhase_23 : decode cL_setPhase 23 = .ok (.astore 4, 2) := by decide +kernel
theorem dL_setPhase_25 : decode cL_setPhase 25 = .ok (.ldc 10, 2) := by decide +kernel
theorem dL_setPhase_27 : decode cL_setPhase 27 = .ok (.ireturn, 1) := by decide +kernel
theorem dL_setPhase_28 : decode cL_setPhase 28 = .ok (.iload_n 3, 1) := by decide +kernel
theorem dL_setPhase_29 : decode cL_setPhase 29 = .ok (.ireturn, 1) := by decide +kernel
theorem dL_removeLight_0 : decode cL_removeLight 0 = .ok (.ldc 10, 2) := by decide +kernel
theorem dL_removeLight_2 : decode cL_removeLight 2 = .ok (.istore_n 2, 1) := by decide +kernel
theorem dL_removeLight_3 : decode cL_removeLight 3 = .ok (.aload_n 0, 1) := by decide +kernel
theorem dL_removeLight_4 : decode cL_removeLight 4 = .ok (.iload_n 1, 1) := by decide +kernel
theorem dL_removeLight_5 : decode cL_removeLight 5 = .ok (.invokevirtual 31, 3) := by decide +kernel
theorem dL_removeLight_8 : decode cL_removeLight 8 = .ok (.istore_n 2, 1) := by decide +kernel
theorem dL_removeLight_9 : decode cL_removeLight 9 = .ok (.goto 7, 3) := by decide +kernel
theorem dL_removeLight_12 : decode cL_removeLight 12 = .ok (.astore_n 3, 1) := by decide +kernel
theorem dL_removeLight_13 : decode cL_removeLight 13 = .ok (.ldc 10, 2) := by decide +kernel
theorem dL_removeLight_15 : decode cL_removeLight 15 = .ok (.ireturn, 1) := by decide +kernel
theorem dL_removeLight_16 : decode cL_removeLight 16 = .ok (.iload_n 2, 1) := by decide +kernel
theorem dL_removeLight_17 : decode cL_removeLight 17 = .ok (.ireturn, 1) := by decide +kernel
theorem dL_lightOn_0 : decode cL_lightOn 0 = .ok (.sipush (-1000), 3) := by decide +kernel
theorem dL_lightOn_3 : decode cL_lightOn 3 = .ok (.istore_n 3, 1) := by decide +kernel
theorem dL_lightOn_4 : decode cL_lightOn 4 = .ok (.aload_n 0, 1) := by decide +kernel
theorem dL_lightOn_5 : decode cL_lightOn 5 = .ok (.iload_n 1, 1) := by decide +kernel
theorem dL_lightOn_6 : decode cL_lightOn 6 = .ok (.iload_n 2, 1) := by decide +kernel
theorem dL_lightOn_7 : decode cL_lightOn 7 = .ok (.invokevirtual 35, 3) := by decide +kernel
theorem dL_lightOn_10 : decode cL_lightOn 10 = .ok (.istore_n 3, 1) := by decide +kernel
theorem dL_lightOn_11 : decode cL_lightOn 11 = .ok (.goto 15, 3) := by decide +kernel
theorem dL_lightOn_14 : decode cL_lightOn 14 = .ok (.astore 4, 2) := by decide +kernel
theorem dL_lightOn_16 : decode cL_lightOn 16 = .ok (.sipush (-1000), 3) := by decide +kernel
theorem dL_lightOn_19 : decode cL_lightOn 19 = .ok (.ireturn, 1) := by decide +kernel
theorem dL_lightOn_20 : decode cL_lightOn 20 = .ok (.astore 4, 2) := by decide +kernel
theorem dL_lightOn_22 : decode cL_lightOn 22 = .ok (.sipush (-1000), 3) := by decide +kernel
theorem dL_lightOn_25 : decode cL_lightOn 25 = .ok (.ireturn, 1) := by decide +kernel
theorem dL_lightOn_26 : decode cL_lightOn 26 = .ok (.iload_n 3, 1) := by decide +kernel
theorem dL_lightOn_27 : decode cL_lightOn 27 = .ok (.ireturn, 1) := by decide +kernel
theorem dL_sectorOf_0 : decode cL_sectorOf 0 = .ok (.sipush (-1000), 3) := by decide +kernel
theorem dL_sectorOf_3 : decode cL_sectorOf 3 = .ok (.istore 4, 2) := by decide +kernel
theorem dL_sectorOf_5 : decode cL_sectorOf 5 = .ok (.aload_n 0, 1) := by decide +kernel
theorem dL_sectorOf_6 : decode cL_sectorOf 6 = .ok (.iload_n 1, 1) := by decide +kernel
theorem dL_sectorOf_7 : decode cL_sectorOf 7 = .ok (.iload_n 2, 1) := by decide +kernel
theorem dL_sectorOf_8 : decode cL_sectorOf 8 = .ok (.iload_n 3, 1) := by decide +kernel
theorem dL_sectorOf_9 : decode cL_sectorOf 9 = .ok (.invokevirtual 40, 3) := by decide +kernel
theorem dL_sectorOf_12 : decode cL_sectorOf 12 = .ok (.istore 4, 2) := by decide +kernel
theorem dL_sectorOf_14 : decode cL_sectorOf 14 = .ok (.goto 15, 3) := by decide +kernel
theorem dL_sectorOf_17 : decode cL_sectorOf 17 = .ok (.astore 5, 2) := by decide +kernel
theorem dL_sectorOf_19 : decode cL_sectorOf 19 = .ok (.sipush (-1000), 3) := by decide +kernel
theorem dL_sectorOf_22 : decode cL_sectorOf 22 = .ok (.ireturn, 1) := by decide +kernel
theorem dL_sectorOf_23 : decode cL_sectorOf 23 = .ok (.astore 5, 2) := by decide +kernel
theorem dL_sectorOf_25 : decode cL_sectorOf 25 = .ok (.sipush (-1000), 3) := by decide +kernel
theorem dL_sectorOf_28 : decode cL_sectorOf 28 = .ok (.ireturn, 1) := by decide +kernel
theorem dL_sectorOf_29 : decode cL_sectorOf 29 = .ok (.iload 4, 2) := by decide +kernel
theorem dL_sectorOf_31 : decode cL_sectorOf 31 = .ok (.ireturn, 1) := by decide +kernel
theorem dL_minutesUntilSwept_0 : decode cL_minutesUntilSwept 0 = .ok (.sipush (-1000), 3) := by decide +kernel
theorem dL_minutesUntilSwept_3 : decode cL_minutesUntilSwept 3 = .ok (.istore 4, 2) := by decide +kernel
theorem dL_minutesUntilSwept_5 : decode cL_minutesUntilSwept 5 = .ok (.aload_n 0, 1) := by decide +kernel
theorem dL_minutesUntilSwept_6 : decode cL_minutesUntilSwept 6 = .ok (.iload_n 1, 1) := by decide +kernel
theorem dL_minutesUntilSwept_7 : decode cL_minutesUntilSwept 7 = .ok (.iload_n 2, 1) := by decide +kernel
theorem dL_minutesUntilSwept_8 : decode cL_minutesUntilSwept 8 = .ok (.iload_n 3, 1) := by decide +kernel
theorem dL_minutesUntilSwept_9 : decode cL_minutesUntilSwept 9 = .ok (.invokevirtual 43, 3) := by decide +kernel
theorem dL_minutesUntilSwept_12 : decode cL_minutesUntilSwept 12 = .ok (.istore 4, 2) := by decide +kernel
theorem dL_minutesUntilSwept_14 : decode cL_minutesUntilSwept 14 = .ok (.goto 15, 3) := by decide +kernel
theorem dL_minutesUntilSwept_17 : decode cL_minutesUntilSwept 17 = .ok (.astore 5, 2) := by decide +kernel
theorem dL_minutesUntilSwept_19 : decode cL_minutesUntilSwept 19 = .ok (.sipush (-1000), 3) := by decide +kernel
theorem dL_minutesUntilSwept_22 : decode cL_minutesUntilSwept 22 = .ok (.ireturn, 1) := by decide +kernel
theorem dL_minutesUntilSwept_23 : decode cL_minutesUntilSwept 23 = .ok (.astore 5, 2) := by decide +kernel
theorem dL_minutesUntilSwept_25 : decode cL_minutesUntilSwept 25 = .ok (.sipush (-1000), 3) := by decide +kernel
theorem dL_minutesUntilSwept_28 : decode cL_minutesUntilSwept 28 = .ok (.ireturn, 1) := by decide +kernel
theorem dL_minutesUntilSwept_29 : decode cL_minutesUntilSwept 29 = .ok (.iload 4, 2) := by decide +kernel
theorem dL_minutesUntilSwept_31 : decode cL_minutesUntilSwept 31 = .ok (.ireturn, 1) := by decide +kernel
theorem dL_minutesUntilSweptByDivision_0 : decode cL_minutesUntilSweptByDivision 0 = .ok (.sipush (-1000), 3) := by decide +kernel
theorem dL_minutesUntilSweptByDivision_3 : decode cL_minutesUntilSweptByDivision 3 = .ok (.istore 4, 2) := by decide +kernel
theorem dL_minutesUntilSweptByDivision_5 : decode cL_minutesUntilSweptByDivision 5 = .ok (.aload_n 0, 1) := by decide +kernel
theorem dL_minutesUntilSweptByDivision_6 : decode cL_minutesUntilSweptByDivision 6 = .ok (.iload_n 1, 1) := by decide +kernel
theorem dL_minutesUntilSweptByDivision_7 : decode cL_minutesUntilSweptByDivision 7 = .ok (.iload_n 2, 1) := by decide +kernel
theorem dL_minutesUntilSweptByDivision_8 : decode cL_minutesUntilSweptByDivision 8 = .ok (.iload_n 3, 1) := by decide +kernel
theorem dL_minutesUntilSweptByDivision_9 : decode cL_minutesUntilSweptByDivision 9 = .ok (.invokevirtual 46, 3) := by decide +kernel
theorem dL_minutesUntilSweptByDivision_12 : decode cL_minutesUntilSweptByDivision 12 = .ok (.istore 4, 2) := by decide +kernel
theorem dL_minutesUntilSweptByDivision_14 : decode cL_minutesUntilSweptByDivision 14 = .ok (.goto 15, 3) := by decide +kernel
theorem dL_minutesUntilSweptByDivision_17 : decode cL_minutesUntilSweptByDivision 17 = .ok (.astore 5, 2) := by decide +kernel
theorem dL_minutesUntilSweptByDivision_19 : decode cL_minutesUntilSweptByDivision 19 = .ok (.sipush (-1000), 3) := by decide +kernel
theorem dL_minutesUntilSweptByDivision_22 : decode cL_minutesUntilSweptByDivision 22 = .ok (.ireturn, 1) := by decide +kernel
theorem dL_minutesUntilSweptByDivision_23 : decode cL_minutesUntilSweptByDivision 23 = .ok (.astore 5, 2) := by decide +kernel
theorem dL_minutesUntilSweptByDivision_25 : decode cL_minutesUntilSweptByDivision 25 = .ok (.sipush (-1000), 3) := by decide +kernel
theorem dL_minutesUntilSweptByDivision_28 : decode cL_minutesUntilSweptByDivision 28 = .ok (.ireturn, 1) := by decide +kernel
theorem dL_minutesUntilSweptByDivision_29 : decode cL_minutesUntilSweptByDivision 29 = .ok (.iload 4, 2) := by decide +kernel
theorem dL_minutesUntilSweptByDivision_31 : decode cL_minutesUntilSweptByDivision 31 = .ok (.ireturn, 1) := by decide +kernel
theorem dL_addShip_0 : decode cL_addShip 0 = .ok (.ldc 10, 2) := by decide +kernel
theorem dL_addShip_2 : decode cL_addShip 2 = .ok (.istore 4, 2) := by decide +kernel
theorem dL_addShip_4 : decode cL_addShip 4 = .ok (.aload_n 0, 1) := by decide +kernel
theorem dL_addShip_5 : decode cL_addShip 5 = .ok (.iload_n 1, 1) := by decide +kernel
theorem dL_addShip_6 : decode cL_addShip 6 = .ok (.iload_n 2, 1) := by decide +kernel
theorem dL_addShip_7 : decode cL_addShip 7 = .ok (.iload_n 3, 1) := by decide +kernel
theorem dL_addShip_8 : decode cL_addShip 8 = .ok (.invokevirtual 49, 3) := by decide +kernel
theorem dL_addShip_11 : decode cL_addShip 11 = .ok (.istore 4, 2) := by decide +kernel
theorem dL_addShip_13 : decode cL_addShip 13 = .ok (.goto 18, 3) := by decide +kernel
theorem dL_addShip_16 : decode cL_addShip 16 = .ok (.astore 5, 2) := by decide +kernel
theorem dL_addShip_18 : decode cL_addShip 18 = .ok (.ldc 10, 2) := by decide +kernel
theorem dL_addShip_20 : decode cL_addShip 20 = .ok (.ireturn, 1) := by decide +kernel
theorem dL_addShip_21 : decode cL_addShip 21 = .ok (.astore 5, 2) := by decide +kernel
theorem dL_addShip_23 : decode cL_addShip 23 = .ok (.ldc 10, 2) := by decide +kernel
theorem dL_addShip_25 : decode cL_addShip 25 = .ok (.ireturn, 1) := by decide +kernel
theorem dL_addShip_26 : decode cL_addShip 26 = .ok (.astore 5, 2) := by decide +kernel
theorem dL_addShip_28 : decode cL_addShip 28 = .ok (.ldc 10, 2) := by decide +kernel
theorem dL_addShip_30 : decode cL_addShip 30 = .ok (.ireturn, 1) := by decide +kernel
theorem dL_addShip_31 : decode cL_addShip 31 = .ok (.iload 4, 2) := by decide +kernel
theorem dL_addShip_33 : decode cL_addShip 33 = .ok (.ireturn, 1) := by decide +kernel
theorem dL_steer_0 : decode cL_steer 0 = .ok (.ldc 10, 2) := by decide +kernel
theorem dL_steer_2 : decode cL_steer 2 = .ok (.istore 4, 2) := by decide +kernel
theorem dL_steer_4 : decode cL_steer 4 = .ok (.aload_n 0, 1) := by decide +kernel
theorem dL_steer_5 : decode cL_steer 5 = .ok (.iload_n 1, 1) := by decide +kernel
theorem dL_steer_6 : decode cL_steer 6 = .ok (.iload_n 2, 1) := by decide +kernel
theorem dL_steer_7 : decode cL_steer 7 = .ok (.iload_n 3, 1) := by decide +kernel
theorem dL_steer_8 : decode cL_steer 8 = .ok (.invokevirtual 52, 3) := by decide +kernel
theorem dL_steer_11 : decode cL_steer 11 = .ok (.istore 4, 2) := by decide +kernel
theorem dL_steer_13 : decode cL_steer 13 = .ok (.goto 13, 3) := by decide +kernel
theorem dL_steer_16 : decode cL_steer 16 = .ok (.astore 5, 2) := by decide +kernel
theorem dL_steer_18 : decode cL_steer 18 = .ok (.ldc 10, 2) := by decide +kernel
theorem dL_steer_20 : decode cL_steer 20 = .ok (.ireturn, 1) := by decide +kernel
theorem dL_steer_21 : decode cL_steer 21 = .ok (.astore 5, 2) := by decide +kernel
theorem dL_steer_23 : decode cL_steer 23 = .ok (.ldc 10, 2) := by decide +kernel
theorem dL_steer_25 : decode cL_steer 25 = .ok (.ireturn, 1) := by decide +kernel
theorem dL_steer_26 : decode cL_steer 26 = .ok (.iload 4, 2) := by decide +kernel
theorem dL_steer_28 : decode cL_steer 28 = .ok (.ireturn, 1) := by decide +kernel
theorem dL_salvage_0 : decode cL_salvage 0 = .ok (.ldc 10, 2) := by decide +kernel
theorem dL_salvage_2 : decode cL_salvage 2 = .ok (.istore_n 2, 1) := by decide +kernel
theorem dL_salvage_3 : decode cL_salvage 3 = .ok (.aload_n 0, 1) := by decide +kernel
theorem dL_salvage_4 : decode cL_salvage 4 = .ok (.iload_n 1, 1) := by decide +kernel
theorem dL_salvage_5 : decode cL_salvage 5 = .ok (.invokevirtual 55, 3) := by decide +kernel
theorem dL_salvage_8 : decode cL_salvage 8 = .ok (.istore_n 2, 1) := by decide +kernel
theorem dL_salvage_9 : decode cL_salvage 9 = .ok (.goto 11, 3) := by decide +kernel
theorem dL_salvage_12 : decode cL_salvage 12 = .ok (.astore_n 3, 1) := by decide +kernel
theorem dL_salvage_13 : decode cL_salvage 13 = .ok (.ldc 10, 2) := by decide +kernel
theorem dL_salvage_15 : decode cL_salvage 15 = .ok (.ireturn, 1) := by decide +kernel
theorem dL_salvage_16 : decode cL_salvage 16 = .ok (.astore_n 3, 1) := by decide +kernel
theorem dL_salvage_17 : decode cL_salvage 17 = .ok (.ldc 10, 2) := by decide +kernel
theorem dL_salvage_19 : decode cL_salvage 19 = .ok (.ireturn, 1) := by decide +kernel
theorem dL_salvage_20 : decode cL_salvage 20 = .ok (.iload_n 2, 1) := by decide +kernel
theorem dL_salvage_21 : decode cL_salvage 21 = .ok (.ireturn, 1) := by decide +kernel
theorem dL_pass_0 : decode cL_pass 0 = .ok (.ldc 10, 2) := by decide +kernel
theorem dL_pass_2 : decode cL_pass 2 = .ok (.istore_n 2, 1) := by decide +kernel
theorem dL_pass_3 : decode cL_pass 3 = .ok (.aload_n 0, 1) := by decide +kernel
theorem dL_pass_4 : decode cL_pass 4 = .ok (.iload_n 1, 1) := by decide +kernel
theorem dL_pass_5 : decode cL_pass 5 = .ok (.invokevirtual 58, 3) := by decide +kernel
theorem dL_pass_8 : decode cL_pass 8 = .ok (.istore_n 2, 1) := by decide +kernel
theorem dL_pass_9 : decode cL_pass 9 = .ok (.goto 7, 3) := by decide +kernel
theorem dL_pass_12 : decode cL_pass 12 = .ok (.astore_n 3, 1) := by decide +kernel
theorem dL_pass_13 : decode cL_pass 13 = .ok (.ldc 10, 2) := by decide +kernel
theorem dL_pass_15 : decode cL_pass 15 = .ok (.ireturn, 1) := by decide +kernel
theorem dL_pass_16 : decode cL_pass 16 = .ok (.iload_n 2, 1) := by decide +kernel
theorem dL_pass_17 : decode cL_pass 17 = .ok (.ireturn, 1) := by decide +kernel
theorem dL_goalColumn_0 : decode cL_goalColumn 0 = .ok (.sipush (-1000), 3) := by decide +kernel
theorem dL_goalColumn_3 : decode cL_goalColumn 3 = .ok (.istore_n 2, 1) := by decide +kernel
theorem dL_goalColumn_4 : decode cL_goalColumn 4 = .ok (.aload_n 0, 1) := by decide +kernel
theorem dL_goalColumn_5 : decode cL_goalColumn 5 = .ok (.iload_n 1, 1) := by decide +kernel
theorem dL_goalColumn_6 : decode cL_goalColumn 6 = .ok (.invokevirtual 61, 3) := by decide +kernel
theorem dL_goalColumn_9 : decode cL_goalColumn 9 = .ok (.istore_n 2, 1) := by decide +kernel
theorem dL_goalColumn_10 : decode cL_goalColumn 10 = .ok (.goto 13, 3) := by decide +kernel
theorem dL_goalColumn_13 : decode cL_goalColumn 13 = .ok (.astore_n 3, 1) := by decide +kernel
theorem dL_goalColumn_14 : decode cL_goalColumn 14 = .ok (.sipush (-1000), 3) := by decide +kernel
theorem dL_goalColumn_17 : decode cL_goalColumn 17 = .ok (.ireturn, 1) := by decide +kernel
theorem dL_goalColumn_18 : decode cL_goalColumn 18 = .ok (.astore_n 3, 1) := by decide +kernel
theorem dL_goalColumn_19 : decode cL_goalColumn 19 = .ok (.sipush (-1000), 3) := by decide +kernel
theorem dL_goalColumn_22 : decode cL_goalColumn 22 = .ok (.ireturn, 1) := by decide +kernel
theorem dL_goalColumn_23 : decode cL_goalColumn 23 = .ok (.iload_n 2, 1) := by decide +kernel
theorem dL_goalColumn_24 : decode cL_goalColumn 24 = .ok (.ireturn, 1) := by decide +kernel
theorem dL_goalRow_0 : decode cL_goalRow 0 = .ok (.sipush (-1000), 3) := by decide +kernel
theorem dL_goalRow_3 : decode cL_goalRow 3 = .ok (.istore_n 2, 1) := by decide +kernel
theorem dL_goalRow_4 : decode cL_goalRow 4 = .ok (.aload_n 0, 1) := by decide +kernel
theorem dL_goalRow_5 : decode cL_goalRow 5 = .ok (.iload_n 1, 1) := by decide +kernel
theorem dL_goalRow_6 : decode cL_goalRow 6 = .ok (.invokevirtual 64, 3) := by decide +kernel
theorem dL_goalRow_9 : decode cL_goalRow 9 = .ok (.istore_n 2, 1) := by decide +kernel
theorem dL_goalRow_10 : decode cL_goalRow 10 = .ok (.goto 13, 3) := by decide +kernel
theorem dL_goalRow_13 : decode cL_goalRow 13 = .ok (.astore_n 3, 1) := by decide +kernel
theorem dL_goalRow_14 : decode cL_goalRow 14 = .ok (.sipush (-1000), 3) := by decide +kernel
theorem dL_goalRow_17 : decode cL_goalRow 17 = .ok (.ireturn, 1) := by decide +kernel
theorem dL_goalRow_18 : decode cL_goalRow 18 = .ok (.astore_n 3, 1) := by decide +kernel
theorem dL_goalRow_19 : decode cL_goalRow 19 = .ok (.sipush (-1000), 3) := by decide +kernel
theorem dL_goalRow_22 : decode cL_goalRow 22 = .ok (.ireturn, 1) := by decide +kernel
theorem dL_goalRow_23 : decode cL_goalRow 23 = .ok (.iload_n 2, 1) := by decide +kernel
theorem dL_goalRow_24 : decode cL_goalRow 24 = .ok (.ireturn, 1) := by decide +kernel
theorem dL_wayLength_0 : decode cL_wayLength 0 = .ok (.sipush (-1000), 3) := by decide +kernel
theorem dL_wayLength_3 : decode cL_wayLength 3 = .ok (.istore 4, 2) := by decide +kernel
theorem dL_wayLength_5 : decode cL_wayLength 5 = .ok (.aload_n 0, 1) := by decide +kernel
theorem dL_wayLength_6 : decode cL_wayLength 6 = .ok (.iload_n 1, 1) := by decide +kernel
theorem dL_wayLength_7 : decode cL_wayLength 7 = .ok (.iload_n 2, 1) := by decide +kernel
theorem dL_wayLength_8 : decode cL_wayLength 8 = .ok (.iload_n 3, 1) := by decide +kernel
theorem dL_wayLength_9 : decode cL_wayLength 9 = .ok (.invokevirtual 67, 3) := by decide +kernel
theorem dL_wayLength_12 : decode cL_wayLength 12 = .ok (.istore 4, 2) := by decide +kernel
theorem dL_wayLength_14 : decode cL_wayLength 14 = .ok (.goto 15, 3) := by decide +kernel
theorem dL_wayLength_17 : decode cL_wayLength 17 = .ok (.astore 5, 2) := by decide +kernel
theorem dL_wayLength_19 : decode cL_wayLength 19 = .ok (.sipush (-1000), 3) := by decide +kernel
theorem dL_wayLength_22 : decode cL_wayLength 22 = .ok (.ireturn, 1) := by decide +kernel
theorem dL_wayLength_23 : decode cL_wayLength 23 = .ok (.astore 5, 2) := by decide +kernel
theorem dL_wayLength_25 : decode cL_wayLength 25 = .ok (.sipush (-1000), 3) := by decide +kernel
theorem dL_wayLength_28 : decode cL_wayLength 28 = .ok (.ireturn, 1) := by decide +kernel
theorem dL_wayLength_29 : decode cL_wayLength 29 = .ok (.iload 4, 2) := by decide +kernel
theorem dL_wayLength_31 : decode cL_wayLength 31 = .ok (.ireturn, 1) := by decide +kernel
theorem dL_wayLengthByRounds_0 : decode cL_wayLengthByRounds 0 = .ok (.sipush (-1000), 3) := by decide +kernel
theorem dL_wayLengthByRounds_3 : decode cL_wayLengthByRounds 3 = .ok (.istore 4, 2) := by decide +kernel
theorem dL_wayLengthByRounds_5 : decode cL_wayLengthByRounds 5 = .ok (.aload_n 0, 1) := by decide +kernel
theorem dL_wayLengthByRounds_6 : decode cL_wayLengthByRounds 6 = .ok (.iload_n 1, 1) := by decide +kernel
theorem dL_wayLengthByRounds_7 : decode cL_wayLengthByRounds 7 = .ok (.iload_n 2, 1) := by decide +kernel
theorem dL_wayLengthByRounds_8 : decode cL_wayLengthByRounds 8 = .ok (.iload_n 3, 1) := by decide +kernel
theorem dL_wayLengthByRounds_9 : decode cL_wayLengthByRounds 9 = .ok (.invokevirtual 70, 3) := by decide +kernel
theorem dL_wayLengthByRounds_12 : decode cL_wayLengthByRounds 12 = .ok (.istore 4, 2) := by decide +kernel
theorem dL_wayLengthByRounds_14 : decode cL_wayLengthByRounds 14 = .ok (.goto 15, 3) := by decide +kernel
theorem dL_wayLengthByRounds_17 : decode cL_wayLengthByRounds 17 = .ok (.astore 5, 2) := by decide +kernel
theorem dL_wayLengthByRounds_19 : decode cL_wayLengthByRounds 19 = .ok (.sipush (-1000), 3) := by decide +kernel
theorem dL_wayLengthByRounds_22 : decode cL_wayLengthByRounds 22 = .ok (.ireturn, 1) := by decide +kernel
theorem dL_wayLengthByRounds_23 : decode cL_wayLengthByRounds 23 = .ok (.astore 5, 2) := by decide +kernel
theorem dL_wayLengthByRounds_25 : decode cL_wayLengthByRounds 25 = .ok (.sipush (-1000), 3) := by decide +kernel
theorem dL_wayLengthByRounds_28 : decode cL_wayLengthByRounds 28 = .ok (.ireturn, 1) := by decide +kernel
theorem dL_wayLengthByRounds_29 : decode cL_wayLengthByRounds 29 = .ok (.iload 4, 2) := by decide +kernel
theorem dL_wayLengthByRounds_31 : decode cL_wayLengthByRounds 31 = .ok (.ireturn, 1) := by decide +kernel
theorem dL_minutesUntilArrival_0 : decode cL_minutesUntilArrival 0 = .ok (.sipush (-1000), 3) := by decide +kernel
theorem dL_minutesUntilArrival_3 : decode cL_minutesUntilArrival 3 = .ok (.istore_n 2, 1) := by decide +kernel
theorem dL_minutesUntilArrival_4 : decode cL_minutesUntilArrival 4 = .ok (.aload_n 0, 1) := by decide +kernel
theorem dL_minutesUntilArrival_5 : decode cL_minutesUntilArrival 5 = .ok (.iload_n 1, 1) := by decide +kernel
theorem dL_minutesUntilArrival_6 : decode cL_minutesUntilArrival 6 = .ok (.invokevirtual 73, 3) := by decide +kernel
theorem dL_minutesUntilArrival_9 : decode cL_minutesUntilArrival 9 = .ok (.istore_n 2, 1) := by decide +kernel
theorem dL_minutesUntilArrival_10 : decode cL_minutesUntilArrival 10 = .ok (.goto 13, 3) := by decide +kernel
theorem dL_minutesUntilArrival_13 : decode cL_minutesUntilArrival 13 = .ok (.astore_n 3, 1) := by decide +kernel
theorem dL_minutesUntilArrival_14 : decode cL_minutesUntilArrival 14 = .ok (.sipush (-1000), 3) := by decide +kernel
theorem dL_minutesUntilArrival_17 : decode cL_minutesUntilArrival 17 = .ok (.ireturn, 1) := by decide +kernel
theorem dL_minutesUntilArrival_18 : decode cL_minutesUntilArrival 18 = .ok (.astore_n 3, 1) := by decide +kernel
theorem dL_minutesUntilArrival_19 : decode cL_minutesUntilArrival 19 = .ok (.sipush (-1000), 3) := by decide +kernel
theorem dL_minutesUntilArrival_22 : decode cL_minutesUntilArrival 22 = .ok (.ireturn, 1) := by decide +kernel
theorem dL_minutesUntilArrival_23 : decode cL_minutesUntilArrival 23 = .ok (.iload_n 2, 1) := by decide +kernel
theorem dL_minutesUntilArrival_24 : decode cL_minutesUntilArrival 24 = .ok (.ireturn, 1) := by decide +kernel
theorem dL_shipByDarkness_0 : decode cL_shipByDarkness 0 = .ok (.sipush (-1000), 3) := by decide +kernel
theorem dL_shipByDarkness_3 : decode cL_shipByDarkness 3 = .ok (.istore_n 2, 1) := by decide +kernel
theorem dL_shipByDarkness_4 : decode cL_shipByDarkness 4 = .ok (.aload_n 0, 1) := by decide +kernel
theorem dL_shipByDarkness_5 : decode cL_shipByDarkness 5 = .ok (.iload_n 1, 1) := by decide +kernel
theorem dL_shipByDarkness_6 : decode cL_shipByDarkness 6 = .ok (.invokevirtual 76, 3) := by decide +kernel
theorem dL_shipByDarkness_9 : decode cL_shipByDarkness 9 = .ok (.istore_n 2, 1) := by decide +kernel
theorem dL_shipByDarkness_10 : decode cL_shipByDarkness 10 = .ok (.goto 8, 3) := by decide +kernel
theorem dL_shipByDarkness_13 : decode cL_shipByDarkness 13 = .ok (.astore_n 3, 1) := by decide +kernel
theorem dL_shipByDarkness_14 : decode cL_shipByDarkness 14 = .ok (.sipush (-1000), 3) := by decide +kernel
theorem dL_shipByDarkness_17 : decode cL_shipByDarkness 17 = .ok (.ireturn, 1) := by decide +kernel
theorem dL_shipByDarkness_18 : decode cL_shipByDarkness 18 = .ok (.iload_n 2, 1) := by decide +kernel
theorem dL_shipByDarkness_19 : decode cL_shipByDarkness 19 = .ok (.ireturn, 1) := by decide +kernel
theorem dL_seenShare_0 : decode cL_seenShare 0 = .ok (.ldc 79, 2) := by decide +kernel
theorem dL_seenShare_2 : decode cL_seenShare 2 = .ok (.fstore_n 1, 1) := by decide +kernel
theorem dL_seenShare_3 : decode cL_seenShare 3 = .ok (.aload_n 0, 1) := by decide +kernel
theorem dL_seenShare_4 : decode cL_seenShare 4 = .ok (.invokevirtual 80, 3) := by decide +kernel
theorem dL_seenShare_7 : decode cL_seenShare 7 = .ok (.fstore_n 1, 1) := by decide +kernel
theorem dL_seenShare_8 : decode cL_seenShare 8 = .ok (.goto 7, 3) := by decide +kernel
theorem dL_seenShare_11 : decode cL_seenShare 11 = .ok (.astore_n 2, 1) := by decide +kernel
theorem dL_seenShare_12 : decode cL_seenShare 12 = .ok (.ldc 79, 2) := by decide +kernel
theorem dL_seenShare_14 : decode cL_seenShare 14 = .ok (.freturn, 1) := by decide +kernel
theorem dL_seenShare_15 : decode cL_seenShare 15 = .ok (.fload_n 1, 1) := by decide +kernel
theorem dL_seenShare_16 : decode cL_seenShare 16 = .ok (.freturn, 1) := by decide +kernel
theorem dL_execute_0 : decode cL_execute 0 = .ok (.ldc 10, 2) := by decide +kernel
theorem dL_execute_2 : decode cL_execute 2 = .ok (.istore_n 1, 1) := by decide +kernel
theorem dL_execute_3 : decode cL_execute 3 = .ok (.aload_n 0, 1) := by decide +kernel
theorem dL_execute_4 : decode cL_execute 4 = .ok (.invokevirtual 86, 3) := by decide +kernel
theorem dL_execute_7 : decode cL_execute 7 = .ok (.istore_n 1, 1) := by decide +kernel
theorem dL_execute_8 : decode cL_execute 8 = .ok (.goto 11, 3) := by decide +kernel
theorem dL_execute_11 : decode cL_execute 11 = .ok (.astore_n 2, 1) := by decide +kernel
theorem dL_execute_12 : decode cL_execute 12 = .ok (.ldc 10, 2) := by decide +kernel
theorem dL_execute_14 : decode cL_execute 14 = .ok (.ireturn, 1) := by decide +kernel
theorem dL_execute_15 : decode cL_execute 15 = .ok (.astore_n 2, 1) := by decide +kernel
theorem dL_execute_16 : decode cL_execute 16 = .ok (.ldc 10, 2) := by decide +kernel
theorem dL_execute_18 : decode cL_execute 18 = .ok (.ireturn, 1) := by decide +kernel
theorem dL_execute_19 : decode cL_execute 19 = .ok (.iload_n 1, 1) := by decide +kernel
theorem dL_execute_20 : decode cL_execute 20 = .ok (.ireturn, 1) := by decide +kernel
theorem dL_denial_0 : decode cL_denial 0 = .ok (.sipush (-1000), 3) := by decide +kernel
theorem dL_denial_3 : decode cL_denial 3 = .ok (.istore_n 1, 1) := by decide +kernel
theorem dL_denial_4 : decode cL_denial 4 = .ok (.aload_n 0, 1) := by decide +kernel
theorem dL_denial_5 : decode cL_denial 5 = .ok (.invokevirtual 90, 3) := by decide +kernel
theorem dL_denial_8 : decode cL_denial 8 = .ok (.istore_n 1, 1) := by decide +kernel
theorem dL_denial_9 : decode cL_denial 9 = .ok (.goto 8, 3) := by decide +kernel
theorem dL_denial_12 : decode cL_denial 12 = .ok (.astore_n 2, 1) := by decide +kernel
theorem dL_denial_13 : decode cL_denial 13 = .ok (.sipush (-1000), 3) := by decide +kernel
theorem dL_denial_16 : decode cL_denial 16 = .ok (.ireturn, 1) := by decide +kernel
theorem dL_denial_17 : decode cL_denial 17 = .ok (.iload_n 1, 1) := by decide +kernel
theorem dL_denial_18 : decode cL_denial 18 = .ok (.ireturn, 1) := by decide +kernel
theorem dL_denialCause_0 : decode cL_denialCause 0 = .ok (.sipush (-1000), 3) := by decide +kernel
theorem dL_denialCause_3 : decode cL_denialCause 3 = .ok (.istore_n 1, 1) := by decide +kernel
theorem dL_denialCause_4 : decode cL_denialCause 4 = .ok (.aload_n 0, 1) := by decide +kernel
theorem dL_denialCause_5 : decode cL_denialCause 5 = .ok (.invokevirtual 93, 3) := by decide +kernel
theorem dL_denialCause_8 : decode cL_denialCause 8 = .ok (.istore_n 1, 1) := by decide +kernel
theorem dL_denialCause_9 : decode cL_denialCause 9 = .ok (.goto 8, 3) := by decide +kernel
theorem dL_denialCause_12 : decode cL_denialCause 12 = .ok (.astore_n 2, 1) := by decide +kernel
theorem dL_denialCause_13 : decode cL_denialCause 13 = .ok (.sipush (-1000), 3) := by decide +kernel
theorem dL_denialCause_16 : decode cL_denialCause 16 = .ok (.ireturn, 1) := by decide +kernel
theorem dL_denialCause_17 : decode cL_denialCause 17 = .ok (.iload_n 1, 1) := by decide +kernel
theorem dL_denialCause_18 : decode cL_denialCause 18 = .ok (.ireturn, 1) := by decide +kernel
theorem dL_undo_0 : decode cL_undo 0 = .ok (.ldc 10, 2) := by decide +kernel
theorem dL_undo_2 : decode cL_undo 2 = .ok (.istore_n 1, 1) := by decide +kernel
theorem dL_undo_3 : decode cL_undo 3 = .ok (.aload_n 0, 1) := by decide +kernel
theorem dL_undo_4 : decode cL_undo 4 = .ok (.invokevirtual 96, 3) := by decide +kernel
theorem dL_undo_7 : decode cL_undo 7 = .ok (.istore_n 1, 1) := by decide +kernel
theorem dL_undo_8 : decode cL_undo 8 = .ok (.goto 7, 3) := by decide +kernel
theorem dL_undo_11 : decode cL_undo 11 = .ok (.astore_n 2, 1) := by decide +kernel
theorem dL_undo_12 : decode cL_undo 12 = .ok (.ldc 10, 2) := by decide +kernel
theorem dL_undo_14 : decode cL_undo 14 = .ok (.ireturn, 1) := by decide +kernel
theorem dL_undo_15 : decode cL_undo 15 = .ok (.iload_n 1, 1) := by decide +kernel
theorem dL_undo_16 : decode cL_undo 16 = .ok (.ireturn, 1) := by decide +kernel
theorem dL_restore_0 : decode cL_restore 0 = .ok (.ldc 10, 2) := by decide +kernel
theorem dL_restore_2 : decode cL_restore 2 = .ok (.istore_n 1, 1) := by decide +kernel
theorem dL_restore_3 : decode cL_restore 3 = .ok (.aload_n 0, 1) := by decide +kernel
theorem dL_restore_4 : decode cL_restore 4 = .ok (.invokevirtual 101, 3) := by decide +kernel
theorem dL_restore_7 : decode cL_restore 7 = .ok (.istore_n 1, 1) := by decide +kernel
theorem dL_restore_8 : decode cL_restore 8 = .ok (.goto 7, 3) := by decide +kernel
theorem dL_restore_11 : decode cL_restore 11 = .ok (.astore_n 2, 1) := by decide +kernel
theorem dL_restore_12 : decode cL_restore 12 = .ok (.ldc 10, 2) := by decide +kernel
theorem dL_restore_14 : decode cL_restore 14 = .ok (.ireturn, 1) := by decide +kernel
theorem dL_restore_15 : decode cL_restore 15 = .ok (.iload_n 1, 1) := by decide +kernel
theorem dL_restore_16 : decode cL_restore 16 = .ok (.ireturn, 1) := by decide +kernel
theorem dL_put_0 : decode cL_put 0 = .ok (.aload_n 0, 1) := by decide +kernel
theorem dL_put_1 : decode cL_put 1 = .ok (.iload_n 1, 1) := by decide +kernel
theorem dL_put_2 : decode cL_put 2 = .ok (.invokevirtual 104, 3) := by decide +kernel
theorem dL_put_5 : decode cL_put 5 = .ok (.pop, 1) := by decide +kernel
theorem dL_put_6 : decode cL_put 6 = .ok (.goto 6, 3) := by decide +kernel
theorem dL_put_9 : decode cL_put 9 = .ok (.astore_n 2, 1) := by decide +kernel
theorem dL_put_10 : decode cL_put 10 = .ok (.iconst 0, 1) := by decide +kernel
theorem dL_put_11 : decode cL_put 11 = .ok (.ireturn, 1) := by decide +kernel
theorem dL_put_12 : decode cL_put 12 = .ok (.iconst 1, 1) := by decide +kernel
theorem dL_put_13 : decode cL_put 13 = .ok (.ireturn, 1) := by decide +kernel
theorem dL_typed_0 : decode cL_typed 0 = .ok (.iconst 0, 1) := by decide +kernel
theorem dL_typed_1 : decode cL_typed 1 = .ok (.istore_n 2, 1) := by decide +kernel
theorem dL_typed_2 : decode cL_typed 2 = .ok (.iload_n 2, 1) := by decide +kernel
theorem dL_typed_3 : decode cL_typed 3 = .ok (.aload_n 1, 1) := by decide +kernel
theorem dL_typed_4 : decode cL_typed 4 = .ok (.invokevirtual 108, 3) := by decide +kernel
theorem dL_typed_7 : decode cL_typed 7 = .ok (.if_icmp .ge 19, 3) := by decide +kernel
theorem dL_typed_10 : decode cL_typed 10 = .ok (.aload_n 0, 1) := by decide +kernel
theorem dL_typed_11 : decode cL_typed 11 = .ok (.aload_n 1, 1) := by decide +kernel
theorem dL_typed_12 : decode cL_typed 12 = .ok (.iload_n 2, 1) := by decide +kernel
theorem dL_typed_13 : decode cL_typed 13 = .ok (.invokevirtual 113, 3) := by decide +kernel
theorem dL_typed_16 : decode cL_typed 16 = .ok (.invokestatic 117, 3) := by decide +kernel
theorem dL_typed_19 : decode cL_typed 19 = .ok (.pop, 1) := by decide +kernel
theorem dL_typed_20 : decode cL_typed 20 = .ok (.iinc 2 1, 3) := by decide +kernel
theorem dL_typed_23 : decode cL_typed 23 = .ok (.goto (-21), 3) := by decide +kernel
theorem dL_typed_26 : decode cL_typed 26 = .ok (.aload_n 0, 1) := by decide +kernel
theorem dL_typed_27 : decode cL_typed 27 = .ok (.areturn, 1) := by decide +kernel
theorem dL_act_0 : decode cL_act 0 = .ok (.iload_n 1, 1) := by decide +kernel
theorem dL_act_1 : decode cL_act 1 = .ok (.iconst 4, 1) := by decide +kernel
theorem dL_act_2 : decode cL_act 2 = .ok (.ishr, 1) := by decide +kernel
theorem dL_act_3 : decode cL_act 3 = .ok (.ldc 7, 2) := by decide +kernel
theorem dL_act_5 : decode cL_act 5 = .ok (.iand, 1) := by decide +kernel
theorem dL_act_6 : decode cL_act 6 = .ok (.istore_n 2, 1) := by decide +kernel
theorem dL_act_7 : decode cL_act 7 = .ok (.iload_n 2, 1) := by decide +kernel
theorem dL_act_8 : decode cL_act 8 = .ok (.bipush 8, 2) := by decide +kernel
theorem dL_act_10 : decode cL_act 10 = .ok (.irem, 1) := by decide +kernel
theorem dL_act_11 : decode cL_act 11 = .ok (.istore_n 3, 1) := by decide +kernel
theorem dL_act_12 : decode cL_act 12 = .ok (.iload_n 2, 1) := by decide +kernel
theorem dL_act_13 : decode cL_act 13 = .ok (.iconst 3, 1) := by decide +kernel
theorem dL_act_14 : decode cL_act 14 = .ok (.ishr, 1) := by decide +kernel
theorem dL_act_15 : decode cL_act 15 = .ok (.bipush 8, 2) := by decide +kernel
theorem dL_act_17 : decode cL_act 17 = .ok (.irem, 1) := by decide +kernel
theorem dL_act_18 : decode cL_act 18 = .ok (.istore 4, 2) := by decide +kernel
theorem dL_act_20 : decode cL_act 20 = .ok (.iload_n 2, 1) := by decide +kernel
theorem dL_act_21 : decode cL_act 21 = .ok (.iconst 5, 1) := by decide +kernel
theorem dL_act_22 : decode cL_act 22 = .ok (.ishr, 1) := by decide +kernel
theorem dL_act_23 : decode cL_act 23 = .ok (.iconst 4, 1) := by decide +kernel
theorem dL_act_24 : decode cL_act 24 = .ok (.irem, 1) := by decide +kernel
theorem dL_act_25 : decode cL_act 25 = .ok (.istore 5, 2) := by decide +kernel
theorem dL_act_27 : decode cL_act 27 = .ok (.iload_n 1, 1) := by decide +kernel
theorem dL_act_28 : decode cL_act 28 = .ok (.bipush 15, 2) := by decide +kernel
theorem dL_act_30 : decode cL_act 30 = .ok (.iand, 1) := by decide +kernel
theorem dL_act_31 : decode cL_act 31 = .ok (.tableswitch 214 0 14 #[73, 73, 73, 88, 113, 143, 143, 158, 158, 158, 168, 168, 196, 196, 196], 73) := by decide +kernel
theorem dL_act_104 : decode cL_act 104 = .ok (.aload_n 0, 1) := by decide +kernel
theorem dL_act_105 : decode cL_act 105 = .ok (.iload_n 3, 1) := by decide +kernel
theorem dL_act_106 : decode cL_act 106 = .ok (.iload 4, 2) := by decide +kernel
theorem dL_act_108 : decode cL_act 108 = .ok (.iload_n 2, 1) := by decide +kernel
theorem dL_act_109 : decode cL_act 109 = .ok (.bipush 6, 2) := by decide +kernel
theorem dL_act_111 : decode cL_act 111 = .ok (.ishr, 1) := by decide +kernel
theorem dL_act_112 : decode cL_act 112 = .ok (.bipush 11, 2) := by decide +kernel
theorem dL_act_114 : decode cL_act 114 = .ok (.irem, 1) := by decide +kernel
theorem dL_act_115 : decode cL_act 115 = .ok (.invokestatic 121, 3) := by decide +kernel
theorem dL_act_118 : decode cL_act 118 = .ok (.ireturn, 1) := by decide +kernel
theorem dL_act_119 : decode cL_act 119 = .ok (.aload_n 0, 1) := by decide +kernel
theorem dL_act_120 : decode cL_act 120 = .ok (.iload_n 3, 1) := by decide +kernel
theorem dL_act_121 : decode cL_act 121 = .ok (.iload 4, 2) := by decide +kernel
theorem dL_act_123 : decode cL_act 123 = .ok (.iload_n 2, 1) := by decide +kernel
theorem dL_act_124 : decode cL_act 124 = .ok (.bipush 6, 2) := by decide +kernel
theorem dL_act_126 : decode cL_act 126 = .ok (.ishr, 1) := by decide +kernel
theorem dL_act_127 : decode cL_act 127 = .ok (.bipush 10, 2) := by decide +kernel
theorem dL_act_129 : decode cL_act 129 = .ok (.irem, 1) := by decide +kernel
theorem dL_act_130 : decode cL_act 130 = .ok (.bipush 7, 2) := by decide +kernel
theorem dL_act_132 : decode cL_act 132 = .ok (.iload_n 2, 1) := by decide +kernel
theorem dL_act_133 : decode cL_act 133 = .ok (.bipush 7, 2) := by decide +kernel
theorem dL_act_135 : decode cL_act 135 = .ok (.ishr, 1) := by decide +kernel
theorem dL_act_136 : decode cL_act 136 = .ok (.bipush 19, 2) := by decide +kernel
theorem dL_act_138 : decode cL_act 138 = .ok (.irem, 1) := by decide +kernel
theorem dL_act_139 : decode cL_act 139 = .ok (.iadd, 1) := by decide +kernel
theorem dL_act_140 : decode cL_act 140 = .ok (.invokestatic 124, 3) := by decide +kernel
theorem dL_act_143 : decode cL_act 143 = .ok (.ireturn, 1) := by decide +kernel
theorem dL_act_144 : decode cL_act 144 = .ok (.iload_n 2, 1) := by decide +kernel
theorem dL_act_145 : decode cL_act 145 = .ok (.bipush 64, 2) := by decide +kernel
theorem dL_act_147 : decode cL_act 147 = .ok (.iand, 1) := by decide +kernel
theorem dL_act_148 : decode cL_act 148 = .ok (.ifCond .ne 19, 3) := by decide +kernel
theorem dL_act_151 : decode cL_act 151 = .ok (.aload_n 0, 1) := by decide +kernel
theorem dL_act_152 : decode cL_act 152 = .ok (.iload 5, 2) := by decide +kernel
theorem dL_act_154 : decode cL_act 154 = .ok (.iload_n 2, 1) := by decide +kernel
theorem dL_act_155 : decode cL_act 155 = .ok (.bipush 7, 2) := by decide +kernel
theorem dL_act_157 : decode cL_act 157 = .ok (.ishr, 1) := by decide +kernel
theorem dL_act_158 : decode cL_act 158 = .ok (.bipush 9, 2) := by decide +kernel
theorem dL_act_160 : decode cL_act 160 = .ok (.irem, 1) := by decide +kernel
theorem dL_act_161 : decode cL_act 161 = .ok (.invokestatic 127, 3) := by decide +kernel
theorem dL_act_164 : decode cL_act 164 = .ok (.goto 9, 3) := by decide +kernel
theorem dL_act_167 : decode cL_act 167 = .ok (.aload_n 0, 1) := by decide +kernel
theorem dL_act_168 : decode cL_act 168 = .ok (.iload 5, 2) := by decide +kernel
theorem dL_act_170 : decode cL_act 170 = .ok (.invokestatic 130, 3) := by decide +kernel
theorem dL_act_173 : decode cL_act 173 = .ok (.ireturn, 1) := by decide +kernel
theorem dL_act_174 : decode cL_act 174 = .ok (.aload_n 0, 1) := by decide +kernel
theorem dL_act_175 : decode cL_act 175 = .ok (.iload_n 3, 1) := by decide +kernel
theorem dL_act_176 : decode cL_act 176 = .ok (.iload 4, 2) := by decide +kernel
theorem dL_act_178 : decode cL_act 178 = .ok (.iload_n 2, 1) := by decide +kernel
theorem dL_act_179 : decode cL_act 179 = .ok (.bipush 6, 2) := by decide +kernel
theorem dL_act_181 : decode cL_act 181 = .ok (.ishr, 1) := by decide +kernel
theorem dL_act_182 : decode cL_act 182 = .ok (.bipush 8, 2) := by decide +kernel
theorem dL_act_184 : decode cL_act 184 = .ok (.irem, 1) := by decide +kernel
theorem dL_act_185 : decode cL_act 185 = .ok (.invokestatic 133, 3) := by decide +kernel
theorem dL_act_188 : decode cL_act 188 = .ok (.ireturn, 1) := by decide +kernel
theorem dL_act_189 : decode cL_act 189 = .ok (.aload_n 0, 1) := by decide +kernel
theorem dL_act_190 : decode cL_act 190 = .ok (.iload 5, 2) := by decide +kernel
theorem dL_act_192 : decode cL_act 192 = .ok (.iload_n 3, 1) := by decide +kernel
theorem dL_act_193 : decode cL_act 193 = .ok (.iload 4, 2) := by decide +kernel
theorem dL_act_195 : decode cL_act 195 = .ok (.invokestatic 135, 3) := by decide +kernel
theorem dL_act_198 : decode cL_act 198 = .ok (.ireturn, 1) := by decide +kernel
theorem dL_act_199 : decode cL_act 199 = .ok (.iload_n 2, 1) := by decide +kernel
theorem dL_act_200 : decode cL_act 200 = .ok (.bipush 64, 2) := by decide +kernel
theorem dL_act_202 : decode cL_act 202 = .ok (.iand, 1) := by decide +kernel
theorem dL_act_203 : decode cL_act 203 = .ok (.ifCond .ne 17, 3) := by decide +kernel
theorem dL_act_206 : decode cL_act 206 = .ok (.aload_n 0, 1) := by decide +kernel
theorem dL_act_207 : decode cL_act 207 = .ok (.iload_n 2, 1) := by decide +kernel
theorem dL_act_208 : decode cL_act 208 = .ok (.bipush 7, 2) := by decide +kernel
theorem dL_act_210 : decode cL_act 210 = .ok (.ishr, 1) := by decide +kernel
theorem dL_act_211 : decode cL_act 211 = .ok (.bipush 9, 2) := by decide +kernel
theorem dL_act_213 : decode cL_act 213 = .ok (.irem, 1) := by decide +kernel
theorem dL_act_214 : decode cL_act 214 = .ok (.invokestatic 137, 3) := by decide +kernel
theorem dL_act_217 : decode cL_act 217 = .ok (.goto 9, 3) := by decide +kernel
theorem dL_act_220 : decode cL_act 220 = .ok (.aload_n 0, 1) := by decide +kernel
theorem dL_act_221 : decode cL_act 221 = .ok (.iload 5, 2) := by decide +kernel
theorem dL_act_223 : decode cL_act 223 = .ok (.invokestatic 139, 3) := by decide +kernel
theorem dL_act_226 : decode cL_act 226 = .ok (.ireturn, 1) := by decide +kernel
theorem dL_act_227 : decode cL_act 227 = .ok (.aload_n 0, 1) := by decide +kernel
theorem dL_act_228 : decode cL_act 228 = .ok (.getstatic 141, 3) := by decide +kernel
theorem dL_act_231 : decode cL_act 231 = .ok (.iload_n 2, 1) := by decide +kernel
theorem dL_act_232 : decode cL_act 232 = .ok (.getstatic 141, 3) := by decide +kernel
theorem dL_act_235 : decode cL_act 235 = .ok (.arraylength, 1) := by decide +kernel
theorem dL_act_236 : decode cL_act 236 = .ok (.irem, 1) := by decide +kernel
theorem dL_act_237 : decode cL_act 237 = .ok (.aaload, 1) := by decide +kernel
theorem dL_act_238 : decode cL_act 238 = .ok (.invokestatic 145, 3) := by decide +kernel
theorem dL_act_241 : decode cL_act 241 = .ok (.invokestatic 149, 3) := by decide +kernel
theorem dL_act_244 : decode cL_act 244 = .ok (.ireturn, 1) := by decide +kernel
theorem dL_act_245 : decode cL_act 245 = .ok (.iload_n 2, 1) := by decide +kernel
theorem dL_act_246 : decode cL_act 246 = .ok (.iconst 3, 1) := by decide +kernel
theorem dL_act_247 : decode cL_act 247 = .ok (.iand, 1) := by decide +kernel
theorem dL_act_248 : decode cL_act 248 = .ok (.ifCond .ne 10, 3) := by decide +kernel
theorem dL_act_251 : decode cL_act 251 = .ok (.aload_n 0, 1) := by decide +kernel
theorem dL_act_252 : decode cL_act 252 = .ok (.invokevirtual 152, 3) := by decide +kernel
theorem dL_act_255 : decode cL_act 255 = .ok (.goto 21, 3) := by decide +kernel
theorem dL_act_258 : decode cL_act 258 = .ok (.iload_n 2, 1) := by decide +kernel
theorem dL_act_259 : decode cL_act 259 = .ok (.iconst 3, 1) := by decide +kernel
theorem dL_act_260 : decode cL_act 260 = .ok (.iand, 1) := by decide +kernel
theorem dL_act_261 : decode cL_act 261 = .ok (.iconst 1, 1) := by decide +kernel
theorem dL_act_262 : decode cL_act 262 = .ok (.if_icmp .ne 10, 3) := by decide +kernel
theorem dL_act_265 : decode cL_act 265 = .ok (.aload_n 0, 1) := by decide +kernel
theorem dL_act_266 : decode cL_act 266 = .ok (.invokestatic 155, 3) := by decide +kernel
theorem dL_act_269 : decode cL_act 269 = .ok (.goto 7, 3) := by decide +kernel
theorem dL_act_272 : decode cL_act 272 = .ok (.aload_n 0, 1) := by decide +kernel
theorem dL_act_273 : decode cL_act 273 = .ok (.invokestatic 158, 3) := by decide +kernel
theorem dL_act_276 : decode cL_act 276 = .ok (.ireturn, 1) := by decide +kernel
theorem dL_digest_0 : decode cL_digest 0 = .ok (.ldc2_w 160, 3) := by decide +kernel
theorem dL_digest_3 : decode cL_digest 3 = .ok (.aload_n 0, 1) := by decide +kernel
theorem dL_digest_4 : decode cL_digest 4 = .ok (.invokevirtual 162, 3) := by decide +kernel
theorem dL_digest_7 : decode cL_digest 7 = .ok (.i2l, 1) := by decide +kernel
theorem dL_digest_8 : decode cL_digest 8 = .ok (.lmul, 1) := by decide +kernel
theorem dL_digest_9 : decode cL_digest 9 = .ok (.ldc2_w 165, 3) := by decide +kernel
theorem dL_digest_12 : decode cL_digest 12 = .ok (.aload_n 0, 1) := by decide +kernel
theorem dL_digest_13 : decode cL_digest 13 = .ok (.invokevirtual 167, 3) := by decide +kernel
theorem dL_digest_16 : decode cL_digest 16 = .ok (.i2l, 1) := by decide +kernel
theorem dL_digest_17 : decode cL_digest 17 = .ok (.lmul, 1) := by decide +kernel
theorem dL_digest_18 : decode cL_digest 18 = .ok (.ladd, 1) := by decide +kernel
theorem dL_digest_19 : decode cL_digest 19 = .ok (.ldc2_w 170, 3) := by decide +kernel
theorem dL_digest_22 : decode cL_digest 22 = .ok (.aload_n 0, 1) := by decide +kernel
theorem dL_digest_23 : decode cL_digest 23 = .ok (.invokevirtual 172, 3) := by decide +kernel
theorem dL_digest_26 : decode cL_digest 26 = .ok (.i2l, 1) := by decide +kernel
theorem dL_digest_27 : decode cL_digest 27 = .ok (.lmul, 1) := by decide +kernel
theorem dL_digest_28 : decode cL_digest 28 = .ok (.ladd, 1) := by decide +kernel
theorem dL_digest_29 : decode cL_digest 29 = .ok (.ldc2_w 175, 3) := by decide +kernel
theorem dL_digest_32 : decode cL_digest 32 = .ok (.aload_n 0, 1) := by decide +kernel
theorem dL_digest_33 : decode cL_digest 33 = .ok (.invokevirtual 177, 3) := by decide +kernel
theorem dL_digest_36 : decode cL_digest 36 = .ok (.i2l, 1) := by decide +kernel
theorem dL_digest_37 : decode cL_digest 37 = .ok (.lmul, 1) := by decide +kernel
theorem dL_digest_38 : decode cL_digest 38 = .ok (.ladd, 1) := by decide +kernel
theorem dL_digest_39 : decode cL_digest 39 = .ok (.ldc2_w 180, 3) := by decide +kernel
theorem dL_digest_42 : decode cL_digest 42 = .ok (.aload_n 0, 1) := by decide +kernel
theorem dL_digest_43 : decode cL_digest 43 = .ok (.invokevirtual 182, 3) := by decide +kernel
theorem dL_digest_46 : decode cL_digest 46 = .ok (.i2l, 1) := by decide +kernel
theorem dL_digest_47 : decode cL_digest 47 = .ok (.lmul, 1) := by decide +kernel
theorem dL_digest_48 : decode cL_digest 48 = .ok (.ladd, 1) := by decide +kernel
theorem dL_digest_49 : decode cL_digest 49 = .ok (.aload_n 0, 1) := by decide +kernel
theorem dL_digest_50 : decode cL_digest 50 = .ok (.invokevirtual 185, 3) := by decide +kernel
theorem dL_digest_53 : decode cL_digest 53 = .ok (.i2l, 1) := by decide +kernel
theorem dL_digest_54 : decode cL_digest 54 = .ok (.ladd, 1) := by decide +kernel
theorem dL_digest_55 : decode cL_digest 55 = .ok (.lstore_n 1, 1) := by decide +kernel
theorem dL_digest_56 : decode cL_digest 56 = .ok (.iconst 0, 1) := by decide +kernel
theorem dL_digest_57 : decode cL_digest 57 = .ok (.istore_n 3, 1) := by decide +kernel
theorem dL_digest_58 : decode cL_digest 58 = .ok (.iload_n 3, 1) := by decide +kernel
theorem dL_digest_59 : decode cL_digest 59 = .ok (.bipush 64, 2) := by decide +kernel
theorem dL_digest_61 : decode cL_digest 61 = .ok (.if_icmp .ge 29, 3) := by decide +kernel
theorem dL_digest_64 : decode cL_digest 64 = .ok (.ldc2_w 188, 3) := by decide +kernel
theorem dL_digest_67 : decode cL_digest 67 = .ok (.lload_n 1, 1) := by decide +kernel
theorem dL_digest_68 : decode cL_digest 68 = .ok (.lmul, 1) := by decide +kernel
theorem dL_digest_69 : decode cL_digest 69 = .ok (.aload_n 0, 1) := by decide +kernel
theorem dL_digest_70 : decode cL_digest 70 = .ok (.iload_n 3, 1) := by decide +kernel
theorem dL_digest_71 : decode cL_digest 71 = .ok (.bipush 8, 2) := by decide +kernel
theorem dL_digest_73 : decode cL_digest 73 = .ok (.irem, 1) := by decide +kernel
theorem dL_digest_74 : decode cL_digest 74 = .ok (.iload_n 3, 1) := by decide +kernel
theorem dL_digest_75 : decode cL_digest 75 = .ok (.bipush 8, 2) := by decide +kernel
theorem dL_digest_77 : decode cL_digest 77 = .ok (.idiv, 1) := by decide +kernel
theorem dL_digest_78 : decode cL_digest 78 = .ok (.invokevirtual 190, 3) := by decide +kernel
theorem dL_digest_81 : decode cL_digest 81 = .ok (.i2l, 1) := by decide +kernel
theorem dL_digest_82 : decode cL_digest 82 = .ok (.ladd, 1) := by decide +kernel
theorem dL_digest_83 : decode cL_digest 83 = .ok (.lstore_n 1, 1) := by decide +kernel
theorem dL_digest_84 : decode cL_digest 84 = .ok (.iinc 3 1, 3) := by decide +kernel
theorem dL_digest_87 : decode cL_digest 87 = .ok (.goto (-29), 3) := by decide +kernel
theorem dL_digest_90 : decode cL_digest 90 = .ok (.iconst 0, 1) := by decide +kernel
theorem dL_digest_91 : decode cL_digest 91 = .ok (.istore_n 3, 1) := by decide +kernel
theorem dL_digest_92 : decode cL_digest 92 = .ok (.iload_n 3, 1) := by decide +kernel
theorem dL_digest_93 : decode cL_digest 93 = .ok (.aload_n 0, 1) := by decide +kernel
theorem dL_digest_94 : decode cL_digest 94 = .ok (.invokevirtual 185, 3) := by decide +kernel
theorem dL_digest_97 : decode cL_digest 97 = .ok (.if_icmp .ge 44, 3) := by decide +kernel
theorem dL_digest_100 : decode cL_digest 100 = .ok (.ldc2_w 188, 3) := by decide +kernel
theorem dL_digest_103 : decode cL_digest 103 = .ok (.ldc2_w 188, 3) := by decide +kernel
theorem dL_digest_106 : decode cL_digest 106 = .ok (.ldc2_w 188, 3) := by decide +kernel
theorem dL_digest_109 : decode cL_digest 109 = .ok (.lload_n 1, 1) := by decide +kernel
theorem dL_digest_110 : decode cL_digest 110 = .ok (.lmul, 1) := by decide +kernel
theorem dL_digest_111 : decode cL_digest 111 = .ok (.aload_n 0, 1) := by decide +kernel
theorem dL_digest_112 : decode cL_digest 112 = .ok (.iload_n 3, 1) := by decide +kernel
theorem dL_digest_113 : decode cL_digest 113 = .ok (.invokevirtual 193, 3) := by decide +kernel
theorem dL_digest_116 : decode cL_digest 116 = .ok (.i2l, 1) := by decide +kernel
theorem dL_digest_117 : decode cL_digest 117 = .ok (.ladd, 1) := by decide +kernel
theorem dL_digest_118 : decode cL_digest 118 = .ok (.lmul, 1) := by decide +kernel
theorem dL_digest_119 : decode cL_digest 119 = .ok (.aload_n 0, 1) := by decide +kernel
theorem dL_digest_120 : decode cL_digest 120 = .ok (.iload_n 3, 1) := by decide +kernel
theorem dL_digest_121 : decode cL_digest 121 = .ok (.invokevirtual 196, 3) := by decide +kernel
theorem dL_digest_124 : decode cL_digest 124 = .ok (.i2l, 1) := by decide +kernel
theorem dL_digest_125 : decode cL_digest 125 = .ok (.ladd, 1) := by decide +kernel
theorem dL_digest_126 : decode cL_digest 126 = .ok (.lmul, 1) := by decide +kernel
theorem dL_digest_127 : decode cL_digest 127 = .ok (.aload_n 0, 1) := by decide +kernel
theorem dL_digest_128 : decode cL_digest 128 = .ok (.iload_n 3, 1) := by decide +kernel
theorem dL_digest_129 : decode cL_digest 129 = .ok (.invokevirtual 199, 3) := by decide +kernel
theorem dL_digest_132 : decode cL_digest 132 = .ok (.i2l, 1) := by decide +kernel
theorem dL_digest_133 : decode cL_digest 133 = .ok (.ladd, 1) := by decide +kernel
theorem dL_digest_134 : decode cL_digest 134 = .ok (.lstore_n 1, 1) := by decide +kernel
theorem dL_digest_135 : decode cL_digest 135 = .ok (.iinc 3 1, 3) := by decide +kernel
theorem dL_digest_138 : decode cL_digest 138 = .ok (.goto (-46), 3) := by decide +kernel
theorem dL_digest_141 : decode cL_digest 141 = .ok (.iconst 0, 1) := by decide +kernel
theorem dL_digest_142 : decode cL_digest 142 = .ok (.istore_n 3, 1) := by decide +kernel
theorem dL_digest_143 : decode cL_digest 143 = .ok (.iload_n 3, 1) := by decide +kernel
theorem dL_digest_144 : decode cL_digest 144 = .ok (.aload_n 0, 1) := by decide +kernel
theorem dL_digest_145 : decode cL_digest 145 = .ok (.invokevirtual 182, 3) := by decide +kernel
theorem dL_digest_148 : decode cL_digest 148 = .ok (.if_icmp .ge 82, 3) := by decide +kernel
theorem dL_digest_151 : decode cL_digest 151 = .ok (.ldc2_w 188, 3) := by decide +kernel
theorem dL_digest_154 : decode cL_digest 154 = .ok (.ldc2_w 188, 3) := by decide +kernel
theorem dL_digest_157 : decode cL_digest 157 = .ok (.ldc2_w 188, 3) := by decide +kernel
theorem dL_digest_160 : decode cL_digest 160 = .ok (.ldc2_w 188, 3) := by decide +kernel
theorem dL_digest_163 : decode cL_digest 163 = .ok (.lload_n 1, 1) := by decide +kernel
theorem dL_digest_164 : decode cL_digest 164 = .ok (.lmul, 1) := by decide +kernel
theorem dL_digest_165 : decode cL_digest 165 = .ok (.bipush 8, 2) := by decide +kernel
theorem dL_digest_167 : decode cL_digest 167 = .ok (.aload_n 0, 1) := by decide +kernel
theorem dL_digest_168 : decode cL_digest 168 = .ok (.iload_n 3, 1) := by decide +kernel
theorem dL_digest_169 : decode cL_digest 169 = .ok (.invokevirtual 202, 3) := by decide +kernel
theorem dL_digest_172 : decode cL_digest 172 = .ok (.imul, 1) := by decide +kernel
theorem dL_digest_173 : decode cL_digest 173 = .ok (.i2l, 1) := by decide +kernel
theorem dL_digest_174 : decode cL_digest 174 = .ok (.ladd, 1) := by decide +kernel
theorem dL_digest_175 : decode cL_digest 175 = .ok (.aload_n 0, 1) := by decide +kernel
theorem dL_digest_176 : decode cL_digest 176 = .ok (.iload_n 3, 1) := by decide +kernel
theorem dL_digest_177 : decode cL_digest 177 = .ok (.invokevirtual 205, 3) := by decide +kernel
theorem dL_digest_180 : decode cL_digest 180 = .ok (.i2l, 1) := by decide +kernel
theorem dL_digest_181 : decode cL_digest 181 = .ok (.ladd, 1) := by decide +kernel
theorem dL_digest_182 : decode cL_digest 182 = .ok (.lmul, 1) := by decide +kernel
theorem dL_digest_183 : decode cL_digest 183 = .ok (.aload_n 0, 1) := by decide +kernel
theorem dL_digest_184 : decode cL_digest 184 = .ok (.iload_n 3, 1) := by decide +kernel
theorem dL_digest_185 : decode cL_digest 185 = .ok (.invokestatic 208, 3) := by decide +kernel
theorem dL_digest_188 : decode cL_digest 188 = .ok (.i2l, 1) := by decide +kernel
theorem dL_digest_189 : decode cL_digest 189 = .ok (.ladd, 1) := by decide +kernel
theorem dL_digest_190 : decode cL_digest 190 = .ok (.lmul, 1) := by decide +kernel
theorem dL_digest_191 : decode cL_digest 191 = .ok (.aload_n 0, 1) := by decide +kernel
theorem dL_digest_192 : decode cL_digest 192 = .ok (.iload_n 3, 1) := by decide +kernel
theorem dL_digest_193 : decode cL_digest 193 = .ok (.invokestatic 210, 3) := by decide +kernel
theorem dL_digest_196 : decode cL_digest 196 = .ok (.i2l, 1) := by decide +kernel
theorem dL_digest_197 : decode cL_digest 197 = .ok (.ladd, 1) := by decide +kernel
theorem dL_digest_198 : decode cL_digest 198 = .ok (.lmul, 1) := by decide +kernel
theorem dL_digest_199 : decode cL_digest 199 = .ok (.aload_n 0, 1) := by decide +kernel
theorem dL_digest_200 : decode cL_digest 200 = .ok (.iload_n 3, 1) := by decide +kernel
theorem dL_digest_201 : decode cL_digest 201 = .ok (.invokevirtual 212, 3) := by decide +kernel
theorem dL_digest_204 : decode cL_digest 204 = .ok (.i2l, 1) := by decide +kernel
theorem dL_digest_205 : decode cL_digest 205 = .ok (.ladd, 1) := by decide +kernel
theorem dL_digest_206 : decode cL_digest 206 = .ok (.aload_n 0, 1) := by decide +kernel
theorem dL_digest_207 : decode cL_digest 207 = .ok (.iload_n 3, 1) := by decide +kernel
theorem dL_digest_208 : decode cL_digest 208 = .ok (.invokevirtual 215, 3) := by decide +kernel
theorem dL_digest_211 : decode cL_digest 211 = .ok (.ifCond .eq 9, 3) := by decide +kernel
theorem dL_digest_214 : decode cL_digest 214 = .ok (.sipush 1000, 3) := by decide +kernel
theorem dL_digest_217 : decode cL_digest 217 = .ok (.goto 4, 3) := by decide +kernel
theorem dL_digest_220 : decode cL_digest 220 = .ok (.iconst 0, 1) := by decide +kernel
theorem dL_digest_221 : decode cL_digest 221 = .ok (.i2l, 1) := by decide +kernel
theorem dL_digest_222 : decode cL_digest 222 = .ok (.ladd, 1) := by decide +kernel
theorem dL_digest_223 : decode cL_digest 223 = .ok (.lstore_n 1, 1) := by decide +kernel
theorem dL_digest_224 : decode cL_digest 224 = .ok (.iinc 3 1, 3) := by decide +kernel
theorem dL_digest_227 : decode cL_digest 227 = .ok (.goto (-84), 3) := by decide +kernel
theorem dL_digest_230 : decode cL_digest 230 = .ok (.lload_n 1, 1) := by decide +kernel
theorem dL_digest_231 : decode cL_digest 231 = .ok (.lreturn, 1) := by decide +kernel
theorem dL_areDepths_0 : decode cL_areDepths 0 = .ok (.aload_n 0, 1) := by decide +kernel
theorem dL_areDepths_1 : decode cL_areDepths 1 = .ok (.invokevirtual 162, 3) := by decide +kernel
theorem dL_areDepths_4 : decode cL_areDepths 4 = .ok (.bipush 12, 2) := by decide +kernel
theorem dL_areDepths_6 : decode cL_areDepths 6 = .ok (.irem, 1) := by decide +kernel
theorem dL_areDepths_7 : decode cL_areDepths 7 = .ok (.istore_n 1, 1) := by decide +kernel
theorem dL_areDepths_8 : decode cL_areDepths 8 = .ok (.iload_n 1, 1) := by decide +kernel
theorem dL_areDepths_9 : decode cL_areDepths 9 = .ok (.iconst 2, 1) := by decide +kernel
theorem dL_areDepths_10 : decode cL_areDepths 10 = .ok (.if_icmp .lt 9, 3) := by decide +kernel
theorem dL_areDepths_13 : decode cL_areDepths 13 = .ok (.iload_n 1, 1) := by decide +kernel
theorem dL_areDepths_14 : decode cL_areDepths 14 = .ok (.bipush 9, 2) := by decide +kernel
theorem dL_areDepths_16 : decode cL_areDepths 16 = .ok (.if_icmp .le 7, 3) := by decide +kernel
theorem dL_areDepths_19 : decode cL_areDepths 19 = .ok (.iconst 0, 1) := by decide +kernel
theorem dL_areDepths_20 : decode cL_areDepths 20 = .ok (.goto 19, 3) := by decide +kernel
theorem dL_areDepths_23 : decode cL_areDepths 23 = .ok (.iload_n 1, 1) := by decide +kernel
theorem dL_areDepths_24 : decode cL_areDepths 24 = .ok (.iconst 4, 1) := by decide +kernel
theorem dL_areDepths_25 : decode cL_areDepths 25 = .ok (.if_icmp .lt 9, 3) := by decide +kernel
theorem dL_areDepths_28 : decode cL_areDepths 28 = .ok (.iload_n 1, 1) := by decide +kernel
theorem dL_areDepths_29 : decode cL_areDepths 29 = .ok (.bipush 7, 2) := by decide +kernel
theorem dL_areDepths_31 : decode cL_areDepths 31 = .ok (.if_icmp .le 7, 3) := by decide +kernel
theorem dL_areDepths_34 : decode cL_areDepths 34 = .ok (.iconst 1, 1) := by decide +kernel
theorem dL_areDepths_35 : decode cL_areDepths 35 = .ok (.goto 4, 3) := by decide +kernel
theorem dL_areDepths_38 : decode cL_areDepths 38 = .ok (.iconst 2, 1) := by decide +kernel
theorem dL_areDepths_39 : decode cL_areDepths 39 = .ok (.istore_n 2, 1) := by decide +kernel
theorem dL_areDepths_40 : decode cL_areDepths 40 = .ok (.iconst 0, 1) := by decide +kernel
theorem dL_areDepths_41 : decode cL_areDepths 41 = .ok (.istore_n 3, 1) := by decide +kernel
theorem dL_areDepths_42 : decode cL_areDepths 42 = .ok (.aload_n 0, 1) := by decide +kernel
theorem dL_areDepths_43 : decode cL_areDepths 43 = .ok (.invokevirtual 219, 3) := by decide +kernel
theorem dL_areDepths_46 : decode cL_areDepths 46 = .ok (.iload_n 2, 1) := by decide +kernel
theorem dL_areDepths_47 : decode cL_areDepths 47 = .ok (.if_icmp .ne 30, 3) := by decide +kernel
theorem dL_areDepths_50 : decode cL_areDepths 50 = .ok (.aload_n 0, 1) := by decide +kernel
theorem dL_areDepths_51 : decode cL_areDepths 51 = .ok (.aload_n 0, 1) := by decide +kernel
theorem dL_areDepths_52 : decode cL_areDepths 52 = .ok (.iconst 0, 1) := by decide +kernel
theorem dL_areDepths_53 : decode cL_areDepths 53 = .ok (.invokevirtual 222, 3) := by decide +kernel
theorem dL_areDepths_56 : decode cL_areDepths 56 = .ok (.aload_n 0, 1) := by decide +kernel
theorem dL_areDepths_57 : decode cL_areDepths 57 = .ok (.iconst 0, 1) := by decide +kernel
theorem dL_areDepths_58 : decode cL_areDepths 58 = .ok (.invokevirtual 225, 3) := by decide +kernel
theorem dL_areDepths_61 : decode cL_areDepths 61 = .ok (.invokevirtual 190, 3) := by decide +kernel
theorem dL_areDepths_64 : decode cL_areDepths 64 = .ok (.aload_n 0, 1) := by decide +kernel
theorem dL_areDepths_65 : decode cL_areDepths 65 = .ok (.iconst 0, 1) := by decide +kernel
theorem dL_areDepths_66 : decode cL_areDepths 66 = .ok (.iconst 0, 1) := by decide +kernel
theorem dL_areDepths_67 : decode cL_areDepths 67 = .ok (.invokevirtual 190, 3) := by decide +kernel
theorem dL_areDepths_70 : decode cL_areDepths 70 = .ok (.if_icmp .gt 7, 3) := by decide +kernel
theorem dL_areDepths_73 : decode cL_areDepths 73 = .ok (.iconst 1, 1) := by decide +kernel
theorem dL_areDepths_74 : decode cL_areDepths 74 = .ok (.goto 4, 3) := by decide +kernel
theorem dL_areDepths_77 : decode cL_areDepths 77 = .ok (.iconst 0, 1) := by decide +kernel
theorem dL_areDepths_78 : decode cL_areDepths 78 = .ok (.istore 4, 2) := by decide +kernel
theorem dL_areDepths_80 : decode cL_areDepths 80 = .ok (.iconst 0, 1) := by decide +kernel
theorem dL_areDepths_81 : decode cL_areDepths 81 = .ok (.istore 5, 2) := by decide +kernel
theorem dL_areDepths_83 : decode cL_areDepths 83 = .ok (.iload 4, 2) := by decide +kernel
theorem dL_areDepths_85 : decode cL_areDepths 85 = .ok (.ifCond .eq 74, 3) := by decide +kernel
theorem dL_areDepths_88 : decode cL_areDepths 88 = .ok (.iload 5, 2) := by decide +kernel
theorem dL_areDepths_90 : decode cL_areDepths 90 = .ok (.bipush 64, 2) := by decide +kernel
theorem dL_areDepths_92 : decode cL_areDepths 92 = .ok (.if_icmp .ge 67, 3) := by decide +kernel
theorem dL_areDepths_95 : decode cL_areDepths 95 = .ok (.aload_n 0, 1) := by decide +kernel
theorem dL_areDepths_96 : decode cL_areDepths 96 = .ok (.iload 5, 2) := by decide +kernel
theorem dL_areDepths_98 : decode cL_areDepths 98 = .ok (.bipush 8, 2) := by decide +kernel
theorem dL_areDepths_100 : decode cL_areDepths 100 = .ok (.irem, 1) := by decide +kernel
theorem dL_areDepths_101 : decode cL_areDepths 101 = .ok (.iload 5, 2) := by decide +kernel
theorem dL_areDepths_103 : decode cL_areDepths 103 = .ok (.bipush 8, 2) := by decide +kernel
theorem dL_areDepths_105 : decode cL_areDepths 105 = .ok (.idiv, 1) := by decide +kernel
theorem dL_areDepths_106 : decode cL_areDepths 106 = .ok (.invokevirtual 190, 3) := by decide +kernel
theorem dL_areDepths_109 : decode cL_areDepths 109 = .ok (.istore 6, 2) := by decide +kernel
theorem dL_areDepths_111 : decode cL_areDepths 111 = .ok (.iload_n 3, 1) := by decide +kernel
theorem dL_areDepths_112 : decode cL_areDepths 112 = .ok (.iload 6, 2) := by decide +kernel
theorem dL_areDepths_114 : decode cL_areDepths 114 = .ok (.iadd, 1) := by decide +kernel
theorem dL_areDepths_115 : decode cL_areDepths 115 = .ok (.istore_n 3, 1) := by decide +kernel
theorem dL_areDepths_116 : decode cL_areDepths 116 = .ok (.aload_n 0, 1) := by decide +kernel
theorem dL_areDepths_117 : decode cL_areDepths 117 = .ok (.iload 5, 2) := by decide +kernel
theorem dL_areDepths_119 : decode cL_areDepths 119 = .ok (.bipush 8, 2) := by decide +kernel
theorem dL_areDepths_121 : decode cL_areDepths 121 = .ok (.irem, 1) := by decide +kernel
theorem dL_areDepths_122 : decode cL_areDepths 122 = .ok (.iload 5, 2) := by decide +kernel
theorem dL_areDepths_124 : decode cL_areDepths 124 = .ok (.bipush 8, 2) := by decide +kernel
theorem dL_areDepths_126 : decode cL_areDepths 126 = .ok (.idiv, 1) := by decide +kernel
theorem dL_areDepths_127 : decode cL_areDepths 127 = .ok (.invokevirtual 228, 3) := by decide +kernel
theorem dL_areDepths_130 : decode cL_areDepths 130 = .ok (.iload 6, 2) := by decide +kernel
theorem dL_areDepths_132 : decode cL_areDepths 132 = .ok (.ifCond .ne 7, 3) := by decide +kernel
theorem dL_areDepths_135 : decode cL_areDepths 135 = .ok (.iconst 0, 1) := by decide +kernel
theorem dL_areDepths_136 : decode cL_areDepths 136 = .ok (.goto 7, 3) := by decide +kernel
theorem dL_areDepths_139 : decode cL_areDepths 139 = .ok (.iload 6, 2) := by decide +kernel
theorem dL_areDepths_141 : decode cL_areDepths 141 = .ok (.iload_n 2, 1) := by decide +kernel
theorem dL_areDepths_142 : decode cL_areDepths 142 = .ok (.iadd, 1) := by decide +kernel
theorem dL_areDepths_143 : decode cL_areDepths 143 = .ok (.if_icmp .ne 7, 3) := by decide +kernel
theorem dL_areDepths_146 : decode cL_areDepths 146 = .ok (.iconst 1, 1) := by decide +kernel
theorem dL_areDepths_147 : decode cL_areDepths 147 = .ok (.goto 4, 3) := by decide +kernel
theorem dL_areDepths_150 : decode cL_areDepths 150 = .ok (.iconst 0, 1) := by decide +kernel
theorem dL_areDepths_151 : decode cL_areDepths 151 = .ok (.istore 4, 2) := by decide +kernel
theorem dL_areDepths_153 : decode cL_areDepths 153 = .ok (.iinc 5 1, 3) := by decide +kernel
theorem dL_areDepths_156 : decode cL_areDepths 156 = .ok (.goto (-73), 3) := by decide +kernel
theorem dL_areDepths_159 : decode cL_areDepths 159 = .ok (.iconst 1, 1) := by decide +kernel
theorem dL_areDepths_160 : decode cL_areDepths 160 = .ok (.istore 5, 2) := by decide +kernel
theorem dL_areDepths_162 : decode cL_areDepths 162 = .ok (.iload 4, 2) := by decide +kernel
theorem dL_areDepths_164 : decode cL_areDepths 164 = .ok (.ifCond .eq 111, 3) := by decide +kernel
theorem dL_areDepths_167 : decode cL_areDepths 167 = .ok (.iload 5, 2) := by decide +kernel
theorem dL_areDepths_169 : decode cL_areDepths 169 = .ok (.bipush 64, 2) := by decide +kernel
theorem dL_areDepths_171 : decode cL_areDepths 171 = .ok (.if_icmp .ge 104, 3) := by decide +kernel
theorem dL_areDepths_174 : decode cL_areDepths 174 = .ok (.bipush 8, 2) := by decide +kernel
theorem dL_areDepths_176 : decode cL_areDepths 176 = .ok (.aload_n 0, 1) := by decide +kernel
theorem dL_areDepths_177 : decode cL_areDepths 177 = .ok (.iload 5, 2) := by decide +kernel
theorem dL_areDepths_179 : decode cL_areDepths 179 = .ok (.iconst 1, 1) := by decide +kernel
theorem dL_areDepths_180 : decode cL_areDepths 180 = .ok (.isub, 1) := by decide +kernel
theorem dL_areDepths_181 : decode cL_areDepths 181 = .ok (.invokevirtual 225, 3) := by decide +kernel
theorem dL_areDepths_184 : decode cL_areDepths 184 = .ok (.imul, 1) := by decide +kernel
theorem dL_areDepths_185 : decode cL_areDepths 185 = .ok (.aload_n 0, 1) := by decide +kernel
theorem dL_areDepths_186 : decode cL_areDepths 186 = .ok (.iload 5, 2) := by decide +kernel
theorem dL_areDepths_188 : decode cL_areDepths 188 = .ok (.iconst 1, 1) := by decide +kernel
theorem dL_areDepths_189 : decode cL_areDepths 189 = .ok (.isub, 1) := by decide +kernel
theorem dL_areDepths_190 : decode cL_areDepths 190 = .ok (.invokevirtual 222, 3) := by decide +kernel
theorem dL_areDepths_193 : decode cL_areDepths 193 = .ok (.iadd, 1) := by decide +kernel
theorem dL_areDepths_194 : decode cL_areDepths 194 = .ok (.istore 6, 2) := by decide +kernel
theorem dL_areDepths_196 : decode cL_areDepths 196 = .ok (.bipush 8, 2) := by decide +kernel
theorem dL_areDepths_198 : decode cL_areDepths 198 = .ok (.aload_n 0, 1) := by decide +kernel
theorem dL_areDepths_199 : decode cL_areDepths 199 = .ok (.iload 5, 2) := by decide +kernel
theorem dL_areDepths_201 : decode cL_areDepths 201 = .ok (.invokevirtual 225, 3) := by decide +kernel
theorem dL_areDepths_204 : decode cL_areDepths 204 = .ok (.imul, 1) := by decide +kernel
theorem dL_areDepths_205 : decode cL_areDepths 205 = .ok (.aload_n 0, 1) := by decide +kernel
theorem dL_areDepths_206 : decode cL_areDepths 206 = .ok (.iload 5, 2) := by decide +kernel
theorem dL_areDepths_208 : decode cL_areDepths 208 = .ok (.invokevirtual 222, 3) := by decide +kernel
theorem dL_areDepths_211 : decode cL_areDepths 211 = .ok (.iadd, 1) := by decide +kernel
theorem dL_areDepths_212 : decode cL_areDepths 212 = .ok (.istore 7, 2) := by decide +kernel
theorem dL_areDepths_214 : decode cL_areDepths 214 = .ok (.aload_n 0, 1) := by decide +kernel
theorem dL_areDepths_215 : decode cL_areDepths 215 = .ok (.iload 7, 2) := by decide +kernel
theorem dL_areDepths_217 : decode cL_areDepths 217 = .ok (.bipush 8, 2) := by decide +kernel
theorem dL_areDepths_219 : decode cL_areDepths 219 = .ok (.irem, 1) := by decide +kernel
theorem dL_areDepths_220 : decode cL_areDepths 220 = .ok (.iload 7, 2) := by decide +kernel
theorem dL_areDepths_222 : decode cL_areDepths 222 = .ok (.bipush 8, 2) := by decide +kernel
theorem dL_areDepths_224 : decode cL_areDepths 224 = .ok (.idiv, 1) := by decide +kernel
theorem dL_areDepths_225 : decode cL_areDepths 225 = .ok (.invokevirtual 190, 3) := by decide +kernel
theorem dL_areDepths_228 : decode cL_areDepths 228 = .ok (.aload_n 0, 1) := by decide +kernel
theorem dL_areDepths_229 : decode cL_areDepths 229 = .ok (.iload 6, 2) := by decide +kernel
theorem dL_areDepths_231 : decode cL_areDepths 231 = .ok (.bipush 8, 2) := by decide +kernel
theorem dL_areDepths_233 : decode cL_areDepths 233 = .ok (.irem, 1) := by decide +kernel
theorem dL_areDepths_234 : decode cL_areDepths 234 = .ok (.iload 6, 2) := by decide +kernel
theorem dL_areDepths_236 : decode cL_areDepths 236 = .ok (.bipush 8, 2) := by decide +kernel
theorem dL_areDepths_238 : decode cL_areDepths 238 = .ok (.idiv, 1) := by decide +kernel
theorem dL_areDepths_239 : decode cL_areDepths 239 = .ok (.invokevirtual 190, 3) := by decide +kernel
theorem dL_areDepths_242 : decode cL_areDepths 242 = .ok (.isub, 1) := by decide +kernel
theorem dL_areDepths_243 : decode cL_areDepths 243 = .ok (.istore 8, 2) := by decide +kernel
theorem dL_areDepths_245 : decode cL_areDepths 245 = .ok (.iload 8, 2) := by decide +kernel
theorem dL_areDepths_247 : decode cL_areDepths 247 = .ok (.ifCond .gt 15, 3) := by decide +kernel
theorem dL_areDepths_250 : decode cL_areDepths 250 = .ok (.iload 8, 2) := by decide +kernel
theorem dL_areDepths_252 : decode cL_areDepths 252 = .ok (.ifCond .ne 14, 3) := by decide +kernel
theorem dL_areDepths_255 : decode cL_areDepths 255 = .ok (.iload 6, 2) := by decide +kernel
theorem dL_areDepths_257 : decode cL_areDepths 257 = .ok (.iload 7, 2) := by decide +kernel
theorem dL_areDepths_259 : decode cL_areDepths 259 = .ok (.if_icmp .ge 7, 3) := by decide +kernel
theorem dL_areDepths_262 : decode cL_areDepths 262 = .ok (.iconst 1, 1) := by decide +kernel
theorem dL_areDepths_263 : decode cL_areDepths 263 = .ok (.goto 4, 3) := by decide +kernel
theorem dL_areDepths_266 : decode cL_areDepths 266 = .ok (.iconst 0, 1) := by decide +kernel
theorem dL_areDepths_267 : decode cL_areDepths 267 = .ok (.istore 4, 2) := by decide +kernel
theorem dL_areDepths_269 : decode cL_areDepths 269 = .ok (.iinc 5 7, 3) := by decide +kernel
theorem dL_areDepths_272 : decode cL_areDepths 272 = .ok (.goto (-110), 3) := by decide +kernel
theorem dL_areDepths_275 : decode cL_areDepths 275 = .ok (.iconst 0, 1) := by decide +kernel
theorem dL_areDepths_276 : decode cL_areDepths 276 = .ok (.istore 5, 2) := by decide +kernel
theorem dL_areDepths_278 : decode cL_areDepths 278 = .ok (.iload 4, 2) := by decide +kernel
theorem dL_areDepths_280 : decode cL_areDepths 280 = .ok (.ifCond .eq 155, 3) := by decide +kernel
theorem dL_areDepths_283 : decode cL_areDepths 283 = .ok (.iload 5, 2) := by decide +kernel
theorem dL_areDepths_285 : decode cL_areDepths 285 = .ok (.bipush 64, 2) := by decide +kernel
theorem dL_areDepths_287 : decode cL_areDepths 287 = .ok (.if_icmp .ge 148, 3) := by decide +kernel
theorem dL_areDepths_290 : decode cL_areDepths 290 = .ok (.iconst 5, 1) := by decide +kernel
theorem dL_areDepths_291 : decode cL_areDepths 291 = .ok (.iload 5, 2) := by decide +kernel
theorem dL_areDepths_293 : decode cL_areDepths 293 = .ok (.imul, 1) := by decide +kernel
theorem dL_areDepths_294 : decode cL_areDepths 294 = .ok (.bipush 11, 2) := by decide +kernel
theorem dL_areDepths_296 : decode cL_areDepths 296 = .ok (.iadd, 1) := by decide +kernel
theorem dL_areDepths_297 : decode cL_areDepths 297 = .ok (.bipush 64, 2) := by decide +kernel
theorem dL_areDepths_299 : decode cL_areDepths 299 = .ok (.irem, 1) := by decide +kernel
theorem dL_areDepths_300 : decode cL_areDepths 300 = .ok (.istore 6, 2) := by decide +kernel
theorem dL_areDepths_302 : decode cL_areDepths 302 = .ok (.aload_n 0, 1) := by decide +kernel
theorem dL_areDepths_303 : decode cL_areDepths 303 = .ok (.iload 5, 2) := by decide +kernel
theorem dL_areDepths_305 : decode cL_areDepths 305 = .ok (.bipush 8, 2) := by decide +kernel
theorem dL_areDepths_307 : decode cL_areDepths 307 = .ok (.irem, 1) := by decide +kernel
theorem dL_areDepths_308 : decode cL_areDepths 308 = .ok (.iload 5, 2) := by decide +kernel
theorem dL_areDepths_310 : decode cL_areDepths 310 = .ok (.bipush 8, 2) := by decide +kernel
theorem dL_areDepths_312 : decode cL_areDepths 312 = .ok (.idiv, 1) := by decide +kernel
theorem dL_areDepths_313 : decode cL_areDepths 313 = .ok (.iload 6, 2) := by decide +kernel
theorem dL_areDepths_315 : decode cL_areDepths 315 = .ok (.bipush 8, 2) := by decide +kernel
theorem dL_areDepths_317 : decode cL_areDepths 317 = .ok (.irem, 1) := by decide +kernel
theorem dL_areDepths_318 : decode cL_areDepths 318 = .ok (.iload 6, 2) := by decide +kernel
theorem dL_areDepths_320 : decode cL_areDepths 320 = .ok (.bipush 8, 2) := by decide +kernel
theorem dL_areDepths_322 : decode cL_areDepths 322 = .ok (.idiv, 1) := by decide +kernel
theorem dL_areDepths_323 : decode cL_areDepths 323 = .ok (.invokevirtual 231, 3) := by decide +kernel
theorem dL_areDepths_326 : decode cL_areDepths 326 = .ok (.istore 7, 2) := by decide +kernel
theorem dL_areDepths_328 : decode cL_areDepths 328 = .ok (.aload_n 0, 1) := by decide +kernel
theorem dL_areDepths_329 : decode cL_areDepths 329 = .ok (.iload 5, 2) := by decide +kernel
theorem dL_areDepths_331 : decode cL_areDepths 331 = .ok (.bipush 8, 2) := by decide +kernel
theorem dL_areDepths_333 : decode cL_areDepths 333 = .ok (.irem, 1) := by decide +kernel
theorem dL_areDepths_334 : decode cL_areDepths 334 = .ok (.iload 5, 2) := by decide +kernel
theorem dL_areDepths_336 : decode cL_areDepths 336 = .ok (.bipush 8, 2) := by decide +kernel
theorem dL_areDepths_338 : decode cL_areDepths 338 = .ok (.idiv, 1) := by decide +kernel
theorem dL_areDepths_339 : decode cL_areDepths 339 = .ok (.iload 6, 2) := by decide +kernel
theorem dL_areDepths_341 : decode cL_areDepths 341 = .ok (.bipush 8, 2) := by decide +kernel
theorem dL_areDepths_343 : decode cL_areDepths 343 = .ok (.irem, 1) := by decide +kernel
theorem dL_areDepths_344 : decode cL_areDepths 344 = .ok (.iload 6, 2) := by decide +kernel
theorem dL_areDepths_346 : decode cL_areDepths 346 = .ok (.bipush 8, 2) := by decide +kernel
theorem dL_areDepths_348 : decode cL_areDepths 348 = .ok (.idiv, 1) := by decide +kernel
theorem dL_areDepths_349 : decode cL_areDepths 349 = .ok (.invokevirtual 234, 3) := by decide +kernel
theorem dL_areDepths_352 : decode cL_areDepths 352 = .ok (.iload 7, 2) := by decide +kernel
theorem dL_areDepths_354 : decode cL_areDepths 354 = .ok (.if_icmp .ne 72, 3) := by decide +kernel
theorem dL_areDepths_357 : decode cL_areDepths 357 = .ok (.aload_n 0, 1) := by decide +kernel
theorem dL_areDepths_358 : decode cL_areDepths 358 = .ok (.iload 6, 2) := by decide +kernel
theorem dL_areDepths_360 : decode cL_areDepths 360 = .ok (.bipush 8, 2) := by decide +kernel
theorem dL_areDepths_362 : decode cL_areDepths 362 = .ok (.irem, 1) := by decide +kernel
theorem dL_areDepths_363 : decode cL_areDepths 363 = .ok (.iload 6, 2) := by decide +kernel
theorem dL_areDepths_365 : decode cL_areDepths 365 = .ok (.bipush 8, 2) := by decide +kernel
theorem dL_areDepths_367 : decode cL_areDepths 367 = .ok (.idiv, 1) := by decide +kernel
theorem dL_areDepths_368 : decode cL_areDepths 368 = .ok (.iload 5, 2) := by decide +kernel
theorem dL_areDepths_370 : decode cL_areDepths 370 = .ok (.bipush 8, 2) := by decide +kernel
theorem dL_areDepths_372 : decode cL_areDepths 372 = .ok (.irem, 1) := by decide +kernel
theorem dL_areDepths_373 : decode cL_areDepths 373 = .ok (.iload 5, 2) := by decide +kernel
theorem dL_areDepths_375 : decode cL_areDepths 375 = .ok (.bipush 8, 2) := by decide +kernel
theorem dL_areDepths_377 : decode cL_areDepths 377 = .ok (.idiv, 1) := by decide +kernel
theorem dL_areDepths_378 : decode cL_areDepths 378 = .ok (.invokevirtual 231, 3) := by decide +kernel
theorem dL_areDepths_381 : decode cL_areDepths 381 = .ok (.iload 7, 2) := by decide +kernel
theorem dL_areDepths_383 : decode cL_areDepths 383 = .ok (.if_icmp .ne 43, 3) := by decide +kernel
theorem dL_areDepths_386 : decode cL_areDepths 386 = .ok (.iload 7, 2) := by decide +kernel
theorem dL_areDepths_388 : decode cL_areDepths 388 = .ok (.aload_n 0, 1) := by decide +kernel
theorem dL_areDepths_389 : decode cL_areDepths 389 = .ok (.iload 5, 2) := by decide +kernel
theorem dL_areDepths_391 : decode cL_areDepths 391 = .ok (.bipush 8, 2) := by decide +kernel
theorem dL_areDepths_393 : decode cL_areDepths 393 = .ok (.irem, 1) := by decide +kernel
theorem dL_areDepths_394 : decode cL_areDepths 394 = .ok (.iload 5, 2) := by decide +kernel
theorem dL_areDepths_396 : decode cL_areDepths 396 = .ok (.bipush 8, 2) := by decide +kernel
theorem dL_areDepths_398 : decode cL_areDepths 398 = .ok (.idiv, 1) := by decide +kernel
theorem dL_areDepths_399 : decode cL_areDepths 399 = .ok (.invokevirtual 190, 3) := by decide +kernel
theorem dL_areDepths_402 : decode cL_areDepths 402 = .ok (.aload_n 0, 1) := by decide +kernel
theorem dL_areDepths_403 : decode cL_areDepths 403 = .ok (.iload 6, 2) := by decide +kernel
theorem dL_areDepths_405 : decode cL_areDepths 405 = .ok (.bipush 8, 2) := by decide +kernel
theorem dL_areDepths_407 : decode cL_areDepths 407 = .ok (.irem, 1) := by decide +kernel
theorem dL_areDepths_408 : decode cL_areDepths 408 = .ok (.iload 6, 2) := by decide +kernel
theorem dL_areDepths_410 : decode cL_areDepths 410 = .ok (.bipush 8, 2) := by decide +kernel
theorem dL_areDepths_412 : decode cL_areDepths 412 = .ok (.idiv, 1) := by decide +kernel
theorem dL_areDepths_413 : decode cL_areDepths 413 = .ok (.invokevirtual 190, 3) := by decide +kernel
theorem dL_areDepths_416 : decode cL_areDepths 416 = .ok (.invokestatic 237, 3) := by decide +kernel
theorem dL_areDepths_419 : decode cL_areDepths 419 = .ok (.if_icmp .gt 7, 3) := by decide +kernel
theorem dL_areDepths_422 : decode cL_areDepths 422 = .ok (.iconst 1, 1) := by decide +kernel
theorem dL_areDepths_423 : decode cL_areDepths 423 = .ok (.goto 4, 3) := by decide +kernel
theorem dL_areDepths_426 : decode cL_areDepths 426 = .ok (.iconst 0, 1) := by decide +kernel
theorem dL_areDepths_427 : decode cL_areDepths 427 = .ok (.istore 4, 2) := by decide +kernel
theorem dL_areDepths_429 : decode cL_areDepths 429 = .ok (.iinc 5 9, 3) := by decide +kernel
theorem dL_areDepths_432 : decode cL_areDepths 432 = .ok (.goto (-154), 3) := by decide +kernel
theorem dL_areDepths_435 : decode cL_areDepths 435 = .ok (.iload 4, 2) := by decide +kernel
theorem dL_areDepths_437 : decode cL_areDepths 437 = .ok (.ifCond .eq 21, 3) := by decide +kernel
theorem dL_areDepths_440 : decode cL_areDepths 440 = .ok (.aload_n 0, 1) := by decide +kernel
theorem dL_areDepths_441 : decode cL_areDepths 441 = .ok (.invokevirtual 242, 3) := by decide +kernel
theorem dL_areDepths_444 : decode cL_areDepths 444 = .ok (.iload_n 3, 1) := by decide +kernel
theorem dL_areDepths_445 : decode cL_areDepths 445 = .ok (.i2d, 1) := by decide +kernel
theorem dL_areDepths_446 : decode cL_areDepths 446 = .ok (.ldc2_w 246, 3) := by decide +kernel
theorem dL_areDepths_449 : decode cL_areDepths 449 = .ok (.ddiv, 1) := by decide +kernel
theorem dL_areDepths_450 : decode cL_areDepths 450 = .ok (.dcmp .l, 1) := by decide +kernel
theorem dL_areDepths_451 : decode cL_areDepths 451 = .ok (.ifCond .ne 7, 3) := by decide +kernel
theorem dL_areDepths_454 : decode cL_areDepths 454 = .ok (.iconst 1, 1) := by decide +kernel
theorem dL_areDepths_455 : decode cL_areDepths 455 = .ok (.goto 4, 3) := by decide +kernel
theorem dL_areDepths_458 : decode cL_areDepths 458 = .ok (.iconst 0, 1) := by decide +kernel
theorem dL_areDepths_459 : decode cL_areDepths 459 = .ok (.ireturn, 1) := by decide +kernel
theorem dL_isLight_0 : decode cL_isLight 0 = .ok (.iconst 0, 1) := by decide +kernel
theorem dL_isLight_1 : decode cL_isLight 1 = .ok (.istore_n 2, 1) := by decide +kernel
theorem dL_isLight_2 : decode cL_isLight 2 = .ok (.aload_n 0, 1) := by decide +kernel
theorem dL_isLight_3 : decode cL_isLight 3 = .ok (.iload_n 1, 1) := by decide +kernel
theorem dL_isLight_4 : decode cL_isLight 4 = .ok (.invokevirtual 193, 3) := by decide +kernel
theorem dL_isLight_7 : decode cL_isLight 7 = .ok (.ifCond .lt 17, 3) := by decide +kernel
theorem dL_isLight_10 : decode cL_isLight 10 = .ok (.aload_n 0, 1) := by decide +kernel
theorem dL_isLight_11 : decode cL_isLight 11 = .ok (.iload_n 1, 1) := by decide +kernel
theorem dL_isLight_12 : decode cL_isLight 12 = .ok (.invokevirtual 193, 3) := by decide +kernel
theorem dL_isLight_15 : decode cL_isLight 15 = .ok (.bipush 8, 2) := by decide +kernel
theorem dL_isLight_17 : decode cL_isLight 17 = .ok (.if_icmp .ge 7, 3) := by decide +kernel
theorem dL_isLight_20 : decode cL_isLight 20 = .ok (.iconst 1, 1) := by decide +kernel
theorem dL_isLight_21 : decode cL_isLight 21 = .ok (.goto 4, 3) := by decide +kernel
theorem dL_isLight_24 : decode cL_isLight 24 = .ok (.iconst 0, 1) := by decide +kernel
theorem dL_isLight_25 : decode cL_isLight 25 = .ok (.istore_n 3, 1) := by decide +kernel
theorem dL_isLight_26 : decode cL_isLight 26 = .ok (.aload_n 0, 1) := by decide +kernel
theorem dL_isLight_27 : decode cL_isLight 27 = .ok (.iload_n 1, 1) := by decide +kernel
theorem dL_isLight_28 : decode cL_isLight 28 = .ok (.invokestatic 248, 3) := by decide +kernel
theorem dL_isLight_31 : decode cL_isLight 31 = .ok (.istore 4, 2) := by decide +kernel
theorem dL_isLight_33 : decode cL_isLight 33 = .ok (.iconst 0, 1) := by decide +kernel
theorem dL_isLight_34 : decode cL_isLight 34 = .ok (.istore 5, 2) := by decide +kernel
theorem dL_isLight_36 : decode cL_isLight 36 = .ok (.iload_n 3, 1) := by decide +kernel
theorem dL_isLight_37 : decode cL_isLight 37 = .ok (.ifCond .eq 276, 3) := by decide +kernel
theorem dL_isLight_40 : decode cL_isLight 40 = .ok (.iload 5, 2) := by decide +kernel
theorem dL_isLight_42 : decode cL_isLight 42 = .ok (.bipush 64, 2) := by decide +kernel
theorem dL_isLight_44 : decode cL_isLight 44 = .ok (.if_icmp .ge 269, 3) := by decide +kernel
theorem dL_isLight_47 : decode cL_isLight 47 = .ok (.iload 5, 2) := by decide +kernel
theorem dL_isLight_49 : decode cL_isLight 49 = .ok (.bipush 8, 2) := by decide +kernel
theorem dL_isLight_51 : decode cL_isLight 51 = .ok (.irem, 1) := by decide +kernel
theorem dL_isLight_52 : decode cL_isLight 52 = .ok (.istore 6, 2) := by decide +kernel
theorem dL_isLight_54 : decode cL_isLight 54 = .ok (.iload 5, 2) := by decide +kernel
theorem dL_isLight_56 : decode cL_isLight 56 = .ok (.bipush 8, 2) := by decide +kernel
theorem dL_isLight_58 : decode cL_isLight 58 = .ok (.idiv, 1) := by decide +kernel
theorem dL_isLight_59 : decode cL_isLight 59 = .ok (.istore 7, 2) := by decide +kernel
theorem dL_isLight_61 : decode cL_isLight 61 = .ok (.aload_n 0, 1) := by decide +kernel
theorem dL_isLight_62 : decode cL_isLight 62 = .ok (.iload_n 1, 1) := by decide +kernel
theorem dL_isLight_63 : decode cL_isLight 63 = .ok (.iload 6, 2) := by decide +kernel
theorem dL_isLight_65 : decode cL_isLight 65 = .ok (.iload 7, 2) := by decide +kernel
theorem dL_isLight_67 : decode cL_isLight 67 = .ok (.invokestatic 251, 3) := by decide +kernel
theorem dL_isLight_70 : decode cL_isLight 70 = .ok (.istore 8, 2) := by decide +kernel
theorem dL_isLight_72 : decode cL_isLight 72 = .ok (.aload_n 0, 1) := by decide +kernel
theorem dL_isLight_73 : decode cL_isLight 73 = .ok (.iload_n 1, 1) := by decide +kernel
theorem dL_isLight_74 : decode cL_isLight 74 = .ok (.iconst 2, 1) := by decide +kernel
theorem dL_isLight_75 : decode cL_isLight 75 = .ok (.iload 4, 2) := by decide +kernel
theorem dL_isLight_77 : decode cL_isLight 77 = .ok (.bipush 8, 2) := by decide +kernel
theorem dL_isLight_79 : decode cL_isLight 79 = .ok (.irem, 1) := by decide +kernel
theorem dL_isLight_80 : decode cL_isLight 80 = .ok (.imul, 1) := by decide +kernel
theorem dL_isLight_81 : decode cL_isLight 81 = .ok (.iload 6, 2) := by decide +kernel
theorem dL_isLight_83 : decode cL_isLight 83 = .ok (.isub, 1) := by decide +kernel
theorem dL_isLight_84 : decode cL_isLight 84 = .ok (.iconst 2, 1) := by decide +kernel
theorem dL_isLight_85 : decode cL_isLight 85 = .ok (.iload 4, 2) := by decide +kernel
theorem dL_isLight_87 : decode cL_isLight 87 = .ok (.bipush 8, 2) := by decide +kernel
theorem dL_isLight_89 : decode cL_isLight 89 = .ok (.idiv, 1) := by decide +kernel
theorem dL_isLight_90 : decode cL_isLight 90 = .ok (.imul, 1) := by decide +kernel
theorem dL_isLight_91 : decode cL_isLight 91 = .ok (.iload 7, 2) := by decide +kernel
theorem dL_isLight_93 : decode cL_isLight 93 = .ok (.isub, 1) := by decide +kernel
theorem dL_isLight_94 : decode cL_isLight 94 = .ok (.invokestatic 251, 3) := by decide +kernel
theorem dL_isLight_97 : decode cL_isLight 97 = .ok (.istore 9, 2) := by decide +kernel
theorem dL_isLight_99 : decode cL_isLight 99 = .ok (.aload_n 0, 1) := by decide +kernel
theorem dL_isLight_100 : decode cL_isLight 100 = .ok (.iload_n 1, 1) := by decide +kernel
theorem dL_isLight_101 : decode cL_isLight 101 = .ok (.iload 6, 2) := by decide +kernel
theorem dL_isLight_103 : decode cL_isLight 103 = .ok (.iload 7, 2) := by decide +kernel
theorem dL_isLight_105 : decode cL_isLight 105 = .ok (.invokevirtual 253, 3) := by decide +kernel
theorem dL_isLight_108 : decode cL_isLight 108 = .ok (.istore 10, 2) := by decide +kernel
theorem dL_isLight_110 : decode cL_isLight 110 = .ok (.aload_n 0, 1) := by decide +kernel
theorem dL_isLight_111 : decode cL_isLight 111 = .ok (.iload_n 1, 1) := by decide +kernel
theorem dL_isLight_112 : decode cL_isLight 112 = .ok (.iload 6, 2) := by decide +kernel
theorem dL_isLight_114 : decode cL_isLight 114 = .ok (.iload 7, 2) := by decide +kernel
theorem dL_isLight_116 : decode cL_isLight 116 = .ok (.invokestatic 257, 3) := by decide +kernel
theorem dL_isLight_119 : decode cL_isLight 119 = .ok (.istore 11, 2) := by decide +kernel
theorem dL_isLight_121 : decode cL_isLight 121 = .ok (.iload_n 2, 1) := by decide +kernel
theorem dL_isLight_122 : decode cL_isLight 122 = .ok (.iload 10, 2) := by decide +kernel
theorem dL_isLight_124 : decode cL_isLight 124 = .ok (.ifCond .eq 7, 3) := by decide +kernel
theorem dL_isLight_127 : decode cL_isLight 127 = .ok (.iconst 1, 1) := by decide +kernel
theorem dL_isLight_128 : decode cL_isLight 128 = .ok (.goto 4, 3) := by decide +kernel
theorem dL_isLight_131 : decode cL_isLight 131 = .ok (.iconst 0, 1) := by decide +kernel
theorem dL_isLight_132 : decode cL_isLight 132 = .ok (.iadd, 1) := by decide +kernel
theorem dL_isLight_133 : decode cL_isLight 133 = .ok (.istore_n 2, 1) := by decide +kernel
theorem dL_isLight_134 : decode cL_isLight 134 = .ok (.iload 8, 2) := by decide +kernel
theorem dL_isLight_136 : decode cL_isLight 136 = .ok (.sipush (-1000), 3) := by decide +kernel
theorem dL_isLight_139 : decode cL_isLight 139 = .ok (.if_icmp .ne 7, 3) := by decide +kernel
theorem dL_isLight_142 : decode cL_isLight 142 = .ok (.iconst 1, 1) := by decide +kernel
theorem dL_isLight_143 : decode cL_isLight 143 = .ok (.goto 4, 3) := by decide +kernel
theorem dL_isLight_146 : decode cL_isLight 146 = .ok (.iconst 0, 1) := by decide +kernel
theorem dL_isLight_147 : decode cL_isLight 147 = .ok (.iload 5, 2) := by decide +kernel
theorem dL_isLight_149 : decode cL_isLight 149 = .ok (.iload 4, 2) := by decide +kernel
theorem dL_isLight_151 : decode cL_isLight 151 = .ok (.if_icmp .ne 7, 3) := by decide +kernel
theorem dL_isLight_154 : decode cL_isLight 154 = .ok (.iconst 1, 1) := by decide +kernel
theorem dL_isLight_155 : decode cL_isLight 155 = .ok (.goto 4, 3) := by decide +kernel
theorem dL_isLight_158 : decode cL_isLight 158 = .ok (.iconst 0, 1) := by decide +kernel
theorem dL_isLight_159 : decode cL_isLight 159 = .ok (.if_icmp .ne 74, 3) := by decide +kernel
theorem dL_isLight_162 : decode cL_isLight 162 = .ok (.iload 8, 2) := by decide +kernel
theorem dL_isLight_164 : decode cL_isLight 164 = .ok (.sipush (-1000), 3) := by decide +kernel
theorem dL_isLight_167 : decode cL_isLight 167 = .ok (.if_icmp .eq 23, 3) := by decide +kernel
theorem dL_isLight_170 : decode cL_isLight 170 = .ok (.iload 9, 2) := by decide +kernel
theorem dL_isLight_172 : decode cL_isLight 172 = .ok (.sipush (-1000), 3) := by decide +kernel
theorem dL_isLight_175 : decode cL_isLight 175 = .ok (.if_icmp .eq 15, 3) := by decide +kernel
theorem dL_isLight_178 : decode cL_isLight 178 = .ok (.iload 9, 2) := by decide +kernel
theorem dL_isLight_180 : decode cL_isLight 180 = .ok (.iload 8, 2) := by decide +kernel
theorem dL_isLight_182 : decode cL_isLight 182 = .ok (.iconst 4, 1) := by decide +kernel
theorem dL_isLight_183 : decode cL_isLight 183 = .ok (.iadd, 1) := by decide +kernel
theorem dL_isLight_184 : decode cL_isLight 184 = .ok (.bipush 8, 2) := by decide +kernel
theorem dL_isLight_186 : decode cL_isLight 186 = .ok (.irem, 1) := by decide +kernel
theorem dL_isLight_187 : decode cL_isLight 187 = .ok (.if_icmp .ne 46, 3) := by decide +kernel
theorem dL_isLight_190 : decode cL_isLight 190 = .ok (.iload 11, 2) := by decide +kernel
theorem dL_isLight_192 : decode cL_isLight 192 = .ok (.sipush (-1000), 3) := by decide +kernel
theorem dL_isLight_195 : decode cL_isLight 195 = .ok (.if_icmp .eq 7, 3) := by decide +kernel
theorem dL_isLight_198 : decode cL_isLight 198 = .ok (.iconst 1, 1) := by decide +kernel
theorem dL_isLight_199 : decode cL_isLight 199 = .ok (.goto 4, 3) := by decide +kernel
theorem dL_isLight_202 : decode cL_isLight 202 = .ok (.iconst 0, 1) := by decide +kernel
theorem dL_isLight_203 : decode cL_isLight 203 = .ok (.iload 10, 2) := by decide +kernel
theorem dL_isLight_205 : decode cL_isLight 205 = .ok (.if_icmp .ne 28, 3) := by decide +kernel
theorem dL_isLight_208 : decode cL_isLight 208 = .ok (.iload 11, 2) := by decide +kernel
theorem dL_isLight_210 : decode cL_isLight 210 = .ok (.bipush 24, 2) := by decide +kernel
theorem dL_isLight_212 : decode cL_isLight 212 = .ok (.if_icmp .ge 21, 3) := by decide +kernel
theorem dL_isLight_215 : decode cL_isLight 215 = .ok (.aload_n 0, 1) := by decide +kernel
theorem dL_isLight_216 : decode cL_isLight 216 = .ok (.iload_n 1, 1) := by decide +kernel
theorem dL_isLight_217 : decode cL_isLight 217 = .ok (.iload 6, 2) := by decide +kernel
theorem dL_isLight_219 : decode cL_isLight 219 = .ok (.iload 7, 2) := by decide +kernel
theorem dL_isLight_221 : decode cL_isLight 221 = .ok (.invokestatic 259, 3) := by decide +kernel
theorem dL_isLight_224 : decode cL_isLight 224 = .ok (.iload 11, 2) := by decide +kernel
theorem dL_isLight_226 : decode cL_isLight 226 = .ok (.if_icmp .ne 7, 3) := by decide +kernel
theorem dL_isLight_229 : decode cL_isLight 229 = .ok (.iconst 1, 1) := by decide +kernel
theorem dL_isLight_230 : decode cL_isLight 230 = .ok (.goto 4, 3) := by decide +kernel
theorem dL_isLight_233 : decode cL_isLight 233 = .ok (.iconst 0, 1) := by decide +kernel
theorem dL_isLight_234 : decode cL_isLight 234 = .ok (.istore_n 3, 1) := by decide +kernel
theorem dL_isLight_235 : decode cL_isLight 235 = .ok (.iload_n 3, 1) := by decide +kernel
theorem dL_isLight_236 : decode cL_isLight 236 = .ok (.ifCond .eq 69, 3) := by decide +kernel
theorem dL_isLight_239 : decode cL_isLight 239 = .ok (.aload_n 0, 1) := by decide +kernel
theorem dL_isLight_240 : decode cL_isLight 240 = .ok (.iload_n 1, 1) := by decide +kernel
theorem dL_isLight_241 : decode cL_isLight 241 = .ok (.iload 6, 2) := by decide +kernel
theorem dL_isLight_243 : decode cL_isLight 243 = .ok (.iload 7, 2) := by decide +kernel
theorem dL_isLight_245 : decode cL_isLight 245 = .ok (.invokevirtual 261, 3) := by decide +kernel
theorem dL_isLight_248 : decode cL_isLight 248 = .ok (.iload 11, 2) := by decide +kernel
theorem dL_isLight_250 : decode cL_isLight 250 = .ok (.ifCond .ne 7, 3) := by decide +kernel
theorem dL_isLight_253 : decode cL_isLight 253 = .ok (.iconst 1, 1) := by decide +kernel
theorem dL_isLight_254 : decode cL_isLight 254 = .ok (.goto 4, 3) := by decide +kernel
theorem dL_isLight_257 : decode cL_isLight 257 = .ok (.iconst 0, 1) := by decide +kernel
theorem dL_isLight_258 : decode cL_isLight 258 = .ok (.if_icmp .ne 47, 3) := by decide +kernel
theorem dL_isLight_261 : decode cL_isLight 261 = .ok (.iload 10, 2) := by decide +kernel
theorem dL_isLight_263 : decode cL_isLight 263 = .ok (.ifCond .eq 38, 3) := by decide +kernel
theorem dL_isLight_266 : decode cL_isLight 266 = .ok (.iload 5, 2) := by decide +kernel
theorem dL_isLight_268 : decode cL_isLight 268 = .ok (.iload 4, 2) := by decide +kernel
theorem dL_isLight_270 : decode cL_isLight 270 = .ok (.if_icmp .eq 31, 3) := by decide +kernel
theorem dL_isLight_273 : decode cL_isLight 273 = .ok (.iload 11, 2) := by decide +kernel
theorem dL_isLight_275 : decode cL_isLight 275 = .ok (.ifCond .ne 7, 3) := by decide +kernel
theorem dL_isLight_278 : decode cL_isLight 278 = .ok (.iconst 1, 1) := by decide +kernel
theorem dL_isLight_279 : decode cL_isLight 279 = .ok (.goto 4, 3) := by decide +kernel
theorem dL_isLight_282 : decode cL_isLight 282 = .ok (.iconst 0, 1) := by decide +kernel
theorem dL_isLight_283 : decode cL_isLight 283 = .ok (.aload_n 0, 1) := by decide +kernel
theorem dL_isLight_284 : decode cL_isLight 284 = .ok (.iload_n 1, 1) := by decide +kernel
theorem dL_isLight_285 : decode cL_isLight 285 = .ok (.invokevirtual 193, 3) := by decide +kernel
theorem dL_isLight_288 : decode cL_isLight 288 = .ok (.iload 8, 2) := by decide +kernel
theorem dL_isLight_290 : decode cL_isLight 290 = .ok (.if_icmp .ne 7, 3) := by decide +kernel
theorem dL_isLight_293 : decode cL_isLight 293 = .ok (.iconst 1, 1) := by decide +kernel
theorem dL_isLight_294 : decode cL_isLight 294 = .ok (.goto 4, 3) := by decide +kernel
theorem dL_isLight_297 : decode cL_isLight 297 = .ok (.iconst 0, 1) := by decide +kernel
theorem dL_isLight_298 : decode cL_isLight 298 = .ok (.if_icmp .ne 7, 3) := by decide +kernel
theorem dL_isLight_301 : decode cL_isLight 301 = .ok (.iconst 1, 1) := by decide +kernel
theorem dL_isLight_302 : decode cL_isLight 302 = .ok (.goto 4, 3) := by decide +kernel
theorem dL_isLight_305 : decode cL_isLight 305 = .ok (.iconst 0, 1) := by decide +kernel
theorem dL_isLight_306 : decode cL_isLight 306 = .ok (.istore_n 3, 1) := by decide +kernel
theorem dL_isLight_307 : decode cL_isLight 307 = .ok (.iinc 5 1, 3) := by decide +kernel
theorem dL_isLight_310 : decode cL_isLight 310 = .ok (.goto (-274), 3) := by decide +kernel
theorem dL_isLight_313 : decode cL_isLight 313 = .ok (.iload_n 3, 1) := by decide +kernel
theorem dL_isLight_314 : decode cL_isLight 314 = .ok (.ifCond .eq 34, 3) := by decide +kernel
theorem dL_isLight_317 : decode cL_isLight 317 = .ok (.aload_n 0, 1) := by decide +kernel
theorem dL_isLight_318 : decode cL_isLight 318 = .ok (.iload_n 1, 1) := by decide +kernel
theorem dL_isLight_319 : decode cL_isLight 319 = .ok (.invokevirtual 196, 3) := by decide +kernel
theorem dL_isLight_322 : decode cL_isLight 322 = .ok (.iload_n 2, 1) := by decide +kernel
theorem dL_isLight_323 : decode cL_isLight 323 = .ok (.if_icmp .ne 25, 3) := by decide +kernel
theorem dL_isLight_326 : decode cL_isLight 326 = .ok (.aload_n 0, 1) := by decide +kernel
theorem dL_isLight_327 : decode cL_isLight 327 = .ok (.iload_n 1, 1) := by decide +kernel
theorem dL_isLight_328 : decode cL_isLight 328 = .ok (.iload 4, 2) := by decide +kernel
theorem dL_isLight_330 : decode cL_isLight 330 = .ok (.bipush 8, 2) := by decide +kernel
theorem dL_isLight_332 : decode cL_isLight 332 = .ok (.irem, 1) := by decide +kernel
theorem dL_isLight_333 : decode cL_isLight 333 = .ok (.iload 4, 2) := by decide +kernel
theorem dL_isLight_335 : decode cL_isLight 335 = .ok (.bipush 8, 2) := by decide +kernel
theorem dL_isLight_337 : decode cL_isLight 337 = .ok (.idiv, 1) := by decide +kernel
theorem dL_isLight_338 : decode cL_isLight 338 = .ok (.invokevirtual 253, 3) := by decide +kernel
theorem dL_isLight_341 : decode cL_isLight 341 = .ok (.ifCond .eq 7, 3) := by decide +kernel
theorem dL_isLight_344 : decode cL_isLight 344 = .ok (.iconst 1, 1) := by decide +kernel
theorem dL_isLight_345 : decode cL_isLight 345 = .ok (.goto 4, 3) := by decide +kernel
theorem dL_isLight_348 : decode cL_isLight 348 = .ok (.iconst 0, 1) := by decide +kernel
theorem dL_isLight_349 : decode cL_isLight 349 = .ok (.ireturn, 1) := by decide +kernel
theorem dL_placeOf_0 : decode cL_placeOf 0 = .ok (.iconst 0, 1) := by decide +kernel
theorem dL_placeOf_1 : decode cL_placeOf 1 = .ok (.istore_n 2, 1) := by decide +kernel
theorem dL_placeOf_2 : decode cL_placeOf 2 = .ok (.aload_n 0, 1) := by decide +kernel
theorem dL_placeOf_3 : decode cL_placeOf 3 = .ok (.iload_n 2, 1) := by decide +kernel
theorem dL_placeOf_4 : decode cL_placeOf 4 = .ok (.bipush 8, 2) := by decide +kernel
theorem dL_placeOf_6 : decode cL_placeOf 6 = .ok (.irem, 1) := by decide +kernel
theorem dL_placeOf_7 : decode cL_placeOf 7 = .ok (.iload_n 2, 1) := by decide +kernel
theorem dL_placeOf_8 : decode cL_placeOf 8 = .ok (.bipush 8, 2) := by decide +kernel
theorem dL_placeOf_10 : decode cL_placeOf 10 = .ok (.idiv, 1) := by decide +kernel
theorem dL_placeOf_11 : decode cL_placeOf 11 = .ok (.invokestatic 264, 3) := by decide +kernel
theorem dL_placeOf_14 : decode cL_placeOf 14 = .ok (.iload_n 1, 1) := by decide +kernel
theorem dL_placeOf_15 : decode cL_placeOf 15 = .ok (.if_icmp .eq 9, 3) := by decide +kernel
theorem dL_placeOf_18 : decode cL_placeOf 18 = .ok (.iinc 2 1, 3) := by decide +kernel
theorem dL_placeOf_21 : decode cL_placeOf 21 = .ok (.goto (-19), 3) := by decide +kernel
theorem dL_placeOf_24 : decode cL_placeOf 24 = .ok (.iload_n 2, 1) := by decide +kernel
theorem dL_placeOf_25 : decode cL_placeOf 25 = .ok (.ireturn, 1) := by decide +kernel
theorem dL_areLights_0 : decode cL_areLights 0 = .ok (.iconst 0, 1) := by decide +kernel
theorem dL_areLights_1 : decode cL_areLights 1 = .ok (.istore_n 1, 1) := by decide +kernel
theorem dL_areLights_2 : decode cL_areLights 2 = .ok (.iconst 0, 1) := by decide +kernel
theorem dL_areLights_3 : decode cL_areLights 3 = .ok (.istore_n 2, 1) := by decide +kernel
theorem dL_areLights_4 : decode cL_areLights 4 = .ok (.iconst 1, 1) := by decide +kernel
theorem dL_areLights_5 : decode cL_areLights 5 = .ok (.istore_n 3, 1) := by decide +kernel
theorem dL_areLights_6 : decode cL_areLights 6 = .ok (.iconst 0, 1) := by decide +kernel
theorem dL_areLights_7 : decode cL_areLights 7 = .ok (.istore 4, 2) := by decide +kernel
theorem dL_areLights_9 : decode cL_areLights 9 = .ok (.iload_n 3, 1) := by decide +kernel
theorem dL_areLights_10 : decode cL_areLights 10 = .ok (.ifCond .eq 25, 3) := by decide +kernel
theorem dL_areLights_13 : decode cL_areLights 13 = .ok (.iload 4, 2) := by decide +kernel
theorem dL_areLights_15 : decode cL_areLights 15 = .ok (.aload_n 0, 1) := by decide +kernel
theorem dL_areLights_16 : decode cL_areLights 16 = .ok (.invokevirtual 185, 3) := by decide +kernel
theorem dL_areLights_19 : decode cL_areLights 19 = .ok (.if_icmp .ge 16, 3) := by decide +kernel
theorem dL_areLights_22 : decode cL_areLights 22 = .ok (.aload_n 0, 1) := by decide +kernel
theorem dL_areLights_23 : decode cL_areLights 23 = .ok (.iload 4, 2) := by decide +kernel
theorem dL_areLights_25 : decode cL_areLights 25 = .ok (.invokestatic 266, 3) := by decide +kernel
theorem dL_areLights_28 : decode cL_areLights 28 = .ok (.istore_n 3, 1) := by decide +kernel
theorem dL_areLights_29 : decode cL_areLights 29 = .ok (.iinc 4 1, 3) := by decide +kernel
theorem dL_areLights_32 : decode cL_areLights 32 = .ok (.goto (-23), 3) := by decide +kernel
theorem dL_areLights_35 : decode cL_areLights 35 = .ok (.iconst 0, 1) := by decide +kernel
theorem dL_areLights_36 : decode cL_areLights 36 = .ok (.istore 4, 2) := by decide +kernel
theorem dL_areLights_38 : decode cL_areLights 38 = .ok (.iload_n 3, 1) := by decide +kernel
theorem dL_areLights_39 : decode cL_areLights 39 = .ok (.ifCond .eq 71, 3) := by decide +kernel
theorem dL_areLights_42 : decode cL_areLights 42 = .ok (.iload 4, 2) := by decide +kernel
theorem dL_areLights_44 : decode cL_areLights 44 = .ok (.bipush 64, 2) := by decide +kernel
theorem dL_areLights_46 : decode cL_areLights 46 = .ok (.if_icmp .ge 64, 3) := by decide +kernel
theorem dL_areLights_49 : decode cL_areLights 49 = .ok (.iconst 0, 1) := by decide +kernel
theorem dL_areLights_50 : decode cL_areLights 50 = .ok (.istore 5, 2) := by decide +kernel
theorem dL_areLights_52 : decode cL_areLights 52 = .ok (.iconst 0, 1) := by decide +kernel
theorem dL_areLights_53 : decode cL_areLights 53 = .ok (.istore 6, 2) := by decide +kernel
theorem dL_areLights_55 : decode cL_areLights 55 = .ok (.iload 6, 2) := by decide +kernel
theorem dL_areLights_57 : decode cL_areLights 57 = .ok (.aload_n 0, 1) := by decide +kernel
theorem dL_areLights_58 : decode cL_areLights 58 = .ok (.invokevirtual 185, 3) := by decide +kernel
theorem dL_areLights_61 : decode cL_areLights 61 = .ok (.if_icmp .ge 30, 3) := by decide +kernel
theorem dL_areLights_64 : decode cL_areLights 64 = .ok (.iload 5, 2) := by decide +kernel
theorem dL_areLights_66 : decode cL_areLights 66 = .ok (.aload_n 0, 1) := by decide +kernel
theorem dL_areLights_67 : decode cL_areLights 67 = .ok (.iload 6, 2) := by decide +kernel
theorem dL_areLights_69 : decode cL_areLights 69 = .ok (.iload 4, 2) := by decide +kernel
theorem dL_areLights_71 : decode cL_areLights 71 = .ok (.bipush 8, 2) := by decide +kernel
theorem dL_areLights_73 : decode cL_areLights 73 = .ok (.irem, 1) := by decide +kernel
theorem dL_areLights_74 : decode cL_areLights 74 = .ok (.iload 4, 2) := by decide +kernel
theorem dL_areLights_76 : decode cL_areLights 76 = .ok (.bipush 8, 2) := by decide +kernel
theorem dL_areLights_78 : decode cL_areLights 78 = .ok (.idiv, 1) := by decide +kernel
theorem dL_areLights_79 : decode cL_areLights 79 = .ok (.invokevirtual 253, 3) := by decide +kernel
theorem dL_areLights_82 : decode cL_areLights 82 = .ok (.ior, 1) := by decide +kernel
theorem dL_areLights_83 : decode cL_areLights 83 = .ok (.istore 5, 2) := by decide +kernel
theorem dL_areLights_85 : decode cL_areLights 85 = .ok (.iinc 6 1, 3) := by decide +kernel
theorem dL_areLights_88 : decode cL_areLights 88 = .ok (.goto (-33), 3) := by decide +kernel
theorem dL_areLights_91 : decode cL_areLights 91 = .ok (.iload_n 1, 1) := by decide +kernel
theorem dL_areLights_92 : decode cL_areLights 92 = .ok (.iload 5, 2) := by decide +kernel
theorem dL_areLights_94 : decode cL_areLights 94 = .ok (.ifCond .eq 7, 3) := by decide +kernel
theorem dL_areLights_97 : decode cL_areLights 97 = .ok (.iconst 1, 1) := by decide +kernel
theorem dL_areLights_98 : decode cL_areLights 98 = .ok (.goto 4, 3) := by decide +kernel
theorem dL_areLights_101 : decode cL_areLights 101 = .ok (.iconst 0, 1) := by decide +kernel
theorem dL_areLights_102 : decode cL_areLights 102 = .ok (.iadd, 1) := by decide +kernel
theorem dL_areLights_103 : decode cL_areLights 103 = .ok (.istore_n 1, 1) := by decide +kernel
theorem dL_areLights_104 : decode cL_areLights 104 = .ok (.iinc 4 1, 3) := by decide +kernel
theorem dL_areLights_107 : decode cL_areLights 107 = .ok (.goto (-69), 3) := by decide +kernel
theorem dL_areLights_110 : decode cL_areLights 110 = .ok (.iconst 0, 1) := by decide +kernel
theorem dL_areLights_111 : decode cL_areLights 111 = .ok (.istore 4, 2) := by decide +kernel
theorem dL_areLights_113 : decode cL_areLights 113 = .ok (.iload 4, 2) := by decide +kernel
theorem dL_areLights_115 : decode cL_areLights 115 = .ok (.aload_n 0, 1) := by decide +kernel
theorem dL_areLights_116 : decode cL_areLights 116 = .ok (.invokevirtual 182, 3) := by decide +kernel
theorem dL_areLights_119 : decode cL_areLights 119 = .ok (.if_icmp .ge 95, 3) := by decide +kernel
theorem dL_areLights_122 : decode cL_areLights 122 = .ok (.iconst 0, 1) := by decide +kernel
theorem dL_areLights_123 : decode cL_areLights 123 = .ok (.istore 5, 2) := by decide +kernel
theorem dL_areLights_125 : decode cL_areLights 125 = .ok (.iconst 0, 1) := by decide +kernel
theorem dL_areLights_126 : decode cL_areLights 126 = .ok (.istore 6, 2) := by decide +kernel
theorem dL_areLights_128 : decode cL_areLights 128 = .ok (.iload 6, 2) := by decide +kernel
theorem dL_areLights_130 : decode cL_areLights 130 = .ok (.aload_n 0, 1) := by decide +kernel
theorem dL_areLights_131 : decode cL_areLights 131 = .ok (.invokevirtual 185, 3) := by decide +kernel
theorem dL_areLights_134 : decode cL_areLights 134 = .ok (.if_icmp .ge 40, 3) := by decide +kernel
theorem dL_areLights_137 : decode cL_areLights 137 = .ok (.iload 5, 2) := by decide +kernel
theorem dL_areLights_139 : decode cL_areLights 139 = .ok (.aload_n 0, 1) := by decide +kernel
theorem dL_areLights_140 : decode cL_areLights 140 = .ok (.iload 6, 2) := by decide +kernel
theorem dL_areLights_142 : decode cL_areLights 142 = .ok (.aload_n 0, 1) := by decide +kernel
theorem dL_areLights_143 : decode cL_areLights 143 = .ok (.iload 4, 2) := by decide +kernel
theorem dL_areLights_145 : decode cL_areLights 145 = .ok (.invokevirtual 205, 3) := by decide +kernel
theorem dL_areLights_148 : decode cL_areLights 148 = .ok (.aload_n 0, 1) := by decide +kernel
theorem dL_areLights_149 : decode cL_areLights 149 = .ok (.iload 4, 2) := by decide +kernel
theorem dL_areLights_151 : decode cL_areLights 151 = .ok (.invokevirtual 202, 3) := by decide +kernel
theorem dL_areLights_154 : decode cL_areLights 154 = .ok (.invokevirtual 261, 3) := by decide +kernel
theorem dL_areLights_157 : decode cL_areLights 157 = .ok (.ifCond .eq 7, 3) := by decide +kernel
theorem dL_areLights_160 : decode cL_areLights 160 = .ok (.iconst 1, 1) := by decide +kernel
theorem dL_areLights_161 : decode cL_areLights 161 = .ok (.goto 4, 3) := by decide +kernel
theorem dL_areLights_164 : decode cL_areLights 164 = .ok (.iconst 0, 1) := by decide +kernel
theorem dL_areLights_165 : decode cL_areLights 165 = .ok (.iadd, 1) := by decide +kernel
theorem dL_areLights_166 : decode cL_areLights 166 = .ok (.istore 5, 2) := by decide +kernel
theorem dL_areLights_168 : decode cL_areLights 168 = .ok (.iinc 6 1, 3) := by decide +kernel
theorem dL_areLights_171 : decode cL_areLights 171 = .ok (.goto (-43), 3) := by decide +kernel
theorem dL_areLights_174 : decode cL_areLights 174 = .ok (.iload_n 2, 1) := by decide +kernel
theorem dL_areLights_175 : decode cL_areLights 175 = .ok (.iload 5, 2) := by decide +kernel
theorem dL_areLights_177 : decode cL_areLights 177 = .ok (.ifCond .le 7, 3) := by decide +kernel
theorem dL_areLights_180 : decode cL_areLights 180 = .ok (.iconst 1, 1) := by decide +kernel
theorem dL_areLights_181 : decode cL_areLights 181 = .ok (.goto 4, 3) := by decide +kernel
theorem dL_areLights_184 : decode cL_areLights 184 = .ok (.iconst 0, 1) := by decide +kernel
theorem dL_areLights_185 : decode cL_areLights 185 = .ok (.iadd, 1) := by decide +kernel
theorem dL_areLights_186 : decode cL_areLights 186 = .ok (.istore_n 2, 1) := by decide +kernel
theorem dL_areLights_187 : decode cL_areLights 187 = .ok (.iload_n 3, 1) := by decide +kernel
theorem dL_areLights_188 : decode cL_areLights 188 = .ok (.ifCond .eq 18, 3) := by decide +kernel
theorem dL_areLights_191 : decode cL_areLights 191 = .ok (.aload_n 0, 1) := by decide +kernel
theorem dL_areLights_192 : decode cL_areLights 192 = .ok (.iload 4, 2) := by decide +kernel
theorem dL_areLights_194 : decode cL_areLights 194 = .ok (.invokevirtual 270, 3) := by decide +kernel
theorem dL_areLights_197 : decode cL_areLights 197 = .ok (.iload 5, 2) := by decide +kernel
