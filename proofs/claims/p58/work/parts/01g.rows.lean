theorem dJ7_copyOf_9075b_20 : decode cJ7_copyOf_9075b 20 = .ok (.aload_n 2, 1) := by decide +kernel
theorem dJ7_copyOf_9075b_21 : decode cJ7_copyOf_9075b 21 = .ok (.iconst 0, 1) := by decide +kernel
theorem dJ7_copyOf_9075b_22 : decode cJ7_copyOf_9075b 22 = .ok (.aload_n 0, 1) := by decide +kernel
theorem dJ7_copyOf_9075b_23 : decode cJ7_copyOf_9075b 23 = .ok (.arraylength, 1) := by decide +kernel
theorem dJ7_copyOf_9075b_24 : decode cJ7_copyOf_9075b 24 = .ok (.iload_n 1, 1) := by decide +kernel
theorem dJ7_copyOf_9075b_25 : decode cJ7_copyOf_9075b 25 = .ok (.invokestatic 304, 3) := by decide +kernel
theorem dJ7_copyOf_9075b_28 : decode cJ7_copyOf_9075b 28 = .ok (.invokestatic 150, 3) := by decide +kernel
theorem dJ7_copyOf_9075b_31 : decode cJ7_copyOf_9075b 31 = .ok (.aload_n 2, 1) := by decide +kernel
theorem dJ7_copyOf_9075b_32 : decode cJ7_copyOf_9075b 32 = .ok (.areturn, 1) := by decide +kernel
theorem dJ7_checkLength_df160_0 : decode cJ7_checkLength_df160 0 = .ok (.iload_n 1, 1) := by decide +kernel
theorem dJ7_checkLength_df160_1 : decode cJ7_checkLength_df160 1 = .ok (.iload_n 0, 1) := by decide +kernel
theorem dJ7_checkLength_df160_2 : decode cJ7_checkLength_df160 2 = .ok (.if_icmp .ge 35, 3) := by decide +kernel
theorem dJ7_checkLength_df160_5 : decode cJ7_checkLength_df160 5 = .ok (.new 43, 3) := by decide +kernel
theorem dJ7_checkLength_df160_8 : decode cJ7_checkLength_df160 8 = .ok (.dup, 1) := by decide +kernel
theorem dJ7_checkLength_df160_9 : decode cJ7_checkLength_df160 9 = .ok (.new 45, 3) := by decide +kernel
theorem dJ7_checkLength_df160_12 : decode cJ7_checkLength_df160 12 = .ok (.dup, 1) := by decide +kernel
theorem dJ7_checkLength_df160_13 : decode cJ7_checkLength_df160 13 = .ok (.invokespecial 47, 3) := by decide +kernel
theorem dJ7_checkLength_df160_16 : decode cJ7_checkLength_df160 16 = .ok (.iload_n 0, 1) := by decide +kernel
theorem dJ7_checkLength_df160_17 : decode cJ7_checkLength_df160 17 = .ok (.invokevirtual 54, 3) := by decide +kernel
theorem dJ7_checkLength_df160_20 : decode cJ7_checkLength_df160 20 = .ok (.ldc_w 337, 3) := by decide +kernel
theorem dJ7_checkLength_df160_23 : decode cJ7_checkLength_df160 23 = .ok (.invokevirtual 50, 3) := by decide +kernel
theorem dJ7_checkLength_df160_26 : decode cJ7_checkLength_df160 26 = .ok (.iload_n 1, 1) := by decide +kernel
theorem dJ7_checkLength_df160_27 : decode cJ7_checkLength_df160 27 = .ok (.invokevirtual 54, 3) := by decide +kernel
theorem dJ7_checkLength_df160_30 : decode cJ7_checkLength_df160 30 = .ok (.invokevirtual 61, 3) := by decide +kernel
theorem dJ7_checkLength_df160_33 : decode cJ7_checkLength_df160 33 = .ok (.invokespecial 65, 3) := by decide +kernel
theorem dJ7_checkLength_df160_36 : decode cJ7_checkLength_df160 36 = .ok (.athrow, 1) := by decide +kernel
theorem dJ7_checkLength_df160_37 : decode cJ7_checkLength_df160 37 = .ok (.return_, 1) := by decide +kernel
theorem dJ7_copyOfRange_39247_0 : decode cJ7_copyOfRange_39247 0 = .ok (.iload_n 1, 1) := by decide +kernel
theorem dJ7_copyOfRange_39247_1 : decode cJ7_copyOfRange_39247 1 = .ok (.ifCond .ne 9, 3) := by decide +kernel
theorem dJ7_copyOfRange_39247_4 : decode cJ7_copyOfRange_39247 4 = .ok (.iload_n 2, 1) := by decide +kernel
theorem dJ7_copyOfRange_39247_5 : decode cJ7_copyOfRange_39247 5 = .ok (.aload_n 0, 1) := by decide +kernel
theorem dJ7_copyOfRange_39247_6 : decode cJ7_copyOfRange_39247 6 = .ok (.arraylength, 1) := by decide +kernel
theorem dJ7_copyOfRange_39247_7 : decode cJ7_copyOfRange_39247 7 = .ok (.if_icmp .eq 10, 3) := by decide +kernel
theorem dJ7_copyOfRange_39247_10 : decode cJ7_copyOfRange_39247 10 = .ok (.aload_n 0, 1) := by decide +kernel
theorem dJ7_copyOfRange_39247_11 : decode cJ7_copyOfRange_39247 11 = .ok (.iload_n 1, 1) := by decide +kernel
theorem dJ7_copyOfRange_39247_12 : decode cJ7_copyOfRange_39247 12 = .ok (.iload_n 2, 1) := by decide +kernel
theorem dJ7_copyOfRange_39247_13 : decode cJ7_copyOfRange_39247 13 = .ok (.invokestatic 339, 3) := by decide +kernel
theorem dJ7_copyOfRange_39247_16 : decode cJ7_copyOfRange_39247 16 = .ok (.areturn, 1) := by decide +kernel
theorem dJ7_copyOfRange_39247_17 : decode cJ7_copyOfRange_39247 17 = .ok (.aload_n 0, 1) := by decide +kernel
theorem dJ7_copyOfRange_39247_18 : decode cJ7_copyOfRange_39247 18 = .ok (.invokevirtual 310, 3) := by decide +kernel
theorem dJ7_copyOfRange_39247_21 : decode cJ7_copyOfRange_39247 21 = .ok (.checkcast 311, 3) := by decide +kernel
theorem dJ7_copyOfRange_39247_24 : decode cJ7_copyOfRange_39247 24 = .ok (.areturn, 1) := by decide +kernel
theorem dJ7_copyOfRangeByte_39247_0 : decode cJ7_copyOfRangeByte_39247 0 = .ok (.iload_n 1, 1) := by decide +kernel
theorem dJ7_copyOfRangeByte_39247_1 : decode cJ7_copyOfRangeByte_39247 1 = .ok (.iload_n 2, 1) := by decide +kernel
theorem dJ7_copyOfRangeByte_39247_2 : decode cJ7_copyOfRangeByte_39247 2 = .ok (.invokestatic 343, 3) := by decide +kernel
theorem dJ7_copyOfRangeByte_39247_5 : decode cJ7_copyOfRangeByte_39247 5 = .ok (.iload_n 2, 1) := by decide +kernel
theorem dJ7_copyOfRangeByte_39247_6 : decode cJ7_copyOfRangeByte_39247 6 = .ok (.iload_n 1, 1) := by decide +kernel
theorem dJ7_copyOfRangeByte_39247_7 : decode cJ7_copyOfRangeByte_39247 7 = .ok (.isub, 1) := by decide +kernel
theorem dJ7_copyOfRangeByte_39247_8 : decode cJ7_copyOfRangeByte_39247 8 = .ok (.istore_n 3, 1) := by decide +kernel
theorem dJ7_copyOfRangeByte_39247_9 : decode cJ7_copyOfRangeByte_39247 9 = .ok (.iload_n 3, 1) := by decide +kernel
theorem dJ7_copyOfRangeByte_39247_10 : decode cJ7_copyOfRangeByte_39247 10 = .ok (.newarray .byte, 2) := by decide +kernel
theorem dJ7_copyOfRangeByte_39247_12 : decode cJ7_copyOfRangeByte_39247 12 = .ok (.astore 4, 2) := by decide +kernel
theorem dJ7_copyOfRangeByte_39247_14 : decode cJ7_copyOfRangeByte_39247 14 = .ok (.aload_n 0, 1) := by decide +kernel
theorem dJ7_copyOfRangeByte_39247_15 : decode cJ7_copyOfRangeByte_39247 15 = .ok (.iload_n 1, 1) := by decide +kernel
theorem dJ7_copyOfRangeByte_39247_16 : decode cJ7_copyOfRangeByte_39247 16 = .ok (.aload 4, 2) := by decide +kernel
theorem dJ7_copyOfRangeByte_39247_18 : decode cJ7_copyOfRangeByte_39247 18 = .ok (.iconst 0, 1) := by decide +kernel
theorem dJ7_copyOfRangeByte_39247_19 : decode cJ7_copyOfRangeByte_39247 19 = .ok (.aload_n 0, 1) := by decide +kernel
theorem dJ7_copyOfRangeByte_39247_20 : decode cJ7_copyOfRangeByte_39247 20 = .ok (.arraylength, 1) := by decide +kernel
theorem dJ7_copyOfRangeByte_39247_21 : decode cJ7_copyOfRangeByte_39247 21 = .ok (.iload_n 1, 1) := by decide +kernel
theorem dJ7_copyOfRangeByte_39247_22 : decode cJ7_copyOfRangeByte_39247 22 = .ok (.isub, 1) := by decide +kernel
theorem dJ7_copyOfRangeByte_39247_23 : decode cJ7_copyOfRangeByte_39247 23 = .ok (.iload_n 3, 1) := by decide +kernel
theorem dJ7_copyOfRangeByte_39247_24 : decode cJ7_copyOfRangeByte_39247 24 = .ok (.invokestatic 304, 3) := by decide +kernel
theorem dJ7_copyOfRangeByte_39247_27 : decode cJ7_copyOfRangeByte_39247 27 = .ok (.invokestatic 150, 3) := by decide +kernel
theorem dJ7_copyOfRangeByte_39247_30 : decode cJ7_copyOfRangeByte_39247 30 = .ok (.aload 4, 2) := by decide +kernel
theorem dJ7_copyOfRangeByte_39247_32 : decode cJ7_copyOfRangeByte_39247 32 = .ok (.areturn, 1) := by decide +kernel
theorem dJ8_newLength_cabcc_0 : decode cJ8_newLength_cabcc 0 = .ok (.iload_n 0, 1) := by decide +kernel
theorem dJ8_newLength_cabcc_1 : decode cJ8_newLength_cabcc 1 = .ok (.iload_n 1, 1) := by decide +kernel
theorem dJ8_newLength_cabcc_2 : decode cJ8_newLength_cabcc 2 = .ok (.iload_n 2, 1) := by decide +kernel
theorem dJ8_newLength_cabcc_3 : decode cJ8_newLength_cabcc 3 = .ok (.invokestatic 194, 3) := by decide +kernel
theorem dJ8_newLength_cabcc_6 : decode cJ8_newLength_cabcc 6 = .ok (.iadd, 1) := by decide +kernel
theorem dJ8_newLength_cabcc_7 : decode cJ8_newLength_cabcc 7 = .ok (.istore_n 3, 1) := by decide +kernel
theorem dJ8_newLength_cabcc_8 : decode cJ8_newLength_cabcc 8 = .ok (.iconst 0, 1) := by decide +kernel
theorem dJ8_newLength_cabcc_9 : decode cJ8_newLength_cabcc 9 = .ok (.iload_n 3, 1) := by decide +kernel
theorem dJ8_newLength_cabcc_10 : decode cJ8_newLength_cabcc 10 = .ok (.if_icmp .ge 11, 3) := by decide +kernel
theorem dJ8_newLength_cabcc_13 : decode cJ8_newLength_cabcc 13 = .ok (.iload_n 3, 1) := by decide +kernel
theorem dJ8_newLength_cabcc_14 : decode cJ8_newLength_cabcc 14 = .ok (.ldc 200, 2) := by decide +kernel
theorem dJ8_newLength_cabcc_16 : decode cJ8_newLength_cabcc 16 = .ok (.if_icmp .gt 5, 3) := by decide +kernel
theorem dJ8_newLength_cabcc_19 : decode cJ8_newLength_cabcc 19 = .ok (.iload_n 3, 1) := by decide +kernel
theorem dJ8_newLength_cabcc_20 : decode cJ8_newLength_cabcc 20 = .ok (.ireturn, 1) := by decide +kernel
theorem dJ8_newLength_cabcc_21 : decode cJ8_newLength_cabcc 21 = .ok (.iload_n 0, 1) := by decide +kernel
theorem dJ8_newLength_cabcc_22 : decode cJ8_newLength_cabcc 22 = .ok (.iload_n 1, 1) := by decide +kernel
theorem dJ8_newLength_cabcc_23 : decode cJ8_newLength_cabcc 23 = .ok (.invokestatic 201, 3) := by decide +kernel
theorem dJ8_newLength_cabcc_26 : decode cJ8_newLength_cabcc 26 = .ok (.ireturn, 1) := by decide +kernel
theorem dJ8_hugeLength_7cf53_0 : decode cJ8_hugeLength_7cf53 0 = .ok (.iload_n 0, 1) := by decide +kernel
theorem dJ8_hugeLength_7cf53_1 : decode cJ8_hugeLength_7cf53 1 = .ok (.iload_n 1, 1) := by decide +kernel
theorem dJ8_hugeLength_7cf53_2 : decode cJ8_hugeLength_7cf53 2 = .ok (.iadd, 1) := by decide +kernel
theorem dJ8_hugeLength_7cf53_3 : decode cJ8_hugeLength_7cf53 3 = .ok (.istore_n 2, 1) := by decide +kernel
theorem dJ8_hugeLength_7cf53_4 : decode cJ8_hugeLength_7cf53 4 = .ok (.iload_n 2, 1) := by decide +kernel
theorem dJ8_hugeLength_7cf53_5 : decode cJ8_hugeLength_7cf53 5 = .ok (.ifCond .ge 44, 3) := by decide +kernel
theorem dJ8_hugeLength_7cf53_8 : decode cJ8_hugeLength_7cf53 8 = .ok (.new 204, 3) := by decide +kernel
theorem dJ8_hugeLength_7cf53_11 : decode cJ8_hugeLength_7cf53 11 = .ok (.dup, 1) := by decide +kernel
theorem dJ8_hugeLength_7cf53_12 : decode cJ8_hugeLength_7cf53 12 = .ok (.new 89, 3) := by decide +kernel
theorem dJ8_hugeLength_7cf53_15 : decode cJ8_hugeLength_7cf53 15 = .ok (.dup, 1) := by decide +kernel
theorem dJ8_hugeLength_7cf53_16 : decode cJ8_hugeLength_7cf53 16 = .ok (.invokespecial 91, 3) := by decide +kernel
theorem dJ8_hugeLength_7cf53_19 : decode cJ8_hugeLength_7cf53 19 = .ok (.ldc 206, 2) := by decide +kernel
theorem dJ8_hugeLength_7cf53_21 : decode cJ8_hugeLength_7cf53 21 = .ok (.invokevirtual 94, 3) := by decide +kernel
theorem dJ8_hugeLength_7cf53_24 : decode cJ8_hugeLength_7cf53 24 = .ok (.iload_n 0, 1) := by decide +kernel
theorem dJ8_hugeLength_7cf53_25 : decode cJ8_hugeLength_7cf53 25 = .ok (.invokevirtual 98, 3) := by decide +kernel
theorem dJ8_hugeLength_7cf53_28 : decode cJ8_hugeLength_7cf53 28 = .ok (.ldc 208, 2) := by decide +kernel
theorem dJ8_hugeLength_7cf53_30 : decode cJ8_hugeLength_7cf53 30 = .ok (.invokevirtual 94, 3) := by decide +kernel
theorem dJ8_hugeLength_7cf53_33 : decode cJ8_hugeLength_7cf53 33 = .ok (.iload_n 1, 1) := by decide +kernel
theorem dJ8_hugeLength_7cf53_34 : decode cJ8_hugeLength_7cf53 34 = .ok (.invokevirtual 98, 3) := by decide +kernel
theorem dJ8_hugeLength_7cf53_37 : decode cJ8_hugeLength_7cf53 37 = .ok (.ldc 210, 2) := by decide +kernel
theorem dJ8_hugeLength_7cf53_39 : decode cJ8_hugeLength_7cf53 39 = .ok (.invokevirtual 94, 3) := by decide +kernel
theorem dJ8_hugeLength_7cf53_42 : decode cJ8_hugeLength_7cf53 42 = .ok (.invokevirtual 101, 3) := by decide +kernel
theorem dJ8_hugeLength_7cf53_45 : decode cJ8_hugeLength_7cf53 45 = .ok (.invokespecial 212, 3) := by decide +kernel
theorem dJ8_hugeLength_7cf53_48 : decode cJ8_hugeLength_7cf53 48 = .ok (.athrow, 1) := by decide +kernel
theorem dJ8_hugeLength_7cf53_49 : decode cJ8_hugeLength_7cf53 49 = .ok (.iload_n 2, 1) := by decide +kernel
theorem dJ8_hugeLength_7cf53_50 : decode cJ8_hugeLength_7cf53 50 = .ok (.ldc 200, 2) := by decide +kernel
theorem dJ8_hugeLength_7cf53_52 : decode cJ8_hugeLength_7cf53 52 = .ok (.if_icmp .gt 6, 3) := by decide +kernel
theorem dJ8_hugeLength_7cf53_55 : decode cJ8_hugeLength_7cf53 55 = .ok (.ldc 200, 2) := by decide +kernel
theorem dJ8_hugeLength_7cf53_57 : decode cJ8_hugeLength_7cf53 57 = .ok (.ireturn, 1) := by decide +kernel
theorem dJ8_hugeLength_7cf53_58 : decode cJ8_hugeLength_7cf53 58 = .ok (.iload_n 2, 1) := by decide +kernel
theorem dJ8_hugeLength_7cf53_59 : decode cJ8_hugeLength_7cf53 59 = .ok (.ireturn, 1) := by decide +kernel
theorem dJ3_checkIndex_8e157_0 : decode cJ3_checkIndex_8e157 0 = .ok (.iload_n 0, 1) := by decide +kernel
theorem dJ3_checkIndex_8e157_1 : decode cJ3_checkIndex_8e157 1 = .ok (.ifCond .lt 8, 3) := by decide +kernel
theorem dJ3_checkIndex_8e157_4 : decode cJ3_checkIndex_8e157 4 = .ok (.iload_n 0, 1) := by decide +kernel
theorem dJ3_checkIndex_8e157_5 : decode cJ3_checkIndex_8e157 5 = .ok (.iload_n 1, 1) := by decide +kernel
theorem dJ3_checkIndex_8e157_6 : decode cJ3_checkIndex_8e157 6 = .ok (.if_icmp .lt 10, 3) := by decide +kernel
theorem dJ3_checkIndex_8e157_9 : decode cJ3_checkIndex_8e157 9 = .ok (.aload_n 2, 1) := by decide +kernel
theorem dJ3_checkIndex_8e157_10 : decode cJ3_checkIndex_8e157 10 = .ok (.iload_n 0, 1) := by decide +kernel
theorem dJ3_checkIndex_8e157_11 : decode cJ3_checkIndex_8e157 11 = .ok (.iload_n 1, 1) := by decide +kernel
theorem dJ3_checkIndex_8e157_12 : decode cJ3_checkIndex_8e157 12 = .ok (.invokestatic 95, 3) := by decide +kernel
theorem dJ3_checkIndex_8e157_15 : decode cJ3_checkIndex_8e157 15 = .ok (.athrow, 1) := by decide +kernel
theorem dJ3_checkIndex_8e157_16 : decode cJ3_checkIndex_8e157 16 = .ok (.iload_n 0, 1) := by decide +kernel
theorem dJ3_checkIndex_8e157_17 : decode cJ3_checkIndex_8e157 17 = .ok (.ireturn, 1) := by decide +kernel
theorem dJ3_checkFromToIndex_8c36e_0 : decode cJ3_checkFromToIndex_8c36e 0 = .ok (.iload_n 0, 1) := by decide +kernel
theorem dJ3_checkFromToIndex_8c36e_1 : decode cJ3_checkFromToIndex_8c36e 1 = .ok (.ifCond .lt 13, 3) := by decide +kernel
theorem dJ3_checkFromToIndex_8c36e_4 : decode cJ3_checkFromToIndex_8c36e 4 = .ok (.iload_n 0, 1) := by decide +kernel
theorem dJ3_checkFromToIndex_8c36e_5 : decode cJ3_checkFromToIndex_8c36e 5 = .ok (.iload_n 1, 1) := by decide +kernel
theorem dJ3_checkFromToIndex_8c36e_6 : decode cJ3_checkFromToIndex_8c36e 6 = .ok (.if_icmp .gt 8, 3) := by decide +kernel
theorem dJ3_checkFromToIndex_8c36e_9 : decode cJ3_checkFromToIndex_8c36e 9 = .ok (.iload_n 1, 1) := by decide +kernel
theorem dJ3_checkFromToIndex_8c36e_10 : decode cJ3_checkFromToIndex_8c36e 10 = .ok (.iload_n 2, 1) := by decide +kernel
theorem dJ3_checkFromToIndex_8c36e_11 : decode cJ3_checkFromToIndex_8c36e 11 = .ok (.if_icmp .le 11, 3) := by decide +kernel
theorem dJ3_checkFromToIndex_8c36e_14 : decode cJ3_checkFromToIndex_8c36e 14 = .ok (.aload_n 3, 1) := by decide +kernel
theorem dJ3_checkFromToIndex_8c36e_15 : decode cJ3_checkFromToIndex_8c36e 15 = .ok (.iload_n 0, 1) := by decide +kernel
theorem dJ3_checkFromToIndex_8c36e_16 : decode cJ3_checkFromToIndex_8c36e 16 = .ok (.iload_n 1, 1) := by decide +kernel
theorem dJ3_checkFromToIndex_8c36e_17 : decode cJ3_checkFromToIndex_8c36e 17 = .ok (.iload_n 2, 1) := by decide +kernel
theorem dJ3_checkFromToIndex_8c36e_18 : decode cJ3_checkFromToIndex_8c36e 18 = .ok (.invokestatic 99, 3) := by decide +kernel
theorem dJ3_checkFromToIndex_8c36e_21 : decode cJ3_checkFromToIndex_8c36e 21 = .ok (.athrow, 1) := by decide +kernel
theorem dJ3_checkFromToIndex_8c36e_22 : decode cJ3_checkFromToIndex_8c36e 22 = .ok (.iload_n 0, 1) := by decide +kernel
theorem dJ3_checkFromToIndex_8c36e_23 : decode cJ3_checkFromToIndex_8c36e 23 = .ok (.ireturn, 1) := by decide +kernel
theorem dJ3_checkFromIndexSize_8c36e_0 : decode cJ3_checkFromIndexSize_8c36e 0 = .ok (.iload_n 2, 1) := by decide +kernel
theorem dJ3_checkFromIndexSize_8c36e_1 : decode cJ3_checkFromIndexSize_8c36e 1 = .ok (.iload_n 0, 1) := by decide +kernel
theorem dJ3_checkFromIndexSize_8c36e_2 : decode cJ3_checkFromIndexSize_8c36e 2 = .ok (.ior, 1) := by decide +kernel
theorem dJ3_checkFromIndexSize_8c36e_3 : decode cJ3_checkFromIndexSize_8c36e 3 = .ok (.iload_n 1, 1) := by decide +kernel
theorem dJ3_checkFromIndexSize_8c36e_4 : decode cJ3_checkFromIndexSize_8c36e 4 = .ok (.ior, 1) := by decide +kernel
theorem dJ3_checkFromIndexSize_8c36e_5 : decode cJ3_checkFromIndexSize_8c36e 5 = .ok (.ifCond .lt 10, 3) := by decide +kernel
theorem dJ3_checkFromIndexSize_8c36e_8 : decode cJ3_checkFromIndexSize_8c36e 8 = .ok (.iload_n 1, 1) := by decide +kernel
theorem dJ3_checkFromIndexSize_8c36e_9 : decode cJ3_checkFromIndexSize_8c36e 9 = .ok (.iload_n 2, 1) := by decide +kernel
theorem dJ3_checkFromIndexSize_8c36e_10 : decode cJ3_checkFromIndexSize_8c36e 10 = .ok (.iload_n 0, 1) := by decide +kernel
theorem dJ3_checkFromIndexSize_8c36e_11 : decode cJ3_checkFromIndexSize_8c36e 11 = .ok (.isub, 1) := by decide +kernel
theorem dJ3_checkFromIndexSize_8c36e_12 : decode cJ3_checkFromIndexSize_8c36e 12 = .ok (.if_icmp .le 11, 3) := by decide +kernel
theorem dJ3_checkFromIndexSize_8c36e_15 : decode cJ3_checkFromIndexSize_8c36e 15 = .ok (.aload_n 3, 1) := by decide +kernel
theorem dJ3_checkFromIndexSize_8c36e_16 : decode cJ3_checkFromIndexSize_8c36e 16 = .ok (.iload_n 0, 1) := by decide +kernel
theorem dJ3_checkFromIndexSize_8c36e_17 : decode cJ3_checkFromIndexSize_8c36e 17 = .ok (.iload_n 1, 1) := by decide +kernel
theorem dJ3_checkFromIndexSize_8c36e_18 : decode cJ3_checkFromIndexSize_8c36e 18 = .ok (.iload_n 2, 1) := by decide +kernel
theorem dJ3_checkFromIndexSize_8c36e_19 : decode cJ3_checkFromIndexSize_8c36e 19 = .ok (.invokestatic 103, 3) := by decide +kernel
theorem dJ3_checkFromIndexSize_8c36e_22 : decode cJ3_checkFromIndexSize_8c36e 22 = .ok (.athrow, 1) := by decide +kernel
theorem dJ3_checkFromIndexSize_8c36e_23 : decode cJ3_checkFromIndexSize_8c36e 23 = .ok (.iload_n 0, 1) := by decide +kernel
theorem dJ3_checkFromIndexSize_8c36e_24 : decode cJ3_checkFromIndexSize_8c36e 24 = .ok (.ireturn, 1) := by decide +kernel
theorem dL_draw_0 : decode cL_draw 0 = .ok (.iload_n 1, 1) := by decide +kernel
theorem dL_draw_1 : decode cL_draw 1 = .ok (.aload_n 0, 1) := by decide +kernel
theorem dL_draw_2 : decode cL_draw 2 = .ok (.arraylength, 1) := by decide +kernel
theorem dL_draw_3 : decode cL_draw 3 = .ok (.if_icmp .ge 9, 3) := by decide +kernel
theorem dL_draw_6 : decode cL_draw 6 = .ok (.aload_n 0, 1) := by decide +kernel
theorem dL_draw_7 : decode cL_draw 7 = .ok (.iload_n 1, 1) := by decide +kernel
theorem dL_draw_8 : decode cL_draw 8 = .ok (.iaload, 1) := by decide +kernel
theorem dL_draw_9 : decode cL_draw 9 = .ok (.goto 4, 3) := by decide +kernel
theorem dL_draw_12 : decode cL_draw 12 = .ok (.iconst 0, 1) := by decide +kernel
theorem dL_draw_13 : decode cL_draw 13 = .ok (.ldc 7, 2) := by decide +kernel
theorem dL_draw_15 : decode cL_draw 15 = .ok (.iand, 1) := by decide +kernel
theorem dL_draw_16 : decode cL_draw 16 = .ok (.iload_n 2, 1) := by decide +kernel
theorem dL_draw_17 : decode cL_draw 17 = .ok (.irem, 1) := by decide +kernel
theorem dL_draw_18 : decode cL_draw 18 = .ok (.ireturn, 1) := by decide +kernel
theorem dL_four_0 : decode cL_four 0 = .ok (.iconst 0, 1) := by decide +kernel
theorem dL_four_1 : decode cL_four 1 = .ok (.istore_n 2, 1) := by decide +kernel
theorem dL_four_2 : decode cL_four 2 = .ok (.iconst 0, 1) := by decide +kernel
theorem dL_four_3 : decode cL_four 3 = .ok (.istore_n 3, 1) := by decide +kernel
theorem dL_four_4 : decode cL_four 4 = .ok (.iload_n 3, 1) := by decide +kernel
theorem dL_four_5 : decode cL_four 5 = .ok (.iconst 4, 1) := by decide +kernel
theorem dL_four_6 : decode cL_four 6 = .ok (.if_icmp .ge 36, 3) := by decide +kernel
theorem dL_four_9 : decode cL_four 9 = .ok (.iload_n 2, 1) := by decide +kernel
theorem dL_four_10 : decode cL_four 10 = .ok (.bipush 8, 2) := by decide +kernel
theorem dL_four_12 : decode cL_four 12 = .ok (.ishl, 1) := by decide +kernel
theorem dL_four_13 : decode cL_four 13 = .ok (.iload_n 1, 1) := by decide +kernel
theorem dL_four_14 : decode cL_four 14 = .ok (.iload_n 3, 1) := by decide +kernel
theorem dL_four_15 : decode cL_four 15 = .ok (.iadd, 1) := by decide +kernel
theorem dL_four_16 : decode cL_four 16 = .ok (.aload_n 0, 1) := by decide +kernel
theorem dL_four_17 : decode cL_four 17 = .ok (.invokevirtual 8, 3) := by decide +kernel
theorem dL_four_20 : decode cL_four 20 = .ok (.if_icmp .ge 13, 3) := by decide +kernel
theorem dL_four_23 : decode cL_four 23 = .ok (.aload_n 0, 1) := by decide +kernel
theorem dL_four_24 : decode cL_four 24 = .ok (.iload_n 1, 1) := by decide +kernel
theorem dL_four_25 : decode cL_four 25 = .ok (.iload_n 3, 1) := by decide +kernel
theorem dL_four_26 : decode cL_four 26 = .ok (.iadd, 1) := by decide +kernel
theorem dL_four_27 : decode cL_four 27 = .ok (.invokevirtual 14, 3) := by decide +kernel
theorem dL_four_30 : decode cL_four 30 = .ok (.goto 4, 3) := by decide +kernel
theorem dL_four_33 : decode cL_four 33 = .ok (.iconst 0, 1) := by decide +kernel
theorem dL_four_34 : decode cL_four 34 = .ok (.ior, 1) := by decide +kernel
theorem dL_four_35 : decode cL_four 35 = .ok (.istore_n 2, 1) := by decide +kernel
theorem dL_four_36 : decode cL_four 36 = .ok (.iinc 3 1, 3) := by decide +kernel
theorem dL_four_39 : decode cL_four 39 = .ok (.goto (-35), 3) := by decide +kernel
theorem dL_four_42 : decode cL_four 42 = .ok (.iload_n 2, 1) := by decide +kernel
theorem dL_four_43 : decode cL_four 43 = .ok (.ireturn, 1) := by decide +kernel
theorem dL_feed_0 : decode cL_feed 0 = .ok (.iconst 0, 1) := by decide +kernel
theorem dL_feed_1 : decode cL_feed 1 = .ok (.istore_n 2, 1) := by decide +kernel
theorem dL_feed_2 : decode cL_feed 2 = .ok (.iconst 0, 1) := by decide +kernel
theorem dL_feed_3 : decode cL_feed 3 = .ok (.istore_n 3, 1) := by decide +kernel
theorem dL_feed_4 : decode cL_feed 4 = .ok (.iload_n 3, 1) := by decide +kernel
theorem dL_feed_5 : decode cL_feed 5 = .ok (.aload_n 1, 1) := by decide +kernel
theorem dL_feed_6 : decode cL_feed 6 = .ok (.invokevirtual 8, 3) := by decide +kernel
theorem dL_feed_9 : decode cL_feed 9 = .ok (.if_icmp .lt 7, 3) := by decide +kernel
theorem dL_feed_12 : decode cL_feed 12 = .ok (.iload_n 3, 1) := by decide +kernel
theorem dL_feed_13 : decode cL_feed 13 = .ok (.ifCond .ne 50, 3) := by decide +kernel
theorem dL_feed_16 : decode cL_feed 16 = .ok (.aload_n 0, 1) := by decide +kernel
theorem dL_feed_17 : decode cL_feed 17 = .ok (.aload_n 1, 1) := by decide +kernel
theorem dL_feed_18 : decode cL_feed 18 = .ok (.iload_n 3, 1) := by decide +kernel
theorem dL_feed_19 : decode cL_feed 19 = .ok (.invokestatic 18, 3) := by decide +kernel
theorem dL_feed_22 : decode cL_feed 22 = .ok (.aload_n 1, 1) := by decide +kernel
theorem dL_feed_23 : decode cL_feed 23 = .ok (.iload_n 3, 1) := by decide +kernel
theorem dL_feed_24 : decode cL_feed 24 = .ok (.iconst 4, 1) := by decide +kernel
theorem dL_feed_25 : decode cL_feed 25 = .ok (.iadd, 1) := by decide +kernel
theorem dL_feed_26 : decode cL_feed 26 = .ok (.invokestatic 18, 3) := by decide +kernel
theorem dL_feed_29 : decode cL_feed 29 = .ok (.aload_n 1, 1) := by decide +kernel
theorem dL_feed_30 : decode cL_feed 30 = .ok (.iload_n 3, 1) := by decide +kernel
theorem dL_feed_31 : decode cL_feed 31 = .ok (.bipush 8, 2) := by decide +kernel
theorem dL_feed_33 : decode cL_feed 33 = .ok (.iadd, 1) := by decide +kernel
theorem dL_feed_34 : decode cL_feed 34 = .ok (.invokestatic 18, 3) := by decide +kernel
theorem dL_feed_37 : decode cL_feed 37 = .ok (.aload_n 1, 1) := by decide +kernel
theorem dL_feed_38 : decode cL_feed 38 = .ok (.iload_n 3, 1) := by decide +kernel
theorem dL_feed_39 : decode cL_feed 39 = .ok (.bipush 12, 2) := by decide +kernel
theorem dL_feed_41 : decode cL_feed 41 = .ok (.iadd, 1) := by decide +kernel
theorem dL_feed_42 : decode cL_feed 42 = .ok (.invokestatic 18, 3) := by decide +kernel
theorem dL_feed_45 : decode cL_feed 45 = .ok (.aload_n 1, 1) := by decide +kernel
theorem dL_feed_46 : decode cL_feed 46 = .ok (.iload_n 3, 1) := by decide +kernel
theorem dL_feed_47 : decode cL_feed 47 = .ok (.bipush 16, 2) := by decide +kernel
theorem dL_feed_49 : decode cL_feed 49 = .ok (.iadd, 1) := by decide +kernel
theorem dL_feed_50 : decode cL_feed 50 = .ok (.invokestatic 18, 3) := by decide +kernel
theorem dL_feed_53 : decode cL_feed 53 = .ok (.invokevirtual 24, 3) := by decide +kernel
theorem dL_feed_56 : decode cL_feed 56 = .ok (.istore_n 2, 1) := by decide +kernel
theorem dL_feed_57 : decode cL_feed 57 = .ok (.iinc 3 20, 3) := by decide +kernel
theorem dL_feed_60 : decode cL_feed 60 = .ok (.goto (-56), 3) := by decide +kernel
theorem dL_feed_63 : decode cL_feed 63 = .ok (.aload_n 0, 1) := by decide +kernel
theorem dL_feed_64 : decode cL_feed 64 = .ok (.iload_n 2, 1) := by decide +kernel
theorem dL_feed_65 : decode cL_feed 65 = .ok (.aload_n 1, 1) := by decide +kernel
theorem dL_feed_66 : decode cL_feed 66 = .ok (.invokevirtual 8, 3) := by decide +kernel
theorem dL_feed_69 : decode cL_feed 69 = .ok (.invokestatic 30, 3) := by decide +kernel
theorem dL_feed_72 : decode cL_feed 72 = .ok (.invokevirtual 36, 3) := by decide +kernel
theorem dL_feed_75 : decode cL_feed 75 = .ok (.return_, 1) := by decide +kernel
theorem dL_load_0 : decode cL_load 0 = .ok (.iconst 1, 1) := by decide +kernel
theorem dL_load_1 : decode cL_load 1 = .ok (.aload_n 1, 1) := by decide +kernel
theorem dL_load_2 : decode cL_load 2 = .ok (.iconst 0, 1) := by decide +kernel
theorem dL_load_3 : decode cL_load 3 = .ok (.iconst 3, 1) := by decide +kernel
theorem dL_load_4 : decode cL_load 4 = .ok (.invokestatic 40, 3) := by decide +kernel
theorem dL_load_7 : decode cL_load 7 = .ok (.iadd, 1) := by decide +kernel
theorem dL_load_8 : decode cL_load 8 = .ok (.istore_n 2, 1) := by decide +kernel
theorem dL_load_9 : decode cL_load 9 = .ok (.new 44, 3) := by decide +kernel
theorem dL_load_12 : decode cL_load 12 = .ok (.dup, 1) := by decide +kernel
theorem dL_load_13 : decode cL_load 13 = .ok (.invokespecial 46, 3) := by decide +kernel
theorem dL_load_16 : decode cL_load 16 = .ok (.astore_n 3, 1) := by decide +kernel
theorem dL_load_17 : decode cL_load 17 = .ok (.iconst 0, 1) := by decide +kernel
theorem dL_load_18 : decode cL_load 18 = .ok (.istore 4, 2) := by decide +kernel
theorem dL_load_20 : decode cL_load 20 = .ok (.iconst 0, 1) := by decide +kernel
theorem dL_load_21 : decode cL_load 21 = .ok (.istore 5, 2) := by decide +kernel
theorem dL_load_23 : decode cL_load 23 = .ok (.iload 5, 2) := by decide +kernel
theorem dL_load_25 : decode cL_load 25 = .ok (.iload_n 2, 1) := by decide +kernel
theorem dL_load_26 : decode cL_load 26 = .ok (.if_icmp .ge 193, 3) := by decide +kernel
theorem dL_load_29 : decode cL_load 29 = .ok (.aload_n 1, 1) := by decide +kernel
theorem dL_load_30 : decode cL_load 30 = .ok (.iconst 1, 1) := by decide +kernel
theorem dL_load_31 : decode cL_load 31 = .ok (.iload 5, 2) := by decide +kernel
theorem dL_load_33 : decode cL_load 33 = .ok (.iadd, 1) := by decide +kernel
theorem dL_load_34 : decode cL_load 34 = .ok (.bipush 6, 2) := by decide +kernel
theorem dL_load_36 : decode cL_load 36 = .ok (.invokestatic 40, 3) := by decide +kernel
theorem dL_load_39 : decode cL_load 39 = .ok (.ifCond .ne 7, 3) := by decide +kernel
theorem dL_load_42 : decode cL_load 42 = .ok (.iconst 0, 1) := by decide +kernel
theorem dL_load_43 : decode cL_load 43 = .ok (.goto 15, 3) := by decide +kernel
theorem dL_load_46 : decode cL_load 46 = .ok (.iconst 1, 1) := by decide +kernel
theorem dL_load_47 : decode cL_load 47 = .ok (.aload_n 1, 1) := by decide +kernel
theorem dL_load_48 : decode cL_load 48 = .ok (.iconst 4, 1) := by decide +kernel
theorem dL_load_49 : decode cL_load 49 = .ok (.iload 5, 2) := by decide +kernel
theorem dL_load_51 : decode cL_load 51 = .ok (.iadd, 1) := by decide +kernel
theorem dL_load_52 : decode cL_load 52 = .ok (.bipush 6, 2) := by decide +kernel
theorem dL_load_54 : decode cL_load 54 = .ok (.invokestatic 40, 3) := by decide +kernel
theorem dL_load_57 : decode cL_load 57 = .ok (.iadd, 1) := by decide +kernel
theorem dL_load_58 : decode cL_load 58 = .ok (.istore 6, 2) := by decide +kernel
theorem dL_load_60 : decode cL_load 60 = .ok (.aload_n 3, 1) := by decide +kernel
theorem dL_load_61 : decode cL_load 61 = .ok (.ldc 47, 2) := by decide +kernel
theorem dL_load_63 : decode cL_load 63 = .ok (.invokevirtual 49, 3) := by decide +kernel
theorem dL_load_66 : decode cL_load 66 = .ok (.iload 6, 2) := by decide +kernel
theorem dL_load_68 : decode cL_load 68 = .ok (.invokevirtual 52, 3) := by decide +kernel
theorem dL_load_71 : decode cL_load 71 = .ok (.ldc 55, 2) := by decide +kernel
theorem dL_load_73 : decode cL_load 73 = .ok (.invokevirtual 49, 3) := by decide +kernel
theorem dL_load_76 : decode cL_load 76 = .ok (.iconst 5, 1) := by decide +kernel
theorem dL_load_77 : decode cL_load 77 = .ok (.aload_n 1, 1) := by decide +kernel
theorem dL_load_78 : decode cL_load 78 = .ok (.bipush 7, 2) := by decide +kernel
theorem dL_load_80 : decode cL_load 80 = .ok (.iload 5, 2) := by decide +kernel
theorem dL_load_82 : decode cL_load 82 = .ok (.iadd, 1) := by decide +kernel
theorem dL_load_83 : decode cL_load 83 = .ok (.bipush 90, 2) := by decide +kernel
theorem dL_load_85 : decode cL_load 85 = .ok (.invokestatic 40, 3) := by decide +kernel
theorem dL_load_88 : decode cL_load 88 = .ok (.iadd, 1) := by decide +kernel
theorem dL_load_89 : decode cL_load 89 = .ok (.invokevirtual 52, 3) := by decide +kernel
theorem dL_load_92 : decode cL_load 92 = .ok (.pop, 1) := by decide +kernel
theorem dL_load_93 : decode cL_load 93 = .ok (.aload_n 1, 1) := by decide +kernel
theorem dL_load_94 : decode cL_load 94 = .ok (.bipush 10, 2) := by decide +kernel
theorem dL_load_96 : decode cL_load 96 = .ok (.iload 5, 2) := by decide +kernel
theorem dL_load_98 : decode cL_load 98 = .ok (.iadd, 1) := by decide +kernel
theorem dL_load_99 : decode cL_load 99 = .ok (.iconst 2, 1) := by decide +kernel
theorem dL_load_100 : decode cL_load 100 = .ok (.invokestatic 40, 3) := by decide +kernel
theorem dL_load_103 : decode cL_load 103 = .ok (.ifCond .ne 24, 3) := by decide +kernel
theorem dL_load_106 : decode cL_load 106 = .ok (.aload_n 3, 1) := by decide +kernel
theorem dL_load_107 : decode cL_load 107 = .ok (.ldc 57, 2) := by decide +kernel
theorem dL_load_109 : decode cL_load 109 = .ok (.invokevirtual 49, 3) := by decide +kernel
theorem dL_load_112 : decode cL_load 112 = .ok (.aload_n 1, 1) := by decide +kernel
theorem dL_load_113 : decode cL_load 113 = .ok (.bipush 13, 2) := by decide +kernel
theorem dL_load_115 : decode cL_load 115 = .ok (.iload 5, 2) := by decide +kernel
theorem dL_load_117 : decode cL_load 117 = .ok (.iadd, 1) := by decide +kernel
theorem dL_load_118 : decode cL_load 118 = .ok (.bipush 9, 2) := by decide +kernel
theorem dL_load_120 : decode cL_load 120 = .ok (.invokestatic 40, 3) := by decide +kernel
theorem dL_load_123 : decode cL_load 123 = .ok (.invokevirtual 52, 3) := by decide +kernel
theorem dL_load_126 : decode cL_load 126 = .ok (.pop, 1) := by decide +kernel
theorem dL_load_127 : decode cL_load 127 = .ok (.aload_n 1, 1) := by decide +kernel
theorem dL_load_128 : decode cL_load 128 = .ok (.bipush 16, 2) := by decide +kernel
theorem dL_load_130 : decode cL_load 130 = .ok (.iload 5, 2) := by decide +kernel
theorem dL_load_132 : decode cL_load 132 = .ok (.iadd, 1) := by decide +kernel
theorem dL_load_133 : decode cL_load 133 = .ok (.iconst 2, 1) := by decide +kernel
theorem dL_load_134 : decode cL_load 134 = .ok (.invokestatic 40, 3) := by decide +kernel
theorem dL_load_137 : decode cL_load 137 = .ok (.ifCond .ne 24, 3) := by decide +kernel
theorem dL_load_140 : decode cL_load 140 = .ok (.aload_n 3, 1) := by decide +kernel
theorem dL_load_141 : decode cL_load 141 = .ok (.ldc 59, 2) := by decide +kernel
theorem dL_load_143 : decode cL_load 143 = .ok (.invokevirtual 49, 3) := by decide +kernel
theorem dL_load_146 : decode cL_load 146 = .ok (.aload_n 1, 1) := by decide +kernel
theorem dL_load_147 : decode cL_load 147 = .ok (.bipush 19, 2) := by decide +kernel
theorem dL_load_149 : decode cL_load 149 = .ok (.iload 5, 2) := by decide +kernel
theorem dL_load_151 : decode cL_load 151 = .ok (.iadd, 1) := by decide +kernel
theorem dL_load_152 : decode cL_load 152 = .ok (.bipush 6, 2) := by decide +kernel
theorem dL_load_154 : decode cL_load 154 = .ok (.invokestatic 40, 3) := by decide +kernel
theorem dL_load_157 : decode cL_load 157 = .ok (.invokevirtual 52, 3) := by decide +kernel
theorem dL_load_160 : decode cL_load 160 = .ok (.pop, 1) := by decide +kernel
theorem dL_load_161 : decode cL_load 161 = .ok (.aload_n 1, 1) := by decide +kernel
theorem dL_load_162 : decode cL_load 162 = .ok (.bipush 22, 2) := by decide +kernel
theorem dL_load_164 : decode cL_load 164 = .ok (.iload 5, 2) := by decide +kernel
theorem dL_load_166 : decode cL_load 166 = .ok (.iadd, 1) := by decide +kernel
theorem dL_load_167 : decode cL_load 167 = .ok (.iconst 2, 1) := by decide +kernel
theorem dL_load_168 : decode cL_load 168 = .ok (.invokestatic 40, 3) := by decide +kernel
theorem dL_load_171 : decode cL_load 171 = .ok (.ifCond .ne 24, 3) := by decide +kernel
theorem dL_load_174 : decode cL_load 174 = .ok (.aload_n 3, 1) := by decide +kernel
theorem dL_load_175 : decode cL_load 175 = .ok (.ldc 61, 2) := by decide +kernel
theorem dL_load_177 : decode cL_load 177 = .ok (.invokevirtual 49, 3) := by decide +kernel
theorem dL_load_180 : decode cL_load 180 = .ok (.aload_n 1, 1) := by decide +kernel
theorem dL_load_181 : decode cL_load 181 = .ok (.bipush 25, 2) := by decide +kernel
theorem dL_load_183 : decode cL_load 183 = .ok (.iload 5, 2) := by decide +kernel
theorem dL_load_185 : decode cL_load 185 = .ok (.iadd, 1) := by decide +kernel
theorem dL_load_186 : decode cL_load 186 = .ok (.bipush 9, 2) := by decide +kernel
theorem dL_load_188 : decode cL_load 188 = .ok (.invokestatic 40, 3) := by decide +kernel
theorem dL_load_191 : decode cL_load 191 = .ok (.invokevirtual 52, 3) := by decide +kernel
theorem dL_load_194 : decode cL_load 194 = .ok (.pop, 1) := by decide +kernel
theorem dL_load_195 : decode cL_load 195 = .ok (.aload_n 3, 1) := by decide +kernel
theorem dL_load_196 : decode cL_load 196 = .ok (.ldc 63, 2) := by decide +kernel
theorem dL_load_198 : decode cL_load 198 = .ok (.invokevirtual 49, 3) := by decide +kernel
theorem dL_load_201 : decode cL_load 201 = .ok (.pop, 1) := by decide +kernel
theorem dL_load_202 : decode cL_load 202 = .ok (.iinc 4 1, 3) := by decide +kernel
theorem dL_load_205 : decode cL_load 205 = .ok (.iload 6, 2) := by decide +kernel
theorem dL_load_207 : decode cL_load 207 = .ok (.ifCond .ne 6, 3) := by decide +kernel
theorem dL_load_210 : decode cL_load 210 = .ok (.goto 9, 3) := by decide +kernel
theorem dL_load_213 : decode cL_load 213 = .ok (.iinc 5 1, 3) := by decide +kernel
theorem dL_load_216 : decode cL_load 216 = .ok (.goto (-193), 3) := by decide +kernel
theorem dL_load_219 : decode cL_load 219 = .ok (.aload_n 1, 1) := by decide +kernel
theorem dL_load_220 : decode cL_load 220 = .ok (.bipush 28, 2) := by decide +kernel
theorem dL_load_222 : decode cL_load 222 = .ok (.iconst 2, 1) := by decide +kernel
theorem dL_load_223 : decode cL_load 223 = .ok (.invokestatic 40, 3) := by decide +kernel
theorem dL_load_226 : decode cL_load 226 = .ok (.ifCond .ne 45, 3) := by decide +kernel
theorem dL_load_229 : decode cL_load 229 = .ok (.aload_n 3, 1) := by decide +kernel
theorem dL_load_230 : decode cL_load 230 = .ok (.ldc 65, 2) := by decide +kernel
theorem dL_load_232 : decode cL_load 232 = .ok (.invokevirtual 49, 3) := by decide +kernel
theorem dL_load_235 : decode cL_load 235 = .ok (.iconst 1, 1) := by decide +kernel
theorem dL_load_236 : decode cL_load 236 = .ok (.aload_n 1, 1) := by decide +kernel
theorem dL_load_237 : decode cL_load 237 = .ok (.bipush 29, 2) := by decide +kernel
theorem dL_load_239 : decode cL_load 239 = .ok (.iconst 3, 1) := by decide +kernel
theorem dL_load_240 : decode cL_load 240 = .ok (.invokestatic 40, 3) := by decide +kernel
theorem dL_load_243 : decode cL_load 243 = .ok (.iadd, 1) := by decide +kernel
theorem dL_load_244 : decode cL_load 244 = .ok (.invokevirtual 52, 3) := by decide +kernel
theorem dL_load_247 : decode cL_load 247 = .ok (.ldc 55, 2) := by decide +kernel
theorem dL_load_249 : decode cL_load 249 = .ok (.invokevirtual 49, 3) := by decide +kernel
theorem dL_load_252 : decode cL_load 252 = .ok (.iconst 2, 1) := by decide +kernel
theorem dL_load_253 : decode cL_load 253 = .ok (.aload_n 1, 1) := by decide +kernel
theorem dL_load_254 : decode cL_load 254 = .ok (.bipush 30, 2) := by decide +kernel
theorem dL_load_256 : decode cL_load 256 = .ok (.bipush 20, 2) := by decide +kernel
theorem dL_load_258 : decode cL_load 258 = .ok (.invokestatic 40, 3) := by decide +kernel
theorem dL_load_261 : decode cL_load 261 = .ok (.iadd, 1) := by decide +kernel
theorem dL_load_262 : decode cL_load 262 = .ok (.invokevirtual 52, 3) := by decide +kernel
theorem dL_load_265 : decode cL_load 265 = .ok (.ldc 63, 2) := by decide +kernel
theorem dL_load_267 : decode cL_load 267 = .ok (.invokevirtual 49, 3) := by decide +kernel
theorem dL_load_270 : decode cL_load 270 = .ok (.pop, 1) := by decide +kernel
theorem dL_load_271 : decode cL_load 271 = .ok (.aload_n 1, 1) := by decide +kernel
theorem dL_load_272 : decode cL_load 272 = .ok (.bipush 31, 2) := by decide +kernel
theorem dL_load_274 : decode cL_load 274 = .ok (.iconst 2, 1) := by decide +kernel
theorem dL_load_275 : decode cL_load 275 = .ok (.invokestatic 40, 3) := by decide +kernel
theorem dL_load_278 : decode cL_load 278 = .ok (.ifCond .ne 28, 3) := by decide +kernel
theorem dL_load_281 : decode cL_load 281 = .ok (.aload_n 3, 1) := by decide +kernel
theorem dL_load_282 : decode cL_load 282 = .ok (.ldc 67, 2) := by decide +kernel
theorem dL_load_284 : decode cL_load 284 = .ok (.invokevirtual 49, 3) := by decide +kernel
theorem dL_load_287 : decode cL_load 287 = .ok (.iconst 1, 1) := by decide +kernel
theorem dL_load_288 : decode cL_load 288 = .ok (.aload_n 1, 1) := by decide +kernel
theorem dL_load_289 : decode cL_load 289 = .ok (.bipush 32, 2) := by decide +kernel
theorem dL_load_291 : decode cL_load 291 = .ok (.bipush 80, 2) := by decide +kernel
theorem dL_load_293 : decode cL_load 293 = .ok (.invokestatic 40, 3) := by decide +kernel
theorem dL_load_296 : decode cL_load 296 = .ok (.iadd, 1) := by decide +kernel
theorem dL_load_297 : decode cL_load 297 = .ok (.invokevirtual 52, 3) := by decide +kernel
theorem dL_load_300 : decode cL_load 300 = .ok (.ldc 63, 2) := by decide +kernel
theorem dL_load_302 : decode cL_load 302 = .ok (.invokevirtual 49, 3) := by decide +kernel
theorem dL_load_305 : decode cL_load 305 = .ok (.pop, 1) := by decide +kernel
theorem dL_load_306 : decode cL_load 306 = .ok (.aload_n 1, 1) := by decide +kernel
theorem dL_load_307 : decode cL_load 307 = .ok (.bipush 33, 2) := by decide +kernel
theorem dL_load_309 : decode cL_load 309 = .ok (.iconst 3, 1) := by decide +kernel
theorem dL_load_310 : decode cL_load 310 = .ok (.invokestatic 40, 3) := by decide +kernel
theorem dL_load_313 : decode cL_load 313 = .ok (.ifCond .ne 28, 3) := by decide +kernel
theorem dL_load_316 : decode cL_load 316 = .ok (.aload_n 3, 1) := by decide +kernel
theorem dL_load_317 : decode cL_load 317 = .ok (.ldc 69, 2) := by decide +kernel
theorem dL_load_319 : decode cL_load 319 = .ok (.invokevirtual 49, 3) := by decide +kernel
theorem dL_load_322 : decode cL_load 322 = .ok (.iconst 1, 1) := by decide +kernel
theorem dL_load_323 : decode cL_load 323 = .ok (.aload_n 1, 1) := by decide +kernel
theorem dL_load_324 : decode cL_load 324 = .ok (.bipush 34, 2) := by decide +kernel
theorem dL_load_326 : decode cL_load 326 = .ok (.bipush 20, 2) := by decide +kernel
theorem dL_load_328 : decode cL_load 328 = .ok (.invokestatic 40, 3) := by decide +kernel
theorem dL_load_331 : decode cL_load 331 = .ok (.iadd, 1) := by decide +kernel
theorem dL_load_332 : decode cL_load 332 = .ok (.invokevirtual 52, 3) := by decide +kernel
theorem dL_load_335 : decode cL_load 335 = .ok (.ldc 63, 2) := by decide +kernel
theorem dL_load_337 : decode cL_load 337 = .ok (.invokevirtual 49, 3) := by decide +kernel
theorem dL_load_340 : decode cL_load 340 = .ok (.pop, 1) := by decide +kernel
theorem dL_load_341 : decode cL_load 341 = .ok (.aload_n 1, 1) := by decide +kernel
theorem dL_load_342 : decode cL_load 342 = .ok (.bipush 35, 2) := by decide +kernel
theorem dL_load_344 : decode cL_load 344 = .ok (.iconst 2, 1) := by decide +kernel
theorem dL_load_345 : decode cL_load 345 = .ok (.invokestatic 40, 3) := by decide +kernel
theorem dL_load_348 : decode cL_load 348 = .ok (.ifCond .ne 10, 3) := by decide +kernel
theorem dL_load_351 : decode cL_load 351 = .ok (.aload_n 3, 1) := by decide +kernel
theorem dL_load_352 : decode cL_load 352 = .ok (.ldc 71, 2) := by decide +kernel
theorem dL_load_354 : decode cL_load 354 = .ok (.invokevirtual 49, 3) := by decide +kernel
theorem dL_load_357 : decode cL_load 357 = .ok (.pop, 1) := by decide +kernel
theorem dL_load_358 : decode cL_load 358 = .ok (.aload_n 0, 1) := by decide +kernel
theorem dL_load_359 : decode cL_load 359 = .ok (.aload_n 3, 1) := by decide +kernel
theorem dL_load_360 : decode cL_load 360 = .ok (.invokevirtual 73, 3) := by decide +kernel
theorem dL_load_363 : decode cL_load 363 = .ok (.invokestatic 77, 3) := by decide +kernel
theorem dL_load_366 : decode cL_load 366 = .ok (.aload_n 0, 1) := by decide +kernel
theorem dL_load_367 : decode cL_load 367 = .ok (.invokevirtual 81, 3) := by decide +kernel
theorem dL_load_370 : decode cL_load 370 = .ok (.iload 4, 2) := by decide +kernel
theorem dL_load_372 : decode cL_load 372 = .ok (.if_icmp .ne 52, 3) := by decide +kernel
theorem dL_load_375 : decode cL_load 375 = .ok (.aload_n 0, 1) := by decide +kernel
theorem dL_load_376 : decode cL_load 376 = .ok (.invokevirtual 84, 3) := by decide +kernel
theorem dL_load_379 : decode cL_load 379 = .ok (.ifCond .ne 45, 3) := by decide +kernel
theorem dL_load_382 : decode cL_load 382 = .ok (.aload_n 0, 1) := by decide +kernel
theorem dL_load_383 : decode cL_load 383 = .ok (.iconst 2, 1) := by decide +kernel
theorem dL_load_384 : decode cL_load 384 = .ok (.invokevirtual 87, 3) := by decide +kernel
theorem dL_load_387 : decode cL_load 387 = .ok (.iload 4, 2) := by decide +kernel
theorem dL_load_389 : decode cL_load 389 = .ok (.if_icmp .ne 35, 3) := by decide +kernel
theorem dL_load_392 : decode cL_load 392 = .ok (.aload_n 0, 1) := by decide +kernel
theorem dL_load_393 : decode cL_load 393 = .ok (.iconst 0, 1) := by decide +kernel
theorem dL_load_394 : decode cL_load 394 = .ok (.invokevirtual 87, 3) := by decide +kernel
theorem dL_load_397 : decode cL_load 397 = .ok (.ifCond .ne 27, 3) := by decide +kernel
theorem dL_load_400 : decode cL_load 400 = .ok (.aload_n 0, 1) := by decide +kernel
theorem dL_load_401 : decode cL_load 401 = .ok (.bipush 10, 2) := by decide +kernel
theorem dL_load_403 : decode cL_load 403 = .ok (.invokevirtual 87, 3) := by decide +kernel
theorem dL_load_406 : decode cL_load 406 = .ok (.aload_n 1, 1) := by decide +kernel
theorem dL_load_407 : decode cL_load 407 = .ok (.bipush 35, 2) := by decide +kernel
theorem dL_load_409 : decode cL_load 409 = .ok (.iconst 2, 1) := by decide +kernel
theorem dL_load_410 : decode cL_load 410 = .ok (.invokestatic 40, 3) := by decide +kernel
theorem dL_load_413 : decode cL_load 413 = .ok (.ifCond .ne 7, 3) := by decide +kernel
theorem dL_load_416 : decode cL_load 416 = .ok (.iconst 1, 1) := by decide +kernel
theorem dL_load_417 : decode cL_load 417 = .ok (.goto 4, 3) := by decide +kernel
theorem dL_load_420 : decode cL_load 420 = .ok (.iconst 0, 1) := by decide +kernel
theorem dL_load_421 : decode cL_load 421 = .ok (.if_icmp .eq 5, 3) := by decide +kernel
theorem dL_load_424 : decode cL_load 424 = .ok (.iconst 0, 1) := by decide +kernel
theorem dL_load_425 : decode cL_load 425 = .ok (.ireturn, 1) := by decide +kernel
theorem dL_load_426 : decode cL_load 426 = .ok (.aload_n 0, 1) := by decide +kernel
theorem dL_load_427 : decode cL_load 427 = .ok (.iconst 0, 1) := by decide +kernel
theorem dL_load_428 : decode cL_load 428 = .ok (.iconst 0, 1) := by decide +kernel
theorem dL_load_429 : decode cL_load 429 = .ok (.invokevirtual 91, 3) := by decide +kernel
theorem dL_load_432 : decode cL_load 432 = .ok (.aload_n 0, 1) := by decide +kernel
theorem dL_load_433 : decode cL_load 433 = .ok (.iconst 0, 1) := by decide +kernel
theorem dL_load_434 : decode cL_load 434 = .ok (.iconst 1, 1) := by decide +kernel
theorem dL_load_435 : decode cL_load 435 = .ok (.invokevirtual 94, 3) := by decide +kernel
theorem dL_load_438 : decode cL_load 438 = .ok (.if_icmp .ne 54, 3) := by decide +kernel
theorem dL_load_441 : decode cL_load 441 = .ok (.aload_n 0, 1) := by decide +kernel
theorem dL_load_442 : decode cL_load 442 = .ok (.iconst 1, 1) := by decide +kernel
theorem dL_load_443 : decode cL_load 443 = .ok (.iconst 0, 1) := by decide +kernel
theorem dL_load_444 : decode cL_load 444 = .ok (.invokevirtual 91, 3) := by decide +kernel
theorem dL_load_447 : decode cL_load 447 = .ok (.aload_n 0, 1) := by decide +kernel
theorem dL_load_448 : decode cL_load 448 = .ok (.iconst 0, 1) := by decide +kernel
theorem dL_load_449 : decode cL_load 449 = .ok (.iconst 1, 1) := by decide +kernel
theorem dL_load_450 : decode cL_load 450 = .ok (.invokevirtual 94, 3) := by decide +kernel
theorem dL_load_453 : decode cL_load 453 = .ok (.aload_n 1, 1) := by decide +kernel
theorem dL_load_454 : decode cL_load 454 = .ok (.bipush 33, 2) := by decide +kernel
theorem dL_load_456 : decode cL_load 456 = .ok (.iconst 3, 1) := by decide +kernel
theorem dL_load_457 : decode cL_load 457 = .ok (.invokestatic 40, 3) := by decide +kernel
theorem dL_load_460 : decode cL_load 460 = .ok (.ifCond .ne 16, 3) := by decide +kernel
theorem dL_load_463 : decode cL_load 463 = .ok (.iconst 1, 1) := by decide +kernel
theorem dL_load_464 : decode cL_load 464 = .ok (.aload_n 1, 1) := by decide +kernel
theorem dL_load_465 : decode cL_load 465 = .ok (.bipush 34, 2) := by decide +kernel
theorem dL_load_467 : decode cL_load 467 = .ok (.bipush 20, 2) := by decide +kernel
theorem dL_load_469 : decode cL_load 469 = .ok (.invokestatic 40, 3) := by decide +kernel
theorem dL_load_472 : decode cL_load 472 = .ok (.iadd, 1) := by decide +kernel
theorem dL_load_473 : decode cL_load 473 = .ok (.goto 4, 3) := by decide +kernel
theorem dL_load_476 : decode cL_load 476 = .ok (.iconst 0, 1) := by decide +kernel
theorem dL_load_477 : decode cL_load 477 = .ok (.iadd, 1) := by decide +kernel
theorem dL_load_478 : decode cL_load 478 = .ok (.if_icmp .ne 14, 3) := by decide +kernel
theorem dL_load_481 : decode cL_load 481 = .ok (.aload_n 0, 1) := by decide +kernel
theorem dL_load_482 : decode cL_load 482 = .ok (.invokevirtual 97, 3) := by decide +kernel
theorem dL_load_485 : decode cL_load 485 = .ok (.ifCond .ne 7, 3) := by decide +kernel
theorem dL_load_488 : decode cL_load 488 = .ok (.iconst 1, 1) := by decide +kernel
theorem dL_load_489 : decode cL_load 489 = .ok (.goto 4, 3) := by decide +kernel
theorem dL_load_492 : decode cL_load 492 = .ok (.iconst 0, 1) := by decide +kernel
theorem dL_load_493 : decode cL_load 493 = .ok (.ireturn, 1) := by decide +kernel
theorem dL_moved_0 : decode cL_moved 0 = .ok (.aload_n 0, 1) := by decide +kernel
theorem dL_moved_1 : decode cL_moved 1 = .ok (.invokevirtual 100, 3) := by decide +kernel
theorem dL_moved_4 : decode cL_moved 4 = .ok (.ireturn, 1) := by decide +kernel
theorem dL_moved_5 : decode cL_moved 5 = .ok (.astore_n 1, 1) := by decide +kernel
theorem dL_moved_6 : decode cL_moved 6 = .ok (.ldc 105, 2) := by decide +kernel
theorem dL_moved_8 : decode cL_moved 8 = .ok (.ireturn, 1) := by decide +kernel
theorem dL_paused_0 : decode cL_paused 0 = .ok (.iload_n 1, 1) := by decide +kernel
theorem dL_paused_1 : decode cL_paused 1 = .ok (.ifCond .eq 10, 3) := by decide +kernel
theorem dL_paused_4 : decode cL_paused 4 = .ok (.aload_n 0, 1) := by decide +kernel
theorem dL_paused_5 : decode cL_paused 5 = .ok (.invokevirtual 106, 3) := by decide +kernel
theorem dL_paused_8 : decode cL_paused 8 = .ok (.goto 7, 3) := by decide +kernel
theorem dL_paused_11 : decode cL_paused 11 = .ok (.aload_n 0, 1) := by decide +kernel
theorem dL_paused_12 : decode cL_paused 12 = .ok (.invokevirtual 109, 3) := by decide +kernel
theorem dL_paused_15 : decode cL_paused 15 = .ok (.ireturn, 1) := by decide +kernel
theorem dL_paused_16 : decode cL_paused 16 = .ok (.astore_n 2, 1) := by decide +kernel
theorem dL_paused_17 : decode cL_paused 17 = .ok (.ldc 105, 2) := by decide +kernel
theorem dL_paused_19 : decode cL_paused 19 = .ok (.ireturn, 1) := by decide +kernel
theorem dL_sealed_0 : decode cL_sealed 0 = .ok (.aload_n 0, 1) := by decide +kernel
theorem dL_sealed_1 : decode cL_sealed 1 = .ok (.invokevirtual 112, 3) := by decide +kernel
theorem dL_sealed_4 : decode cL_sealed 4 = .ok (.ireturn, 1) := by decide +kernel
theorem dL_sealed_5 : decode cL_sealed 5 = .ok (.astore_n 1, 1) := by decide +kernel
theorem dL_sealed_6 : decode cL_sealed 6 = .ok (.ldc 105, 2) := by decide +kernel
theorem dL_sealed_8 : decode cL_sealed 8 = .ok (.ireturn, 1) := by decide +kernel
theorem dL_opened_0 : decode cL_opened 0 = .ok (.aload_n 0, 1) := by decide +kernel
theorem dL_opened_1 : decode cL_opened 1 = .ok (.invokevirtual 115, 3) := by decide +kernel
theorem dL_opened_4 : decode cL_opened 4 = .ok (.ireturn, 1) := by decide +kernel
theorem dL_opened_5 : decode cL_opened 5 = .ok (.astore_n 1, 1) := by decide +kernel
theorem dL_opened_6 : decode cL_opened 6 = .ok (.ldc 105, 2) := by decide +kernel
theorem dL_opened_8 : decode cL_opened 8 = .ok (.ireturn, 1) := by decide +kernel
theorem dL_claimed_0 : decode cL_claimed 0 = .ok (.aload_n 0, 1) := by decide +kernel
theorem dL_claimed_1 : decode cL_claimed 1 = .ok (.iload_n 1, 1) := by decide +kernel
theorem dL_claimed_2 : decode cL_claimed 2 = .ok (.invokevirtual 118, 3) := by decide +kernel
theorem dL_claimed_5 : decode cL_claimed 5 = .ok (.ireturn, 1) := by decide +kernel
theorem dL_claimed_6 : decode cL_claimed 6 = .ok (.astore_n 2, 1) := by decide +kernel
theorem dL_claimed_7 : decode cL_claimed 7 = .ok (.ldc 105, 2) := by decide +kernel
theorem dL_claimed_9 : decode cL_claimed 9 = .ok (.ireturn, 1) := by decide +kernel
theorem dL_given_0 : decode cL_given 0 = .ok (.aload_n 0, 1) := by decide +kernel
theorem dL_given_1 : decode cL_given 1 = .ok (.iload_n 1, 1) := by decide +kernel
theorem dL_given_2 : decode cL_given 2 = .ok (.iload_n 2, 1) := by decide +kernel
theorem dL_given_3 : decode cL_given 3 = .ok (.invokevirtual 121, 3) := by decide +kernel
theorem dL_given_6 : decode cL_given 6 = .ok (.ireturn, 1) := by decide +kernel
theorem dL_given_7 : decode cL_given 7 = .ok (.astore_n 3, 1) := by decide +kernel
theorem dL_given_8 : decode cL_given 8 = .ok (.ldc 105, 2) := by decide +kernel
theorem dL_given_10 : decode cL_given 10 = .ok (.ireturn, 1) := by decide +kernel
theorem dL_swapped_0 : decode cL_swapped 0 = .ok (.aload_n 0, 1) := by decide +kernel
theorem dL_swapped_1 : decode cL_swapped 1 = .ok (.invokevirtual 124, 3) := by decide +kernel
theorem dL_swapped_4 : decode cL_swapped 4 = .ok (.ireturn, 1) := by decide +kernel
theorem dL_swapped_5 : decode cL_swapped 5 = .ok (.astore_n 1, 1) := by decide +kernel
theorem dL_swapped_6 : decode cL_swapped 6 = .ok (.ldc 105, 2) := by decide +kernel
theorem dL_swapped_8 : decode cL_swapped 8 = .ok (.ireturn, 1) := by decide +kernel
theorem dL_act_0 : decode cL_act 0 = .ok (.aload_n 1, 1) := by decide +kernel
theorem dL_act_1 : decode cL_act 1 = .ok (.iload_n 2, 1) := by decide +kernel
theorem dL_act_2 : decode cL_act 2 = .ok (.iconst 1, 1) := by decide +kernel
theorem dL_act_3 : decode cL_act 3 = .ok (.iadd, 1) := by decide +kernel
theorem dL_act_4 : decode cL_act 4 = .ok (.ldc 127, 2) := by decide +kernel
theorem dL_act_6 : decode cL_act 6 = .ok (.invokestatic 40, 3) := by decide +kernel
theorem dL_act_9 : decode cL_act 9 = .ok (.istore_n 3, 1) := by decide +kernel
theorem dL_act_10 : decode cL_act 10 = .ok (.aload_n 1, 1) := by decide +kernel
theorem dL_act_11 : decode cL_act 11 = .ok (.iload_n 2, 1) := by decide +kernel
theorem dL_act_12 : decode cL_act 12 = .ok (.iconst 2, 1) := by decide +kernel
theorem dL_act_13 : decode cL_act 13 = .ok (.iadd, 1) := by decide +kernel
theorem dL_act_14 : decode cL_act 14 = .ok (.ldc 127, 2) := by decide +kernel
theorem dL_act_16 : decode cL_act 16 = .ok (.invokestatic 40, 3) := by decide +kernel
theorem dL_act_19 : decode cL_act 19 = .ok (.istore 4, 2) := by decide +kernel
theorem dL_act_21 : decode cL_act 21 = .ok (.iload 4, 2) := by decide +kernel
theorem dL_act_23 : decode cL_act 23 = .ok (.iconst 2, 1) := by decide +kernel
theorem dL_act_24 : decode cL_act 24 = .ok (.irem, 1) := by decide +kernel
theorem dL_act_25 : decode cL_act 25 = .ok (.istore 5, 2) := by decide +kernel
theorem dL_act_27 : decode cL_act 27 = .ok (.aload_n 1, 1) := by decide +kernel
theorem dL_act_28 : decode cL_act 28 = .ok (.iload_n 2, 1) := by decide +kernel
theorem dL_act_29 : decode cL_act 29 = .ok (.bipush 24, 2) := by decide +kernel
theorem dL_act_31 : decode cL_act 31 = .ok (.invokestatic 40, 3) := by decide +kernel
theorem dL_act_34 : decode cL_act 34 = .ok (.tableswitch 279 0 22 #[106, 106, 106, 106, 106, 106, 117, 117, 117, 117, 117, 117, 122, 138, 144, 149, 154, 174, 188, 214, 238, 263, 268], 106) := by decide +kernel
theorem dL_act_140 : decode cL_act 140 = .ok (.aload_n 0, 1) := by decide +kernel
theorem dL_act_141 : decode cL_act 141 = .ok (.iconst 1, 1) := by decide +kernel
theorem dL_act_142 : decode cL_act 142 = .ok (.iload_n 3, 1) := by decide +kernel
theorem dL_act_143 : decode cL_act 143 = .ok (.bipush 9, 2) := by decide +kernel
theorem dL_act_145 : decode cL_act 145 = .ok (.irem, 1) := by decide +kernel
theorem dL_act_146 : decode cL_act 146 = .ok (.iadd, 1) := by decide +kernel
theorem dL_act_147 : decode cL_act 147 = .ok (.invokevirtual 128, 3) := by decide +kernel
theorem dL_act_150 : decode cL_act 150 = .ok (.ireturn, 1) := by decide +kernel
theorem dL_act_151 : decode cL_act 151 = .ok (.aload_n 0, 1) := by decide +kernel
theorem dL_act_152 : decode cL_act 152 = .ok (.invokestatic 131, 3) := by decide +kernel
theorem dL_act_155 : decode cL_act 155 = .ok (.ireturn, 1) := by decide +kernel
theorem dL_act_156 : decode cL_act 156 = .ok (.aload_n 0, 1) := by decide +kernel
theorem dL_act_157 : decode cL_act 157 = .ok (.iload_n 3, 1) := by decide +kernel
theorem dL_act_158 : decode cL_act 158 = .ok (.iconst 2, 1) := by decide +kernel
theorem dL_act_159 : decode cL_act 159 = .ok (.irem, 1) := by decide +kernel
theorem dL_act_160 : decode cL_act 160 = .ok (.ifCond .ne 7, 3) := by decide +kernel
theorem dL_act_163 : decode cL_act 163 = .ok (.iconst 1, 1) := by decide +kernel
theorem dL_act_164 : decode cL_act 164 = .ok (.goto 4, 3) := by decide +kernel
theorem dL_act_167 : decode cL_act 167 = .ok (.iconst 0, 1) := by decide +kernel
theorem dL_act_168 : decode cL_act 168 = .ok (.invokestatic 135, 3) := by decide +kernel
theorem dL_act_171 : decode cL_act 171 = .ok (.ireturn, 1) := by decide +kernel
theorem dL_act_172 : decode cL_act 172 = .ok (.aload_n 0, 1) := by decide +kernel
theorem dL_act_173 : decode cL_act 173 = .ok (.iconst 0, 1) := by decide +kernel
theorem dL_act_174 : decode cL_act 174 = .ok (.invokestatic 135, 3) := by decide +kernel
theorem dL_act_177 : decode cL_act 177 = .ok (.ireturn, 1) := by decide +kernel
theorem dL_act_178 : decode cL_act 178 = .ok (.aload_n 0, 1) := by decide +kernel
theorem dL_act_179 : decode cL_act 179 = .ok (.invokestatic 139, 3) := by decide +kernel
theorem dL_act_182 : decode cL_act 182 = .ok (.ireturn, 1) := by decide +kernel
theorem dL_act_183 : decode cL_act 183 = .ok (.aload_n 0, 1) := by decide +kernel
theorem dL_act_184 : decode cL_act 184 = .ok (.invokestatic 142, 3) := by decide +kernel
theorem dL_act_187 : decode cL_act 187 = .ok (.ireturn, 1) := by decide +kernel
theorem dL_act_188 : decode cL_act 188 = .ok (.iload_n 3, 1) := by decide +kernel
theorem dL_act_189 : decode cL_act 189 = .ok (.iconst 3, 1) := by decide +kernel
theorem dL_act_190 : decode cL_act 190 = .ok (.irem, 1) := by decide +kernel
theorem dL_act_191 : decode cL_act 191 = .ok (.ifCond .ne 12, 3) := by decide +kernel
theorem dL_act_194 : decode cL_act 194 = .ok (.aload_n 0, 1) := by decide +kernel
theorem dL_act_195 : decode cL_act 195 = .ok (.iload 5, 2) := by decide +kernel
theorem dL_act_197 : decode cL_act 197 = .ok (.invokestatic 145, 3) := by decide +kernel
theorem dL_act_200 : decode cL_act 200 = .ok (.goto 7, 3) := by decide +kernel
theorem dL_act_203 : decode cL_act 203 = .ok (.aload_n 0, 1) := by decide +kernel
theorem dL_act_204 : decode cL_act 204 = .ok (.invokestatic 142, 3) := by decide +kernel
theorem dL_act_207 : decode cL_act 207 = .ok (.ireturn, 1) := by decide +kernel
theorem dL_act_208 : decode cL_act 208 = .ok (.aload_n 0, 1) := by decide +kernel
theorem dL_act_209 : decode cL_act 209 = .ok (.iload 5, 2) := by decide +kernel
theorem dL_act_211 : decode cL_act 211 = .ok (.iload_n 3, 1) := by decide +kernel
theorem dL_act_212 : decode cL_act 212 = .ok (.bipush 60, 2) := by decide +kernel
theorem dL_act_214 : decode cL_act 214 = .ok (.irem, 1) := by decide +kernel
theorem dL_act_215 : decode cL_act 215 = .ok (.bipush 15, 2) := by decide +kernel
theorem dL_act_217 : decode cL_act 217 = .ok (.isub, 1) := by decide +kernel
theorem dL_act_218 : decode cL_act 218 = .ok (.invokestatic 149, 3) := by decide +kernel
theorem dL_act_221 : decode cL_act 221 = .ok (.ireturn, 1) := by decide +kernel
theorem dL_act_222 : decode cL_act 222 = .ok (.aload_n 0, 1) := by decide +kernel
theorem dL_act_223 : decode cL_act 223 = .ok (.iload 5, 2) := by decide +kernel
theorem dL_act_225 : decode cL_act 225 = .ok (.iload_n 3, 1) := by decide +kernel
theorem dL_act_226 : decode cL_act 226 = .ok (.iconst 2, 1) := by decide +kernel
theorem dL_act_227 : decode cL_act 227 = .ok (.irem, 1) := by decide +kernel
theorem dL_act_228 : decode cL_act 228 = .ok (.ifCond .ne 7, 3) := by decide +kernel
theorem dL_act_231 : decode cL_act 231 = .ok (.iconst 1, 1) := by decide +kernel
theorem dL_act_232 : decode cL_act 232 = .ok (.goto 4, 3) := by decide +kernel
theorem dL_act_235 : decode cL_act 235 = .ok (.iconst 0, 1) := by decide +kernel
theorem dL_act_236 : decode cL_act 236 = .ok (.invokevirtual 153, 3) := by decide +kernel
theorem dL_act_239 : decode cL_act 239 = .ok (.ifCond .eq 7, 3) := by decide +kernel
theorem dL_act_242 : decode cL_act 242 = .ok (.iconst 1, 1) := by decide +kernel
theorem dL_act_243 : decode cL_act 243 = .ok (.goto 4, 3) := by decide +kernel
theorem dL_act_246 : decode cL_act 246 = .ok (.iconst 0, 1) := by decide +kernel
theorem dL_act_247 : decode cL_act 247 = .ok (.ireturn, 1) := by decide +kernel
theorem dL_act_248 : decode cL_act 248 = .ok (.aload_n 0, 1) := by decide +kernel
theorem dL_act_249 : decode cL_act 249 = .ok (.iload_n 3, 1) := by decide +kernel
theorem dL_act_250 : decode cL_act 250 = .ok (.iconst 3, 1) := by decide +kernel
theorem dL_act_251 : decode cL_act 251 = .ok (.irem, 1) := by decide +kernel
theorem dL_act_252 : decode cL_act 252 = .ok (.ifCond .le 7, 3) := by decide +kernel
theorem dL_act_255 : decode cL_act 255 = .ok (.iconst 1, 1) := by decide +kernel
theorem dL_act_256 : decode cL_act 256 = .ok (.goto 4, 3) := by decide +kernel
theorem dL_act_259 : decode cL_act 259 = .ok (.iconst 0, 1) := by decide +kernel
theorem dL_act_260 : decode cL_act 260 = .ok (.invokevirtual 157, 3) := by decide +kernel
theorem dL_act_263 : decode cL_act 263 = .ok (.ifCond .eq 7, 3) := by decide +kernel
theorem dL_act_266 : decode cL_act 266 = .ok (.iconst 1, 1) := by decide +kernel
theorem dL_act_267 : decode cL_act 267 = .ok (.goto 4, 3) := by decide +kernel
theorem dL_act_270 : decode cL_act 270 = .ok (.iconst 0, 1) := by decide +kernel
theorem dL_act_271 : decode cL_act 271 = .ok (.ireturn, 1) := by decide +kernel
theorem dL_act_272 : decode cL_act 272 = .ok (.aload_n 0, 1) := by decide +kernel
theorem dL_act_273 : decode cL_act 273 = .ok (.iload_n 3, 1) := by decide +kernel
theorem dL_act_274 : decode cL_act 274 = .ok (.aload_n 0, 1) := by decide +kernel
theorem dL_act_275 : decode cL_act 275 = .ok (.iconst 2, 1) := by decide +kernel
theorem dL_act_276 : decode cL_act 276 = .ok (.invokevirtual 87, 3) := by decide +kernel
theorem dL_act_279 : decode cL_act 279 = .ok (.irem, 1) := by decide +kernel
theorem dL_act_280 : decode cL_act 280 = .ok (.iconst 2, 1) := by decide +kernel
theorem dL_act_281 : decode cL_act 281 = .ok (.iload 4, 2) := by decide +kernel
theorem dL_act_283 : decode cL_act 283 = .ok (.iconst 3, 1) := by decide +kernel
theorem dL_act_284 : decode cL_act 284 = .ok (.irem, 1) := by decide +kernel
theorem dL_act_285 : decode cL_act 285 = .ok (.iadd, 1) := by decide +kernel
theorem dL_act_286 : decode cL_act 286 = .ok (.iload 4, 2) := by decide +kernel
theorem dL_act_288 : decode cL_act 288 = .ok (.iconst 3, 1) := by decide +kernel
theorem dL_act_289 : decode cL_act 289 = .ok (.idiv, 1) := by decide +kernel
theorem dL_act_290 : decode cL_act 290 = .ok (.bipush 9, 2) := by decide +kernel
theorem dL_act_292 : decode cL_act 292 = .ok (.irem, 1) := by decide +kernel
theorem dL_act_293 : decode cL_act 293 = .ok (.invokevirtual 161, 3) := by decide +kernel
theorem dL_act_296 : decode cL_act 296 = .ok (.ireturn, 1) := by decide +kernel
theorem dL_act_297 : decode cL_act 297 = .ok (.aload_n 0, 1) := by decide +kernel
theorem dL_act_298 : decode cL_act 298 = .ok (.invokestatic 165, 3) := by decide +kernel
theorem dL_act_301 : decode cL_act 301 = .ok (.ireturn, 1) := by decide +kernel
theorem dL_act_302 : decode cL_act 302 = .ok (.aload_n 0, 1) := by decide +kernel
theorem dL_act_303 : decode cL_act 303 = .ok (.iconst 1, 1) := by decide +kernel
theorem dL_act_304 : decode cL_act 304 = .ok (.iload_n 3, 1) := by decide +kernel
theorem dL_act_305 : decode cL_act 305 = .ok (.bipush 40, 2) := by decide +kernel
theorem dL_act_307 : decode cL_act 307 = .ok (.irem, 1) := by decide +kernel
theorem dL_act_308 : decode cL_act 308 = .ok (.iadd, 1) := by decide +kernel
theorem dL_act_309 : decode cL_act 309 = .ok (.invokevirtual 128, 3) := by decide +kernel
theorem dL_act_312 : decode cL_act 312 = .ok (.ireturn, 1) := by decide +kernel
theorem dL_act_313 : decode cL_act 313 = .ok (.aload_n 0, 1) := by decide +kernel
theorem dL_act_314 : decode cL_act 314 = .ok (.invokestatic 131, 3) := by decide +kernel
theorem dL_act_317 : decode cL_act 317 = .ok (.ireturn, 1) := by decide +kernel
theorem dL_stands_0 : decode cL_stands 0 = .ok (.iconst 0, 1) := by decide +kernel
theorem dL_stands_1 : decode cL_stands 1 = .ok (.istore_n 1, 1) := by decide +kernel
theorem dL_stands_2 : decode cL_stands 2 = .ok (.iconst 0, 1) := by decide +kernel
theorem dL_stands_3 : decode cL_stands 3 = .ok (.istore_n 2, 1) := by decide +kernel
theorem dL_stands_4 : decode cL_stands 4 = .ok (.iconst 0, 1) := by decide +kernel
theorem dL_stands_5 : decode cL_stands 5 = .ok (.istore_n 3, 1) := by decide +kernel
theorem dL_stands_6 : decode cL_stands 6 = .ok (.iconst 0, 1) := by decide +kernel
theorem dL_stands_7 : decode cL_stands 7 = .ok (.istore 4, 2) := by decide +kernel
theorem dL_stands_9 : decode cL_stands 9 = .ok (.iload 4, 2) := by decide +kernel
theorem dL_stands_11 : decode cL_stands 11 = .ok (.iconst 2, 1) := by decide +kernel
theorem dL_stands_12 : decode cL_stands 12 = .ok (.if_icmp .ge 294, 3) := by decide +kernel
theorem dL_stands_15 : decode cL_stands 15 = .ok (.aload_n 0, 1) := by decide +kernel
theorem dL_stands_16 : decode cL_stands 16 = .ok (.iload 4, 2) := by decide +kernel
theorem dL_stands_18 : decode cL_stands 18 = .ok (.iconst 0, 1) := by decide +kernel
theorem dL_stands_19 : decode cL_stands 19 = .ok (.invokevirtual 91, 3) := by decide +kernel
theorem dL_stands_22 : decode cL_stands 22 = .ok (.ifCond .lt 87, 3) := by decide +kernel
theorem dL_stands_25 : decode cL_stands 25 = .ok (.aload_n 0, 1) := by decide +kernel
theorem dL_stands_26 : decode cL_stands 26 = .ok (.iload 4, 2) := by decide +kernel
theorem dL_stands_28 : decode cL_stands 28 = .ok (.iconst 0, 1) := by decide +kernel
theorem dL_stands_29 : decode cL_stands 29 = .ok (.invokevirtual 91, 3) := by decide +kernel
theorem dL_stands_32 : decode cL_stands 32 = .ok (.ifCond .ne 7, 3) := by decide +kernel
theorem dL_stands_35 : decode cL_stands 35 = .ok (.iconst 1, 1) := by decide +kernel
theorem dL_stands_36 : decode cL_stands 36 = .ok (.goto 4, 3) := by decide +kernel
theorem dL_stands_39 : decode cL_stands 39 = .ok (.iconst 0, 1) := by decide +kernel
theorem dL_stands_40 : decode cL_stands 40 = .ok (.aload_n 0, 1) := by decide +kernel
theorem dL_stands_41 : decode cL_stands 41 = .ok (.iload 4, 2) := by decide +kernel
theorem dL_stands_43 : decode cL_stands 43 = .ok (.bipush 8, 2) := by decide +kernel
theorem dL_stands_45 : decode cL_stands 45 = .ok (.invokevirtual 91, 3) := by decide +kernel
theorem dL_stands_48 : decode cL_stands 48 = .ok (.iconst 1, 1) := by decide +kernel
theorem dL_stands_49 : decode cL_stands 49 = .ok (.if_icmp .ne 7, 3) := by decide +kernel
theorem dL_stands_52 : decode cL_stands 52 = .ok (.iconst 1, 1) := by decide +kernel
theorem dL_stands_53 : decode cL_stands 53 = .ok (.goto 4, 3) := by decide +kernel
theorem dL_stands_56 : decode cL_stands 56 = .ok (.iconst 0, 1) := by decide +kernel
theorem dL_stands_57 : decode cL_stands 57 = .ok (.if_icmp .ne 52, 3) := by decide +kernel
theorem dL_stands_60 : decode cL_stands 60 = .ok (.aload_n 0, 1) := by decide +kernel
theorem dL_stands_61 : decode cL_stands 61 = .ok (.iload 4, 2) := by decide +kernel
theorem dL_stands_63 : decode cL_stands 63 = .ok (.bipush 7, 2) := by decide +kernel
theorem dL_stands_65 : decode cL_stands 65 = .ok (.invokevirtual 91, 3) := by decide +kernel
theorem dL_stands_68 : decode cL_stands 68 = .ok (.aload_n 0, 1) := by decide +kernel
theorem dL_stands_69 : decode cL_stands 69 = .ok (.iload 4, 2) := by decide +kernel
theorem dL_stands_71 : decode cL_stands 71 = .ok (.bipush 6, 2) := by decide +kernel
theorem dL_stands_73 : decode cL_stands 73 = .ok (.invokevirtual 91, 3) := by decide +kernel
theorem dL_stands_76 : decode cL_stands 76 = .ok (.if_icmp .gt 33, 3) := by decide +kernel
theorem dL_stands_79 : decode cL_stands 79 = .ok (.aload_n 0, 1) := by decide +kernel
theorem dL_stands_80 : decode cL_stands 80 = .ok (.iload 4, 2) := by decide +kernel
theorem dL_stands_82 : decode cL_stands 82 = .ok (.iconst 2, 1) := by decide +kernel
theorem dL_stands_83 : decode cL_stands 83 = .ok (.invokevirtual 91, 3) := by decide +kernel
theorem dL_stands_86 : decode cL_stands 86 = .ok (.aload_n 0, 1) := by decide +kernel
theorem dL_stands_87 : decode cL_stands 87 = .ok (.iconst 2, 1) := by decide +kernel
theorem dL_stands_88 : decode cL_stands 88 = .ok (.invokevirtual 87, 3) := by decide +kernel
theorem dL_stands_91 : decode cL_stands 91 = .ok (.if_icmp .ge 18, 3) := by decide +kernel
theorem dL_stands_94 : decode cL_stands 94 = .ok (.aload_n 0, 1) := by decide +kernel
theorem dL_stands_95 : decode cL_stands 95 = .ok (.iload 4, 2) := by decide +kernel
theorem dL_stands_97 : decode cL_stands 97 = .ok (.iconst 4, 1) := by decide +kernel
theorem dL_stands_98 : decode cL_stands 98 = .ok (.invokevirtual 91, 3) := by decide +kernel
theorem dL_stands_101 : decode cL_stands 101 = .ok (.aload_n 0, 1) := by decide +kernel
theorem dL_stands_102 : decode cL_stands 102 = .ok (.iconst 3, 1) := by decide +kernel
theorem dL_stands_103 : decode cL_stands 103 = .ok (.invokevirtual 87, 3) := by decide +kernel
theorem dL_stands_106 : decode cL_stands 106 = .ok (.if_icmp .le 5, 3) := by decide +kernel
theorem dL_stands_109 : decode cL_stands 109 = .ok (.iconst 0, 1) := by decide +kernel
theorem dL_stands_110 : decode cL_stands 110 = .ok (.ireturn, 1) := by decide +kernel
theorem dL_stands_111 : decode cL_stands 111 = .ok (.aload_n 0, 1) := by decide +kernel
theorem dL_stands_112 : decode cL_stands 112 = .ok (.aload_n 0, 1) := by decide +kernel
theorem dL_stands_113 : decode cL_stands 113 = .ok (.iload 4, 2) := by decide +kernel
theorem dL_stands_115 : decode cL_stands 115 = .ok (.iconst 2, 1) := by decide +kernel
theorem dL_stands_116 : decode cL_stands 116 = .ok (.invokevirtual 91, 3) := by decide +kernel
theorem dL_stands_119 : decode cL_stands 119 = .ok (.iconst 0, 1) := by decide +kernel
theorem dL_stands_120 : decode cL_stands 120 = .ok (.invokevirtual 94, 3) := by decide +kernel
theorem dL_stands_123 : decode cL_stands 123 = .ok (.istore 5, 2) := by decide +kernel
theorem dL_stands_125 : decode cL_stands 125 = .ok (.aload_n 0, 1) := by decide +kernel
theorem dL_stands_126 : decode cL_stands 126 = .ok (.iload 4, 2) := by decide +kernel
theorem dL_stands_128 : decode cL_stands 128 = .ok (.bipush 11, 2) := by decide +kernel
theorem dL_stands_130 : decode cL_stands 130 = .ok (.invokevirtual 91, 3) := by decide +kernel
theorem dL_stands_133 : decode cL_stands 133 = .ok (.iload 5, 2) := by decide +kernel
theorem dL_stands_135 : decode cL_stands 135 = .ok (.ifCond .ne 7, 3) := by decide +kernel
theorem dL_stands_138 : decode cL_stands 138 = .ok (.iconst (-1), 1) := by decide +kernel
theorem dL_stands_139 : decode cL_stands 139 = .ok (.goto 13, 3) := by decide +kernel
theorem dL_stands_142 : decode cL_stands 142 = .ok (.iload 5, 2) := by decide +kernel
theorem dL_stands_144 : decode cL_stands 144 = .ok (.aload_n 0, 1) := by decide +kernel
theorem dL_stands_145 : decode cL_stands 145 = .ok (.iload 4, 2) := by decide +kernel
theorem dL_stands_147 : decode cL_stands 147 = .ok (.iconst 3, 1) := by decide +kernel
theorem dL_stands_148 : decode cL_stands 148 = .ok (.invokevirtual 91, 3) := by decide +kernel
theorem dL_stands_151 : decode cL_stands 151 = .ok (.isub, 1) := by decide +kernel
theorem dL_stands_152 : decode cL_stands 152 = .ok (.if_icmp .ne 51, 3) := by decide +kernel
theorem dL_stands_155 : decode cL_stands 155 = .ok (.iload 5, 2) := by decide +kernel
theorem dL_stands_157 : decode cL_stands 157 = .ok (.ifCond .le 15, 3) := by decide +kernel
theorem dL_stands_160 : decode cL_stands 160 = .ok (.aload_n 0, 1) := by decide +kernel
theorem dL_stands_161 : decode cL_stands 161 = .ok (.iload 4, 2) := by decide +kernel
theorem dL_stands_163 : decode cL_stands 163 = .ok (.iconst 3, 1) := by decide +kernel
theorem dL_stands_164 : decode cL_stands 164 = .ok (.invokevirtual 91, 3) := by decide +kernel
theorem dL_stands_167 : decode cL_stands 167 = .ok (.iload 5, 2) := by decide +kernel
theorem dL_stands_169 : decode cL_stands 169 = .ok (.if_icmp .ge 34, 3) := by decide +kernel
theorem dL_stands_172 : decode cL_stands 172 = .ok (.aload_n 0, 1) := by decide +kernel
theorem dL_stands_173 : decode cL_stands 173 = .ok (.iload 4, 2) := by decide +kernel
theorem dL_stands_175 : decode cL_stands 175 = .ok (.iconst 5, 1) := by decide +kernel
theorem dL_stands_176 : decode cL_stands 176 = .ok (.invokevirtual 91, 3) := by decide +kernel
theorem dL_stands_179 : decode cL_stands 179 = .ok (.iconst 1, 1) := by decide +kernel
theorem dL_stands_180 : decode cL_stands 180 = .ok (.if_icmp .ne 25, 3) := by decide +kernel
theorem dL_stands_183 : decode cL_stands 183 = .ok (.iload 5, 2) := by decide +kernel
theorem dL_stands_185 : decode cL_stands 185 = .ok (.ifCond .gt 18, 3) := by decide +kernel
theorem dL_stands_188 : decode cL_stands 188 = .ok (.aload_n 0, 1) := by decide +kernel
theorem dL_stands_189 : decode cL_stands 189 = .ok (.iload 4, 2) := by decide +kernel
theorem dL_stands_191 : decode cL_stands 191 = .ok (.iconst 4, 1) := by decide +kernel
theorem dL_stands_192 : decode cL_stands 192 = .ok (.invokevirtual 91, 3) := by decide +kernel
theorem dL_stands_195 : decode cL_stands 195 = .ok (.aload_n 0, 1) := by decide +kernel
theorem dL_stands_196 : decode cL_stands 196 = .ok (.iconst 3, 1) := by decide +kernel
theorem dL_stands_197 : decode cL_stands 197 = .ok (.invokevirtual 87, 3) := by decide +kernel
theorem dL_stands_200 : decode cL_stands 200 = .ok (.if_icmp .ne 5, 3) := by decide +kernel
theorem dL_stands_203 : decode cL_stands 203 = .ok (.iconst 0, 1) := by decide +kernel
theorem dL_stands_204 : decode cL_stands 204 = .ok (.ireturn, 1) := by decide +kernel
theorem dL_stands_205 : decode cL_stands 205 = .ok (.iconst 0, 1) := by decide +kernel
theorem dL_stands_206 : decode cL_stands 206 = .ok (.istore 6, 2) := by decide +kernel
theorem dL_stands_208 : decode cL_stands 208 = .ok (.iconst 0, 1) := by decide +kernel
theorem dL_stands_209 : decode cL_stands 209 = .ok (.istore 7, 2) := by decide +kernel
theorem dL_stands_211 : decode cL_stands 211 = .ok (.iload 7, 2) := by decide +kernel
theorem dL_stands_213 : decode cL_stands 213 = .ok (.aload_n 0, 1) := by decide +kernel
theorem dL_stands_214 : decode cL_stands 214 = .ok (.iconst 2, 1) := by decide +kernel
theorem dL_stands_215 : decode cL_stands 215 = .ok (.invokevirtual 87, 3) := by decide +kernel
theorem dL_stands_218 : decode cL_stands 218 = .ok (.if_icmp .ge 22, 3) := by decide +kernel
theorem dL_stands_221 : decode cL_stands 221 = .ok (.iload 6, 2) := by decide +kernel
theorem dL_stands_223 : decode cL_stands 223 = .ok (.aload_n 0, 1) := by decide +kernel
theorem dL_stands_224 : decode cL_stands 224 = .ok (.iload 4, 2) := by decide +kernel
theorem dL_stands_226 : decode cL_stands 226 = .ok (.iload 7, 2) := by decide +kernel
theorem dL_stands_228 : decode cL_stands 228 = .ok (.invokevirtual 174, 3) := by decide +kernel
theorem dL_stands_231 : decode cL_stands 231 = .ok (.iadd, 1) := by decide +kernel
theorem dL_stands_232 : decode cL_stands 232 = .ok (.istore 6, 2) := by decide +kernel
theorem dL_stands_234 : decode cL_stands 234 = .ok (.iinc 7 1, 3) := by decide +kernel
theorem dL_stands_237 : decode cL_stands 237 = .ok (.goto (-26), 3) := by decide +kernel
theorem dL_stands_240 : decode cL_stands 240 = .ok (.iload 6, 2) := by decide +kernel
theorem dL_stands_242 : decode cL_stands 242 = .ok (.aload_n 0, 1) := by decide +kernel
theorem dL_stands_243 : decode cL_stands 243 = .ok (.iload 4, 2) := by decide +kernel
theorem dL_stands_245 : decode cL_stands 245 = .ok (.bipush 10, 2) := by decide +kernel
theorem dL_stands_247 : decode cL_stands 247 = .ok (.invokevirtual 91, 3) := by decide +kernel
theorem dL_stands_250 : decode cL_stands 250 = .ok (.if_icmp .gt 16, 3) := by decide +kernel
theorem dL_stands_253 : decode cL_stands 253 = .ok (.iload 6, 2) := by decide +kernel
theorem dL_stands_255 : decode cL_stands 255 = .ok (.aload_n 0, 1) := by decide +kernel
theorem dL_stands_256 : decode cL_stands 256 = .ok (.iload 4, 2) := by decide +kernel
theorem dL_stands_258 : decode cL_stands 258 = .ok (.bipush 7, 2) := by decide +kernel
theorem dL_stands_260 : decode cL_stands 260 = .ok (.invokevirtual 91, 3) := by decide +kernel
theorem dL_stands_263 : decode cL_stands 263 = .ok (.if_icmp .ge 5, 3) := by decide +kernel
theorem dL_stands_266 : decode cL_stands 266 = .ok (.iconst 0, 1) := by decide +kernel
theorem dL_stands_267 : decode cL_stands 267 = .ok (.ireturn, 1) := by decide +kernel
theorem dL_stands_268 : decode cL_stands 268 = .ok (.iload_n 1, 1) := by decide +kernel
theorem dL_stands_269 : decode cL_stands 269 = .ok (.aload_n 0, 1) := by decide +kernel
theorem dL_stands_270 : decode cL_stands 270 = .ok (.iload 4, 2) := by decide +kernel
theorem dL_stands_272 : decode cL_stands 272 = .ok (.bipush 10, 2) := by decide +kernel
theorem dL_stands_274 : decode cL_stands 274 = .ok (.invokevirtual 91, 3) := by decide +kernel
theorem dL_stands_277 : decode cL_stands 277 = .ok (.iadd, 1) := by decide +kernel
theorem dL_stands_278 : decode cL_stands 278 = .ok (.istore_n 1, 1) := by decide +kernel
theorem dL_stands_279 : decode cL_stands 279 = .ok (.iload_n 2, 1) := by decide +kernel
theorem dL_stands_280 : decode cL_stands 280 = .ok (.aload_n 0, 1) := by decide +kernel
theorem dL_stands_281 : decode cL_stands 281 = .ok (.iload 4, 2) := by decide +kernel
theorem dL_stands_283 : decode cL_stands 283 = .ok (.iconst 1, 1) := by decide +kernel
theorem dL_stands_284 : decode cL_stands 284 = .ok (.invokevirtual 91, 3) := by decide +kernel
theorem dL_stands_287 : decode cL_stands 287 = .ok (.iadd, 1) := by decide +kernel
theorem dL_stands_288 : decode cL_stands 288 = .ok (.istore_n 2, 1) := by decide +kernel
theorem dL_stands_289 : decode cL_stands 289 = .ok (.iload_n 3, 1) := by decide +kernel
theorem dL_stands_290 : decode cL_stands 290 = .ok (.aload_n 0, 1) := by decide +kernel
theorem dL_stands_291 : decode cL_stands 291 = .ok (.iload 4, 2) := by decide +kernel
theorem dL_stands_293 : decode cL_stands 293 = .ok (.bipush 8, 2) := by decide +kernel
theorem dL_stands_295 : decode cL_stands 295 = .ok (.invokevirtual 91, 3) := by decide +kernel
theorem dL_stands_298 : decode cL_stands 298 = .ok (.iadd, 1) := by decide +kernel
theorem dL_stands_299 : decode cL_stands 299 = .ok (.istore_n 3, 1) := by decide +kernel
theorem dL_stands_300 : decode cL_stands 300 = .ok (.iinc 4 1, 3) := by decide +kernel
theorem dL_stands_303 : decode cL_stands 303 = .ok (.goto (-294), 3) := by decide +kernel
theorem dL_stands_306 : decode cL_stands 306 = .ok (.iload_n 1, 1) := by decide +kernel
theorem dL_stands_307 : decode cL_stands 307 = .ok (.aload_n 0, 1) := by decide +kernel
theorem dL_stands_308 : decode cL_stands 308 = .ok (.bipush 7, 2) := by decide +kernel
theorem dL_stands_310 : decode cL_stands 310 = .ok (.invokevirtual 87, 3) := by decide +kernel
theorem dL_stands_313 : decode cL_stands 313 = .ok (.if_icmp .ne 70, 3) := by decide +kernel
theorem dL_stands_316 : decode cL_stands 316 = .ok (.iload_n 2, 1) := by decide +kernel
theorem dL_stands_317 : decode cL_stands 317 = .ok (.aload_n 0, 1) := by decide +kernel
theorem dL_stands_318 : decode cL_stands 318 = .ok (.bipush 8, 2) := by decide +kernel
theorem dL_stands_320 : decode cL_stands 320 = .ok (.invokevirtual 87, 3) := by decide +kernel
theorem dL_stands_323 : decode cL_stands 323 = .ok (.if_icmp .ne 60, 3) := by decide +kernel
theorem dL_stands_326 : decode cL_stands 326 = .ok (.aload_n 0, 1) := by decide +kernel
theorem dL_stands_327 : decode cL_stands 327 = .ok (.bipush 9, 2) := by decide +kernel
theorem dL_stands_329 : decode cL_stands 329 = .ok (.invokevirtual 87, 3) := by decide +kernel
theorem dL_stands_332 : decode cL_stands 332 = .ok (.ifCond .lt 7, 3) := by decide +kernel
theorem dL_stands_335 : decode cL_stands 335 = .ok (.iconst 1, 1) := by decide +kernel
theorem dL_stands_336 : decode cL_stands 336 = .ok (.goto 4, 3) := by decide +kernel
theorem dL_stands_339 : decode cL_stands 339 = .ok (.iconst 0, 1) := by decide +kernel
theorem dL_stands_340 : decode cL_stands 340 = .ok (.iload_n 3, 1) := by decide +kernel
theorem dL_stands_341 : decode cL_stands 341 = .ok (.ifCond .le 7, 3) := by decide +kernel
theorem dL_stands_344 : decode cL_stands 344 = .ok (.iconst 1, 1) := by decide +kernel
theorem dL_stands_345 : decode cL_stands 345 = .ok (.goto 4, 3) := by decide +kernel
theorem dL_stands_348 : decode cL_stands 348 = .ok (.iconst 0, 1) := by decide +kernel
theorem dL_stands_349 : decode cL_stands 349 = .ok (.if_icmp .ne 34, 3) := by decide +kernel
theorem dL_stands_352 : decode cL_stands 352 = .ok (.aload_n 0, 1) := by decide +kernel
theorem dL_stands_353 : decode cL_stands 353 = .ok (.iconst 0, 1) := by decide +kernel
theorem dL_stands_354 : decode cL_stands 354 = .ok (.invokevirtual 87, 3) := by decide +kernel
theorem dL_stands_357 : decode cL_stands 357 = .ok (.iconst 4, 1) := by decide +kernel
theorem dL_stands_358 : decode cL_stands 358 = .ok (.if_icmp .ne 7, 3) := by decide +kernel
theorem dL_stands_361 : decode cL_stands 361 = .ok (.iconst 1, 1) := by decide +kernel
theorem dL_stands_362 : decode cL_stands 362 = .ok (.goto 4, 3) := by decide +kernel
theorem dL_stands_365 : decode cL_stands 365 = .ok (.iconst 0, 1) := by decide +kernel
theorem dL_stands_366 : decode cL_stands 366 = .ok (.aload_n 0, 1) := by decide +kernel
theorem dL_stands_367 : decode cL_stands 367 = .ok (.bipush 11, 2) := by decide +kernel
theorem dL_stands_369 : decode cL_stands 369 = .ok (.invokevirtual 87, 3) := by decide +kernel
theorem dL_stands_372 : decode cL_stands 372 = .ok (.ifCond .lt 7, 3) := by decide +kernel
theorem dL_stands_375 : decode cL_stands 375 = .ok (.iconst 1, 1) := by decide +kernel
theorem dL_stands_376 : decode cL_stands 376 = .ok (.goto 4, 3) := by decide +kernel
theorem dL_stands_379 : decode cL_stands 379 = .ok (.iconst 0, 1) := by decide +kernel
theorem dL_stands_380 : decode cL_stands 380 = .ok (.if_icmp .eq 5, 3) := by decide +kernel
theorem dL_stands_383 : decode cL_stands 383 = .ok (.iconst 0, 1) := by decide +kernel
theorem dL_stands_384 : decode cL_stands 384 = .ok (.ireturn, 1) := by decide +kernel
theorem dL_stands_385 : decode cL_stands 385 = .ok (.bipush 40, 2) := by decide +kernel
theorem dL_stands_387 : decode cL_stands 387 = .ok (.iload_n 2, 1) := by decide +kernel
theorem dL_stands_388 : decode cL_stands 388 = .ok (.invokestatic 30, 3) := by decide +kernel
theorem dL_stands_391 : decode cL_stands 391 = .ok (.istore 4, 2) := by decide +kernel
theorem dL_stands_393 : decode cL_stands 393 = .ok (.iconst 0, 1) := by decide +kernel
theorem dL_stands_394 : decode cL_stands 394 = .ok (.istore 5, 2) := by decide +kernel
theorem dL_stands_396 : decode cL_stands 396 = .ok (.iload 5, 2) := by decide +kernel
theorem dL_stands_398 : decode cL_stands 398 = .ok (.iconst 1, 1) := by decide +kernel
theorem dL_stands_399 : decode cL_stands 399 = .ok (.iadd, 1) := by decide +kernel
theorem dL_stands_400 : decode cL_stands 400 = .ok (.iload 4, 2) := by decide +kernel
theorem dL_stands_402 : decode cL_stands 402 = .ok (.if_icmp .ge 49, 3) := by decide +kernel
theorem dL_stands_405 : decode cL_stands 405 = .ok (.aload_n 0, 1) := by decide +kernel
theorem dL_stands_406 : decode cL_stands 406 = .ok (.iload 5, 2) := by decide +kernel
theorem dL_stands_408 : decode cL_stands 408 = .ok (.iconst 0, 1) := by decide +kernel
theorem dL_stands_409 : decode cL_stands 409 = .ok (.invokevirtual 182, 3) := by decide +kernel
theorem dL_stands_412 : decode cL_stands 412 = .ok (.aload_n 0, 1) := by decide +kernel
theorem dL_stands_413 : decode cL_stands 413 = .ok (.iload 5, 2) := by decide +kernel
theorem dL_stands_415 : decode cL_stands 415 = .ok (.iconst 1, 1) := by decide +kernel
theorem dL_stands_416 : decode cL_stands 416 = .ok (.iadd, 1) := by decide +kernel
theorem dL_stands_417 : decode cL_stands 417 = .ok (.iconst 0, 1) := by decide +kernel
theorem dL_stands_418 : decode cL_stands 418 = .ok (.invokevirtual 182, 3) := by decide +kernel
theorem dL_stands_421 : decode cL_stands 421 = .ok (.if_icmp .eq 22, 3) := by decide +kernel
theorem dL_stands_424 : decode cL_stands 424 = .ok (.aload_n 0, 1) := by decide +kernel
theorem dL_stands_425 : decode cL_stands 425 = .ok (.iload 5, 2) := by decide +kernel
theorem dL_stands_427 : decode cL_stands 427 = .ok (.iconst 5, 1) := by decide +kernel
theorem dL_stands_428 : decode cL_stands 428 = .ok (.invokevirtual 182, 3) := by decide +kernel
theorem dL_stands_431 : decode cL_stands 431 = .ok (.aload_n 0, 1) := by decide +kernel
theorem dL_stands_432 : decode cL_stands 432 = .ok (.iload 5, 2) := by decide +kernel
theorem dL_stands_434 : decode cL_stands 434 = .ok (.iconst 1, 1) := by decide +kernel
theorem dL_stands_435 : decode cL_stands 435 = .ok (.iadd, 1) := by decide +kernel
theorem dL_stands_436 : decode cL_stands 436 = .ok (.iconst 5, 1) := by decide +kernel
theorem dL_stands_437 : decode cL_stands 437 = .ok (.invokevirtual 182, 3) := by decide +kernel
theorem dL_stands_440 : decode cL_stands 440 = .ok (.if_icmp .ge 5, 3) := by decide +kernel
theorem dL_stands_443 : decode cL_stands 443 = .ok (.iconst 0, 1) := by decide +kernel
theorem dL_stands_444 : decode cL_stands 444 = .ok (.ireturn, 1) := by decide +kernel
theorem dL_stands_445 : decode cL_stands 445 = .ok (.iinc 5 1, 3) := by decide +kernel
theorem dL_stands_448 : decode cL_stands 448 = .ok (.goto (-52), 3) := by decide +kernel
theorem dL_stands_451 : decode cL_stands 451 = .ok (.iload 4, 2) := by decide +kernel
theorem dL_stands_453 : decode cL_stands 453 = .ok (.ifCond .le 21, 3) := by decide +kernel
theorem dL_stands_456 : decode cL_stands 456 = .ok (.aload_n 0, 1) := by decide +kernel
theorem dL_stands_457 : decode cL_stands 457 = .ok (.iconst 0, 1) := by decide +kernel
theorem dL_stands_458 : decode cL_stands 458 = .ok (.iconst 0, 1) := by decide +kernel
theorem dL_stands_459 : decode cL_stands 459 = .ok (.invokevirtual 182, 3) := by decide +kernel
theorem dL_stands_462 : decode cL_stands 462 = .ok (.iconst 1, 1) := by decide +kernel
theorem dL_stands_463 : decode cL_stands 463 = .ok (.aload_n 0, 1) := by decide +kernel
theorem dL_stands_464 : decode cL_stands 464 = .ok (.iconst 1, 1) := by decide +kernel
theorem dL_stands_465 : decode cL_stands 465 = .ok (.invokevirtual 87, 3) := by decide +kernel
theorem dL_stands_468 : decode cL_stands 468 = .ok (.isub, 1) := by decide +kernel
theorem dL_stands_469 : decode cL_stands 469 = .ok (.if_icmp .eq 5, 3) := by decide +kernel
theorem dL_stands_472 : decode cL_stands 472 = .ok (.iconst 0, 1) := by decide +kernel
theorem dL_stands_473 : decode cL_stands 473 = .ok (.ireturn, 1) := by decide +kernel
theorem dL_stands_474 : decode cL_stands 474 = .ok (.aload_n 0, 1) := by decide +kernel
theorem dL_stands_475 : decode cL_stands 475 = .ok (.invokevirtual 185, 3) := by decide +kernel
theorem dL_stands_478 : decode cL_stands 478 = .ok (.aload_n 0, 1) := by decide +kernel
theorem dL_stands_479 : decode cL_stands 479 = .ok (.iconst 0, 1) := by decide +kernel
theorem dL_stands_480 : decode cL_stands 480 = .ok (.iconst 0, 1) := by decide +kernel
theorem dL_stands_481 : decode cL_stands 481 = .ok (.invokevirtual 91, 3) := by decide +kernel
theorem dL_stands_484 : decode cL_stands 484 = .ok (.aload_n 0, 1) := by decide +kernel
theorem dL_stands_485 : decode cL_stands 485 = .ok (.iconst 1, 1) := by decide +kernel
theorem dL_stands_486 : decode cL_stands 486 = .ok (.iconst 0, 1) := by decide +kernel
theorem dL_stands_487 : decode cL_stands 487 = .ok (.invokevirtual 91, 3) := by decide +kernel
theorem dL_stands_490 : decode cL_stands 490 = .ok (.isub, 1) := by decide +kernel
theorem dL_stands_491 : decode cL_stands 491 = .ok (.if_icmp .ne 7, 3) := by decide +kernel
theorem dL_stands_494 : decode cL_stands 494 = .ok (.iconst 1, 1) := by decide +kernel
theorem dL_stands_495 : decode cL_stands 495 = .ok (.goto 4, 3) := by decide +kernel
theorem dL_stands_498 : decode cL_stands 498 = .ok (.iconst 0, 1) := by decide +kernel
theorem dL_stands_499 : decode cL_stands 499 = .ok (.ireturn, 1) := by decide +kernel
theorem dL_law_0 : decode cL_law 0 = .ok (.new 25, 3) := by decide +kernel
theorem dL_law_3 : decode cL_law 3 = .ok (.dup, 1) := by decide +kernel
theorem dL_law_4 : decode cL_law 4 = .ok (.invokespecial 188, 3) := by decide +kernel
theorem dL_law_7 : decode cL_law 7 = .ok (.astore_n 1, 1) := by decide +kernel
theorem dL_law_8 : decode cL_law 8 = .ok (.aload_n 1, 1) := by decide +kernel
theorem dL_law_9 : decode cL_law 9 = .ok (.aload_n 0, 1) := by decide +kernel
theorem dL_law_10 : decode cL_law 10 = .ok (.invokestatic 189, 3) := by decide +kernel
theorem dL_law_13 : decode cL_law 13 = .ok (.ifCond .eq 10, 3) := by decide +kernel
theorem dL_law_16 : decode cL_law 16 = .ok (.aload_n 1, 1) := by decide +kernel
theorem dL_law_17 : decode cL_law 17 = .ok (.invokestatic 192, 3) := by decide +kernel
theorem dL_law_20 : decode cL_law 20 = .ok (.ifCond .ne 5, 3) := by decide +kernel
theorem dL_law_23 : decode cL_law 23 = .ok (.iconst 0, 1) := by decide +kernel
theorem dL_law_24 : decode cL_law 24 = .ok (.ireturn, 1) := by decide +kernel
theorem dL_law_25 : decode cL_law 25 = .ok (.bipush 40, 2) := by decide +kernel
theorem dL_law_27 : decode cL_law 27 = .ok (.istore_n 2, 1) := by decide +kernel
theorem dL_law_28 : decode cL_law 28 = .ok (.iload_n 2, 1) := by decide +kernel
theorem dL_law_29 : decode cL_law 29 = .ok (.iconst 2, 1) := by decide +kernel
theorem dL_law_30 : decode cL_law 30 = .ok (.iadd, 1) := by decide +kernel
theorem dL_law_31 : decode cL_law 31 = .ok (.sipush 250, 3) := by decide +kernel
theorem dL_law_34 : decode cL_law 34 = .ok (.if_icmp .ge 173, 3) := by decide +kernel
theorem dL_law_37 : decode cL_law 37 = .ok (.aload_n 1, 1) := by decide +kernel
theorem dL_law_38 : decode cL_law 38 = .ok (.iconst 0, 1) := by decide +kernel
theorem dL_law_39 : decode cL_law 39 = .ok (.invokevirtual 87, 3) := by decide +kernel
theorem dL_law_42 : decode cL_law 42 = .ok (.iconst 4, 1) := by decide +kernel
theorem dL_law_43 : decode cL_law 43 = .ok (.if_icmp .ne 7, 3) := by decide +kernel
theorem dL_law_46 : decode cL_law 46 = .ok (.iconst 1, 1) := by decide +kernel
theorem dL_law_47 : decode cL_law 47 = .ok (.goto 4, 3) := by decide +kernel
theorem dL_law_50 : decode cL_law 50 = .ok (.iconst 0, 1) := by decide +kernel
theorem dL_law_51 : decode cL_law 51 = .ok (.istore_n 3, 1) := by decide +kernel
theorem dL_law_52 : decode cL_law 52 = .ok (.aload_n 1, 1) := by decide +kernel
theorem dL_law_53 : decode cL_law 53 = .ok (.bipush 11, 2) := by decide +kernel
theorem dL_law_55 : decode cL_law 55 = .ok (.invokevirtual 87, 3) := by decide +kernel
theorem dL_law_58 : decode cL_law 58 = .ok (.istore 4, 2) := by decide +kernel
theorem dL_law_60 : decode cL_law 60 = .ok (.aload_n 1, 1) := by decide +kernel
theorem dL_law_61 : decode cL_law 61 = .ok (.bipush 7, 2) := by decide +kernel
theorem dL_law_63 : decode cL_law 63 = .ok (.invokevirtual 87, 3) := by decide +kernel
theorem dL_law_66 : decode cL_law 66 = .ok (.istore 5, 2) := by decide +kernel
theorem dL_law_68 : decode cL_law 68 = .ok (.aload_n 1, 1) := by decide +kernel
theorem dL_law_69 : decode cL_law 69 = .ok (.iconst 0, 1) := by decide +kernel
theorem dL_law_70 : decode cL_law 70 = .ok (.invokevirtual 87, 3) := by decide +kernel
theorem dL_law_73 : decode cL_law 73 = .ok (.istore 6, 2) := by decide +kernel
theorem dL_law_75 : decode cL_law 75 = .ok (.aload_n 0, 1) := by decide +kernel
theorem dL_law_76 : decode cL_law 76 = .ok (.iload_n 2, 1) := by decide +kernel
theorem dL_law_77 : decode cL_law 77 = .ok (.bipush 24, 2) := by decide +kernel
theorem dL_law_79 : decode cL_law 79 = .ok (.invokestatic 40, 3) := by decide +kernel
theorem dL_law_82 : decode cL_law 82 = .ok (.istore 7, 2) := by decide +kernel
theorem dL_law_84 : decode cL_law 84 = .ok (.aload_n 1, 1) := by decide +kernel
theorem dL_law_85 : decode cL_law 85 = .ok (.aload_n 0, 1) := by decide +kernel
theorem dL_law_86 : decode cL_law 86 = .ok (.iload_n 2, 1) := by decide +kernel
theorem dL_law_87 : decode cL_law 87 = .ok (.invokestatic 196, 3) := by decide +kernel
theorem dL_law_90 : decode cL_law 90 = .ok (.istore 8, 2) := by decide +kernel
theorem dL_law_92 : decode cL_law 92 = .ok (.aload_n 1, 1) := by decide +kernel
theorem dL_law_93 : decode cL_law 93 = .ok (.invokestatic 192, 3) := by decide +kernel
theorem dL_law_96 : decode cL_law 96 = .ok (.ifCond .eq 49, 3) := by decide +kernel
theorem dL_law_99 : decode cL_law 99 = .ok (.iload_n 3, 1) := by decide +kernel
theorem dL_law_100 : decode cL_law 100 = .ok (.ifCond .eq 34, 3) := by decide +kernel
theorem dL_law_103 : decode cL_law 103 = .ok (.aload_n 1, 1) := by decide +kernel
theorem dL_law_104 : decode cL_law 104 = .ok (.iconst 0, 1) := by decide +kernel
theorem dL_law_105 : decode cL_law 105 = .ok (.invokevirtual 87, 3) := by decide +kernel
theorem dL_law_108 : decode cL_law 108 = .ok (.iconst 4, 1) := by decide +kernel
theorem dL_law_109 : decode cL_law 109 = .ok (.if_icmp .ne 36, 3) := by decide +kernel
theorem dL_law_112 : decode cL_law 112 = .ok (.aload_n 1, 1) := by decide +kernel
theorem dL_law_113 : decode cL_law 113 = .ok (.bipush 11, 2) := by decide +kernel
theorem dL_law_115 : decode cL_law 115 = .ok (.invokevirtual 87, 3) := by decide +kernel
theorem dL_law_118 : decode cL_law 118 = .ok (.iload 4, 2) := by decide +kernel
theorem dL_law_120 : decode cL_law 120 = .ok (.if_icmp .ne 25, 3) := by decide +kernel
theorem dL_law_123 : decode cL_law 123 = .ok (.aload_n 1, 1) := by decide +kernel
theorem dL_law_124 : decode cL_law 124 = .ok (.bipush 7, 2) := by decide +kernel
theorem dL_law_126 : decode cL_law 126 = .ok (.invokevirtual 87, 3) := by decide +kernel
theorem dL_law_129 : decode cL_law 129 = .ok (.iload 5, 2) := by decide +kernel
theorem dL_law_131 : decode cL_law 131 = .ok (.if_icmp .ne 14, 3) := by decide +kernel
theorem dL_law_134 : decode cL_law 134 = .ok (.aload_n 1, 1) := by decide +kernel
theorem dL_law_135 : decode cL_law 135 = .ok (.bipush 7, 2) := by decide +kernel
theorem dL_law_137 : decode cL_law 137 = .ok (.invokevirtual 87, 3) := by decide +kernel
theorem dL_law_140 : decode cL_law 140 = .ok (.iload 5, 2) := by decide +kernel
theorem dL_law_142 : decode cL_law 142 = .ok (.if_icmp .ge 5, 3) := by decide +kernel
theorem dL_law_145 : decode cL_law 145 = .ok (.iconst 0, 1) := by decide +kernel
theorem dL_law_146 : decode cL_law 146 = .ok (.ireturn, 1) := by decide +kernel
theorem dL_law_147 : decode cL_law 147 = .ok (.iload 6, 2) := by decide +kernel
theorem dL_law_149 : decode cL_law 149 = .ok (.iconst 1, 1) := by decide +kernel
theorem dL_law_150 : decode cL_law 150 = .ok (.if_icmp .eq 16, 3) := by decide +kernel
theorem dL_law_153 : decode cL_law 153 = .ok (.aload_n 1, 1) := by decide +kernel
theorem dL_law_154 : decode cL_law 154 = .ok (.bipush 7, 2) := by decide +kernel
theorem dL_law_156 : decode cL_law 156 = .ok (.invokevirtual 87, 3) := by decide +kernel
theorem dL_law_159 : decode cL_law 159 = .ok (.iload 5, 2) := by decide +kernel
theorem dL_law_161 : decode cL_law 161 = .ok (.if_icmp .eq 5, 3) := by decide +kernel
theorem dL_law_164 : decode cL_law 164 = .ok (.iconst 0, 1) := by decide +kernel
theorem dL_law_165 : decode cL_law 165 = .ok (.ireturn, 1) := by decide +kernel
theorem dL_law_166 : decode cL_law 166 = .ok (.iload 7, 2) := by decide +kernel
theorem dL_law_168 : decode cL_law 168 = .ok (.bipush 6, 2) := by decide +kernel
theorem dL_law_170 : decode cL_law 170 = .ok (.if_icmp .ge 31, 3) := by decide +kernel
theorem dL_law_173 : decode cL_law 173 = .ok (.iload 6, 2) := by decide +kernel
theorem dL_law_175 : decode cL_law 175 = .ok (.iconst 1, 1) := by decide +kernel
theorem dL_law_176 : decode cL_law 176 = .ok (.if_icmp .ne 25, 3) := by decide +kernel
theorem dL_law_179 : decode cL_law 179 = .ok (.aload_n 1, 1) := by decide +kernel
theorem dL_law_180 : decode cL_law 180 = .ok (.iconst 0, 1) := by decide +kernel
theorem dL_law_181 : decode cL_law 181 = .ok (.invokevirtual 87, 3) := by decide +kernel
theorem dL_law_184 : decode cL_law 184 = .ok (.iconst 1, 1) := by decide +kernel
theorem dL_law_185 : decode cL_law 185 = .ok (.if_icmp .ne 16, 3) := by decide +kernel
theorem dL_law_188 : decode cL_law 188 = .ok (.aload_n 1, 1) := by decide +kernel
theorem dL_law_189 : decode cL_law 189 = .ok (.bipush 7, 2) := by decide +kernel
theorem dL_law_191 : decode cL_law 191 = .ok (.invokevirtual 87, 3) := by decide +kernel
theorem dL_law_194 : decode cL_law 194 = .ok (.iload 5, 2) := by decide +kernel
theorem dL_law_196 : decode cL_law 196 = .ok (.if_icmp .ne 5, 3) := by decide +kernel
theorem dL_law_199 : decode cL_law 199 = .ok (.iconst 0, 1) := by decide +kernel
theorem dL_law_200 : decode cL_law 200 = .ok (.ireturn, 1) := by decide +kernel
theorem dL_law_201 : decode cL_law 201 = .ok (.iinc 2 3, 3) := by decide +kernel
theorem dL_law_204 : decode cL_law 204 = .ok (.goto (-176), 3) := by decide +kernel
theorem dL_law_207 : decode cL_law 207 = .ok (.iconst 1, 1) := by decide +kernel
theorem dL_law_208 : decode cL_law 208 = .ok (.ireturn, 1) := by decide +kernel
