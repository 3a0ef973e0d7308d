theorem dX0_init_0 : decode cX0_init 0 = .ok (.aload_n 0, 1) := by decide +kernel
theorem dX0_init_1 : decode cX0_init 1 = .ok (.invokespecial 3, 3) := by decide +kernel
theorem dX0_init_4 : decode cX0_init 4 = .ok (.aload_n 0, 1) := by decide +kernel
theorem dX0_init_5 : decode cX0_init 5 = .ok (.sipush 400, 3) := by decide +kernel
theorem dX0_init_8 : decode cX0_init 8 = .ok (.newarray .byte, 2) := by decide +kernel
theorem dX0_init_10 : decode cX0_init 10 = .ok (.putfield 9, 3) := by decide +kernel
theorem dX0_init_13 : decode cX0_init 13 = .ok (.return_, 1) := by decide +kernel
theorem dX0_addFour_0 : decode cX0_addFour 0 = .ok (.bipush 24, 2) := by decide +kernel
theorem dX0_addFour_2 : decode cX0_addFour 2 = .ok (.istore_n 2, 1) := by decide +kernel
theorem dX0_addFour_3 : decode cX0_addFour 3 = .ok (.iload_n 2, 1) := by decide +kernel
theorem dX0_addFour_4 : decode cX0_addFour 4 = .ok (.ifCond .lt 51, 3) := by decide +kernel
theorem dX0_addFour_7 : decode cX0_addFour 7 = .ok (.aload_n 0, 1) := by decide +kernel
theorem dX0_addFour_8 : decode cX0_addFour 8 = .ok (.getfield 15, 3) := by decide +kernel
theorem dX0_addFour_11 : decode cX0_addFour 11 = .ok (.ifCond .lt 38, 3) := by decide +kernel
theorem dX0_addFour_14 : decode cX0_addFour 14 = .ok (.aload_n 0, 1) := by decide +kernel
theorem dX0_addFour_15 : decode cX0_addFour 15 = .ok (.getfield 15, 3) := by decide +kernel
theorem dX0_addFour_18 : decode cX0_addFour 18 = .ok (.aload_n 0, 1) := by decide +kernel
theorem dX0_addFour_19 : decode cX0_addFour 19 = .ok (.getfield 9, 3) := by decide +kernel
theorem dX0_addFour_22 : decode cX0_addFour 22 = .ok (.arraylength, 1) := by decide +kernel
theorem dX0_addFour_23 : decode cX0_addFour 23 = .ok (.if_icmp .ge 26, 3) := by decide +kernel
theorem dX0_addFour_26 : decode cX0_addFour 26 = .ok (.aload_n 0, 1) := by decide +kernel
theorem dX0_addFour_27 : decode cX0_addFour 27 = .ok (.getfield 9, 3) := by decide +kernel
theorem dX0_addFour_30 : decode cX0_addFour 30 = .ok (.aload_n 0, 1) := by decide +kernel
theorem dX0_addFour_31 : decode cX0_addFour 31 = .ok (.getfield 15, 3) := by decide +kernel
theorem dX0_addFour_34 : decode cX0_addFour 34 = .ok (.iload_n 1, 1) := by decide +kernel
theorem dX0_addFour_35 : decode cX0_addFour 35 = .ok (.iload_n 2, 1) := by decide +kernel
theorem dX0_addFour_36 : decode cX0_addFour 36 = .ok (.iushr, 1) := by decide +kernel
theorem dX0_addFour_37 : decode cX0_addFour 37 = .ok (.i2b, 1) := by decide +kernel
theorem dX0_addFour_38 : decode cX0_addFour 38 = .ok (.bastore, 1) := by decide +kernel
theorem dX0_addFour_39 : decode cX0_addFour 39 = .ok (.aload_n 0, 1) := by decide +kernel
theorem dX0_addFour_40 : decode cX0_addFour 40 = .ok (.dup, 1) := by decide +kernel
theorem dX0_addFour_41 : decode cX0_addFour 41 = .ok (.getfield 15, 3) := by decide +kernel
theorem dX0_addFour_44 : decode cX0_addFour 44 = .ok (.iconst 1, 1) := by decide +kernel
theorem dX0_addFour_45 : decode cX0_addFour 45 = .ok (.iadd, 1) := by decide +kernel
theorem dX0_addFour_46 : decode cX0_addFour 46 = .ok (.putfield 15, 3) := by decide +kernel
theorem dX0_addFour_49 : decode cX0_addFour 49 = .ok (.iinc 2 (-8), 3) := by decide +kernel
theorem dX0_addFour_52 : decode cX0_addFour 52 = .ok (.goto (-49), 3) := by decide +kernel
theorem dX0_addFour_55 : decode cX0_addFour 55 = .ok (.return_, 1) := by decide +kernel
theorem dX0_byteAt_0 : decode cX0_byteAt 0 = .ok (.iload_n 1, 1) := by decide +kernel
theorem dX0_byteAt_1 : decode cX0_byteAt 1 = .ok (.ifCond .lt 33, 3) := by decide +kernel
theorem dX0_byteAt_4 : decode cX0_byteAt 4 = .ok (.iload_n 1, 1) := by decide +kernel
theorem dX0_byteAt_5 : decode cX0_byteAt 5 = .ok (.aload_n 0, 1) := by decide +kernel
theorem dX0_byteAt_6 : decode cX0_byteAt 6 = .ok (.getfield 15, 3) := by decide +kernel
theorem dX0_byteAt_9 : decode cX0_byteAt 9 = .ok (.if_icmp .ge 25, 3) := by decide +kernel
theorem dX0_byteAt_12 : decode cX0_byteAt 12 = .ok (.iload_n 1, 1) := by decide +kernel
theorem dX0_byteAt_13 : decode cX0_byteAt 13 = .ok (.aload_n 0, 1) := by decide +kernel
theorem dX0_byteAt_14 : decode cX0_byteAt 14 = .ok (.getfield 9, 3) := by decide +kernel
theorem dX0_byteAt_17 : decode cX0_byteAt 17 = .ok (.arraylength, 1) := by decide +kernel
theorem dX0_byteAt_18 : decode cX0_byteAt 18 = .ok (.if_icmp .ge 16, 3) := by decide +kernel
theorem dX0_byteAt_21 : decode cX0_byteAt 21 = .ok (.aload_n 0, 1) := by decide +kernel
theorem dX0_byteAt_22 : decode cX0_byteAt 22 = .ok (.getfield 9, 3) := by decide +kernel
theorem dX0_byteAt_25 : decode cX0_byteAt 25 = .ok (.iload_n 1, 1) := by decide +kernel
theorem dX0_byteAt_26 : decode cX0_byteAt 26 = .ok (.baload, 1) := by decide +kernel
theorem dX0_byteAt_27 : decode cX0_byteAt 27 = .ok (.sipush 255, 3) := by decide +kernel
theorem dX0_byteAt_30 : decode cX0_byteAt 30 = .ok (.iand, 1) := by decide +kernel
theorem dX0_byteAt_31 : decode cX0_byteAt 31 = .ok (.goto 4, 3) := by decide +kernel
theorem dX0_byteAt_34 : decode cX0_byteAt 34 = .ok (.iconst 0, 1) := by decide +kernel
theorem dX0_byteAt_35 : decode cX0_byteAt 35 = .ok (.ireturn, 1) := by decide +kernel
theorem dX1_init_0 : decode cX1_init 0 = .ok (.aload_n 0, 1) := by decide +kernel
theorem dX1_init_1 : decode cX1_init 1 = .ok (.invokespecial 3, 3) := by decide +kernel
theorem dX1_init_4 : decode cX1_init 4 = .ok (.aload_n 0, 1) := by decide +kernel
theorem dX1_init_5 : decode cX1_init 5 = .ok (.sipush 240, 3) := by decide +kernel
theorem dX1_init_8 : decode cX1_init 8 = .ok (.newarray .int, 2) := by decide +kernel
theorem dX1_init_10 : decode cX1_init 10 = .ok (.putfield 9, 3) := by decide +kernel
theorem dX1_init_13 : decode cX1_init 13 = .ok (.return_, 1) := by decide +kernel
theorem dX1_clear_0 : decode cX1_clear 0 = .ok (.aload_n 0, 1) := by decide +kernel
theorem dX1_clear_1 : decode cX1_clear 1 = .ok (.iconst 0, 1) := by decide +kernel
theorem dX1_clear_2 : decode cX1_clear 2 = .ok (.putfield 15, 3) := by decide +kernel
theorem dX1_clear_5 : decode cX1_clear 5 = .ok (.aload_n 0, 1) := by decide +kernel
theorem dX1_clear_6 : decode cX1_clear 6 = .ok (.iconst 0, 1) := by decide +kernel
theorem dX1_clear_7 : decode cX1_clear 7 = .ok (.putfield 19, 3) := by decide +kernel
theorem dX1_clear_10 : decode cX1_clear 10 = .ok (.return_, 1) := by decide +kernel
theorem dX1_copyFrom_0 : decode cX1_copyFrom 0 = .ok (.aload_n 1, 1) := by decide +kernel
theorem dX1_copyFrom_1 : decode cX1_copyFrom 1 = .ok (.getfield 9, 3) := by decide +kernel
theorem dX1_copyFrom_4 : decode cX1_copyFrom 4 = .ok (.aload_n 0, 1) := by decide +kernel
theorem dX1_copyFrom_5 : decode cX1_copyFrom 5 = .ok (.getfield 9, 3) := by decide +kernel
theorem dX1_copyFrom_8 : decode cX1_copyFrom 8 = .ok (.invokestatic 22, 3) := by decide +kernel
theorem dX1_copyFrom_11 : decode cX1_copyFrom 11 = .ok (.aload_n 0, 1) := by decide +kernel
theorem dX1_copyFrom_12 : decode cX1_copyFrom 12 = .ok (.aload_n 1, 1) := by decide +kernel
theorem dX1_copyFrom_13 : decode cX1_copyFrom 13 = .ok (.getfield 15, 3) := by decide +kernel
theorem dX1_copyFrom_16 : decode cX1_copyFrom 16 = .ok (.putfield 15, 3) := by decide +kernel
theorem dX1_copyFrom_19 : decode cX1_copyFrom 19 = .ok (.aload_n 0, 1) := by decide +kernel
theorem dX1_copyFrom_20 : decode cX1_copyFrom 20 = .ok (.aload_n 1, 1) := by decide +kernel
theorem dX1_copyFrom_21 : decode cX1_copyFrom 21 = .ok (.getfield 19, 3) := by decide +kernel
theorem dX1_copyFrom_24 : decode cX1_copyFrom 24 = .ok (.putfield 19, 3) := by decide +kernel
theorem dX1_copyFrom_27 : decode cX1_copyFrom 27 = .ok (.return_, 1) := by decide +kernel
theorem dX1_add_0 : decode cX1_add 0 = .ok (.aload_n 0, 1) := by decide +kernel
theorem dX1_add_1 : decode cX1_add 1 = .ok (.aload_n 0, 1) := by decide +kernel
theorem dX1_add_2 : decode cX1_add 2 = .ok (.getfield 19, 3) := by decide +kernel
theorem dX1_add_5 : decode cX1_add 5 = .ok (.iconst 1, 1) := by decide +kernel
theorem dX1_add_6 : decode cX1_add 6 = .ok (.iadd, 1) := by decide +kernel
theorem dX1_add_7 : decode cX1_add 7 = .ok (.bipush 40, 2) := by decide +kernel
theorem dX1_add_9 : decode cX1_add 9 = .ok (.irem, 1) := by decide +kernel
theorem dX1_add_10 : decode cX1_add 10 = .ok (.putfield 19, 3) := by decide +kernel
theorem dX1_add_13 : decode cX1_add 13 = .ok (.aload_n 0, 1) := by decide +kernel
theorem dX1_add_14 : decode cX1_add 14 = .ok (.aload_n 0, 1) := by decide +kernel
theorem dX1_add_15 : decode cX1_add 15 = .ok (.getfield 15, 3) := by decide +kernel
theorem dX1_add_18 : decode cX1_add 18 = .ok (.iconst 1, 1) := by decide +kernel
theorem dX1_add_19 : decode cX1_add 19 = .ok (.iadd, 1) := by decide +kernel
theorem dX1_add_20 : decode cX1_add 20 = .ok (.bipush 40, 2) := by decide +kernel
theorem dX1_add_22 : decode cX1_add 22 = .ok (.invokestatic 26, 3) := by decide +kernel
theorem dX1_add_25 : decode cX1_add 25 = .ok (.putfield 15, 3) := by decide +kernel
theorem dX1_add_28 : decode cX1_add 28 = .ok (.aload_n 0, 1) := by decide +kernel
theorem dX1_add_29 : decode cX1_add 29 = .ok (.getfield 19, 3) := by decide +kernel
theorem dX1_add_32 : decode cX1_add 32 = .ok (.bipush 6, 2) := by decide +kernel
theorem dX1_add_34 : decode cX1_add 34 = .ok (.imul, 1) := by decide +kernel
theorem dX1_add_35 : decode cX1_add 35 = .ok (.istore 7, 2) := by decide +kernel
theorem dX1_add_37 : decode cX1_add 37 = .ok (.aload_n 0, 1) := by decide +kernel
theorem dX1_add_38 : decode cX1_add 38 = .ok (.getfield 9, 3) := by decide +kernel
theorem dX1_add_41 : decode cX1_add 41 = .ok (.iload 7, 2) := by decide +kernel
theorem dX1_add_43 : decode cX1_add 43 = .ok (.iconst 0, 1) := by decide +kernel
theorem dX1_add_44 : decode cX1_add 44 = .ok (.iadd, 1) := by decide +kernel
theorem dX1_add_45 : decode cX1_add 45 = .ok (.iload_n 1, 1) := by decide +kernel
theorem dX1_add_46 : decode cX1_add 46 = .ok (.invokestatic 32, 3) := by decide +kernel
theorem dX1_add_49 : decode cX1_add 49 = .ok (.aload_n 0, 1) := by decide +kernel
theorem dX1_add_50 : decode cX1_add 50 = .ok (.getfield 9, 3) := by decide +kernel
theorem dX1_add_53 : decode cX1_add 53 = .ok (.iload 7, 2) := by decide +kernel
theorem dX1_add_55 : decode cX1_add 55 = .ok (.iconst 1, 1) := by decide +kernel
theorem dX1_add_56 : decode cX1_add 56 = .ok (.iadd, 1) := by decide +kernel
theorem dX1_add_57 : decode cX1_add 57 = .ok (.iload_n 2, 1) := by decide +kernel
theorem dX1_add_58 : decode cX1_add 58 = .ok (.invokestatic 32, 3) := by decide +kernel
theorem dX1_add_61 : decode cX1_add 61 = .ok (.aload_n 0, 1) := by decide +kernel
theorem dX1_add_62 : decode cX1_add 62 = .ok (.getfield 9, 3) := by decide +kernel
theorem dX1_add_65 : decode cX1_add 65 = .ok (.iload 7, 2) := by decide +kernel
theorem dX1_add_67 : decode cX1_add 67 = .ok (.iconst 2, 1) := by decide +kernel
theorem dX1_add_68 : decode cX1_add 68 = .ok (.iadd, 1) := by decide +kernel
theorem dX1_add_69 : decode cX1_add 69 = .ok (.iload_n 3, 1) := by decide +kernel
theorem dX1_add_70 : decode cX1_add 70 = .ok (.invokestatic 32, 3) := by decide +kernel
theorem dX1_add_73 : decode cX1_add 73 = .ok (.aload_n 0, 1) := by decide +kernel
theorem dX1_add_74 : decode cX1_add 74 = .ok (.getfield 9, 3) := by decide +kernel
theorem dX1_add_77 : decode cX1_add 77 = .ok (.iload 7, 2) := by decide +kernel
theorem dX1_add_79 : decode cX1_add 79 = .ok (.iconst 3, 1) := by decide +kernel
theorem dX1_add_80 : decode cX1_add 80 = .ok (.iadd, 1) := by decide +kernel
theorem dX1_add_81 : decode cX1_add 81 = .ok (.iload 4, 2) := by decide +kernel
theorem dX1_add_83 : decode cX1_add 83 = .ok (.invokestatic 32, 3) := by decide +kernel
theorem dX1_add_86 : decode cX1_add 86 = .ok (.aload_n 0, 1) := by decide +kernel
theorem dX1_add_87 : decode cX1_add 87 = .ok (.getfield 9, 3) := by decide +kernel
theorem dX1_add_90 : decode cX1_add 90 = .ok (.iload 7, 2) := by decide +kernel
theorem dX1_add_92 : decode cX1_add 92 = .ok (.iconst 4, 1) := by decide +kernel
theorem dX1_add_93 : decode cX1_add 93 = .ok (.iadd, 1) := by decide +kernel
theorem dX1_add_94 : decode cX1_add 94 = .ok (.iload 5, 2) := by decide +kernel
theorem dX1_add_96 : decode cX1_add 96 = .ok (.invokestatic 32, 3) := by decide +kernel
theorem dX1_add_99 : decode cX1_add 99 = .ok (.aload_n 0, 1) := by decide +kernel
theorem dX1_add_100 : decode cX1_add 100 = .ok (.getfield 9, 3) := by decide +kernel
theorem dX1_add_103 : decode cX1_add 103 = .ok (.iload 7, 2) := by decide +kernel
theorem dX1_add_105 : decode cX1_add 105 = .ok (.iconst 5, 1) := by decide +kernel
theorem dX1_add_106 : decode cX1_add 106 = .ok (.iadd, 1) := by decide +kernel
theorem dX1_add_107 : decode cX1_add 107 = .ok (.iload 6, 2) := by decide +kernel
theorem dX1_add_109 : decode cX1_add 109 = .ok (.invokestatic 32, 3) := by decide +kernel
theorem dX1_add_112 : decode cX1_add 112 = .ok (.return_, 1) := by decide +kernel
theorem dX1_number_0 : decode cX1_number 0 = .ok (.aload_n 0, 1) := by decide +kernel
theorem dX1_number_1 : decode cX1_number 1 = .ok (.getfield 19, 3) := by decide +kernel
theorem dX1_number_4 : decode cX1_number 4 = .ok (.bipush 40, 2) := by decide +kernel
theorem dX1_number_6 : decode cX1_number 6 = .ok (.iadd, 1) := by decide +kernel
theorem dX1_number_7 : decode cX1_number 7 = .ok (.iload_n 1, 1) := by decide +kernel
theorem dX1_number_8 : decode cX1_number 8 = .ok (.isub, 1) := by decide +kernel
theorem dX1_number_9 : decode cX1_number 9 = .ok (.bipush 40, 2) := by decide +kernel
theorem dX1_number_11 : decode cX1_number 11 = .ok (.irem, 1) := by decide +kernel
theorem dX1_number_12 : decode cX1_number 12 = .ok (.istore_n 3, 1) := by decide +kernel
theorem dX1_number_13 : decode cX1_number 13 = .ok (.aload_n 0, 1) := by decide +kernel
theorem dX1_number_14 : decode cX1_number 14 = .ok (.getfield 9, 3) := by decide +kernel
theorem dX1_number_17 : decode cX1_number 17 = .ok (.iload_n 3, 1) := by decide +kernel
theorem dX1_number_18 : decode cX1_number 18 = .ok (.bipush 6, 2) := by decide +kernel
theorem dX1_number_20 : decode cX1_number 20 = .ok (.imul, 1) := by decide +kernel
theorem dX1_number_21 : decode cX1_number 21 = .ok (.iload_n 2, 1) := by decide +kernel
theorem dX1_number_22 : decode cX1_number 22 = .ok (.iadd, 1) := by decide +kernel
theorem dX1_number_23 : decode cX1_number 23 = .ok (.invokestatic 36, 3) := by decide +kernel
theorem dX1_number_26 : decode cX1_number 26 = .ok (.ireturn, 1) := by decide +kernel
theorem dX2_init_0 : decode cX2_init 0 = .ok (.aload_n 0, 1) := by decide +kernel
theorem dX2_init_1 : decode cX2_init 1 = .ok (.invokespecial 3, 3) := by decide +kernel
theorem dX2_init_4 : decode cX2_init 4 = .ok (.aload_n 0, 1) := by decide +kernel
theorem dX2_init_5 : decode cX2_init 5 = .ok (.sipush 256, 3) := by decide +kernel
theorem dX2_init_8 : decode cX2_init 8 = .ok (.newarray .byte, 2) := by decide +kernel
theorem dX2_init_10 : decode cX2_init 10 = .ok (.putfield 9, 3) := by decide +kernel
theorem dX2_init_13 : decode cX2_init 13 = .ok (.return_, 1) := by decide +kernel
theorem dX3_init_0 : decode cX3_init 0 = .ok (.aload_n 0, 1) := by decide +kernel
theorem dX3_init_1 : decode cX3_init 1 = .ok (.invokespecial 3, 3) := by decide +kernel
theorem dX3_init_4 : decode cX3_init 4 = .ok (.aload_n 0, 1) := by decide +kernel
theorem dX3_init_5 : decode cX3_init 5 = .ok (.new 9, 3) := by decide +kernel
theorem dX3_init_8 : decode cX3_init 8 = .ok (.dup, 1) := by decide +kernel
theorem dX3_init_9 : decode cX3_init 9 = .ok (.invokespecial 11, 3) := by decide +kernel
theorem dX3_init_12 : decode cX3_init 12 = .ok (.putfield 12, 3) := by decide +kernel
theorem dX3_init_15 : decode cX3_init 15 = .ok (.aload_n 0, 1) := by decide +kernel
theorem dX3_init_16 : decode cX3_init 16 = .ok (.new 18, 3) := by decide +kernel
theorem dX3_init_19 : decode cX3_init 19 = .ok (.dup, 1) := by decide +kernel
theorem dX3_init_20 : decode cX3_init 20 = .ok (.invokespecial 20, 3) := by decide +kernel
theorem dX3_init_23 : decode cX3_init 23 = .ok (.putfield 21, 3) := by decide +kernel
theorem dX3_init_26 : decode cX3_init 26 = .ok (.aload_n 0, 1) := by decide +kernel
theorem dX3_init_27 : decode cX3_init 27 = .ok (.iconst (-1), 1) := by decide +kernel
theorem dX3_init_28 : decode cX3_init 28 = .ok (.putfield 25, 3) := by decide +kernel
theorem dX3_init_31 : decode cX3_init 31 = .ok (.aload_n 0, 1) := by decide +kernel
theorem dX3_init_32 : decode cX3_init 32 = .ok (.iconst (-1), 1) := by decide +kernel
theorem dX3_init_33 : decode cX3_init 33 = .ok (.putfield 29, 3) := by decide +kernel
theorem dX3_init_36 : decode cX3_init 36 = .ok (.return_, 1) := by decide +kernel
theorem dX3_readText_0 : decode cX3_readText 0 = .ok (.aload_n 0, 1) := by decide +kernel
theorem dX3_readText_1 : decode cX3_readText 1 = .ok (.invokevirtual 32, 3) := by decide +kernel
theorem dX3_readText_4 : decode cX3_readText 4 = .ok (.aload_n 0, 1) := by decide +kernel
theorem dX3_readText_5 : decode cX3_readText 5 = .ok (.invokevirtual 35, 3) := by decide +kernel
theorem dX3_readText_8 : decode cX3_readText 8 = .ok (.aload_n 0, 1) := by decide +kernel
theorem dX3_readText_9 : decode cX3_readText 9 = .ok (.ldc 38, 2) := by decide +kernel
theorem dX3_readText_11 : decode cX3_readText 11 = .ok (.invokevirtual 40, 3) := by decide +kernel
theorem dX3_readText_14 : decode cX3_readText 14 = .ok (.ifCond .ne 8, 3) := by decide +kernel
theorem dX3_readText_17 : decode cX3_readText 17 = .ok (.aload_n 0, 1) := by decide +kernel
theorem dX3_readText_18 : decode cX3_readText 18 = .ok (.iconst 1, 1) := by decide +kernel
theorem dX3_readText_19 : decode cX3_readText 19 = .ok (.invokevirtual 44, 3) := by decide +kernel
theorem dX3_readText_22 : decode cX3_readText 22 = .ok (.iconst 0, 1) := by decide +kernel
theorem dX3_readText_23 : decode cX3_readText 23 = .ok (.istore_n 1, 1) := by decide +kernel
theorem dX3_readText_24 : decode cX3_readText 24 = .ok (.iload_n 1, 1) := by decide +kernel
theorem dX3_readText_25 : decode cX3_readText 25 = .ok (.sipush 400, 3) := by decide +kernel
theorem dX3_readText_28 : decode cX3_readText 28 = .ok (.if_icmp .ge 108, 3) := by decide +kernel
theorem dX3_readText_31 : decode cX3_readText 31 = .ok (.aload_n 0, 1) := by decide +kernel
theorem dX3_readText_32 : decode cX3_readText 32 = .ok (.getfield 48, 3) := by decide +kernel
theorem dX3_readText_35 : decode cX3_readText 35 = .ok (.ifCond .ne 101, 3) := by decide +kernel
theorem dX3_readText_38 : decode cX3_readText 38 = .ok (.aload_n 0, 1) := by decide +kernel
theorem dX3_readText_39 : decode cX3_readText 39 = .ok (.getfield 51, 3) := by decide +kernel
theorem dX3_readText_42 : decode cX3_readText 42 = .ok (.ifCond .eq 94, 3) := by decide +kernel
theorem dX3_readText_45 : decode cX3_readText 45 = .ok (.aload_n 0, 1) := by decide +kernel
theorem dX3_readText_46 : decode cX3_readText 46 = .ok (.ldc 38, 2) := by decide +kernel
theorem dX3_readText_48 : decode cX3_readText 48 = .ok (.invokevirtual 40, 3) := by decide +kernel
theorem dX3_readText_51 : decode cX3_readText 51 = .ok (.ifCond .eq 10, 3) := by decide +kernel
theorem dX3_readText_54 : decode cX3_readText 54 = .ok (.aload_n 0, 1) := by decide +kernel
theorem dX3_readText_55 : decode cX3_readText 55 = .ok (.invokevirtual 54, 3) := by decide +kernel
theorem dX3_readText_58 : decode cX3_readText 58 = .ok (.goto 72, 3) := by decide +kernel
theorem dX3_readText_61 : decode cX3_readText 61 = .ok (.aload_n 0, 1) := by decide +kernel
theorem dX3_readText_62 : decode cX3_readText 62 = .ok (.ldc 57, 2) := by decide +kernel
theorem dX3_readText_64 : decode cX3_readText 64 = .ok (.invokevirtual 40, 3) := by decide +kernel
theorem dX3_readText_67 : decode cX3_readText 67 = .ok (.ifCond .eq 10, 3) := by decide +kernel
theorem dX3_readText_70 : decode cX3_readText 70 = .ok (.aload_n 0, 1) := by decide +kernel
theorem dX3_readText_71 : decode cX3_readText 71 = .ok (.invokevirtual 59, 3) := by decide +kernel
theorem dX3_readText_74 : decode cX3_readText 74 = .ok (.goto 56, 3) := by decide +kernel
theorem dX3_readText_77 : decode cX3_readText 77 = .ok (.aload_n 0, 1) := by decide +kernel
theorem dX3_readText_78 : decode cX3_readText 78 = .ok (.ldc 62, 2) := by decide +kernel
theorem dX3_readText_80 : decode cX3_readText 80 = .ok (.invokevirtual 40, 3) := by decide +kernel
theorem dX3_readText_83 : decode cX3_readText 83 = .ok (.ifCond .eq 10, 3) := by decide +kernel
theorem dX3_readText_86 : decode cX3_readText 86 = .ok (.aload_n 0, 1) := by decide +kernel
theorem dX3_readText_87 : decode cX3_readText 87 = .ok (.invokevirtual 64, 3) := by decide +kernel
theorem dX3_readText_90 : decode cX3_readText 90 = .ok (.goto 40, 3) := by decide +kernel
theorem dX3_readText_93 : decode cX3_readText 93 = .ok (.aload_n 0, 1) := by decide +kernel
theorem dX3_readText_94 : decode cX3_readText 94 = .ok (.ldc 67, 2) := by decide +kernel
theorem dX3_readText_96 : decode cX3_readText 96 = .ok (.invokevirtual 40, 3) := by decide +kernel
theorem dX3_readText_99 : decode cX3_readText 99 = .ok (.ifCond .eq 10, 3) := by decide +kernel
theorem dX3_readText_102 : decode cX3_readText 102 = .ok (.aload_n 0, 1) := by decide +kernel
theorem dX3_readText_103 : decode cX3_readText 103 = .ok (.invokevirtual 69, 3) := by decide +kernel
theorem dX3_readText_106 : decode cX3_readText 106 = .ok (.goto 24, 3) := by decide +kernel
theorem dX3_readText_109 : decode cX3_readText 109 = .ok (.aload_n 0, 1) := by decide +kernel
theorem dX3_readText_110 : decode cX3_readText 110 = .ok (.ldc 72, 2) := by decide +kernel
theorem dX3_readText_112 : decode cX3_readText 112 = .ok (.invokevirtual 40, 3) := by decide +kernel
theorem dX3_readText_115 : decode cX3_readText 115 = .ok (.ifCond .eq 10, 3) := by decide +kernel
theorem dX3_readText_118 : decode cX3_readText 118 = .ok (.aload_n 0, 1) := by decide +kernel
theorem dX3_readText_119 : decode cX3_readText 119 = .ok (.invokevirtual 74, 3) := by decide +kernel
theorem dX3_readText_122 : decode cX3_readText 122 = .ok (.goto 8, 3) := by decide +kernel
theorem dX3_readText_125 : decode cX3_readText 125 = .ok (.aload_n 0, 1) := by decide +kernel
theorem dX3_readText_126 : decode cX3_readText 126 = .ok (.iconst 1, 1) := by decide +kernel
theorem dX3_readText_127 : decode cX3_readText 127 = .ok (.invokevirtual 44, 3) := by decide +kernel
theorem dX3_readText_130 : decode cX3_readText 130 = .ok (.iinc 1 1, 3) := by decide +kernel
theorem dX3_readText_133 : decode cX3_readText 133 = .ok (.goto (-109), 3) := by decide +kernel
theorem dX3_readText_136 : decode cX3_readText 136 = .ok (.aload_n 0, 1) := by decide +kernel
theorem dX3_readText_137 : decode cX3_readText 137 = .ok (.getfield 48, 3) := by decide +kernel
theorem dX3_readText_140 : decode cX3_readText 140 = .ok (.ifCond .ne 7, 3) := by decide +kernel
theorem dX3_readText_143 : decode cX3_readText 143 = .ok (.iconst 1, 1) := by decide +kernel
theorem dX3_readText_144 : decode cX3_readText 144 = .ok (.goto 4, 3) := by decide +kernel
theorem dX3_readText_147 : decode cX3_readText 147 = .ok (.iconst 0, 1) := by decide +kernel
theorem dX3_readText_148 : decode cX3_readText 148 = .ok (.ireturn, 1) := by decide +kernel
theorem dX3_clear_0 : decode cX3_clear 0 = .ok (.aload_n 0, 1) := by decide +kernel
theorem dX3_clear_1 : decode cX3_clear 1 = .ok (.getfield 21, 3) := by decide +kernel
theorem dX3_clear_4 : decode cX3_clear 4 = .ok (.invokevirtual 77, 3) := by decide +kernel
theorem dX3_clear_7 : decode cX3_clear 7 = .ok (.aload_n 0, 1) := by decide +kernel
theorem dX3_clear_8 : decode cX3_clear 8 = .ok (.iconst 0, 1) := by decide +kernel
theorem dX3_clear_9 : decode cX3_clear 9 = .ok (.putfield 78, 3) := by decide +kernel
theorem dX3_clear_12 : decode cX3_clear 12 = .ok (.aload_n 0, 1) := by decide +kernel
theorem dX3_clear_13 : decode cX3_clear 13 = .ok (.iconst (-1), 1) := by decide +kernel
theorem dX3_clear_14 : decode cX3_clear 14 = .ok (.putfield 25, 3) := by decide +kernel
theorem dX3_clear_17 : decode cX3_clear 17 = .ok (.aload_n 0, 1) := by decide +kernel
theorem dX3_clear_18 : decode cX3_clear 18 = .ok (.iconst 0, 1) := by decide +kernel
theorem dX3_clear_19 : decode cX3_clear 19 = .ok (.putfield 81, 3) := by decide +kernel
theorem dX3_clear_22 : decode cX3_clear 22 = .ok (.aload_n 0, 1) := by decide +kernel
theorem dX3_clear_23 : decode cX3_clear 23 = .ok (.iconst 0, 1) := by decide +kernel
theorem dX3_clear_24 : decode cX3_clear 24 = .ok (.putfield 48, 3) := by decide +kernel
theorem dX3_clear_27 : decode cX3_clear 27 = .ok (.aload_n 0, 1) := by decide +kernel
theorem dX3_clear_28 : decode cX3_clear 28 = .ok (.iconst (-1), 1) := by decide +kernel
theorem dX3_clear_29 : decode cX3_clear 29 = .ok (.putfield 29, 3) := by decide +kernel
theorem dX3_clear_32 : decode cX3_clear 32 = .ok (.aload_n 0, 1) := by decide +kernel
theorem dX3_clear_33 : decode cX3_clear 33 = .ok (.iconst 0, 1) := by decide +kernel
theorem dX3_clear_34 : decode cX3_clear 34 = .ok (.putfield 84, 3) := by decide +kernel
theorem dX3_clear_37 : decode cX3_clear 37 = .ok (.return_, 1) := by decide +kernel
theorem dX3_readPeriod_0 : decode cX3_readPeriod 0 = .ok (.aload_n 0, 1) := by decide +kernel
theorem dX3_readPeriod_1 : decode cX3_readPeriod 1 = .ok (.getfield 21, 3) := by decide +kernel
theorem dX3_readPeriod_4 : decode cX3_readPeriod 4 = .ok (.getfield 87, 3) := by decide +kernel
theorem dX3_readPeriod_7 : decode cX3_readPeriod 7 = .ok (.istore_n 1, 1) := by decide +kernel
theorem dX3_readPeriod_8 : decode cX3_readPeriod 8 = .ok (.iload_n 1, 1) := by decide +kernel
theorem dX3_readPeriod_9 : decode cX3_readPeriod 9 = .ok (.iconst 5, 1) := by decide +kernel
theorem dX3_readPeriod_10 : decode cX3_readPeriod 10 = .ok (.if_icmp .lt 11, 3) := by decide +kernel
theorem dX3_readPeriod_13 : decode cX3_readPeriod 13 = .ok (.aload_n 0, 1) := by decide +kernel
theorem dX3_readPeriod_14 : decode cX3_readPeriod 14 = .ok (.iconst 3, 1) := by decide +kernel
theorem dX3_readPeriod_15 : decode cX3_readPeriod 15 = .ok (.invokevirtual 44, 3) := by decide +kernel
theorem dX3_readPeriod_18 : decode cX3_readPeriod 18 = .ok (.goto 25, 3) := by decide +kernel
theorem dX3_readPeriod_21 : decode cX3_readPeriod 21 = .ok (.iload_n 1, 1) := by decide +kernel
theorem dX3_readPeriod_22 : decode cX3_readPeriod 22 = .ok (.ifCond .le 21, 3) := by decide +kernel
theorem dX3_readPeriod_25 : decode cX3_readPeriod 25 = .ok (.aload_n 0, 1) := by decide +kernel
theorem dX3_readPeriod_26 : decode cX3_readPeriod 26 = .ok (.getfield 21, 3) := by decide +kernel
theorem dX3_readPeriod_29 : decode cX3_readPeriod 29 = .ok (.iload_n 1, 1) := by decide +kernel
theorem dX3_readPeriod_30 : decode cX3_readPeriod 30 = .ok (.iconst 1, 1) := by decide +kernel
theorem dX3_readPeriod_31 : decode cX3_readPeriod 31 = .ok (.isub, 1) := by decide +kernel
theorem dX3_readPeriod_32 : decode cX3_readPeriod 32 = .ok (.invokevirtual 90, 3) := by decide +kernel
theorem dX3_readPeriod_35 : decode cX3_readPeriod 35 = .ok (.ifCond .eq 8, 3) := by decide +kernel
theorem dX3_readPeriod_38 : decode cX3_readPeriod 38 = .ok (.aload_n 0, 1) := by decide +kernel
theorem dX3_readPeriod_39 : decode cX3_readPeriod 39 = .ok (.iconst 4, 1) := by decide +kernel
theorem dX3_readPeriod_40 : decode cX3_readPeriod 40 = .ok (.invokevirtual 44, 3) := by decide +kernel
theorem dX3_readPeriod_43 : decode cX3_readPeriod 43 = .ok (.aload_n 0, 1) := by decide +kernel
theorem dX3_readPeriod_44 : decode cX3_readPeriod 44 = .ok (.ldc 38, 2) := by decide +kernel
theorem dX3_readPeriod_46 : decode cX3_readPeriod 46 = .ok (.invokevirtual 94, 3) := by decide +kernel
theorem dX3_readPeriod_49 : decode cX3_readPeriod 49 = .ok (.aload_n 0, 1) := by decide +kernel
theorem dX3_readPeriod_50 : decode cX3_readPeriod 50 = .ok (.ldc 98, 2) := by decide +kernel
theorem dX3_readPeriod_52 : decode cX3_readPeriod 52 = .ok (.invokevirtual 94, 3) := by decide +kernel
theorem dX3_readPeriod_55 : decode cX3_readPeriod 55 = .ok (.aload_n 0, 1) := by decide +kernel
theorem dX3_readPeriod_56 : decode cX3_readPeriod 56 = .ok (.getfield 21, 3) := by decide +kernel
theorem dX3_readPeriod_59 : decode cX3_readPeriod 59 = .ok (.iload_n 1, 1) := by decide +kernel
theorem dX3_readPeriod_60 : decode cX3_readPeriod 60 = .ok (.iconst 0, 1) := by decide +kernel
theorem dX3_readPeriod_61 : decode cX3_readPeriod 61 = .ok (.aload_n 0, 1) := by decide +kernel
theorem dX3_readPeriod_62 : decode cX3_readPeriod 62 = .ok (.iconst 0, 1) := by decide +kernel
theorem dX3_readPeriod_63 : decode cX3_readPeriod 63 = .ok (.bipush 60, 2) := by decide +kernel
theorem dX3_readPeriod_65 : decode cX3_readPeriod 65 = .ok (.invokevirtual 100, 3) := by decide +kernel
theorem dX3_readPeriod_68 : decode cX3_readPeriod 68 = .ok (.invokevirtual 104, 3) := by decide +kernel
theorem dX3_readPeriod_71 : decode cX3_readPeriod 71 = .ok (.aload_n 0, 1) := by decide +kernel
theorem dX3_readPeriod_72 : decode cX3_readPeriod 72 = .ok (.ldc 108, 2) := by decide +kernel
theorem dX3_readPeriod_74 : decode cX3_readPeriod 74 = .ok (.invokevirtual 94, 3) := by decide +kernel
theorem dX3_readPeriod_77 : decode cX3_readPeriod 77 = .ok (.aload_n 0, 1) := by decide +kernel
theorem dX3_readPeriod_78 : decode cX3_readPeriod 78 = .ok (.getfield 21, 3) := by decide +kernel
theorem dX3_readPeriod_81 : decode cX3_readPeriod 81 = .ok (.iload_n 1, 1) := by decide +kernel
theorem dX3_readPeriod_82 : decode cX3_readPeriod 82 = .ok (.iconst 1, 1) := by decide +kernel
theorem dX3_readPeriod_83 : decode cX3_readPeriod 83 = .ok (.aload_n 0, 1) := by decide +kernel
theorem dX3_readPeriod_84 : decode cX3_readPeriod 84 = .ok (.iconst 1, 1) := by decide +kernel
theorem dX3_readPeriod_85 : decode cX3_readPeriod 85 = .ok (.ldc 110, 2) := by decide +kernel
theorem dX3_readPeriod_87 : decode cX3_readPeriod 87 = .ok (.invokevirtual 100, 3) := by decide +kernel
theorem dX3_readPeriod_90 : decode cX3_readPeriod 90 = .ok (.invokevirtual 104, 3) := by decide +kernel
theorem dX3_readPeriod_93 : decode cX3_readPeriod 93 = .ok (.aload_n 0, 1) := by decide +kernel
theorem dX3_readPeriod_94 : decode cX3_readPeriod 94 = .ok (.getfield 21, 3) := by decide +kernel
theorem dX3_readPeriod_97 : decode cX3_readPeriod 97 = .ok (.iload_n 1, 1) := by decide +kernel
theorem dX3_readPeriod_98 : decode cX3_readPeriod 98 = .ok (.iconst 2, 1) := by decide +kernel
theorem dX3_readPeriod_99 : decode cX3_readPeriod 99 = .ok (.aload_n 0, 1) := by decide +kernel
theorem dX3_readPeriod_100 : decode cX3_readPeriod 100 = .ok (.ldc 111, 2) := by decide +kernel
theorem dX3_readPeriod_102 : decode cX3_readPeriod 102 = .ok (.invokevirtual 113, 3) := by decide +kernel
theorem dX3_readPeriod_105 : decode cX3_readPeriod 105 = .ok (.invokevirtual 104, 3) := by decide +kernel
theorem dX3_readPeriod_108 : decode cX3_readPeriod 108 = .ok (.aload_n 0, 1) := by decide +kernel
theorem dX3_readPeriod_109 : decode cX3_readPeriod 109 = .ok (.getfield 21, 3) := by decide +kernel
theorem dX3_readPeriod_112 : decode cX3_readPeriod 112 = .ok (.iload_n 1, 1) := by decide +kernel
theorem dX3_readPeriod_113 : decode cX3_readPeriod 113 = .ok (.iconst 3, 1) := by decide +kernel
theorem dX3_readPeriod_114 : decode cX3_readPeriod 114 = .ok (.aload_n 0, 1) := by decide +kernel
theorem dX3_readPeriod_115 : decode cX3_readPeriod 115 = .ok (.ldc 117, 2) := by decide +kernel
theorem dX3_readPeriod_117 : decode cX3_readPeriod 117 = .ok (.invokevirtual 113, 3) := by decide +kernel
theorem dX3_readPeriod_120 : decode cX3_readPeriod 120 = .ok (.invokevirtual 104, 3) := by decide +kernel
theorem dX3_readPeriod_123 : decode cX3_readPeriod 123 = .ok (.aload_n 0, 1) := by decide +kernel
theorem dX3_readPeriod_124 : decode cX3_readPeriod 124 = .ok (.getfield 21, 3) := by decide +kernel
theorem dX3_readPeriod_127 : decode cX3_readPeriod 127 = .ok (.iload_n 1, 1) := by decide +kernel
theorem dX3_readPeriod_128 : decode cX3_readPeriod 128 = .ok (.iconst 4, 1) := by decide +kernel
theorem dX3_readPeriod_129 : decode cX3_readPeriod 129 = .ok (.aload_n 0, 1) := by decide +kernel
theorem dX3_readPeriod_130 : decode cX3_readPeriod 130 = .ok (.ldc 119, 2) := by decide +kernel
theorem dX3_readPeriod_132 : decode cX3_readPeriod 132 = .ok (.invokevirtual 113, 3) := by decide +kernel
theorem dX3_readPeriod_135 : decode cX3_readPeriod 135 = .ok (.invokevirtual 104, 3) := by decide +kernel
theorem dX3_readPeriod_138 : decode cX3_readPeriod 138 = .ok (.aload_n 0, 1) := by decide +kernel
theorem dX3_readPeriod_139 : decode cX3_readPeriod 139 = .ok (.invokevirtual 121, 3) := by decide +kernel
theorem dX3_readPeriod_142 : decode cX3_readPeriod 142 = .ok (.aload_n 0, 1) := by decide +kernel
theorem dX3_readPeriod_143 : decode cX3_readPeriod 143 = .ok (.getfield 21, 3) := by decide +kernel
theorem dX3_readPeriod_146 : decode cX3_readPeriod 146 = .ok (.dup, 1) := by decide +kernel
theorem dX3_readPeriod_147 : decode cX3_readPeriod 147 = .ok (.getfield 87, 3) := by decide +kernel
theorem dX3_readPeriod_150 : decode cX3_readPeriod 150 = .ok (.iconst 1, 1) := by decide +kernel
theorem dX3_readPeriod_151 : decode cX3_readPeriod 151 = .ok (.iadd, 1) := by decide +kernel
theorem dX3_readPeriod_152 : decode cX3_readPeriod 152 = .ok (.putfield 87, 3) := by decide +kernel
theorem dX3_readPeriod_155 : decode cX3_readPeriod 155 = .ok (.return_, 1) := by decide +kernel
theorem dX3_readExtra_0 : decode cX3_readExtra 0 = .ok (.aload_n 0, 1) := by decide +kernel
theorem dX3_readExtra_1 : decode cX3_readExtra 1 = .ok (.aload_n 0, 1) := by decide +kernel
theorem dX3_readExtra_2 : decode cX3_readExtra 2 = .ok (.getfield 21, 3) := by decide +kernel
theorem dX3_readExtra_5 : decode cX3_readExtra 5 = .ok (.getfield 124, 3) := by decide +kernel
theorem dX3_readExtra_8 : decode cX3_readExtra 8 = .ok (.ifCond .eq 7, 3) := by decide +kernel
theorem dX3_readExtra_11 : decode cX3_readExtra 11 = .ok (.iconst 1, 1) := by decide +kernel
theorem dX3_readExtra_12 : decode cX3_readExtra 12 = .ok (.goto 4, 3) := by decide +kernel
theorem dX3_readExtra_15 : decode cX3_readExtra 15 = .ok (.iconst 0, 1) := by decide +kernel
theorem dX3_readExtra_16 : decode cX3_readExtra 16 = .ok (.invokevirtual 127, 3) := by decide +kernel
theorem dX3_readExtra_19 : decode cX3_readExtra 19 = .ok (.aload_n 0, 1) := by decide +kernel
theorem dX3_readExtra_20 : decode cX3_readExtra 20 = .ok (.ldc 57, 2) := by decide +kernel
theorem dX3_readExtra_22 : decode cX3_readExtra 22 = .ok (.invokevirtual 94, 3) := by decide +kernel
theorem dX3_readExtra_25 : decode cX3_readExtra 25 = .ok (.aload_n 0, 1) := by decide +kernel
theorem dX3_readExtra_26 : decode cX3_readExtra 26 = .ok (.getfield 21, 3) := by decide +kernel
theorem dX3_readExtra_29 : decode cX3_readExtra 29 = .ok (.aload_n 0, 1) := by decide +kernel
theorem dX3_readExtra_30 : decode cX3_readExtra 30 = .ok (.iconst 1, 1) := by decide +kernel
theorem dX3_readExtra_31 : decode cX3_readExtra 31 = .ok (.bipush 9, 2) := by decide +kernel
theorem dX3_readExtra_33 : decode cX3_readExtra 33 = .ok (.invokevirtual 100, 3) := by decide +kernel
theorem dX3_readExtra_36 : decode cX3_readExtra 36 = .ok (.putfield 124, 3) := by decide +kernel
theorem dX3_readExtra_39 : decode cX3_readExtra 39 = .ok (.aload_n 0, 1) := by decide +kernel
theorem dX3_readExtra_40 : decode cX3_readExtra 40 = .ok (.ldc 108, 2) := by decide +kernel
theorem dX3_readExtra_42 : decode cX3_readExtra 42 = .ok (.invokevirtual 94, 3) := by decide +kernel
theorem dX3_readExtra_45 : decode cX3_readExtra 45 = .ok (.aload_n 0, 1) := by decide +kernel
theorem dX3_readExtra_46 : decode cX3_readExtra 46 = .ok (.getfield 21, 3) := by decide +kernel
theorem dX3_readExtra_49 : decode cX3_readExtra 49 = .ok (.aload_n 0, 1) := by decide +kernel
theorem dX3_readExtra_50 : decode cX3_readExtra 50 = .ok (.iconst 1, 1) := by decide +kernel
theorem dX3_readExtra_51 : decode cX3_readExtra 51 = .ok (.sipush 9999, 3) := by decide +kernel
theorem dX3_readExtra_54 : decode cX3_readExtra 54 = .ok (.invokevirtual 100, 3) := by decide +kernel
theorem dX3_readExtra_57 : decode cX3_readExtra 57 = .ok (.putfield 131, 3) := by decide +kernel
theorem dX3_readExtra_60 : decode cX3_readExtra 60 = .ok (.aload_n 0, 1) := by decide +kernel
theorem dX3_readExtra_61 : decode cX3_readExtra 61 = .ok (.invokevirtual 121, 3) := by decide +kernel
theorem dX3_readExtra_64 : decode cX3_readExtra 64 = .ok (.return_, 1) := by decide +kernel
theorem dX3_readSession_0 : decode cX3_readSession 0 = .ok (.aload_n 0, 1) := by decide +kernel
theorem dX3_readSession_1 : decode cX3_readSession 1 = .ok (.aload_n 0, 1) := by decide +kernel
theorem dX3_readSession_2 : decode cX3_readSession 2 = .ok (.getfield 21, 3) := by decide +kernel
theorem dX3_readSession_5 : decode cX3_readSession 5 = .ok (.getfield 134, 3) := by decide +kernel
theorem dX3_readSession_8 : decode cX3_readSession 8 = .ok (.iconst (-1), 1) := by decide +kernel
theorem dX3_readSession_9 : decode cX3_readSession 9 = .ok (.if_icmp .eq 7, 3) := by decide +kernel
theorem dX3_readSession_12 : decode cX3_readSession 12 = .ok (.iconst 1, 1) := by decide +kernel
theorem dX3_readSession_13 : decode cX3_readSession 13 = .ok (.goto 4, 3) := by decide +kernel
theorem dX3_readSession_16 : decode cX3_readSession 16 = .ok (.iconst 0, 1) := by decide +kernel
theorem dX3_readSession_17 : decode cX3_readSession 17 = .ok (.invokevirtual 127, 3) := by decide +kernel
theorem dX3_readSession_20 : decode cX3_readSession 20 = .ok (.aload_n 0, 1) := by decide +kernel
theorem dX3_readSession_21 : decode cX3_readSession 21 = .ok (.ldc 62, 2) := by decide +kernel
theorem dX3_readSession_23 : decode cX3_readSession 23 = .ok (.invokevirtual 94, 3) := by decide +kernel
theorem dX3_readSession_26 : decode cX3_readSession 26 = .ok (.aload_n 0, 1) := by decide +kernel
theorem dX3_readSession_27 : decode cX3_readSession 27 = .ok (.getfield 21, 3) := by decide +kernel
theorem dX3_readSession_30 : decode cX3_readSession 30 = .ok (.aload_n 0, 1) := by decide +kernel
theorem dX3_readSession_31 : decode cX3_readSession 31 = .ok (.iconst 1, 1) := by decide +kernel
theorem dX3_readSession_32 : decode cX3_readSession 32 = .ok (.ldc 110, 2) := by decide +kernel
theorem dX3_readSession_34 : decode cX3_readSession 34 = .ok (.invokevirtual 100, 3) := by decide +kernel
theorem dX3_readSession_37 : decode cX3_readSession 37 = .ok (.putfield 134, 3) := by decide +kernel
theorem dX3_readSession_40 : decode cX3_readSession 40 = .ok (.aload_n 0, 1) := by decide +kernel
theorem dX3_readSession_41 : decode cX3_readSession 41 = .ok (.invokevirtual 121, 3) := by decide +kernel
theorem dX3_readSession_44 : decode cX3_readSession 44 = .ok (.return_, 1) := by decide +kernel
theorem dX3_readHand_0 : decode cX3_readHand 0 = .ok (.aload_n 0, 1) := by decide +kernel
theorem dX3_readHand_1 : decode cX3_readHand 1 = .ok (.aload_n 0, 1) := by decide +kernel
theorem dX3_readHand_2 : decode cX3_readHand 2 = .ok (.getfield 25, 3) := by decide +kernel
theorem dX3_readHand_5 : decode cX3_readHand 5 = .ok (.iconst (-1), 1) := by decide +kernel
theorem dX3_readHand_6 : decode cX3_readHand 6 = .ok (.if_icmp .eq 7, 3) := by decide +kernel
theorem dX3_readHand_9 : decode cX3_readHand 9 = .ok (.iconst 1, 1) := by decide +kernel
theorem dX3_readHand_10 : decode cX3_readHand 10 = .ok (.goto 4, 3) := by decide +kernel
theorem dX3_readHand_13 : decode cX3_readHand 13 = .ok (.iconst 0, 1) := by decide +kernel
theorem dX3_readHand_14 : decode cX3_readHand 14 = .ok (.invokevirtual 127, 3) := by decide +kernel
theorem dX3_readHand_17 : decode cX3_readHand 17 = .ok (.aload_n 0, 1) := by decide +kernel
theorem dX3_readHand_18 : decode cX3_readHand 18 = .ok (.ldc 67, 2) := by decide +kernel
theorem dX3_readHand_20 : decode cX3_readHand 20 = .ok (.invokevirtual 94, 3) := by decide +kernel
theorem dX3_readHand_23 : decode cX3_readHand 23 = .ok (.aload_n 0, 1) := by decide +kernel
theorem dX3_readHand_24 : decode cX3_readHand 24 = .ok (.ldc 137, 2) := by decide +kernel
theorem dX3_readHand_26 : decode cX3_readHand 26 = .ok (.invokevirtual 40, 3) := by decide +kernel
theorem dX3_readHand_29 : decode cX3_readHand 29 = .ok (.ifCond .eq 17, 3) := by decide +kernel
theorem dX3_readHand_32 : decode cX3_readHand 32 = .ok (.aload_n 0, 1) := by decide +kernel
theorem dX3_readHand_33 : decode cX3_readHand 33 = .ok (.iconst 0, 1) := by decide +kernel
theorem dX3_readHand_34 : decode cX3_readHand 34 = .ok (.putfield 25, 3) := by decide +kernel
theorem dX3_readHand_37 : decode cX3_readHand 37 = .ok (.aload_n 0, 1) := by decide +kernel
theorem dX3_readHand_38 : decode cX3_readHand 38 = .ok (.ldc 137, 2) := by decide +kernel
theorem dX3_readHand_40 : decode cX3_readHand 40 = .ok (.invokevirtual 94, 3) := by decide +kernel
theorem dX3_readHand_43 : decode cX3_readHand 43 = .ok (.goto 14, 3) := by decide +kernel
theorem dX3_readHand_46 : decode cX3_readHand 46 = .ok (.aload_n 0, 1) := by decide +kernel
theorem dX3_readHand_47 : decode cX3_readHand 47 = .ok (.iconst 1, 1) := by decide +kernel
theorem dX3_readHand_48 : decode cX3_readHand 48 = .ok (.putfield 25, 3) := by decide +kernel
theorem dX3_readHand_51 : decode cX3_readHand 51 = .ok (.aload_n 0, 1) := by decide +kernel
theorem dX3_readHand_52 : decode cX3_readHand 52 = .ok (.ldc 139, 2) := by decide +kernel
theorem dX3_readHand_54 : decode cX3_readHand 54 = .ok (.invokevirtual 94, 3) := by decide +kernel
theorem dX3_readHand_57 : decode cX3_readHand 57 = .ok (.aload_n 0, 1) := by decide +kernel
theorem dX3_readHand_58 : decode cX3_readHand 58 = .ok (.aload_n 0, 1) := by decide +kernel
theorem dX3_readHand_59 : decode cX3_readHand 59 = .ok (.iconst 1, 1) := by decide +kernel
theorem dX3_readHand_60 : decode cX3_readHand 60 = .ok (.sipush 9999, 3) := by decide +kernel
theorem dX3_readHand_63 : decode cX3_readHand 63 = .ok (.invokevirtual 100, 3) := by decide +kernel
theorem dX3_readHand_66 : decode cX3_readHand 66 = .ok (.putfield 81, 3) := by decide +kernel
theorem dX3_readHand_69 : decode cX3_readHand 69 = .ok (.aload_n 0, 1) := by decide +kernel
theorem dX3_readHand_70 : decode cX3_readHand 70 = .ok (.invokevirtual 121, 3) := by decide +kernel
theorem dX3_readHand_73 : decode cX3_readHand 73 = .ok (.return_, 1) := by decide +kernel
theorem dX3_readClaims_0 : decode cX3_readClaims 0 = .ok (.aload_n 0, 1) := by decide +kernel
theorem dX3_readClaims_1 : decode cX3_readClaims 1 = .ok (.aload_n 0, 1) := by decide +kernel
theorem dX3_readClaims_2 : decode cX3_readClaims 2 = .ok (.getfield 78, 3) := by decide +kernel
theorem dX3_readClaims_5 : decode cX3_readClaims 5 = .ok (.invokevirtual 127, 3) := by decide +kernel
theorem dX3_readClaims_8 : decode cX3_readClaims 8 = .ok (.aload_n 0, 1) := by decide +kernel
theorem dX3_readClaims_9 : decode cX3_readClaims 9 = .ok (.ldc 72, 2) := by decide +kernel
theorem dX3_readClaims_11 : decode cX3_readClaims 11 = .ok (.invokevirtual 94, 3) := by decide +kernel
theorem dX3_readClaims_14 : decode cX3_readClaims 14 = .ok (.aload_n 0, 1) := by decide +kernel
theorem dX3_readClaims_15 : decode cX3_readClaims 15 = .ok (.invokevirtual 121, 3) := by decide +kernel
theorem dX3_readClaims_18 : decode cX3_readClaims 18 = .ok (.aload_n 0, 1) := by decide +kernel
theorem dX3_readClaims_19 : decode cX3_readClaims 19 = .ok (.iconst 1, 1) := by decide +kernel
theorem dX3_readClaims_20 : decode cX3_readClaims 20 = .ok (.putfield 78, 3) := by decide +kernel
theorem dX3_readClaims_23 : decode cX3_readClaims 23 = .ok (.return_, 1) := by decide +kernel
theorem dX3_failIf_0 : decode cX3_failIf 0 = .ok (.iload_n 1, 1) := by decide +kernel
theorem dX3_failIf_1 : decode cX3_failIf 1 = .ok (.ifCond .eq 8, 3) := by decide +kernel
theorem dX3_failIf_4 : decode cX3_failIf 4 = .ok (.aload_n 0, 1) := by decide +kernel
theorem dX3_failIf_5 : decode cX3_failIf 5 = .ok (.iconst 3, 1) := by decide +kernel
theorem dX3_failIf_6 : decode cX3_failIf 6 = .ok (.invokevirtual 44, 3) := by decide +kernel
theorem dX3_failIf_9 : decode cX3_failIf 9 = .ok (.return_, 1) := by decide +kernel
theorem dX3_fail_0 : decode cX3_fail 0 = .ok (.aload_n 0, 1) := by decide +kernel
theorem dX3_fail_1 : decode cX3_fail 1 = .ok (.getfield 48, 3) := by decide +kernel
theorem dX3_fail_4 : decode cX3_fail 4 = .ok (.ifCond .ne 16, 3) := by decide +kernel
theorem dX3_fail_7 : decode cX3_fail 7 = .ok (.aload_n 0, 1) := by decide +kernel
theorem dX3_fail_8 : decode cX3_fail 8 = .ok (.iload_n 1, 1) := by decide +kernel
theorem dX3_fail_9 : decode cX3_fail 9 = .ok (.putfield 48, 3) := by decide +kernel
theorem dX3_fail_12 : decode cX3_fail 12 = .ok (.aload_n 0, 1) := by decide +kernel
theorem dX3_fail_13 : decode cX3_fail 13 = .ok (.aload_n 0, 1) := by decide +kernel
theorem dX3_fail_14 : decode cX3_fail 14 = .ok (.getfield 141, 3) := by decide +kernel
theorem dX3_fail_17 : decode cX3_fail 17 = .ok (.putfield 29, 3) := by decide +kernel
theorem dX3_fail_20 : decode cX3_fail 20 = .ok (.return_, 1) := by decide +kernel
theorem dX3_takeWord_0 : decode cX3_takeWord 0 = .ok (.aload_n 0, 1) := by decide +kernel
theorem dX3_takeWord_1 : decode cX3_takeWord 1 = .ok (.aload_n 1, 1) := by decide +kernel
theorem dX3_takeWord_2 : decode cX3_takeWord 2 = .ok (.invokevirtual 40, 3) := by decide +kernel
theorem dX3_takeWord_5 : decode cX3_takeWord 5 = .ok (.ifCond .ne 8, 3) := by decide +kernel
theorem dX3_takeWord_8 : decode cX3_takeWord 8 = .ok (.aload_n 0, 1) := by decide +kernel
theorem dX3_takeWord_9 : decode cX3_takeWord 9 = .ok (.iconst 1, 1) := by decide +kernel
theorem dX3_takeWord_10 : decode cX3_takeWord 10 = .ok (.invokevirtual 44, 3) := by decide +kernel
theorem dX3_takeWord_13 : decode cX3_takeWord 13 = .ok (.aload_n 0, 1) := by decide +kernel
theorem dX3_takeWord_14 : decode cX3_takeWord 14 = .ok (.getfield 48, 3) := by decide +kernel
theorem dX3_takeWord_17 : decode cX3_takeWord 17 = .ok (.ifCond .ne 7, 3) := by decide +kernel
theorem dX3_takeWord_20 : decode cX3_takeWord 20 = .ok (.aload_n 0, 1) := by decide +kernel
theorem dX3_takeWord_21 : decode cX3_takeWord 21 = .ok (.invokevirtual 35, 3) := by decide +kernel
theorem dX3_takeWord_24 : decode cX3_takeWord 24 = .ok (.return_, 1) := by decide +kernel
theorem dX3_takeSemicolon_0 : decode cX3_takeSemicolon 0 = .ok (.aload_n 0, 1) := by decide +kernel
theorem dX3_takeSemicolon_1 : decode cX3_takeSemicolon 1 = .ok (.getfield 51, 3) := by decide +kernel
theorem dX3_takeSemicolon_4 : decode cX3_takeSemicolon 4 = .ok (.iconst 4, 1) := by decide +kernel
theorem dX3_takeSemicolon_5 : decode cX3_takeSemicolon 5 = .ok (.if_icmp .ne 12, 3) := by decide +kernel
theorem dX3_takeSemicolon_8 : decode cX3_takeSemicolon 8 = .ok (.aload_n 0, 1) := by decide +kernel
theorem dX3_takeSemicolon_9 : decode cX3_takeSemicolon 9 = .ok (.getfield 144, 3) := by decide +kernel
theorem dX3_takeSemicolon_12 : decode cX3_takeSemicolon 12 = .ok (.bipush 59, 2) := by decide +kernel
theorem dX3_takeSemicolon_14 : decode cX3_takeSemicolon 14 = .ok (.if_icmp .eq 8, 3) := by decide +kernel
theorem dX3_takeSemicolon_17 : decode cX3_takeSemicolon 17 = .ok (.aload_n 0, 1) := by decide +kernel
theorem dX3_takeSemicolon_18 : decode cX3_takeSemicolon 18 = .ok (.iconst 1, 1) := by decide +kernel
theorem dX3_takeSemicolon_19 : decode cX3_takeSemicolon 19 = .ok (.invokevirtual 44, 3) := by decide +kernel
theorem dX3_takeSemicolon_22 : decode cX3_takeSemicolon 22 = .ok (.aload_n 0, 1) := by decide +kernel
theorem dX3_takeSemicolon_23 : decode cX3_takeSemicolon 23 = .ok (.getfield 48, 3) := by decide +kernel
theorem dX3_takeSemicolon_26 : decode cX3_takeSemicolon 26 = .ok (.ifCond .ne 7, 3) := by decide +kernel
theorem dX3_takeSemicolon_29 : decode cX3_takeSemicolon 29 = .ok (.aload_n 0, 1) := by decide +kernel
theorem dX3_takeSemicolon_30 : decode cX3_takeSemicolon 30 = .ok (.invokevirtual 35, 3) := by decide +kernel
theorem dX3_takeSemicolon_33 : decode cX3_takeSemicolon 33 = .ok (.return_, 1) := by decide +kernel
theorem dX3_takeNumber_0 : decode cX3_takeNumber 0 = .ok (.aload_n 0, 1) := by decide +kernel
theorem dX3_takeNumber_1 : decode cX3_takeNumber 1 = .ok (.getfield 51, 3) := by decide +kernel
theorem dX3_takeNumber_4 : decode cX3_takeNumber 4 = .ok (.iconst 3, 1) := by decide +kernel
theorem dX3_takeNumber_5 : decode cX3_takeNumber 5 = .ok (.if_icmp .eq 11, 3) := by decide +kernel
theorem dX3_takeNumber_8 : decode cX3_takeNumber 8 = .ok (.aload_n 0, 1) := by decide +kernel
theorem dX3_takeNumber_9 : decode cX3_takeNumber 9 = .ok (.iconst 1, 1) := by decide +kernel
theorem dX3_takeNumber_10 : decode cX3_takeNumber 10 = .ok (.invokevirtual 44, 3) := by decide +kernel
theorem dX3_takeNumber_13 : decode cX3_takeNumber 13 = .ok (.goto 24, 3) := by decide +kernel
theorem dX3_takeNumber_16 : decode cX3_takeNumber 16 = .ok (.aload_n 0, 1) := by decide +kernel
theorem dX3_takeNumber_17 : decode cX3_takeNumber 17 = .ok (.getfield 144, 3) := by decide +kernel
theorem dX3_takeNumber_20 : decode cX3_takeNumber 20 = .ok (.iload_n 1, 1) := by decide +kernel
theorem dX3_takeNumber_21 : decode cX3_takeNumber 21 = .ok (.if_icmp .lt 11, 3) := by decide +kernel
theorem dX3_takeNumber_24 : decode cX3_takeNumber 24 = .ok (.aload_n 0, 1) := by decide +kernel
theorem dX3_takeNumber_25 : decode cX3_takeNumber 25 = .ok (.getfield 144, 3) := by decide +kernel
theorem dX3_takeNumber_28 : decode cX3_takeNumber 28 = .ok (.iload_n 2, 1) := by decide +kernel
theorem dX3_takeNumber_29 : decode cX3_takeNumber 29 = .ok (.if_icmp .le 8, 3) := by decide +kernel
theorem dX3_takeNumber_32 : decode cX3_takeNumber 32 = .ok (.aload_n 0, 1) := by decide +kernel
theorem dX3_takeNumber_33 : decode cX3_takeNumber 33 = .ok (.iconst 2, 1) := by decide +kernel
theorem dX3_takeNumber_34 : decode cX3_takeNumber 34 = .ok (.invokevirtual 44, 3) := by decide +kernel
theorem dX3_takeNumber_37 : decode cX3_takeNumber 37 = .ok (.aload_n 0, 1) := by decide +kernel
theorem dX3_takeNumber_38 : decode cX3_takeNumber 38 = .ok (.getfield 48, 3) := by decide +kernel
theorem dX3_takeNumber_41 : decode cX3_takeNumber 41 = .ok (.ifCond .eq 5, 3) := by decide +kernel
theorem dX3_takeNumber_44 : decode cX3_takeNumber 44 = .ok (.iconst 0, 1) := by decide +kernel
theorem dX3_takeNumber_45 : decode cX3_takeNumber 45 = .ok (.ireturn, 1) := by decide +kernel
theorem dX3_takeNumber_46 : decode cX3_takeNumber 46 = .ok (.aload_n 0, 1) := by decide +kernel
theorem dX3_takeNumber_47 : decode cX3_takeNumber 47 = .ok (.getfield 144, 3) := by decide +kernel
theorem dX3_takeNumber_50 : decode cX3_takeNumber 50 = .ok (.istore_n 3, 1) := by decide +kernel
theorem dX3_takeNumber_51 : decode cX3_takeNumber 51 = .ok (.aload_n 0, 1) := by decide +kernel
theorem dX3_takeNumber_52 : decode cX3_takeNumber 52 = .ok (.invokevirtual 35, 3) := by decide +kernel
theorem dX3_takeNumber_55 : decode cX3_takeNumber 55 = .ok (.iload_n 3, 1) := by decide +kernel
theorem dX3_takeNumber_56 : decode cX3_takeNumber 56 = .ok (.ireturn, 1) := by decide +kernel
theorem dX3_takeOption_0 : decode cX3_takeOption 0 = .ok (.aload_n 0, 1) := by decide +kernel
theorem dX3_takeOption_1 : decode cX3_takeOption 1 = .ok (.getfield 48, 3) := by decide +kernel
theorem dX3_takeOption_4 : decode cX3_takeOption 4 = .ok (.ifCond .ne 11, 3) := by decide +kernel
theorem dX3_takeOption_7 : decode cX3_takeOption 7 = .ok (.aload_n 0, 1) := by decide +kernel
theorem dX3_takeOption_8 : decode cX3_takeOption 8 = .ok (.aload_n 1, 1) := by decide +kernel
theorem dX3_takeOption_9 : decode cX3_takeOption 9 = .ok (.invokevirtual 40, 3) := by decide +kernel
theorem dX3_takeOption_12 : decode cX3_takeOption 12 = .ok (.ifCond .ne 5, 3) := by decide +kernel
theorem dX3_takeOption_15 : decode cX3_takeOption 15 = .ok (.iconst 0, 1) := by decide +kernel
theorem dX3_takeOption_16 : decode cX3_takeOption 16 = .ok (.ireturn, 1) := by decide +kernel
theorem dX3_takeOption_17 : decode cX3_takeOption 17 = .ok (.aload_n 0, 1) := by decide +kernel
theorem dX3_takeOption_18 : decode cX3_takeOption 18 = .ok (.aload_n 1, 1) := by decide +kernel
theorem dX3_takeOption_19 : decode cX3_takeOption 19 = .ok (.invokevirtual 94, 3) := by decide +kernel
theorem dX3_takeOption_22 : decode cX3_takeOption 22 = .ok (.aload_n 0, 1) := by decide +kernel
theorem dX3_takeOption_23 : decode cX3_takeOption 23 = .ok (.iconst 0, 1) := by decide +kernel
theorem dX3_takeOption_24 : decode cX3_takeOption 24 = .ok (.sipush 999, 3) := by decide +kernel
theorem dX3_takeOption_27 : decode cX3_takeOption 27 = .ok (.invokevirtual 100, 3) := by decide +kernel
theorem dX3_takeOption_30 : decode cX3_takeOption 30 = .ok (.ireturn, 1) := by decide +kernel
theorem dX3_isWord_0 : decode cX3_isWord 0 = .ok (.aload_n 0, 1) := by decide +kernel
theorem dX3_isWord_1 : decode cX3_isWord 1 = .ok (.getfield 51, 3) := by decide +kernel
theorem dX3_isWord_4 : decode cX3_isWord 4 = .ok (.iconst 2, 1) := by decide +kernel
theorem dX3_isWord_5 : decode cX3_isWord 5 = .ok (.if_icmp .ne 19, 3) := by decide +kernel
theorem dX3_isWord_8 : decode cX3_isWord 8 = .ok (.aload_n 0, 1) := by decide +kernel
theorem dX3_isWord_9 : decode cX3_isWord 9 = .ok (.getfield 84, 3) := by decide +kernel
theorem dX3_isWord_12 : decode cX3_isWord 12 = .ok (.aload_n 0, 1) := by decide +kernel
theorem dX3_isWord_13 : decode cX3_isWord 13 = .ok (.getfield 141, 3) := by decide +kernel
theorem dX3_isWord_16 : decode cX3_isWord 16 = .ok (.isub, 1) := by decide +kernel
theorem dX3_isWord_17 : decode cX3_isWord 17 = .ok (.aload_n 1, 1) := by decide +kernel
theorem dX3_isWord_18 : decode cX3_isWord 18 = .ok (.invokevirtual 147, 3) := by decide +kernel
theorem dX3_isWord_21 : decode cX3_isWord 21 = .ok (.if_icmp .eq 5, 3) := by decide +kernel
theorem dX3_isWord_24 : decode cX3_isWord 24 = .ok (.iconst 0, 1) := by decide +kernel
theorem dX3_isWord_25 : decode cX3_isWord 25 = .ok (.ireturn, 1) := by decide +kernel
theorem dX3_isWord_26 : decode cX3_isWord 26 = .ok (.iconst 0, 1) := by decide +kernel
theorem dX3_isWord_27 : decode cX3_isWord 27 = .ok (.istore_n 2, 1) := by decide +kernel
theorem dX3_isWord_28 : decode cX3_isWord 28 = .ok (.iload_n 2, 1) := by decide +kernel
theorem dX3_isWord_29 : decode cX3_isWord 29 = .ok (.aload_n 1, 1) := by decide +kernel
theorem dX3_isWord_30 : decode cX3_isWord 30 = .ok (.invokevirtual 147, 3) := by decide +kernel
theorem dX3_isWord_33 : decode cX3_isWord 33 = .ok (.if_icmp .ge 32, 3) := by decide +kernel
theorem dX3_isWord_36 : decode cX3_isWord 36 = .ok (.aload_n 0, 1) := by decide +kernel
theorem dX3_isWord_37 : decode cX3_isWord 37 = .ok (.getfield 12, 3) := by decide +kernel
theorem dX3_isWord_40 : decode cX3_isWord 40 = .ok (.aload_n 0, 1) := by decide +kernel
theorem dX3_isWord_41 : decode cX3_isWord 41 = .ok (.getfield 141, 3) := by decide +kernel
theorem dX3_isWord_44 : decode cX3_isWord 44 = .ok (.iload_n 2, 1) := by decide +kernel
theorem dX3_isWord_45 : decode cX3_isWord 45 = .ok (.iadd, 1) := by decide +kernel
theorem dX3_isWord_46 : decode cX3_isWord 46 = .ok (.invokevirtual 153, 3) := by decide +kernel
theorem dX3_isWord_49 : decode cX3_isWord 49 = .ok (.aload_n 1, 1) := by decide +kernel
theorem dX3_isWord_50 : decode cX3_isWord 50 = .ok (.iload_n 2, 1) := by decide +kernel
theorem dX3_isWord_51 : decode cX3_isWord 51 = .ok (.invokevirtual 157, 3) := by decide +kernel
theorem dX3_isWord_54 : decode cX3_isWord 54 = .ok (.if_icmp .eq 5, 3) := by decide +kernel
theorem dX3_isWord_57 : decode cX3_isWord 57 = .ok (.iconst 0, 1) := by decide +kernel
theorem dX3_isWord_58 : decode cX3_isWord 58 = .ok (.ireturn, 1) := by decide +kernel
theorem dX3_isWord_59 : decode cX3_isWord 59 = .ok (.iinc 2 1, 3) := by decide +kernel
theorem dX3_isWord_62 : decode cX3_isWord 62 = .ok (.goto (-34), 3) := by decide +kernel
theorem dX3_isWord_65 : decode cX3_isWord 65 = .ok (.iconst 1, 1) := by decide +kernel
theorem dX3_isWord_66 : decode cX3_isWord 66 = .ok (.ireturn, 1) := by decide +kernel
theorem dX3_readToken_0 : decode cX3_readToken 0 = .ok (.aload_n 0, 1) := by decide +kernel
theorem dX3_readToken_1 : decode cX3_readToken 1 = .ok (.aload_n 0, 1) := by decide +kernel
theorem dX3_readToken_2 : decode cX3_readToken 2 = .ok (.getfield 84, 3) := by decide +kernel
theorem dX3_readToken_5 : decode cX3_readToken 5 = .ok (.putfield 141, 3) := by decide +kernel
theorem dX3_readToken_8 : decode cX3_readToken 8 = .ok (.aload_n 0, 1) := by decide +kernel
theorem dX3_readToken_9 : decode cX3_readToken 9 = .ok (.getfield 141, 3) := by decide +kernel
theorem dX3_readToken_12 : decode cX3_readToken 12 = .ok (.aload_n 0, 1) := by decide +kernel
theorem dX3_readToken_13 : decode cX3_readToken 13 = .ok (.getfield 12, 3) := by decide +kernel
theorem dX3_readToken_16 : decode cX3_readToken 16 = .ok (.getfield 161, 3) := by decide +kernel
theorem dX3_readToken_19 : decode cX3_readToken 19 = .ok (.if_icmp .ge 34, 3) := by decide +kernel
theorem dX3_readToken_22 : decode cX3_readToken 22 = .ok (.aload_n 0, 1) := by decide +kernel
theorem dX3_readToken_23 : decode cX3_readToken 23 = .ok (.getfield 12, 3) := by decide +kernel
theorem dX3_readToken_26 : decode cX3_readToken 26 = .ok (.aload_n 0, 1) := by decide +kernel
theorem dX3_readToken_27 : decode cX3_readToken 27 = .ok (.getfield 141, 3) := by decide +kernel
theorem dX3_readToken_30 : decode cX3_readToken 30 = .ok (.invokevirtual 153, 3) := by decide +kernel
theorem dX3_readToken_33 : decode cX3_readToken 33 = .ok (.invokestatic 163, 3) := by decide +kernel
theorem dX3_readToken_36 : decode cX3_readToken 36 = .ok (.iconst 1, 1) := by decide +kernel
theorem dX3_readToken_37 : decode cX3_readToken 37 = .ok (.if_icmp .ne 16, 3) := by decide +kernel
theorem dX3_readToken_40 : decode cX3_readToken 40 = .ok (.aload_n 0, 1) := by decide +kernel
theorem dX3_readToken_41 : decode cX3_readToken 41 = .ok (.dup, 1) := by decide +kernel
theorem dX3_readToken_42 : decode cX3_readToken 42 = .ok (.getfield 141, 3) := by decide +kernel
theorem dX3_readToken_45 : decode cX3_readToken 45 = .ok (.iconst 1, 1) := by decide +kernel
theorem dX3_readToken_46 : decode cX3_readToken 46 = .ok (.iadd, 1) := by decide +kernel
theorem dX3_readToken_47 : decode cX3_readToken 47 = .ok (.putfield 141, 3) := by decide +kernel
theorem dX3_readToken_50 : decode cX3_readToken 50 = .ok (.goto (-42), 3) := by decide +kernel
theorem dX3_readToken_53 : decode cX3_readToken 53 = .ok (.aload_n 0, 1) := by decide +kernel
theorem dX3_readToken_54 : decode cX3_readToken 54 = .ok (.aload_n 0, 1) := by decide +kernel
theorem dX3_readToken_55 : decode cX3_readToken 55 = .ok (.getfield 141, 3) := by decide +kernel
theorem dX3_readToken_58 : decode cX3_readToken 58 = .ok (.putfield 84, 3) := by decide +kernel
theorem dX3_readToken_61 : decode cX3_readToken 61 = .ok (.aload_n 0, 1) := by decide +kernel
theorem dX3_readToken_62 : decode cX3_readToken 62 = .ok (.iconst 0, 1) := by decide +kernel
theorem dX3_readToken_63 : decode cX3_readToken 63 = .ok (.putfield 144, 3) := by decide +kernel
theorem dX3_readToken_66 : decode cX3_readToken 66 = .ok (.aload_n 0, 1) := by decide +kernel
theorem dX3_readToken_67 : decode cX3_readToken 67 = .ok (.getfield 141, 3) := by decide +kernel
theorem dX3_readToken_70 : decode cX3_readToken 70 = .ok (.aload_n 0, 1) := by decide +kernel
theorem dX3_readToken_71 : decode cX3_readToken 71 = .ok (.getfield 12, 3) := by decide +kernel
theorem dX3_readToken_74 : decode cX3_readToken 74 = .ok (.getfield 161, 3) := by decide +kernel
theorem dX3_readToken_77 : decode cX3_readToken 77 = .ok (.if_icmp .lt 9, 3) := by decide +kernel
theorem dX3_readToken_80 : decode cX3_readToken 80 = .ok (.aload_n 0, 1) := by decide +kernel
theorem dX3_readToken_81 : decode cX3_readToken 81 = .ok (.iconst 0, 1) := by decide +kernel
theorem dX3_readToken_82 : decode cX3_readToken 82 = .ok (.putfield 51, 3) := by decide +kernel
theorem dX3_readToken_85 : decode cX3_readToken 85 = .ok (.return_, 1) := by decide +kernel
theorem dX3_readToken_86 : decode cX3_readToken 86 = .ok (.aload_n 0, 1) := by decide +kernel
theorem dX3_readToken_87 : decode cX3_readToken 87 = .ok (.aload_n 0, 1) := by decide +kernel
theorem dX3_readToken_88 : decode cX3_readToken 88 = .ok (.getfield 12, 3) := by decide +kernel
theorem dX3_readToken_91 : decode cX3_readToken 91 = .ok (.aload_n 0, 1) := by decide +kernel
theorem dX3_readToken_92 : decode cX3_readToken 92 = .ok (.getfield 141, 3) := by decide +kernel
theorem dX3_readToken_95 : decode cX3_readToken 95 = .ok (.invokevirtual 153, 3) := by decide +kernel
theorem dX3_readToken_98 : decode cX3_readToken 98 = .ok (.invokestatic 163, 3) := by decide +kernel
theorem dX3_readToken_101 : decode cX3_readToken 101 = .ok (.putfield 51, 3) := by decide +kernel
theorem dX3_readToken_104 : decode cX3_readToken 104 = .ok (.aload_n 0, 1) := by decide +kernel
theorem dX3_readToken_105 : decode cX3_readToken 105 = .ok (.getfield 51, 3) := by decide +kernel
theorem dX3_readToken_108 : decode cX3_readToken 108 = .ok (.iconst 4, 1) := by decide +kernel
theorem dX3_readToken_109 : decode cX3_readToken 109 = .ok (.if_icmp .ne 29, 3) := by decide +kernel
theorem dX3_readToken_112 : decode cX3_readToken 112 = .ok (.aload_n 0, 1) := by decide +kernel
theorem dX3_readToken_113 : decode cX3_readToken 113 = .ok (.aload_n 0, 1) := by decide +kernel
theorem dX3_readToken_114 : decode cX3_readToken 114 = .ok (.getfield 12, 3) := by decide +kernel
theorem dX3_readToken_117 : decode cX3_readToken 117 = .ok (.aload_n 0, 1) := by decide +kernel
theorem dX3_readToken_118 : decode cX3_readToken 118 = .ok (.getfield 141, 3) := by decide +kernel
theorem dX3_readToken_121 : decode cX3_readToken 121 = .ok (.invokevirtual 153, 3) := by decide +kernel
theorem dX3_readToken_124 : decode cX3_readToken 124 = .ok (.putfield 144, 3) := by decide +kernel
theorem dX3_readToken_127 : decode cX3_readToken 127 = .ok (.aload_n 0, 1) := by decide +kernel
theorem dX3_readToken_128 : decode cX3_readToken 128 = .ok (.aload_n 0, 1) := by decide +kernel
theorem dX3_readToken_129 : decode cX3_readToken 129 = .ok (.getfield 141, 3) := by decide +kernel
theorem dX3_readToken_132 : decode cX3_readToken 132 = .ok (.iconst 1, 1) := by decide +kernel
theorem dX3_readToken_133 : decode cX3_readToken 133 = .ok (.iadd, 1) := by decide +kernel
theorem dX3_readToken_134 : decode cX3_readToken 134 = .ok (.putfield 84, 3) := by decide +kernel
theorem dX3_readToken_137 : decode cX3_readToken 137 = .ok (.return_, 1) := by decide +kernel
theorem dX3_readToken_138 : decode cX3_readToken 138 = .ok (.aload_n 0, 1) := by decide +kernel
theorem dX3_readToken_139 : decode cX3_readToken 139 = .ok (.getfield 84, 3) := by decide +kernel
theorem dX3_readToken_142 : decode cX3_readToken 142 = .ok (.aload_n 0, 1) := by decide +kernel
theorem dX3_readToken_143 : decode cX3_readToken 143 = .ok (.getfield 12, 3) := by decide +kernel
theorem dX3_readToken_146 : decode cX3_readToken 146 = .ok (.getfield 161, 3) := by decide +kernel
theorem dX3_readToken_149 : decode cX3_readToken 149 = .ok (.if_icmp .ge 76, 3) := by decide +kernel
theorem dX3_readToken_152 : decode cX3_readToken 152 = .ok (.aload_n 0, 1) := by decide +kernel
theorem dX3_readToken_153 : decode cX3_readToken 153 = .ok (.getfield 12, 3) := by decide +kernel
theorem dX3_readToken_156 : decode cX3_readToken 156 = .ok (.aload_n 0, 1) := by decide +kernel
theorem dX3_readToken_157 : decode cX3_readToken 157 = .ok (.getfield 84, 3) := by decide +kernel
theorem dX3_readToken_160 : decode cX3_readToken 160 = .ok (.invokevirtual 153, 3) := by decide +kernel
theorem dX3_readToken_163 : decode cX3_readToken 163 = .ok (.invokestatic 163, 3) := by decide +kernel
theorem dX3_readToken_166 : decode cX3_readToken 166 = .ok (.aload_n 0, 1) := by decide +kernel
theorem dX3_readToken_167 : decode cX3_readToken 167 = .ok (.getfield 51, 3) := by decide +kernel
theorem dX3_readToken_170 : decode cX3_readToken 170 = .ok (.if_icmp .ne 55, 3) := by decide +kernel
theorem dX3_readToken_173 : decode cX3_readToken 173 = .ok (.aload_n 0, 1) := by decide +kernel
theorem dX3_readToken_174 : decode cX3_readToken 174 = .ok (.getfield 51, 3) := by decide +kernel
theorem dX3_readToken_177 : decode cX3_readToken 177 = .ok (.iconst 3, 1) := by decide +kernel
theorem dX3_readToken_178 : decode cX3_readToken 178 = .ok (.if_icmp .ne 34, 3) := by decide +kernel
theorem dX3_readToken_181 : decode cX3_readToken 181 = .ok (.aload_n 0, 1) := by decide +kernel
theorem dX3_readToken_182 : decode cX3_readToken 182 = .ok (.bipush 10, 2) := by decide +kernel
theorem dX3_readToken_184 : decode cX3_readToken 184 = .ok (.aload_n 0, 1) := by decide +kernel
theorem dX3_readToken_185 : decode cX3_readToken 185 = .ok (.getfield 144, 3) := by decide +kernel
theorem dX3_readToken_188 : decode cX3_readToken 188 = .ok (.imul, 1) := by decide +kernel
theorem dX3_readToken_189 : decode cX3_readToken 189 = .ok (.aload_n 0, 1) := by decide +kernel
theorem dX3_readToken_190 : decode cX3_readToken 190 = .ok (.getfield 12, 3) := by decide +kernel
theorem dX3_readToken_193 : decode cX3_readToken 193 = .ok (.aload_n 0, 1) := by decide +kernel
theorem dX3_readToken_194 : decode cX3_readToken 194 = .ok (.getfield 84, 3) := by decide +kernel
theorem dX3_readToken_197 : decode cX3_readToken 197 = .ok (.invokevirtual 153, 3) := by decide +kernel
theorem dX3_readToken_200 : decode cX3_readToken 200 = .ok (.iadd, 1) := by decide +kernel
theorem dX3_readToken_201 : decode cX3_readToken 201 = .ok (.bipush 48, 2) := by decide +kernel
theorem dX3_readToken_203 : decode cX3_readToken 203 = .ok (.isub, 1) := by decide +kernel
theorem dX3_readToken_204 : decode cX3_readToken 204 = .ok (.ldc 166, 2) := by decide +kernel
theorem dX3_readToken_206 : decode cX3_readToken 206 = .ok (.invokestatic 167, 3) := by decide +kernel
theorem dX3_readToken_209 : decode cX3_readToken 209 = .ok (.putfield 144, 3) := by decide +kernel
theorem dX3_readToken_212 : decode cX3_readToken 212 = .ok (.aload_n 0, 1) := by decide +kernel
theorem dX3_readToken_213 : decode cX3_readToken 213 = .ok (.dup, 1) := by decide +kernel
theorem dX3_readToken_214 : decode cX3_readToken 214 = .ok (.getfield 84, 3) := by decide +kernel
theorem dX3_readToken_217 : decode cX3_readToken 217 = .ok (.iconst 1, 1) := by decide +kernel
theorem dX3_readToken_218 : decode cX3_readToken 218 = .ok (.iadd, 1) := by decide +kernel
theorem dX3_readToken_219 : decode cX3_readToken 219 = .ok (.putfield 84, 3) := by decide +kernel
theorem dX3_readToken_222 : decode cX3_readToken 222 = .ok (.goto (-84), 3) := by decide +kernel
theorem dX3_readToken_225 : decode cX3_readToken 225 = .ok (.return_, 1) := by decide +kernel
theorem dX3_kindOf_0 : decode cX3_kindOf 0 = .ok (.iload_n 0, 1) := by decide +kernel
theorem dX3_kindOf_1 : decode cX3_kindOf 1 = .ok (.bipush 32, 2) := by decide +kernel
theorem dX3_kindOf_3 : decode cX3_kindOf 3 = .ok (.if_icmp .eq 9, 3) := by decide +kernel
theorem dX3_kindOf_6 : decode cX3_kindOf 6 = .ok (.iload_n 0, 1) := by decide +kernel
theorem dX3_kindOf_7 : decode cX3_kindOf 7 = .ok (.bipush 10, 2) := by decide +kernel
theorem dX3_kindOf_9 : decode cX3_kindOf 9 = .ok (.if_icmp .ne 5, 3) := by decide +kernel
theorem dX3_kindOf_12 : decode cX3_kindOf 12 = .ok (.iconst 1, 1) := by decide +kernel
theorem dX3_kindOf_13 : decode cX3_kindOf 13 = .ok (.ireturn, 1) := by decide +kernel
theorem dX3_kindOf_14 : decode cX3_kindOf 14 = .ok (.iload_n 0, 1) := by decide +kernel
theorem dX3_kindOf_15 : decode cX3_kindOf 15 = .ok (.bipush 97, 2) := by decide +kernel
theorem dX3_kindOf_17 : decode cX3_kindOf 17 = .ok (.if_icmp .lt 11, 3) := by decide +kernel
theorem dX3_kindOf_20 : decode cX3_kindOf 20 = .ok (.iload_n 0, 1) := by decide +kernel
theorem dX3_kindOf_21 : decode cX3_kindOf 21 = .ok (.bipush 122, 2) := by decide +kernel
theorem dX3_kindOf_23 : decode cX3_kindOf 23 = .ok (.if_icmp .gt 5, 3) := by decide +kernel
theorem dX3_kindOf_26 : decode cX3_kindOf 26 = .ok (.iconst 2, 1) := by decide +kernel
theorem dX3_kindOf_27 : decode cX3_kindOf 27 = .ok (.ireturn, 1) := by decide +kernel
theorem dX3_kindOf_28 : decode cX3_kindOf 28 = .ok (.iload_n 0, 1) := by decide +kernel
theorem dX3_kindOf_29 : decode cX3_kindOf 29 = .ok (.bipush 48, 2) := by decide +kernel
theorem dX3_kindOf_31 : decode cX3_kindOf 31 = .ok (.if_icmp .lt 13, 3) := by decide +kernel
theorem dX3_kindOf_34 : decode cX3_kindOf 34 = .ok (.iload_n 0, 1) := by decide +kernel
theorem dX3_kindOf_35 : decode cX3_kindOf 35 = .ok (.bipush 57, 2) := by decide +kernel
theorem dX3_kindOf_37 : decode cX3_kindOf 37 = .ok (.if_icmp .gt 7, 3) := by decide +kernel
theorem dX3_kindOf_40 : decode cX3_kindOf 40 = .ok (.iconst 3, 1) := by decide +kernel
theorem dX3_kindOf_41 : decode cX3_kindOf 41 = .ok (.goto 4, 3) := by decide +kernel
theorem dX3_kindOf_44 : decode cX3_kindOf 44 = .ok (.iconst 4, 1) := by decide +kernel
theorem dX3_kindOf_45 : decode cX3_kindOf 45 = .ok (.ireturn, 1) := by decide +kernel
theorem dX4_init_0 : decode cX4_init 0 = .ok (.aload_n 0, 1) := by decide +kernel
theorem dX4_init_1 : decode cX4_init 1 = .ok (.invokespecial 3, 3) := by decide +kernel
theorem dX4_init_4 : decode cX4_init 4 = .ok (.aload_n 0, 1) := by decide +kernel
theorem dX4_init_5 : decode cX4_init 5 = .ok (.bipush 25, 2) := by decide +kernel
theorem dX4_init_7 : decode cX4_init 7 = .ok (.newarray .int, 2) := by decide +kernel
theorem dX4_init_9 : decode cX4_init 9 = .ok (.putfield 9, 3) := by decide +kernel
theorem dX4_init_12 : decode cX4_init 12 = .ok (.aload_n 0, 1) := by decide +kernel
theorem dX4_init_13 : decode cX4_init 13 = .ok (.iconst (-1), 1) := by decide +kernel
theorem dX4_init_14 : decode cX4_init 14 = .ok (.putfield 15, 3) := by decide +kernel
theorem dX4_init_17 : decode cX4_init 17 = .ok (.return_, 1) := by decide +kernel
theorem dX4_clear_0 : decode cX4_clear 0 = .ok (.aload_n 0, 1) := by decide +kernel
theorem dX4_clear_1 : decode cX4_clear 1 = .ok (.getfield 9, 3) := by decide +kernel
theorem dX4_clear_4 : decode cX4_clear 4 = .ok (.iconst 0, 1) := by decide +kernel
theorem dX4_clear_5 : decode cX4_clear 5 = .ok (.invokestatic 19, 3) := by decide +kernel
theorem dX4_clear_8 : decode cX4_clear 8 = .ok (.aload_n 0, 1) := by decide +kernel
theorem dX4_clear_9 : decode cX4_clear 9 = .ok (.iconst 0, 1) := by decide +kernel
theorem dX4_clear_10 : decode cX4_clear 10 = .ok (.putfield 25, 3) := by decide +kernel
theorem dX4_clear_13 : decode cX4_clear 13 = .ok (.aload_n 0, 1) := by decide +kernel
theorem dX4_clear_14 : decode cX4_clear 14 = .ok (.iconst 0, 1) := by decide +kernel
theorem dX4_clear_15 : decode cX4_clear 15 = .ok (.putfield 28, 3) := by decide +kernel
theorem dX4_clear_18 : decode cX4_clear 18 = .ok (.aload_n 0, 1) := by decide +kernel
theorem dX4_clear_19 : decode cX4_clear 19 = .ok (.iconst 0, 1) := by decide +kernel
theorem dX4_clear_20 : decode cX4_clear 20 = .ok (.putfield 31, 3) := by decide +kernel
theorem dX4_clear_23 : decode cX4_clear 23 = .ok (.aload_n 0, 1) := by decide +kernel
theorem dX4_clear_24 : decode cX4_clear 24 = .ok (.iconst (-1), 1) := by decide +kernel
theorem dX4_clear_25 : decode cX4_clear 25 = .ok (.putfield 15, 3) := by decide +kernel
theorem dX4_clear_28 : decode cX4_clear 28 = .ok (.return_, 1) := by decide +kernel
theorem dX4_copyFrom_0 : decode cX4_copyFrom 0 = .ok (.aload_n 1, 1) := by decide +kernel
theorem dX4_copyFrom_1 : decode cX4_copyFrom 1 = .ok (.getfield 9, 3) := by decide +kernel
theorem dX4_copyFrom_4 : decode cX4_copyFrom 4 = .ok (.aload_n 0, 1) := by decide +kernel
theorem dX4_copyFrom_5 : decode cX4_copyFrom 5 = .ok (.getfield 9, 3) := by decide +kernel
theorem dX4_copyFrom_8 : decode cX4_copyFrom 8 = .ok (.invokestatic 34, 3) := by decide +kernel
theorem dX4_copyFrom_11 : decode cX4_copyFrom 11 = .ok (.aload_n 0, 1) := by decide +kernel
theorem dX4_copyFrom_12 : decode cX4_copyFrom 12 = .ok (.aload_n 1, 1) := by decide +kernel
theorem dX4_copyFrom_13 : decode cX4_copyFrom 13 = .ok (.getfield 25, 3) := by decide +kernel
theorem dX4_copyFrom_16 : decode cX4_copyFrom 16 = .ok (.putfield 25, 3) := by decide +kernel
theorem dX4_copyFrom_19 : decode cX4_copyFrom 19 = .ok (.aload_n 0, 1) := by decide +kernel
theorem dX4_copyFrom_20 : decode cX4_copyFrom 20 = .ok (.aload_n 1, 1) := by decide +kernel
theorem dX4_copyFrom_21 : decode cX4_copyFrom 21 = .ok (.getfield 28, 3) := by decide +kernel
theorem dX4_copyFrom_24 : decode cX4_copyFrom 24 = .ok (.putfield 28, 3) := by decide +kernel
theorem dX4_copyFrom_27 : decode cX4_copyFrom 27 = .ok (.aload_n 0, 1) := by decide +kernel
theorem dX4_copyFrom_28 : decode cX4_copyFrom 28 = .ok (.aload_n 1, 1) := by decide +kernel
theorem dX4_copyFrom_29 : decode cX4_copyFrom 29 = .ok (.getfield 31, 3) := by decide +kernel
theorem dX4_copyFrom_32 : decode cX4_copyFrom 32 = .ok (.putfield 31, 3) := by decide +kernel
theorem dX4_copyFrom_35 : decode cX4_copyFrom 35 = .ok (.aload_n 0, 1) := by decide +kernel
theorem dX4_copyFrom_36 : decode cX4_copyFrom 36 = .ok (.aload_n 1, 1) := by decide +kernel
theorem dX4_copyFrom_37 : decode cX4_copyFrom 37 = .ok (.getfield 15, 3) := by decide +kernel
theorem dX4_copyFrom_40 : decode cX4_copyFrom 40 = .ok (.putfield 15, 3) := by decide +kernel
theorem dX4_copyFrom_43 : decode cX4_copyFrom 43 = .ok (.return_, 1) := by decide +kernel
theorem dX4_number_0 : decode cX4_number 0 = .ok (.iload_n 1, 1) := by decide +kernel
theorem dX4_number_1 : decode cX4_number 1 = .ok (.iconst 5, 1) := by decide +kernel
theorem dX4_number_2 : decode cX4_number 2 = .ok (.imul, 1) := by decide +kernel
theorem dX4_number_3 : decode cX4_number 3 = .ok (.iload_n 2, 1) := by decide +kernel
theorem dX4_number_4 : decode cX4_number 4 = .ok (.iadd, 1) := by decide +kernel
theorem dX4_number_5 : decode cX4_number 5 = .ok (.istore_n 3, 1) := by decide +kernel
theorem dX4_number_6 : decode cX4_number 6 = .ok (.iload_n 3, 1) := by decide +kernel
theorem dX4_number_7 : decode cX4_number 7 = .ok (.ifCond .lt 21, 3) := by decide +kernel
theorem dX4_number_10 : decode cX4_number 10 = .ok (.iload_n 3, 1) := by decide +kernel
theorem dX4_number_11 : decode cX4_number 11 = .ok (.aload_n 0, 1) := by decide +kernel
theorem dX4_number_12 : decode cX4_number 12 = .ok (.getfield 9, 3) := by decide +kernel
theorem dX4_number_15 : decode cX4_number 15 = .ok (.arraylength, 1) := by decide +kernel
theorem dX4_number_16 : decode cX4_number 16 = .ok (.if_icmp .ge 12, 3) := by decide +kernel
theorem dX4_number_19 : decode cX4_number 19 = .ok (.aload_n 0, 1) := by decide +kernel
theorem dX4_number_20 : decode cX4_number 20 = .ok (.getfield 9, 3) := by decide +kernel
theorem dX4_number_23 : decode cX4_number 23 = .ok (.iload_n 3, 1) := by decide +kernel
theorem dX4_number_24 : decode cX4_number 24 = .ok (.iaload, 1) := by decide +kernel
theorem dX4_number_25 : decode cX4_number 25 = .ok (.goto 4, 3) := by decide +kernel
theorem dX4_number_28 : decode cX4_number 28 = .ok (.iconst 0, 1) := by decide +kernel
theorem dX4_number_29 : decode cX4_number 29 = .ok (.ireturn, 1) := by decide +kernel
theorem dX4_setNumber_0 : decode cX4_setNumber 0 = .ok (.aload_n 0, 1) := by decide +kernel
theorem dX4_setNumber_1 : decode cX4_setNumber 1 = .ok (.getfield 9, 3) := by decide +kernel
theorem dX4_setNumber_4 : decode cX4_setNumber 4 = .ok (.iload_n 1, 1) := by decide +kernel
theorem dX4_setNumber_5 : decode cX4_setNumber 5 = .ok (.iconst 5, 1) := by decide +kernel
theorem dX4_setNumber_6 : decode cX4_setNumber 6 = .ok (.imul, 1) := by decide +kernel
theorem dX4_setNumber_7 : decode cX4_setNumber 7 = .ok (.iload_n 2, 1) := by decide +kernel
theorem dX4_setNumber_8 : decode cX4_setNumber 8 = .ok (.iadd, 1) := by decide +kernel
theorem dX4_setNumber_9 : decode cX4_setNumber 9 = .ok (.iload_n 3, 1) := by decide +kernel
theorem dX4_setNumber_10 : decode cX4_setNumber 10 = .ok (.invokestatic 38, 3) := by decide +kernel
theorem dX4_setNumber_13 : decode cX4_setNumber 13 = .ok (.return_, 1) := by decide +kernel
theorem dX4_isEndless_0 : decode cX4_isEndless 0 = .ok (.aload_n 0, 1) := by decide +kernel
theorem dX4_isEndless_1 : decode cX4_isEndless 1 = .ok (.iload_n 1, 1) := by decide +kernel
theorem dX4_isEndless_2 : decode cX4_isEndless 2 = .ok (.iconst 0, 1) := by decide +kernel
theorem dX4_isEndless_3 : decode cX4_isEndless 3 = .ok (.invokevirtual 42, 3) := by decide +kernel
theorem dX4_isEndless_6 : decode cX4_isEndless 6 = .ok (.ifCond .ne 7, 3) := by decide +kernel
theorem dX4_isEndless_9 : decode cX4_isEndless 9 = .ok (.iconst 1, 1) := by decide +kernel
theorem dX4_isEndless_10 : decode cX4_isEndless 10 = .ok (.goto 4, 3) := by decide +kernel
theorem dX4_isEndless_13 : decode cX4_isEndless 13 = .ok (.iconst 0, 1) := by decide +kernel
theorem dX4_isEndless_14 : decode cX4_isEndless 14 = .ok (.ireturn, 1) := by decide +kernel
theorem dX5_init_0 : decode cX5_init 0 = .ok (.aload_n 0, 1) := by decide +kernel
theorem dX5_init_1 : decode cX5_init 1 = .ok (.invokespecial 3, 3) := by decide +kernel
theorem dX5_init_4 : decode cX5_init 4 = .ok (.aload_n 0, 1) := by decide +kernel
theorem dX5_init_5 : decode cX5_init 5 = .ok (.iconst 5, 1) := by decide +kernel
theorem dX5_init_6 : decode cX5_init 6 = .ok (.newarray .int, 2) := by decide +kernel
theorem dX5_init_8 : decode cX5_init 8 = .ok (.putfield 9, 3) := by decide +kernel
theorem dX5_init_11 : decode cX5_init 11 = .ok (.return_, 1) := by decide +kernel
theorem dX5_setUp_0 : decode cX5_setUp 0 = .ok (.aload_n 0, 1) := by decide +kernel
theorem dX5_setUp_1 : decode cX5_setUp 1 = .ok (.getfield 9, 3) := by decide +kernel
theorem dX5_setUp_4 : decode cX5_setUp 4 = .ok (.iconst 0, 1) := by decide +kernel
theorem dX5_setUp_5 : decode cX5_setUp 5 = .ok (.invokestatic 15, 3) := by decide +kernel
theorem dX5_setUp_8 : decode cX5_setUp 8 = .ok (.aload_n 0, 1) := by decide +kernel
theorem dX5_setUp_9 : decode cX5_setUp 9 = .ok (.aload_n 1, 1) := by decide +kernel
theorem dX5_setUp_10 : decode cX5_setUp 10 = .ok (.iconst 0, 1) := by decide +kernel
theorem dX5_setUp_11 : decode cX5_setUp 11 = .ok (.iconst 1, 1) := by decide +kernel
theorem dX5_setUp_12 : decode cX5_setUp 12 = .ok (.invokevirtual 21, 3) := by decide +kernel
theorem dX5_setUp_15 : decode cX5_setUp 15 = .ok (.putfield 27, 3) := by decide +kernel
theorem dX5_setUp_18 : decode cX5_setUp 18 = .ok (.aload_n 0, 1) := by decide +kernel
theorem dX5_setUp_19 : decode cX5_setUp 19 = .ok (.iconst 0, 1) := by decide +kernel
theorem dX5_setUp_20 : decode cX5_setUp 20 = .ok (.putfield 31, 3) := by decide +kernel
theorem dX5_setUp_23 : decode cX5_setUp 23 = .ok (.aload_n 0, 1) := by decide +kernel
theorem dX5_setUp_24 : decode cX5_setUp 24 = .ok (.iconst 0, 1) := by decide +kernel
theorem dX5_setUp_25 : decode cX5_setUp 25 = .ok (.putfield 34, 3) := by decide +kernel
theorem dX5_setUp_28 : decode cX5_setUp 28 = .ok (.aload_n 0, 1) := by decide +kernel
theorem dX5_setUp_29 : decode cX5_setUp 29 = .ok (.iconst 0, 1) := by decide +kernel
theorem dX5_setUp_30 : decode cX5_setUp 30 = .ok (.putfield 37, 3) := by decide +kernel
theorem dX5_setUp_33 : decode cX5_setUp 33 = .ok (.aload_n 0, 1) := by decide +kernel
theorem dX5_setUp_34 : decode cX5_setUp 34 = .ok (.aload_n 1, 1) := by decide +kernel
theorem dX5_setUp_35 : decode cX5_setUp 35 = .ok (.getfield 40, 3) := by decide +kernel
theorem dX5_setUp_38 : decode cX5_setUp 38 = .ok (.putfield 43, 3) := by decide +kernel
theorem dX5_setUp_41 : decode cX5_setUp 41 = .ok (.aload_n 0, 1) := by decide +kernel
theorem dX5_setUp_42 : decode cX5_setUp 42 = .ok (.iconst 0, 1) := by decide +kernel
theorem dX5_setUp_43 : decode cX5_setUp 43 = .ok (.putfield 44, 3) := by decide +kernel
theorem dX5_setUp_46 : decode cX5_setUp 46 = .ok (.aload_n 0, 1) := by decide +kernel
theorem dX5_setUp_47 : decode cX5_setUp 47 = .ok (.iconst 0, 1) := by decide +kernel
theorem dX5_setUp_48 : decode cX5_setUp 48 = .ok (.putfield 48, 3) := by decide +kernel
theorem dX5_setUp_51 : decode cX5_setUp 51 = .ok (.aload_n 0, 1) := by decide +kernel
theorem dX5_setUp_52 : decode cX5_setUp 52 = .ok (.iconst 0, 1) := by decide +kernel
theorem dX5_setUp_53 : decode cX5_setUp 53 = .ok (.putfield 51, 3) := by decide +kernel
theorem dX5_setUp_56 : decode cX5_setUp 56 = .ok (.aload_n 0, 1) := by decide +kernel
theorem dX5_setUp_57 : decode cX5_setUp 57 = .ok (.iconst 0, 1) := by decide +kernel
theorem dX5_setUp_58 : decode cX5_setUp 58 = .ok (.putfield 54, 3) := by decide +kernel
theorem dX5_setUp_61 : decode cX5_setUp 61 = .ok (.aload_n 0, 1) := by decide +kernel
theorem dX5_setUp_62 : decode cX5_setUp 62 = .ok (.iconst 0, 1) := by decide +kernel
theorem dX5_setUp_63 : decode cX5_setUp 63 = .ok (.putfield 57, 3) := by decide +kernel
theorem dX5_setUp_66 : decode cX5_setUp 66 = .ok (.aload_n 0, 1) := by decide +kernel
theorem dX5_setUp_67 : decode cX5_setUp 67 = .ok (.iconst 0, 1) := by decide +kernel
theorem dX5_setUp_68 : decode cX5_setUp 68 = .ok (.putfield 60, 3) := by decide +kernel
theorem dX5_setUp_71 : decode cX5_setUp 71 = .ok (.aload_n 0, 1) := by decide +kernel
theorem dX5_setUp_72 : decode cX5_setUp 72 = .ok (.iconst 0, 1) := by decide +kernel
theorem dX5_setUp_73 : decode cX5_setUp 73 = .ok (.putfield 63, 3) := by decide +kernel
theorem dX5_setUp_76 : decode cX5_setUp 76 = .ok (.return_, 1) := by decide +kernel
theorem dX5_copyFrom_0 : decode cX5_copyFrom 0 = .ok (.aload_n 1, 1) := by decide +kernel
theorem dX5_copyFrom_1 : decode cX5_copyFrom 1 = .ok (.getfield 9, 3) := by decide +kernel
theorem dX5_copyFrom_4 : decode cX5_copyFrom 4 = .ok (.aload_n 0, 1) := by decide +kernel
theorem dX5_copyFrom_5 : decode cX5_copyFrom 5 = .ok (.getfield 9, 3) := by decide +kernel
theorem dX5_copyFrom_8 : decode cX5_copyFrom 8 = .ok (.invokestatic 66, 3) := by decide +kernel
theorem dX5_copyFrom_11 : decode cX5_copyFrom 11 = .ok (.aload_n 0, 1) := by decide +kernel
theorem dX5_copyFrom_12 : decode cX5_copyFrom 12 = .ok (.aload_n 1, 1) := by decide +kernel
theorem dX5_copyFrom_13 : decode cX5_copyFrom 13 = .ok (.getfield 27, 3) := by decide +kernel
theorem dX5_copyFrom_16 : decode cX5_copyFrom 16 = .ok (.putfield 27, 3) := by decide +kernel
theorem dX5_copyFrom_19 : decode cX5_copyFrom 19 = .ok (.aload_n 0, 1) := by decide +kernel
theorem dX5_copyFrom_20 : decode cX5_copyFrom 20 = .ok (.aload_n 1, 1) := by decide +kernel
theorem dX5_copyFrom_21 : decode cX5_copyFrom 21 = .ok (.getfield 31, 3) := by decide +kernel
theorem dX5_copyFrom_24 : decode cX5_copyFrom 24 = .ok (.putfield 31, 3) := by decide +kernel
theorem dX5_copyFrom_27 : decode cX5_copyFrom 27 = .ok (.aload_n 0, 1) := by decide +kernel
theorem dX5_copyFrom_28 : decode cX5_copyFrom 28 = .ok (.aload_n 1, 1) := by decide +kernel
theorem dX5_copyFrom_29 : decode cX5_copyFrom 29 = .ok (.getfield 34, 3) := by decide +kernel
theorem dX5_copyFrom_32 : decode cX5_copyFrom 32 = .ok (.putfield 34, 3) := by decide +kernel
theorem dX5_copyFrom_35 : decode cX5_copyFrom 35 = .ok (.aload_n 0, 1) := by decide +kernel
theorem dX5_copyFrom_36 : decode cX5_copyFrom 36 = .ok (.aload_n 1, 1) := by decide +kernel
theorem dX5_copyFrom_37 : decode cX5_copyFrom 37 = .ok (.getfield 37, 3) := by decide +kernel
theorem dX5_copyFrom_40 : decode cX5_copyFrom 40 = .ok (.putfield 37, 3) := by decide +kernel
theorem dX5_copyFrom_43 : decode cX5_copyFrom 43 = .ok (.aload_n 0, 1) := by decide +kernel
theorem dX5_copyFrom_44 : decode cX5_copyFrom 44 = .ok (.aload_n 1, 1) := by decide +kernel
theorem dX5_copyFrom_45 : decode cX5_copyFrom 45 = .ok (.getfield 43, 3) := by decide +kernel
theorem dX5_copyFrom_48 : decode cX5_copyFrom 48 = .ok (.putfield 43, 3) := by decide +kernel
theorem dX5_copyFrom_51 : decode cX5_copyFrom 51 = .ok (.aload_n 0, 1) := by decide +kernel
theorem dX5_copyFrom_52 : decode cX5_copyFrom 52 = .ok (.aload_n 1, 1) := by decide +kernel
theorem dX5_copyFrom_53 : decode cX5_copyFrom 53 = .ok (.getfield 44, 3) := by decide +kernel
theorem dX5_copyFrom_56 : decode cX5_copyFrom 56 = .ok (.putfield 44, 3) := by decide +kernel
theorem dX5_copyFrom_59 : decode cX5_copyFrom 59 = .ok (.aload_n 0, 1) := by decide +kernel
theorem dX5_copyFrom_60 : decode cX5_copyFrom 60 = .ok (.aload_n 1, 1) := by decide +kernel
theorem dX5_copyFrom_61 : decode cX5_copyFrom 61 = .ok (.getfield 48, 3) := by decide +kernel
theorem dX5_copyFrom_64 : decode cX5_copyFrom 64 = .ok (.putfield 48, 3) := by decide +kernel
theorem dX5_copyFrom_67 : decode cX5_copyFrom 67 = .ok (.aload_n 0, 1) := by decide +kernel
theorem dX5_copyFrom_68 : decode cX5_copyFrom 68 = .ok (.aload_n 1, 1) := by decide +kernel
theorem dX5_copyFrom_69 : decode cX5_copyFrom 69 = .ok (.getfield 51, 3) := by decide +kernel
theorem dX5_copyFrom_72 : decode cX5_copyFrom 72 = .ok (.putfield 51, 3) := by decide +kernel
theorem dX5_copyFrom_75 : decode cX5_copyFrom 75 = .ok (.aload_n 0, 1) := by decide +kernel
theorem dX5_copyFrom_76 : decode cX5_copyFrom 76 = .ok (.aload_n 1, 1) := by decide +kernel
theorem dX5_copyFrom_77 : decode cX5_copyFrom 77 = .ok (.getfield 54, 3) := by decide +kernel
theorem dX5_copyFrom_80 : decode cX5_copyFrom 80 = .ok (.putfield 54, 3) := by decide +kernel
theorem dX5_copyFrom_83 : decode cX5_copyFrom 83 = .ok (.aload_n 0, 1) := by decide +kernel
theorem dX5_copyFrom_84 : decode cX5_copyFrom 84 = .ok (.aload_n 1, 1) := by decide +kernel
theorem dX5_copyFrom_85 : decode cX5_copyFrom 85 = .ok (.getfield 57, 3) := by decide +kernel
theorem dX5_copyFrom_88 : decode cX5_copyFrom 88 = .ok (.putfield 57, 3) := by decide +kernel
theorem dX5_copyFrom_91 : decode cX5_copyFrom 91 = .ok (.aload_n 0, 1) := by decide +kernel
theorem dX5_copyFrom_92 : decode cX5_copyFrom 92 = .ok (.aload_n 1, 1) := by decide +kernel
theorem dX5_copyFrom_93 : decode cX5_copyFrom 93 = .ok (.getfield 60, 3) := by decide +kernel
theorem dX5_copyFrom_96 : decode cX5_copyFrom 96 = .ok (.putfield 60, 3) := by decide +kernel
theorem dX5_copyFrom_99 : decode cX5_copyFrom 99 = .ok (.aload_n 0, 1) := by decide +kernel
theorem dX5_copyFrom_100 : decode cX5_copyFrom 100 = .ok (.aload_n 1, 1) := by decide +kernel
theorem dX5_copyFrom_101 : decode cX5_copyFrom 101 = .ok (.getfield 63, 3) := by decide +kernel
theorem dX5_copyFrom_104 : decode cX5_copyFrom 104 = .ok (.putfield 63, 3) := by decide +kernel
theorem dX5_copyFrom_107 : decode cX5_copyFrom 107 = .ok (.return_, 1) := by decide +kernel
theorem dX5_movesToPeriodEnd_0 : decode cX5_movesToPeriodEnd 0 = .ok (.aload_n 1, 1) := by decide +kernel
theorem dX5_movesToPeriodEnd_1 : decode cX5_movesToPeriodEnd 1 = .ok (.aload_n 0, 1) := by decide +kernel
theorem dX5_movesToPeriodEnd_2 : decode cX5_movesToPeriodEnd 2 = .ok (.getfield 31, 3) := by decide +kernel
theorem dX5_movesToPeriodEnd_5 : decode cX5_movesToPeriodEnd 5 = .ok (.invokevirtual 70, 3) := by decide +kernel
theorem dX5_movesToPeriodEnd_8 : decode cX5_movesToPeriodEnd 8 = .ok (.ifCond .eq 7, 3) := by decide +kernel
theorem dX5_movesToPeriodEnd_11 : decode cX5_movesToPeriodEnd 11 = .ok (.iconst (-1), 1) := by decide +kernel
theorem dX5_movesToPeriodEnd_12 : decode cX5_movesToPeriodEnd 12 = .ok (.goto 17, 3) := by decide +kernel
theorem dX5_movesToPeriodEnd_15 : decode cX5_movesToPeriodEnd 15 = .ok (.aload_n 1, 1) := by decide +kernel
theorem dX5_movesToPeriodEnd_16 : decode cX5_movesToPeriodEnd 16 = .ok (.aload_n 0, 1) := by decide +kernel
theorem dX5_movesToPeriodEnd_17 : decode cX5_movesToPeriodEnd 17 = .ok (.getfield 31, 3) := by decide +kernel
theorem dX5_movesToPeriodEnd_20 : decode cX5_movesToPeriodEnd 20 = .ok (.iconst 0, 1) := by decide +kernel
theorem dX5_movesToPeriodEnd_21 : decode cX5_movesToPeriodEnd 21 = .ok (.invokevirtual 21, 3) := by decide +kernel
theorem dX5_movesToPeriodEnd_24 : decode cX5_movesToPeriodEnd 24 = .ok (.aload_n 0, 1) := by decide +kernel
theorem dX5_movesToPeriodEnd_25 : decode cX5_movesToPeriodEnd 25 = .ok (.getfield 37, 3) := by decide +kernel
theorem dX5_movesToPeriodEnd_28 : decode cX5_movesToPeriodEnd 28 = .ok (.isub, 1) := by decide +kernel
theorem dX5_movesToPeriodEnd_29 : decode cX5_movesToPeriodEnd 29 = .ok (.ireturn, 1) := by decide +kernel
theorem dX5_freeTicks_0 : decode cX5_freeTicks 0 = .ok (.iconst 0, 1) := by decide +kernel
theorem dX5_freeTicks_1 : decode cX5_freeTicks 1 = .ok (.aload_n 1, 1) := by decide +kernel
theorem dX5_freeTicks_2 : decode cX5_freeTicks 2 = .ok (.aload_n 0, 1) := by decide +kernel
theorem dX5_freeTicks_3 : decode cX5_freeTicks 3 = .ok (.getfield 31, 3) := by decide +kernel
theorem dX5_freeTicks_6 : decode cX5_freeTicks 6 = .ok (.iconst 3, 1) := by decide +kernel
theorem dX5_freeTicks_7 : decode cX5_freeTicks 7 = .ok (.invokevirtual 21, 3) := by decide +kernel
theorem dX5_freeTicks_10 : decode cX5_freeTicks 10 = .ok (.aload_n 0, 1) := by decide +kernel
theorem dX5_freeTicks_11 : decode cX5_freeTicks 11 = .ok (.getfield 48, 3) := by decide +kernel
theorem dX5_freeTicks_14 : decode cX5_freeTicks 14 = .ok (.isub, 1) := by decide +kernel
theorem dX5_freeTicks_15 : decode cX5_freeTicks 15 = .ok (.invokestatic 74, 3) := by decide +kernel
theorem dX5_freeTicks_18 : decode cX5_freeTicks 18 = .ok (.ireturn, 1) := by decide +kernel
theorem dX5_ticksToFall_0 : decode cX5_ticksToFall 0 = .ok (.aload_n 0, 1) := by decide +kernel
theorem dX5_ticksToFall_1 : decode cX5_ticksToFall 1 = .ok (.getfield 54, 3) := by decide +kernel
theorem dX5_ticksToFall_4 : decode cX5_ticksToFall 4 = .ok (.ifCond .eq 5, 3) := by decide +kernel
theorem dX5_ticksToFall_7 : decode cX5_ticksToFall 7 = .ok (.iconst 0, 1) := by decide +kernel
theorem dX5_ticksToFall_8 : decode cX5_ticksToFall 8 = .ok (.ireturn, 1) := by decide +kernel
theorem dX5_ticksToFall_9 : decode cX5_ticksToFall 9 = .ok (.aload_n 1, 1) := by decide +kernel
theorem dX5_ticksToFall_10 : decode cX5_ticksToFall 10 = .ok (.aload_n 0, 1) := by decide +kernel
theorem dX5_ticksToFall_11 : decode cX5_ticksToFall 11 = .ok (.getfield 31, 3) := by decide +kernel
theorem dX5_ticksToFall_14 : decode cX5_ticksToFall 14 = .ok (.invokevirtual 70, 3) := by decide +kernel
theorem dX5_ticksToFall_17 : decode cX5_ticksToFall 17 = .ok (.ifCond .eq 15, 3) := by decide +kernel
theorem dX5_ticksToFall_20 : decode cX5_ticksToFall 20 = .ok (.aload_n 0, 1) := by decide +kernel
theorem dX5_ticksToFall_21 : decode cX5_ticksToFall 21 = .ok (.getfield 43, 3) := by decide +kernel
theorem dX5_ticksToFall_24 : decode cX5_ticksToFall 24 = .ok (.aload_n 1, 1) := by decide +kernel
theorem dX5_ticksToFall_25 : decode cX5_ticksToFall 25 = .ok (.getfield 79, 3) := by decide +kernel
theorem dX5_ticksToFall_28 : decode cX5_ticksToFall 28 = .ok (.imul, 1) := by decide +kernel
theorem dX5_ticksToFall_29 : decode cX5_ticksToFall 29 = .ok (.goto 4, 3) := by decide +kernel
theorem dX5_ticksToFall_32 : decode cX5_ticksToFall 32 = .ok (.iconst 0, 1) := by decide +kernel
theorem dX5_ticksToFall_33 : decode cX5_ticksToFall 33 = .ok (.istore_n 2, 1) := by decide +kernel
theorem dX5_ticksToFall_34 : decode cX5_ticksToFall 34 = .ok (.aload_n 0, 1) := by decide +kernel
theorem dX5_ticksToFall_35 : decode cX5_ticksToFall 35 = .ok (.aload_n 1, 1) := by decide +kernel
theorem dX5_ticksToFall_36 : decode cX5_ticksToFall 36 = .ok (.invokevirtual 82, 3) := by decide +kernel
theorem dX5_ticksToFall_39 : decode cX5_ticksToFall 39 = .ok (.aload_n 0, 1) := by decide +kernel
theorem dX5_ticksToFall_40 : decode cX5_ticksToFall 40 = .ok (.getfield 27, 3) := by decide +kernel
theorem dX5_ticksToFall_43 : decode cX5_ticksToFall 43 = .ok (.iadd, 1) := by decide +kernel
theorem dX5_ticksToFall_44 : decode cX5_ticksToFall 44 = .ok (.iload_n 2, 1) := by decide +kernel
theorem dX5_ticksToFall_45 : decode cX5_ticksToFall 45 = .ok (.iadd, 1) := by decide +kernel
theorem dX5_ticksToFall_46 : decode cX5_ticksToFall 46 = .ok (.ireturn, 1) := by decide +kernel
theorem dX5_run_0 : decode cX5_run 0 = .ok (.iconst 0, 1) := by decide +kernel
theorem dX5_run_1 : decode cX5_run 1 = .ok (.iload_n 2, 1) := by decide +kernel
theorem dX5_run_2 : decode cX5_run 2 = .ok (.aload_n 0, 1) := by decide +kernel
theorem dX5_run_3 : decode cX5_run 3 = .ok (.aload_n 1, 1) := by decide +kernel
theorem dX5_run_4 : decode cX5_run 4 = .ok (.invokevirtual 82, 3) := by decide +kernel
theorem dX5_run_7 : decode cX5_run 7 = .ok (.isub, 1) := by decide +kernel
theorem dX5_run_8 : decode cX5_run 8 = .ok (.invokestatic 74, 3) := by decide +kernel
theorem dX5_run_11 : decode cX5_run 11 = .ok (.istore_n 3, 1) := by decide +kernel
theorem dX5_run_12 : decode cX5_run 12 = .ok (.aload_n 0, 1) := by decide +kernel
theorem dX5_run_13 : decode cX5_run 13 = .ok (.dup, 1) := by decide +kernel
theorem dX5_run_14 : decode cX5_run 14 = .ok (.getfield 48, 3) := by decide +kernel
theorem dX5_run_17 : decode cX5_run 17 = .ok (.iload_n 2, 1) := by decide +kernel
theorem dX5_run_18 : decode cX5_run 18 = .ok (.iadd, 1) := by decide +kernel
theorem dX5_run_19 : decode cX5_run 19 = .ok (.putfield 48, 3) := by decide +kernel
theorem dX5_run_22 : decode cX5_run 22 = .ok (.aload_n 0, 1) := by decide +kernel
theorem dX5_run_23 : decode cX5_run 23 = .ok (.dup, 1) := by decide +kernel
theorem dX5_run_24 : decode cX5_run 24 = .ok (.getfield 60, 3) := by decide +kernel
theorem dX5_run_27 : decode cX5_run 27 = .ok (.iload_n 2, 1) := by decide +kernel
theorem dX5_run_28 : decode cX5_run 28 = .ok (.iadd, 1) := by decide +kernel
theorem dX5_run_29 : decode cX5_run 29 = .ok (.putfield 60, 3) := by decide +kernel
theorem dX5_run_32 : decode cX5_run 32 = .ok (.iconst 0, 1) := by decide +kernel
theorem dX5_run_33 : decode cX5_run 33 = .ok (.istore 4, 2) := by decide +kernel
theorem dX5_run_35 : decode cX5_run 35 = .ok (.iload 4, 2) := by decide +kernel
theorem dX5_run_37 : decode cX5_run 37 = .ok (.bipush 9, 2) := by decide +kernel
theorem dX5_run_39 : decode cX5_run 39 = .ok (.if_icmp .gt 94, 3) := by decide +kernel
theorem dX5_run_42 : decode cX5_run 42 = .ok (.iload_n 3, 1) := by decide +kernel
theorem dX5_run_43 : decode cX5_run 43 = .ok (.ifCond .le 90, 3) := by decide +kernel
theorem dX5_run_46 : decode cX5_run 46 = .ok (.aload_n 0, 1) := by decide +kernel
theorem dX5_run_47 : decode cX5_run 47 = .ok (.getfield 27, 3) := by decide +kernel
theorem dX5_run_50 : decode cX5_run 50 = .ok (.ifCond .le 83, 3) := by decide +kernel
theorem dX5_run_53 : decode cX5_run 53 = .ok (.iload_n 3, 1) := by decide +kernel
theorem dX5_run_54 : decode cX5_run 54 = .ok (.aload_n 0, 1) := by decide +kernel
theorem dX5_run_55 : decode cX5_run 55 = .ok (.getfield 27, 3) := by decide +kernel
theorem dX5_run_58 : decode cX5_run 58 = .ok (.invokestatic 86, 3) := by decide +kernel
theorem dX5_run_61 : decode cX5_run 61 = .ok (.istore 5, 2) := by decide +kernel
theorem dX5_run_63 : decode cX5_run 63 = .ok (.iload_n 3, 1) := by decide +kernel
theorem dX5_run_64 : decode cX5_run 64 = .ok (.iload 5, 2) := by decide +kernel
theorem dX5_run_66 : decode cX5_run 66 = .ok (.isub, 1) := by decide +kernel
theorem dX5_run_67 : decode cX5_run 67 = .ok (.istore_n 3, 1) := by decide +kernel
theorem dX5_run_68 : decode cX5_run 68 = .ok (.aload_n 0, 1) := by decide +kernel
theorem dX5_run_69 : decode cX5_run 69 = .ok (.dup, 1) := by decide +kernel
theorem dX5_run_70 : decode cX5_run 70 = .ok (.getfield 27, 3) := by decide +kernel
theorem dX5_run_73 : decode cX5_run 73 = .ok (.iload 5, 2) := by decide +kernel
theorem dX5_run_75 : decode cX5_run 75 = .ok (.isub, 1) := by decide +kernel
theorem dX5_run_76 : decode cX5_run 76 = .ok (.putfield 27, 3) := by decide +kernel
theorem dX5_run_79 : decode cX5_run 79 = .ok (.aload_n 0, 1) := by decide +kernel
theorem dX5_run_80 : decode cX5_run 80 = .ok (.dup, 1) := by decide +kernel
theorem dX5_run_81 : decode cX5_run 81 = .ok (.getfield 51, 3) := by decide +kernel
theorem dX5_run_84 : decode cX5_run 84 = .ok (.iload 5, 2) := by decide +kernel
theorem dX5_run_86 : decode cX5_run 86 = .ok (.iadd, 1) := by decide +kernel
theorem dX5_run_87 : decode cX5_run 87 = .ok (.putfield 51, 3) := by decide +kernel
theorem dX5_run_90 : decode cX5_run 90 = .ok (.aload_n 0, 1) := by decide +kernel
theorem dX5_run_91 : decode cX5_run 91 = .ok (.getfield 9, 3) := by decide +kernel
theorem dX5_run_94 : decode cX5_run 94 = .ok (.aload_n 0, 1) := by decide +kernel
theorem dX5_run_95 : decode cX5_run 95 = .ok (.getfield 31, 3) := by decide +kernel
theorem dX5_run_98 : decode cX5_run 98 = .ok (.aload_n 0, 1) := by decide +kernel
theorem dX5_run_99 : decode cX5_run 99 = .ok (.getfield 9, 3) := by decide +kernel
theorem dX5_run_102 : decode cX5_run 102 = .ok (.aload_n 0, 1) := by decide +kernel
theorem dX5_run_103 : decode cX5_run 103 = .ok (.getfield 31, 3) := by decide +kernel
theorem dX5_run_106 : decode cX5_run 106 = .ok (.invokestatic 89, 3) := by decide +kernel
theorem dX5_run_109 : decode cX5_run 109 = .ok (.iload 5, 2) := by decide +kernel
theorem dX5_run_111 : decode cX5_run 111 = .ok (.iadd, 1) := by decide +kernel
theorem dX5_run_112 : decode cX5_run 112 = .ok (.invokestatic 93, 3) := by decide +kernel
theorem dX5_run_115 : decode cX5_run 115 = .ok (.aload_n 0, 1) := by decide +kernel
theorem dX5_run_116 : decode cX5_run 116 = .ok (.getfield 27, 3) := by decide +kernel
theorem dX5_run_119 : decode cX5_run 119 = .ok (.ifCond .ne 8, 3) := by decide +kernel
theorem dX5_run_122 : decode cX5_run 122 = .ok (.aload_n 0, 1) := by decide +kernel
theorem dX5_run_123 : decode cX5_run 123 = .ok (.aload_n 1, 1) := by decide +kernel
theorem dX5_run_124 : decode cX5_run 124 = .ok (.invokevirtual 97, 3) := by decide +kernel
theorem dX5_run_127 : decode cX5_run 127 = .ok (.iinc 4 1, 3) := by decide +kernel
theorem dX5_run_130 : decode cX5_run 130 = .ok (.goto (-95), 3) := by decide +kernel
theorem dX5_run_133 : decode cX5_run 133 = .ok (.return_, 1) := by decide +kernel
theorem dX5_runOut_0 : decode cX5_runOut 0 = .ok (.aload_n 1, 1) := by decide +kernel
theorem dX5_runOut_1 : decode cX5_runOut 1 = .ok (.aload_n 0, 1) := by decide +kernel
theorem dX5_runOut_2 : decode cX5_runOut 2 = .ok (.getfield 31, 3) := by decide +kernel
theorem dX5_runOut_5 : decode cX5_runOut 5 = .ok (.invokevirtual 70, 3) := by decide +kernel
theorem dX5_runOut_8 : decode cX5_runOut 8 = .ok (.ifCond .eq 36, 3) := by decide +kernel
theorem dX5_runOut_11 : decode cX5_runOut 11 = .ok (.aload_n 0, 1) := by decide +kernel
theorem dX5_runOut_12 : decode cX5_runOut 12 = .ok (.getfield 43, 3) := by decide +kernel
theorem dX5_runOut_15 : decode cX5_runOut 15 = .ok (.ifCond .le 29, 3) := by decide +kernel
theorem dX5_runOut_18 : decode cX5_runOut 18 = .ok (.aload_n 0, 1) := by decide +kernel
theorem dX5_runOut_19 : decode cX5_runOut 19 = .ok (.dup, 1) := by decide +kernel
theorem dX5_runOut_20 : decode cX5_runOut 20 = .ok (.getfield 43, 3) := by decide +kernel
theorem dX5_runOut_23 : decode cX5_runOut 23 = .ok (.iconst 1, 1) := by decide +kernel
theorem dX5_runOut_24 : decode cX5_runOut 24 = .ok (.isub, 1) := by decide +kernel
theorem dX5_runOut_25 : decode cX5_runOut 25 = .ok (.putfield 43, 3) := by decide +kernel
theorem dX5_runOut_28 : decode cX5_runOut 28 = .ok (.aload_n 0, 1) := by decide +kernel
theorem dX5_runOut_29 : decode cX5_runOut 29 = .ok (.iconst 1, 1) := by decide +kernel
theorem dX5_runOut_30 : decode cX5_runOut 30 = .ok (.putfield 44, 3) := by decide +kernel
theorem dX5_runOut_33 : decode cX5_runOut 33 = .ok (.aload_n 0, 1) := by decide +kernel
