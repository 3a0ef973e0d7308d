theorem dX0_init_0 : decode cX0_init 0 = .ok (.aload_n 0, 1) := by decide +kernel
theorem dX0_init_1 : decode cX0_init 1 = .ok (.invokespecial 3, 3) := by decide +kernel
theorem dX0_init_4 : decode cX0_init 4 = .ok (.aload_n 0, 1) := by decide +kernel
theorem dX0_init_5 : decode cX0_init 5 = .ok (.sipush 400, 3) := by decide +kernel
theorem dX0_init_8 : decode cX0_init 8 = .ok (.newarray .byte, 2) := by decide +kernel
theorem dX0_init_10 : decode cX0_init 10 = .ok (.putfield 9, 3) := by decide +kernel
theorem dX0_init_13 : decode cX0_init 13 = .ok (.return_, 1) := by decide +kernel
theorem dX0_addFour_0 : decode cX0_addFour 0 = .ok (.bipush 24, 2) := by decide +kernel
theorem dX0_addFour_2 : decode cX0_addFour 2 = .ok (.istore_n 2, 1) := by decide +kernel
theorem dX0_addFour_3 : decode cX0_addFour 3 = .ok (.iload_n 2, 1) := by decide +kernel
theorem dX0_addFour_4 : decode cX0_addFour 4 = .ok (.ifCond .lt 51, 3) := by decide +kernel
theorem dX0_addFour_7 : decode cX0_addFour 7 = .ok (.aload_n 0, 1) := by decide +kernel
theorem dX0_addFour_8 : decode cX0_addFour 8 = .ok (.getfield 15, 3) := by decide +kernel
theorem dX0_addFour_11 : decode cX0_addFour 11 = .ok (.ifCond .lt 38, 3) := by decide +kernel
theorem dX0_addFour_14 : decode cX0_addFour 14 = .ok (.aload_n 0, 1) := by decide +kernel
theorem dX0_addFour_15 : decode cX0_addFour 15 = .ok (.getfield 15, 3) := by decide +kernel
theorem dX0_addFour_18 : decode cX0_addFour 18 = .ok (.aload_n 0, 1) := by decide +kernel
theorem dX0_addFour_19 : decode cX0_addFour 19 = .ok (.getfield 9, 3) := by decide +kernel
theorem dX0_addFour_22 : decode cX0_addFour 22 = .ok (.arraylength, 1) := by decide +kernel
theorem dX0_addFour_23 : decode cX0_addFour 23 = .ok (.if_icmp .ge 26, 3) := by decide +kernel
theorem dX0_addFour_26 : decode cX0_addFour 26 = .ok (.aload_n 0, 1) := by decide +kernel
theorem dX0_addFour_27 : decode cX0_addFour 27 = .ok (.getfield 9, 3) := by decide +kernel
theorem dX0_addFour_30 : decode cX0_addFour 30 = .ok (.aload_n 0, 1) := by decide +kernel
theorem dX0_addFour_31 : decode cX0_addFour 31 = .ok (.getfield 15, 3) := by decide +kernel
theorem dX0_addFour_34 : decode cX0_addFour 34 = .ok (.iload_n 1, 1) := by decide +kernel
theorem dX0_addFour_35 : decode cX0_addFour 35 = .ok (.iload_n 2, 1) := by decide +kernel
theorem dX0_addFour_36 : decode cX0_addFour 36 = .ok (.iushr, 1) := by decide +kernel
theorem dX0_addFour_37 : decode cX0_addFour 37 = .ok (.i2b, 1) := by decide +kernel
theorem dX0_addFour_38 : decode cX0_addFour 38 = .ok (.bastore, 1) := by decide +kernel
theorem dX0_addFour_39 : decode cX0_addFour 39 = .ok (.aload_n 0, 1) := by decide +kernel
theorem dX0_addFour_40 : decode cX0_addFour 40 = .ok (.dup, 1) := by decide +kernel
theorem dX0_addFour_41 : decode cX0_addFour 41 = .ok (.getfield 15, 3) := by decide +kernel
theorem dX0_addFour_44 : decode cX0_addFour 44 = .ok (.iconst 1, 1) := by decide +kernel
theorem dX0_addFour_45 : decode cX0_addFour 45 = .ok (.iadd, 1) := by decide +kernel
theorem dX0_addFour_46 : decode cX0_addFour 46 = .ok (.putfield 15, 3) := by decide +kernel
theorem dX0_addFour_49 : decode cX0_addFour 49 = .ok (.iinc 2 (-8), 3) := by decide +kernel
theorem dX0_addFour_52 : decode cX0_addFour 52 = .ok (.goto (-49), 3) := by decide +kernel
theorem dX0_addFour_55 : decode cX0_addFour 55 = .ok (.return_, 1) := by decide +kernel
theorem dX0_byteAt_0 : decode cX0_byteAt 0 = .ok (.iload_n 1, 1) := by decide +kernel
theorem dX0_byteAt_1 : decode cX0_byteAt 1 = .ok (.ifCond .lt 33, 3) := by decide +kernel
theorem dX0_byteAt_4 : decode cX0_byteAt 4 = .ok (.iload_n 1, 1) := by decide +kernel
theorem dX0_byteAt_5 : decode cX0_byteAt 5 = .ok (.aload_n 0, 1) := by decide +kernel
theorem dX0_byteAt_6 : decode cX0_byteAt 6 = .ok (.getfield 15, 3) := by decide +kernel
theorem dX0_byteAt_9 : decode cX0_byteAt 9 = .ok (.if_icmp .ge 25, 3) := by decide +kernel
theorem dX0_byteAt_12 : decode cX0_byteAt 12 = .ok (.iload_n 1, 1) := by decide +kernel
theorem dX0_byteAt_13 : decode cX0_byteAt 13 = .ok (.aload_n 0, 1) := by decide +kernel
theorem dX0_byteAt_14 : decode cX0_byteAt 14 = .ok (.getfield 9, 3) := by decide +kernel
theorem dX0_byteAt_17 : decode cX0_byteAt 17 = .ok (.arraylength, 1) := by decide +kernel
theorem dX0_byteAt_18 : decode cX0_byteAt 18 = .ok (.if_icmp .ge 16, 3) := by decide +kernel
theorem dX0_byteAt_21 : decode cX0_byteAt 21 = .ok (.aload_n 0, 1) := by decide +kernel
theorem dX0_byteAt_22 : decode cX0_byteAt 22 = .ok (.getfield 9, 3) := by decide +kernel
theorem dX0_byteAt_25 : decode cX0_byteAt 25 = .ok (.iload_n 1, 1) := by decide +kernel
theorem dX0_byteAt_26 : decode cX0_byteAt 26 = .ok (.baload, 1) := by decide +kernel
theorem dX0_byteAt_27 : decode cX0_byteAt 27 = .ok (.sipush 255, 3) := by decide +kernel
theorem dX0_byteAt_30 : decode cX0_byteAt 30 = .ok (.iand, 1) := by decide +kernel
theorem dX0_byteAt_31 : decode cX0_byteAt 31 = .ok (.goto 4, 3) := by decide +kernel
theorem dX0_byteAt_34 : decode cX0_byteAt 34 = .ok (.iconst 0, 1) := by decide +kernel
theorem dX0_byteAt_35 : decode cX0_byteAt 35 = .ok (.ireturn, 1) := by decide +kernel
theorem dX1_init_0 : decode cX1_init 0 = .ok (.aload_n 0, 1) := by decide +kernel
theorem dX1_init_1 : decode cX1_init 1 = .ok (.invokespecial 3, 3) := by decide +kernel
theorem dX1_init_4 : decode cX1_init 4 = .ok (.aload_n 0, 1) := by decide +kernel
theorem dX1_init_5 : decode cX1_init 5 = .ok (.sipush 240, 3) := by decide +kernel
theorem dX1_init_8 : decode cX1_init 8 = .ok (.newarray .int, 2) := by decide +kernel
theorem dX1_init_10 : decode cX1_init 10 = .ok (.putfield 9, 3) := by decide +kernel
theorem dX1_init_13 : decode cX1_init 13 = .ok (.return_, 1) := by decide +kernel
theorem dX1_clear_0 : decode cX1_clear 0 = .ok (.aload_n 0, 1) := by decide +kernel
theorem dX1_clear_1 : decode cX1_clear 1 = .ok (.iconst 0, 1) := by decide +kernel
theorem dX1_clear_2 : decode cX1_clear 2 = .ok (.putfield 15, 3) := by decide +kernel
theorem dX1_clear_5 : decode cX1_clear 5 = .ok (.aload_n 0, 1) := by decide +kernel
theorem dX1_clear_6 : decode cX1_clear 6 = .ok (.iconst 0, 1) := by decide +kernel
theorem dX1_clear_7 : decode cX1_clear 7 = .ok (.putfield 19, 3) := by decide +kernel
theorem dX1_clear_10 : decode cX1_clear 10 = .ok (.return_, 1) := by decide +kernel
theorem dX1_copyFrom_0 : decode cX1_copyFrom 0 = .ok (.aload_n 1, 1) := by decide +kernel
theorem dX1_copyFrom_1 : decode cX1_copyFrom 1 = .ok (.getfield 9, 3) := by decide +kernel
theorem dX1_copyFrom_4 : decode cX1_copyFrom 4 = .ok (.aload_n 0, 1) := by decide +kernel
theorem dX1_copyFrom_5 : decode cX1_copyFrom 5 = .ok (.getfield 9, 3) := by decide +kernel
theorem dX1_copyFrom_8 : decode cX1_copyFrom 8 = .ok (.invokestatic 22, 3) := by decide +kernel
theorem dX1_copyFrom_11 : decode cX1_copyFrom 11 = .ok (.aload_n 0, 1) := by decide +kernel
theorem dX1_copyFrom_12 : decode cX1_copyFrom 12 = .ok (.aload_n 1, 1) := by decide +kernel
theorem dX1_copyFrom_13 : decode cX1_copyFrom 13 = .ok (.getfield 15, 3) := by decide +kernel
theorem dX1_copyFrom_16 : decode cX1_copyFrom 16 = .ok (.putfield 15, 3) := by decide +kernel
theorem dX1_copyFrom_19 : decode cX1_copyFrom 19 = .ok (.aload_n 0, 1) := by decide +kernel
theorem dX1_copyFrom_20 : decode cX1_copyFrom 20 = .ok (.aload_n 1, 1) := by decide +kernel
theorem dX1_copyFrom_21 : decode cX1_copyFrom 21 = .ok (.getfield 19, 3) := by decide +kernel
theorem dX1_copyFrom_24 : decode cX1_copyFrom 24 = .ok (.putfield 19, 3) := by decide +kernel
theorem dX1_copyFrom_27 : decode cX1_copyFrom 27 = .ok (.return_, 1) := by decide +kernel
theorem dX1_add_0 : decode cX1_add 0 = .ok (.aload_n 0, 1) := by decide +kernel
theorem dX1_add_1 : decode cX1_add 1 = .ok (.aload_n 0, 1) := by decide +kernel
theorem dX1_add_2 : decode cX1_add 2 = .ok (.getfield 19, 3) := by decide +kernel
theorem dX1_add_5 : decode cX1_add 5 = .ok (.iconst 1, 1) := by decide +kernel
theorem dX1_add_6 : decode cX1_add 6 = .ok (.iadd, 1) := by decide +kernel
theorem dX1_add_7 : decode cX1_add 7 = .ok (.bipush 40, 2) := by decide +kernel
theorem dX1_add_9 : decode cX1_add 9 = .ok (.irem, 1) := by decide +kernel
theorem dX1_add_10 : decode cX1_add 10 = .ok (.putfield 19, 3) := by decide +kernel
theorem dX1_add_13 : decode cX1_add 13 = .ok (.aload_n 0, 1) := by decide +kernel
theorem dX1_add_14 : decode cX1_add 14 = .ok (.aload_n 0, 1) := by decide +kernel
theorem dX1_add_15 : decode cX1_add 15 = .ok (.getfield 15, 3) := by decide +kernel
theorem dX1_add_18 : decode cX1_add 18 = .ok (.iconst 1, 1) := by decide +kernel
theorem dX1_add_19 : decode cX1_add 19 = .ok (.iadd, 1) := by decide +kernel
theorem dX1_add_20 : decode cX1_add 20 = .ok (.bipush 40, 2) := by decide +kernel
theorem dX1_add_22 : decode cX1_add 22 = .ok (.invokestatic 26, 3) := by decide +kernel
theorem dX1_add_25 : decode cX1_add 25 = .ok (.putfield 15, 3) := by decide +kernel
theorem dX1_add_28 : decode cX1_add 28 = .ok (.aload_n 0, 1) := by decide +kernel
theorem dX1_add_29 : decode cX1_add 29 = .ok (.getfield 19, 3) := by decide +kernel
theorem dX1_add_32 : decode cX1_add 32 = .ok (.bipush 6, 2) := by decide +kernel
theorem dX1_add_34 : decode cX1_add 34 = .ok (.imul, 1) := by decide +kernel
theorem dX1_add_35 : decode cX1_add 35 = .ok (.istore 7, 2) := by decide +kernel
theorem dX1_add_37 : decode cX1_add 37 = .ok (.aload_n 0, 1) := by decide +kernel
theorem dX1_add_38 : decode cX1_add 38 = .ok (.getfield 9, 3) := by decide +kernel
theorem dX1_add_41 : decode cX1_add 41 = .ok (.iload 7, 2) := by decide +kernel
theorem dX1_add_43 : decode cX1_add 43 = .ok (.iconst 0, 1) := by decide +kernel
theorem dX1_add_44 : decode cX1_add 44 = .ok (.iadd, 1) := by decide +kernel
theorem dX1_add_45 : decode cX1_add 45 = .ok (.iload_n 1, 1) := by decide +kernel
theorem dX1_add_46 : decode cX1_add 46 = .ok (.invokestatic 32, 3) := by decide +kernel
theorem dX1_add_49 : decode cX1_add 49 = .ok (.aload_n 0, 1) := by decide +kernel
theorem dX1_add_50 : decode cX1_add 50 = .ok (.getfield 9, 3) := by decide +kernel
theorem dX1_add_53 : decode cX1_add 53 = .ok (.iload 7, 2) := by decide +kernel
theorem dX1_add_55 : decode cX1_add 55 = .ok (.iconst 1, 1) := by decide +kernel
theorem dX1_add_56 : decode cX1_add 56 = .ok (.iadd, 1) := by decide +kernel
theorem dX1_add_57 : decode cX1_add 57 = .ok (.iload_n 2, 1) := by decide +kernel
theorem dX1_add_58 : decode cX1_add 58 = .ok (.invokestatic 32, 3) := by decide +kernel
theorem dX1_add_61 : decode cX1_add 61 = .ok (.aload_n 0, 1) := by decide +kernel
theorem dX1_add_62 : decode cX1_add 62 = .ok (.getfield 9, 3) := by decide +kernel
theorem dX1_add_65 : decode cX1_add 65 = .ok (.iload 7, 2) := by decide +kernel
theorem dX1_add_67 : decode cX1_add 67 = .ok (.iconst 2, 1) := by decide +kernel
theorem dX1_add_68 : decode cX1_add 68 = .ok (.iadd, 1) := by decide +kernel
theorem dX1_add_69 : decode cX1_add 69 = .ok (.iload_n 3, 1) := by decide +kernel
theorem dX1_add_70 : decode cX1_add 70 = .ok (.invokestatic 32, 3) := by decide +kernel
theorem dX1_add_73 : decode cX1_add 73 = .ok (.aload_n 0, 1) := by decide +kernel
theorem dX1_add_74 : decode cX1_add 74 = .ok (.getfield 9, 3) := by decide +kernel
theorem dX1_add_77 : decode cX1_add 77 = .ok (.iload 7, 2) := by decide +kernel
theorem dX1_add_79 : decode cX1_add 79 = .ok (.iconst 3, 1) := by decide +kernel
theorem dX1_add_80 : decode cX1_add 80 = .ok (.iadd, 1) := by decide +kernel
theorem dX1_add_81 : decode cX1_add 81 = .ok (.iload 4, 2) := by decide +kernel
theorem dX1_add_83 : decode cX1_add 83 = .ok (.invokestatic 32, 3) := by decide +kernel
theorem dX1_add_86 : decode cX1_add 86 = .ok (.aload_n 0, 1) := by decide +kernel
theorem dX1_add_87 : decode cX1_add 87 = .ok (.getfield 9, 3) := by decide +kernel
theorem dX1_add_90 : decode cX1_add 90 = .ok (.iload 7, 2) := by decide +kernel
theorem dX1_add_92 : decode cX1_add 92 = .ok (.iconst 4, 1) := by decide +kernel
theorem dX1_add_93 : decode cX1_add 93 = .ok (.iadd, 1) := by decide +kernel
theorem dX1_add_94 : decode cX1_add 94 = .ok (.iload 5, 2) := by decide +kernel
theorem dX1_add_96 : decode cX1_add 96 = .ok (.invokestatic 32, 3) := by decide +kernel
theorem dX1_add_99 : decode cX1_add 99 = .ok (.aload_n 0, 1) := by decide +kernel
theorem dX1_add_100 : decode cX1_add 100 = .ok (.getfield 9, 3) := by decide +kernel
theorem dX1_add_103 : decode cX1_add 103 = .ok (.iload 7, 2) := by decide +kernel
theorem dX1_add_105 : decode cX1_add 105 = .ok (.iconst 5, 1) := by decide +kernel
theorem dX1_add_106 : decode cX1_add 106 = .ok (.iadd, 1) := by decide +kernel
theorem dX1_add_107 : decode cX1_add 107 = .ok (.iload 6, 2) := by decide +kernel
theorem dX1_add_109 : decode cX1_add 109 = .ok (.invokestatic 32, 3) := by decide +kernel
theorem dX1_add_112 : decode cX1_add 112 = .ok (.return_, 1) := by decide +kernel
theorem dX1_number_0 : decode cX1_number 0 = .ok (.aload_n 0, 1) := by decide +kernel
theorem dX1_number_1 : decode cX1_number 1 = .ok (.getfield 19, 3) := by decide +kernel
theorem dX1_number_4 : decode cX1_number 4 = .ok (.bipush 40, 2) := by decide +kernel
theorem dX1_number_6 : decode cX1_number 6 = .ok (.iadd, 1) := by decide +kernel
theorem dX1_number_7 : decode cX1_number 7 = .ok (.iload_n 1, 1) := by decide +kernel
theorem dX1_number_8 : decode cX1_number 8 = .ok (.isub, 1) := by decide +kernel
theorem dX1_number_9 : decode cX1_number 9 = .ok (.bipush 40, 2) := by decide +kernel
theorem dX1_number_11 : decode cX1_number 11 = .ok (.irem, 1) := by decide +kernel
theorem dX1_number_12 : decode cX1_number 12 = .ok (.istore_n 3, 1) := by decide +kernel
theorem dX1_number_13 : decode cX1_number 13 = .ok (.aload_n 0, 1) := by decide +kernel
theorem dX1_number_14 : decode cX1_number 14 = .ok (.getfield 9, 3) := by decide +kernel
theorem dX1_number_17 : decode cX1_number 17 = .ok (.iload_n 3, 1) := by decide +kernel
theorem dX1_number_18 : decode cX1_number 18 = .ok (.bipush 6, 2) := by decide +kernel
theorem dX1_number_20 : decode cX1_number 20 = .ok (.imul, 1) := by decide +kernel
theorem dX1_number_21 : decode cX1_number 21 = .ok (.iload_n 2, 1) := by decide +kernel
theorem dX1_number_22 : decode cX1_number 22 = .ok (.iadd, 1) := by decide +kernel
theorem dX1_number_23 : decode cX1_number 23 = .ok (.invokestatic 36, 3) := by decide +kernel
theorem dX1_number_26 : decode cX1_number 26 = .ok (.ireturn, 1) := by decide +kernel
theorem dX1_movesOf_0 : decode cX1_movesOf 0 = .ok (.iconst 0, 1) := by decide +kernel
theorem dX1_movesOf_1 : decode cX1_movesOf 1 = .ok (.istore_n 2, 1) := by decide +kernel
theorem dX1_movesOf_2 : decode cX1_movesOf 2 = .ok (.iconst 0, 1) := by decide +kernel
theorem dX1_movesOf_3 : decode cX1_movesOf 3 = .ok (.istore_n 3, 1) := by decide +kernel
theorem dX1_movesOf_4 : decode cX1_movesOf 4 = .ok (.iload_n 3, 1) := by decide +kernel
theorem dX1_movesOf_5 : decode cX1_movesOf 5 = .ok (.aload_n 0, 1) := by decide +kernel
theorem dX1_movesOf_6 : decode cX1_movesOf 6 = .ok (.getfield 15, 3) := by decide +kernel
theorem dX1_movesOf_9 : decode cX1_movesOf 9 = .ok (.if_icmp .ge 22, 3) := by decide +kernel
theorem dX1_movesOf_12 : decode cX1_movesOf 12 = .ok (.aload_n 0, 1) := by decide +kernel
theorem dX1_movesOf_13 : decode cX1_movesOf 13 = .ok (.iload_n 3, 1) := by decide +kernel
theorem dX1_movesOf_14 : decode cX1_movesOf 14 = .ok (.iconst 0, 1) := by decide +kernel
theorem dX1_movesOf_15 : decode cX1_movesOf 15 = .ok (.invokevirtual 40, 3) := by decide +kernel
theorem dX1_movesOf_18 : decode cX1_movesOf 18 = .ok (.iload_n 1, 1) := by decide +kernel
theorem dX1_movesOf_19 : decode cX1_movesOf 19 = .ok (.if_icmp .ne 6, 3) := by decide +kernel
theorem dX1_movesOf_22 : decode cX1_movesOf 22 = .ok (.iinc 2 1, 3) := by decide +kernel
theorem dX1_movesOf_25 : decode cX1_movesOf 25 = .ok (.iinc 3 1, 3) := by decide +kernel
theorem dX1_movesOf_28 : decode cX1_movesOf 28 = .ok (.goto (-24), 3) := by decide +kernel
theorem dX1_movesOf_31 : decode cX1_movesOf 31 = .ok (.iload_n 2, 1) := by decide +kernel
theorem dX1_movesOf_32 : decode cX1_movesOf 32 = .ok (.ireturn, 1) := by decide +kernel
theorem dX1_movesWithin_0 : decode cX1_movesWithin 0 = .ok (.iconst 0, 1) := by decide +kernel
theorem dX1_movesWithin_1 : decode cX1_movesWithin 1 = .ok (.istore_n 3, 1) := by decide +kernel
theorem dX1_movesWithin_2 : decode cX1_movesWithin 2 = .ok (.iconst 0, 1) := by decide +kernel
theorem dX1_movesWithin_3 : decode cX1_movesWithin 3 = .ok (.istore 4, 2) := by decide +kernel
theorem dX1_movesWithin_5 : decode cX1_movesWithin 5 = .ok (.iload 4, 2) := by decide +kernel
theorem dX1_movesWithin_7 : decode cX1_movesWithin 7 = .ok (.aload_n 0, 1) := by decide +kernel
theorem dX1_movesWithin_8 : decode cX1_movesWithin 8 = .ok (.getfield 15, 3) := by decide +kernel
theorem dX1_movesWithin_11 : decode cX1_movesWithin 11 = .ok (.if_icmp .ge 34, 3) := by decide +kernel
theorem dX1_movesWithin_14 : decode cX1_movesWithin 14 = .ok (.aload_n 0, 1) := by decide +kernel
theorem dX1_movesWithin_15 : decode cX1_movesWithin 15 = .ok (.iload 4, 2) := by decide +kernel
theorem dX1_movesWithin_17 : decode cX1_movesWithin 17 = .ok (.iconst 0, 1) := by decide +kernel
theorem dX1_movesWithin_18 : decode cX1_movesWithin 18 = .ok (.invokevirtual 40, 3) := by decide +kernel
theorem dX1_movesWithin_21 : decode cX1_movesWithin 21 = .ok (.iload_n 1, 1) := by decide +kernel
theorem dX1_movesWithin_22 : decode cX1_movesWithin 22 = .ok (.if_icmp .ne 17, 3) := by decide +kernel
theorem dX1_movesWithin_25 : decode cX1_movesWithin 25 = .ok (.aload_n 0, 1) := by decide +kernel
theorem dX1_movesWithin_26 : decode cX1_movesWithin 26 = .ok (.iload 4, 2) := by decide +kernel
theorem dX1_movesWithin_28 : decode cX1_movesWithin 28 = .ok (.iconst 1, 1) := by decide +kernel
theorem dX1_movesWithin_29 : decode cX1_movesWithin 29 = .ok (.invokevirtual 40, 3) := by decide +kernel
theorem dX1_movesWithin_32 : decode cX1_movesWithin 32 = .ok (.iload_n 2, 1) := by decide +kernel
theorem dX1_movesWithin_33 : decode cX1_movesWithin 33 = .ok (.if_icmp .gt 6, 3) := by decide +kernel
theorem dX1_movesWithin_36 : decode cX1_movesWithin 36 = .ok (.iinc 3 1, 3) := by decide +kernel
theorem dX1_movesWithin_39 : decode cX1_movesWithin 39 = .ok (.iinc 4 1, 3) := by decide +kernel
theorem dX1_movesWithin_42 : decode cX1_movesWithin 42 = .ok (.goto (-37), 3) := by decide +kernel
theorem dX1_movesWithin_45 : decode cX1_movesWithin 45 = .ok (.iload_n 3, 1) := by decide +kernel
theorem dX1_movesWithin_46 : decode cX1_movesWithin 46 = .ok (.ireturn, 1) := by decide +kernel
theorem dX1_sumOf_0 : decode cX1_sumOf 0 = .ok (.iconst 0, 1) := by decide +kernel
theorem dX1_sumOf_1 : decode cX1_sumOf 1 = .ok (.istore_n 3, 1) := by decide +kernel
theorem dX1_sumOf_2 : decode cX1_sumOf 2 = .ok (.iconst 0, 1) := by decide +kernel
theorem dX1_sumOf_3 : decode cX1_sumOf 3 = .ok (.istore 4, 2) := by decide +kernel
theorem dX1_sumOf_5 : decode cX1_sumOf 5 = .ok (.iload 4, 2) := by decide +kernel
theorem dX1_sumOf_7 : decode cX1_sumOf 7 = .ok (.aload_n 0, 1) := by decide +kernel
theorem dX1_sumOf_8 : decode cX1_sumOf 8 = .ok (.getfield 15, 3) := by decide +kernel
theorem dX1_sumOf_11 : decode cX1_sumOf 11 = .ok (.if_icmp .ge 30, 3) := by decide +kernel
theorem dX1_sumOf_14 : decode cX1_sumOf 14 = .ok (.aload_n 0, 1) := by decide +kernel
theorem dX1_sumOf_15 : decode cX1_sumOf 15 = .ok (.iload 4, 2) := by decide +kernel
theorem dX1_sumOf_17 : decode cX1_sumOf 17 = .ok (.iconst 0, 1) := by decide +kernel
theorem dX1_sumOf_18 : decode cX1_sumOf 18 = .ok (.invokevirtual 40, 3) := by decide +kernel
theorem dX1_sumOf_21 : decode cX1_sumOf 21 = .ok (.iload_n 1, 1) := by decide +kernel
theorem dX1_sumOf_22 : decode cX1_sumOf 22 = .ok (.if_icmp .ne 13, 3) := by decide +kernel
theorem dX1_sumOf_25 : decode cX1_sumOf 25 = .ok (.iload_n 3, 1) := by decide +kernel
theorem dX1_sumOf_26 : decode cX1_sumOf 26 = .ok (.aload_n 0, 1) := by decide +kernel
theorem dX1_sumOf_27 : decode cX1_sumOf 27 = .ok (.iload 4, 2) := by decide +kernel
theorem dX1_sumOf_29 : decode cX1_sumOf 29 = .ok (.iload_n 2, 1) := by decide +kernel
theorem dX1_sumOf_30 : decode cX1_sumOf 30 = .ok (.invokevirtual 40, 3) := by decide +kernel
theorem dX1_sumOf_33 : decode cX1_sumOf 33 = .ok (.iadd, 1) := by decide +kernel
theorem dX1_sumOf_34 : decode cX1_sumOf 34 = .ok (.istore_n 3, 1) := by decide +kernel
theorem dX1_sumOf_35 : decode cX1_sumOf 35 = .ok (.iinc 4 1, 3) := by decide +kernel
theorem dX1_sumOf_38 : decode cX1_sumOf 38 = .ok (.goto (-33), 3) := by decide +kernel
theorem dX1_sumOf_41 : decode cX1_sumOf 41 = .ok (.iload_n 3, 1) := by decide +kernel
theorem dX1_sumOf_42 : decode cX1_sumOf 42 = .ok (.ireturn, 1) := by decide +kernel
theorem dX1_greatestThink_0 : decode cX1_greatestThink 0 = .ok (.iconst 0, 1) := by decide +kernel
theorem dX1_greatestThink_1 : decode cX1_greatestThink 1 = .ok (.istore_n 2, 1) := by decide +kernel
theorem dX1_greatestThink_2 : decode cX1_greatestThink 2 = .ok (.iconst 0, 1) := by decide +kernel
theorem dX1_greatestThink_3 : decode cX1_greatestThink 3 = .ok (.istore_n 3, 1) := by decide +kernel
theorem dX1_greatestThink_4 : decode cX1_greatestThink 4 = .ok (.iload_n 3, 1) := by decide +kernel
theorem dX1_greatestThink_5 : decode cX1_greatestThink 5 = .ok (.aload_n 0, 1) := by decide +kernel
theorem dX1_greatestThink_6 : decode cX1_greatestThink 6 = .ok (.getfield 15, 3) := by decide +kernel
theorem dX1_greatestThink_9 : decode cX1_greatestThink 9 = .ok (.if_icmp .ge 30, 3) := by decide +kernel
theorem dX1_greatestThink_12 : decode cX1_greatestThink 12 = .ok (.aload_n 0, 1) := by decide +kernel
theorem dX1_greatestThink_13 : decode cX1_greatestThink 13 = .ok (.iload_n 3, 1) := by decide +kernel
theorem dX1_greatestThink_14 : decode cX1_greatestThink 14 = .ok (.iconst 0, 1) := by decide +kernel
theorem dX1_greatestThink_15 : decode cX1_greatestThink 15 = .ok (.invokevirtual 40, 3) := by decide +kernel
theorem dX1_greatestThink_18 : decode cX1_greatestThink 18 = .ok (.iload_n 1, 1) := by decide +kernel
theorem dX1_greatestThink_19 : decode cX1_greatestThink 19 = .ok (.if_icmp .ne 14, 3) := by decide +kernel
theorem dX1_greatestThink_22 : decode cX1_greatestThink 22 = .ok (.iload_n 2, 1) := by decide +kernel
theorem dX1_greatestThink_23 : decode cX1_greatestThink 23 = .ok (.aload_n 0, 1) := by decide +kernel
theorem dX1_greatestThink_24 : decode cX1_greatestThink 24 = .ok (.iload_n 3, 1) := by decide +kernel
theorem dX1_greatestThink_25 : decode cX1_greatestThink 25 = .ok (.iconst 1, 1) := by decide +kernel
theorem dX1_greatestThink_26 : decode cX1_greatestThink 26 = .ok (.invokevirtual 40, 3) := by decide +kernel
theorem dX1_greatestThink_29 : decode cX1_greatestThink 29 = .ok (.invokestatic 43, 3) := by decide +kernel
theorem dX1_greatestThink_32 : decode cX1_greatestThink 32 = .ok (.istore_n 2, 1) := by decide +kernel
theorem dX1_greatestThink_33 : decode cX1_greatestThink 33 = .ok (.iinc 3 1, 3) := by decide +kernel
theorem dX1_greatestThink_36 : decode cX1_greatestThink 36 = .ok (.goto (-32), 3) := by decide +kernel
theorem dX1_greatestThink_39 : decode cX1_greatestThink 39 = .ok (.iload_n 2, 1) := by decide +kernel
theorem dX1_greatestThink_40 : decode cX1_greatestThink 40 = .ok (.ireturn, 1) := by decide +kernel
theorem dX1_slowestIndex_0 : decode cX1_slowestIndex 0 = .ok (.iconst (-1), 1) := by decide +kernel
theorem dX1_slowestIndex_1 : decode cX1_slowestIndex 1 = .ok (.istore_n 1, 1) := by decide +kernel
theorem dX1_slowestIndex_2 : decode cX1_slowestIndex 2 = .ok (.iconst 0, 1) := by decide +kernel
theorem dX1_slowestIndex_3 : decode cX1_slowestIndex 3 = .ok (.istore_n 2, 1) := by decide +kernel
theorem dX1_slowestIndex_4 : decode cX1_slowestIndex 4 = .ok (.iload_n 2, 1) := by decide +kernel
theorem dX1_slowestIndex_5 : decode cX1_slowestIndex 5 = .ok (.aload_n 0, 1) := by decide +kernel
theorem dX1_slowestIndex_6 : decode cX1_slowestIndex 6 = .ok (.getfield 15, 3) := by decide +kernel
theorem dX1_slowestIndex_9 : decode cX1_slowestIndex 9 = .ok (.if_icmp .ge 31, 3) := by decide +kernel
theorem dX1_slowestIndex_12 : decode cX1_slowestIndex 12 = .ok (.iload_n 1, 1) := by decide +kernel
theorem dX1_slowestIndex_13 : decode cX1_slowestIndex 13 = .ok (.iconst (-1), 1) := by decide +kernel
theorem dX1_slowestIndex_14 : decode cX1_slowestIndex 14 = .ok (.if_icmp .eq 18, 3) := by decide +kernel
theorem dX1_slowestIndex_17 : decode cX1_slowestIndex 17 = .ok (.aload_n 0, 1) := by decide +kernel
theorem dX1_slowestIndex_18 : decode cX1_slowestIndex 18 = .ok (.iload_n 2, 1) := by decide +kernel
theorem dX1_slowestIndex_19 : decode cX1_slowestIndex 19 = .ok (.iconst 1, 1) := by decide +kernel
theorem dX1_slowestIndex_20 : decode cX1_slowestIndex 20 = .ok (.invokevirtual 40, 3) := by decide +kernel
theorem dX1_slowestIndex_23 : decode cX1_slowestIndex 23 = .ok (.aload_n 0, 1) := by decide +kernel
theorem dX1_slowestIndex_24 : decode cX1_slowestIndex 24 = .ok (.iload_n 1, 1) := by decide +kernel
theorem dX1_slowestIndex_25 : decode cX1_slowestIndex 25 = .ok (.iconst 1, 1) := by decide +kernel
theorem dX1_slowestIndex_26 : decode cX1_slowestIndex 26 = .ok (.invokevirtual 40, 3) := by decide +kernel
theorem dX1_slowestIndex_29 : decode cX1_slowestIndex 29 = .ok (.if_icmp .le 5, 3) := by decide +kernel
theorem dX1_slowestIndex_32 : decode cX1_slowestIndex 32 = .ok (.iload_n 2, 1) := by decide +kernel
theorem dX1_slowestIndex_33 : decode cX1_slowestIndex 33 = .ok (.istore_n 1, 1) := by decide +kernel
theorem dX1_slowestIndex_34 : decode cX1_slowestIndex 34 = .ok (.iinc 2 1, 3) := by decide +kernel
theorem dX1_slowestIndex_37 : decode cX1_slowestIndex 37 = .ok (.goto (-33), 3) := by decide +kernel
theorem dX1_slowestIndex_40 : decode cX1_slowestIndex 40 = .ok (.iload_n 1, 1) := by decide +kernel
theorem dX1_slowestIndex_41 : decode cX1_slowestIndex 41 = .ok (.ireturn, 1) := by decide +kernel
theorem dX2_init_0 : decode cX2_init 0 = .ok (.aload_n 0, 1) := by decide +kernel
theorem dX2_init_1 : decode cX2_init 1 = .ok (.invokespecial 3, 3) := by decide +kernel
theorem dX2_init_4 : decode cX2_init 4 = .ok (.aload_n 0, 1) := by decide +kernel
theorem dX2_init_5 : decode cX2_init 5 = .ok (.sipush 256, 3) := by decide +kernel
theorem dX2_init_8 : decode cX2_init 8 = .ok (.newarray .byte, 2) := by decide +kernel
theorem dX2_init_10 : decode cX2_init 10 = .ok (.putfield 9, 3) := by decide +kernel
theorem dX2_init_13 : decode cX2_init 13 = .ok (.return_, 1) := by decide +kernel
theorem dX2_add_0 : decode cX2_add 0 = .ok (.aload_n 0, 1) := by decide +kernel
theorem dX2_add_1 : decode cX2_add 1 = .ok (.getfield 15, 3) := by decide +kernel
theorem dX2_add_4 : decode cX2_add 4 = .ok (.ifCond .lt 36, 3) := by decide +kernel
theorem dX2_add_7 : decode cX2_add 7 = .ok (.aload_n 0, 1) := by decide +kernel
theorem dX2_add_8 : decode cX2_add 8 = .ok (.getfield 15, 3) := by decide +kernel
theorem dX2_add_11 : decode cX2_add 11 = .ok (.aload_n 0, 1) := by decide +kernel
theorem dX2_add_12 : decode cX2_add 12 = .ok (.getfield 9, 3) := by decide +kernel
theorem dX2_add_15 : decode cX2_add 15 = .ok (.arraylength, 1) := by decide +kernel
theorem dX2_add_16 : decode cX2_add 16 = .ok (.if_icmp .ge 24, 3) := by decide +kernel
theorem dX2_add_19 : decode cX2_add 19 = .ok (.aload_n 0, 1) := by decide +kernel
theorem dX2_add_20 : decode cX2_add 20 = .ok (.getfield 9, 3) := by decide +kernel
theorem dX2_add_23 : decode cX2_add 23 = .ok (.aload_n 0, 1) := by decide +kernel
theorem dX2_add_24 : decode cX2_add 24 = .ok (.getfield 15, 3) := by decide +kernel
theorem dX2_add_27 : decode cX2_add 27 = .ok (.iload_n 1, 1) := by decide +kernel
theorem dX2_add_28 : decode cX2_add 28 = .ok (.i2b, 1) := by decide +kernel
theorem dX2_add_29 : decode cX2_add 29 = .ok (.bastore, 1) := by decide +kernel
theorem dX2_add_30 : decode cX2_add 30 = .ok (.aload_n 0, 1) := by decide +kernel
theorem dX2_add_31 : decode cX2_add 31 = .ok (.dup, 1) := by decide +kernel
theorem dX2_add_32 : decode cX2_add 32 = .ok (.getfield 15, 3) := by decide +kernel
theorem dX2_add_35 : decode cX2_add 35 = .ok (.iconst 1, 1) := by decide +kernel
theorem dX2_add_36 : decode cX2_add 36 = .ok (.iadd, 1) := by decide +kernel
theorem dX2_add_37 : decode cX2_add 37 = .ok (.putfield 15, 3) := by decide +kernel
theorem dX2_add_40 : decode cX2_add 40 = .ok (.return_, 1) := by decide +kernel
theorem dX2_addNumber_0 : decode cX2_addNumber 0 = .ok (.iload_n 1, 1) := by decide +kernel
theorem dX2_addNumber_1 : decode cX2_addNumber 1 = .ok (.i2l, 1) := by decide +kernel
theorem dX2_addNumber_2 : decode cX2_addNumber 2 = .ok (.lstore_n 2, 1) := by decide +kernel
theorem dX2_addNumber_3 : decode cX2_addNumber 3 = .ok (.lload_n 2, 1) := by decide +kernel
theorem dX2_addNumber_4 : decode cX2_addNumber 4 = .ok (.lconst 0, 1) := by decide +kernel
theorem dX2_addNumber_5 : decode cX2_addNumber 5 = .ok (.lcmp, 1) := by decide +kernel
theorem dX2_addNumber_6 : decode cX2_addNumber 6 = .ok (.ifCond .ge 12, 3) := by decide +kernel
theorem dX2_addNumber_9 : decode cX2_addNumber 9 = .ok (.aload_n 0, 1) := by decide +kernel
theorem dX2_addNumber_10 : decode cX2_addNumber 10 = .ok (.bipush 45, 2) := by decide +kernel
theorem dX2_addNumber_12 : decode cX2_addNumber 12 = .ok (.invokevirtual 19, 3) := by decide +kernel
theorem dX2_addNumber_15 : decode cX2_addNumber 15 = .ok (.lload_n 2, 1) := by decide +kernel
theorem dX2_addNumber_16 : decode cX2_addNumber 16 = .ok (.lneg, 1) := by decide +kernel
theorem dX2_addNumber_17 : decode cX2_addNumber 17 = .ok (.lstore_n 2, 1) := by decide +kernel
theorem dX2_addNumber_18 : decode cX2_addNumber 18 = .ok (.lconst 1, 1) := by decide +kernel
theorem dX2_addNumber_19 : decode cX2_addNumber 19 = .ok (.lstore 4, 2) := by decide +kernel
theorem dX2_addNumber_21 : decode cX2_addNumber 21 = .ok (.iconst 1, 1) := by decide +kernel
theorem dX2_addNumber_22 : decode cX2_addNumber 22 = .ok (.istore 6, 2) := by decide +kernel
theorem dX2_addNumber_24 : decode cX2_addNumber 24 = .ok (.iload 6, 2) := by decide +kernel
theorem dX2_addNumber_26 : decode cX2_addNumber 26 = .ok (.bipush 10, 2) := by decide +kernel
theorem dX2_addNumber_28 : decode cX2_addNumber 28 = .ok (.if_icmp .ge 28, 3) := by decide +kernel
theorem dX2_addNumber_31 : decode cX2_addNumber 31 = .ok (.ldc2_w 23, 3) := by decide +kernel
theorem dX2_addNumber_34 : decode cX2_addNumber 34 = .ok (.lload 4, 2) := by decide +kernel
theorem dX2_addNumber_36 : decode cX2_addNumber 36 = .ok (.lmul, 1) := by decide +kernel
theorem dX2_addNumber_37 : decode cX2_addNumber 37 = .ok (.lload_n 2, 1) := by decide +kernel
theorem dX2_addNumber_38 : decode cX2_addNumber 38 = .ok (.lcmp, 1) := by decide +kernel
theorem dX2_addNumber_39 : decode cX2_addNumber 39 = .ok (.ifCond .gt 17, 3) := by decide +kernel
theorem dX2_addNumber_42 : decode cX2_addNumber 42 = .ok (.ldc2_w 23, 3) := by decide +kernel
theorem dX2_addNumber_45 : decode cX2_addNumber 45 = .ok (.lload 4, 2) := by decide +kernel
theorem dX2_addNumber_47 : decode cX2_addNumber 47 = .ok (.lmul, 1) := by decide +kernel
theorem dX2_addNumber_48 : decode cX2_addNumber 48 = .ok (.lstore 4, 2) := by decide +kernel
theorem dX2_addNumber_50 : decode cX2_addNumber 50 = .ok (.iinc 6 1, 3) := by decide +kernel
theorem dX2_addNumber_53 : decode cX2_addNumber 53 = .ok (.goto (-29), 3) := by decide +kernel
theorem dX2_addNumber_56 : decode cX2_addNumber 56 = .ok (.iconst 0, 1) := by decide +kernel
theorem dX2_addNumber_57 : decode cX2_addNumber 57 = .ok (.istore 6, 2) := by decide +kernel
theorem dX2_addNumber_59 : decode cX2_addNumber 59 = .ok (.iload 6, 2) := by decide +kernel
theorem dX2_addNumber_61 : decode cX2_addNumber 61 = .ok (.bipush 10, 2) := by decide +kernel
theorem dX2_addNumber_63 : decode cX2_addNumber 63 = .ok (.if_icmp .ge 42, 3) := by decide +kernel
theorem dX2_addNumber_66 : decode cX2_addNumber 66 = .ok (.lload 4, 2) := by decide +kernel
theorem dX2_addNumber_68 : decode cX2_addNumber 68 = .ok (.lconst 0, 1) := by decide +kernel
theorem dX2_addNumber_69 : decode cX2_addNumber 69 = .ok (.lcmp, 1) := by decide +kernel
theorem dX2_addNumber_70 : decode cX2_addNumber 70 = .ok (.ifCond .le 35, 3) := by decide +kernel
theorem dX2_addNumber_73 : decode cX2_addNumber 73 = .ok (.aload_n 0, 1) := by decide +kernel
theorem dX2_addNumber_74 : decode cX2_addNumber 74 = .ok (.ldc2_w 25, 3) := by decide +kernel
theorem dX2_addNumber_77 : decode cX2_addNumber 77 = .ok (.lload_n 2, 1) := by decide +kernel
theorem dX2_addNumber_78 : decode cX2_addNumber 78 = .ok (.lload 4, 2) := by decide +kernel
theorem dX2_addNumber_80 : decode cX2_addNumber 80 = .ok (.ldiv, 1) := by decide +kernel
theorem dX2_addNumber_81 : decode cX2_addNumber 81 = .ok (.ldc2_w 23, 3) := by decide +kernel
theorem dX2_addNumber_84 : decode cX2_addNumber 84 = .ok (.lrem, 1) := by decide +kernel
theorem dX2_addNumber_85 : decode cX2_addNumber 85 = .ok (.ladd, 1) := by decide +kernel
theorem dX2_addNumber_86 : decode cX2_addNumber 86 = .ok (.l2i, 1) := by decide +kernel
theorem dX2_addNumber_87 : decode cX2_addNumber 87 = .ok (.i2c, 1) := by decide +kernel
theorem dX2_addNumber_88 : decode cX2_addNumber 88 = .ok (.invokevirtual 19, 3) := by decide +kernel
theorem dX2_addNumber_91 : decode cX2_addNumber 91 = .ok (.lload 4, 2) := by decide +kernel
theorem dX2_addNumber_93 : decode cX2_addNumber 93 = .ok (.ldc2_w 23, 3) := by decide +kernel
theorem dX2_addNumber_96 : decode cX2_addNumber 96 = .ok (.ldiv, 1) := by decide +kernel
theorem dX2_addNumber_97 : decode cX2_addNumber 97 = .ok (.lstore 4, 2) := by decide +kernel
theorem dX2_addNumber_99 : decode cX2_addNumber 99 = .ok (.iinc 6 1, 3) := by decide +kernel
theorem dX2_addNumber_102 : decode cX2_addNumber 102 = .ok (.goto (-43), 3) := by decide +kernel
theorem dX2_addNumber_105 : decode cX2_addNumber 105 = .ok (.return_, 1) := by decide +kernel
theorem dX2_addTwoDigits_0 : decode cX2_addTwoDigits 0 = .ok (.iload_n 1, 1) := by decide +kernel
theorem dX2_addTwoDigits_1 : decode cX2_addTwoDigits 1 = .ok (.bipush 10, 2) := by decide +kernel
theorem dX2_addTwoDigits_3 : decode cX2_addTwoDigits 3 = .ok (.if_icmp .ge 9, 3) := by decide +kernel
theorem dX2_addTwoDigits_6 : decode cX2_addTwoDigits 6 = .ok (.aload_n 0, 1) := by decide +kernel
theorem dX2_addTwoDigits_7 : decode cX2_addTwoDigits 7 = .ok (.bipush 48, 2) := by decide +kernel
theorem dX2_addTwoDigits_9 : decode cX2_addTwoDigits 9 = .ok (.invokevirtual 19, 3) := by decide +kernel
theorem dX2_addTwoDigits_12 : decode cX2_addTwoDigits 12 = .ok (.aload_n 0, 1) := by decide +kernel
theorem dX2_addTwoDigits_13 : decode cX2_addTwoDigits 13 = .ok (.iload_n 1, 1) := by decide +kernel
theorem dX2_addTwoDigits_14 : decode cX2_addTwoDigits 14 = .ok (.invokevirtual 27, 3) := by decide +kernel
theorem dX2_addTwoDigits_17 : decode cX2_addTwoDigits 17 = .ok (.return_, 1) := by decide +kernel
theorem dX2_addUnlessZero_0 : decode cX2_addUnlessZero 0 = .ok (.iload_n 2, 1) := by decide +kernel
theorem dX2_addUnlessZero_1 : decode cX2_addUnlessZero 1 = .ok (.ifCond .eq 13, 3) := by decide +kernel
theorem dX2_addUnlessZero_4 : decode cX2_addUnlessZero 4 = .ok (.aload_n 0, 1) := by decide +kernel
theorem dX2_addUnlessZero_5 : decode cX2_addUnlessZero 5 = .ok (.iload_n 1, 1) := by decide +kernel
theorem dX2_addUnlessZero_6 : decode cX2_addUnlessZero 6 = .ok (.invokevirtual 19, 3) := by decide +kernel
theorem dX2_addUnlessZero_9 : decode cX2_addUnlessZero 9 = .ok (.aload_n 0, 1) := by decide +kernel
theorem dX2_addUnlessZero_10 : decode cX2_addUnlessZero 10 = .ok (.iload_n 2, 1) := by decide +kernel
theorem dX2_addUnlessZero_11 : decode cX2_addUnlessZero 11 = .ok (.invokevirtual 27, 3) := by decide +kernel
theorem dX2_addUnlessZero_14 : decode cX2_addUnlessZero 14 = .ok (.return_, 1) := by decide +kernel
theorem dX3_init_0 : decode cX3_init 0 = .ok (.aload_n 0, 1) := by decide +kernel
theorem dX3_init_1 : decode cX3_init 1 = .ok (.invokespecial 3, 3) := by decide +kernel
theorem dX3_init_4 : decode cX3_init 4 = .ok (.aload_n 0, 1) := by decide +kernel
theorem dX3_init_5 : decode cX3_init 5 = .ok (.new 9, 3) := by decide +kernel
theorem dX3_init_8 : decode cX3_init 8 = .ok (.dup, 1) := by decide +kernel
theorem dX3_init_9 : decode cX3_init 9 = .ok (.invokespecial 11, 3) := by decide +kernel
theorem dX3_init_12 : decode cX3_init 12 = .ok (.putfield 12, 3) := by decide +kernel
theorem dX3_init_15 : decode cX3_init 15 = .ok (.aload_n 0, 1) := by decide +kernel
theorem dX3_init_16 : decode cX3_init 16 = .ok (.new 18, 3) := by decide +kernel
theorem dX3_init_19 : decode cX3_init 19 = .ok (.dup, 1) := by decide +kernel
theorem dX3_init_20 : decode cX3_init 20 = .ok (.invokespecial 20, 3) := by decide +kernel
theorem dX3_init_23 : decode cX3_init 23 = .ok (.putfield 21, 3) := by decide +kernel
theorem dX3_init_26 : decode cX3_init 26 = .ok (.aload_n 0, 1) := by decide +kernel
theorem dX3_init_27 : decode cX3_init 27 = .ok (.iconst (-1), 1) := by decide +kernel
theorem dX3_init_28 : decode cX3_init 28 = .ok (.putfield 25, 3) := by decide +kernel
theorem dX3_init_31 : decode cX3_init 31 = .ok (.aload_n 0, 1) := by decide +kernel
theorem dX3_init_32 : decode cX3_init 32 = .ok (.iconst (-1), 1) := by decide +kernel
theorem dX3_init_33 : decode cX3_init 33 = .ok (.putfield 29, 3) := by decide +kernel
theorem dX3_init_36 : decode cX3_init 36 = .ok (.return_, 1) := by decide +kernel
theorem dX3_readText_0 : decode cX3_readText 0 = .ok (.aload_n 0, 1) := by decide +kernel
theorem dX3_readText_1 : decode cX3_readText 1 = .ok (.invokevirtual 32, 3) := by decide +kernel
theorem dX3_readText_4 : decode cX3_readText 4 = .ok (.aload_n 0, 1) := by decide +kernel
theorem dX3_readText_5 : decode cX3_readText 5 = .ok (.invokevirtual 35, 3) := by decide +kernel
theorem dX3_readText_8 : decode cX3_readText 8 = .ok (.aload_n 0, 1) := by decide +kernel
theorem dX3_readText_9 : decode cX3_readText 9 = .ok (.ldc 38, 2) := by decide +kernel
theorem dX3_readText_11 : decode cX3_readText 11 = .ok (.invokevirtual 40, 3) := by decide +kernel
theorem dX3_readText_14 : decode cX3_readText 14 = .ok (.ifCond .ne 8, 3) := by decide +kernel
theorem dX3_readText_17 : decode cX3_readText 17 = .ok (.aload_n 0, 1) := by decide +kernel
theorem dX3_readText_18 : decode cX3_readText 18 = .ok (.iconst 1, 1) := by decide +kernel
theorem dX3_readText_19 : decode cX3_readText 19 = .ok (.invokevirtual 44, 3) := by decide +kernel
theorem dX3_readText_22 : decode cX3_readText 22 = .ok (.iconst 0, 1) := by decide +kernel
theorem dX3_readText_23 : decode cX3_readText 23 = .ok (.istore_n 1, 1) := by decide +kernel
theorem dX3_readText_24 : decode cX3_readText 24 = .ok (.iload_n 1, 1) := by decide +kernel
theorem dX3_readText_25 : decode cX3_readText 25 = .ok (.sipush 400, 3) := by decide +kernel
theorem dX3_readText_28 : decode cX3_readText 28 = .ok (.if_icmp .ge 108, 3) := by decide +kernel
theorem dX3_readText_31 : decode cX3_readText 31 = .ok (.aload_n 0, 1) := by decide +kernel
theorem dX3_readText_32 : decode cX3_readText 32 = .ok (.getfield 48, 3) := by decide +kernel
theorem dX3_readText_35 : decode cX3_readText 35 = .ok (.ifCond .ne 101, 3) := by decide +kernel
theorem dX3_readText_38 : decode cX3_readText 38 = .ok (.aload_n 0, 1) := by decide +kernel
theorem dX3_readText_39 : decode cX3_readText 39 = .ok (.getfield 51, 3) := by decide +kernel
theorem dX3_readText_42 : decode cX3_readText 42 = .ok (.ifCond .eq 94, 3) := by decide +kernel
theorem dX3_readText_45 : decode cX3_readText 45 = .ok (.aload_n 0, 1) := by decide +kernel
theorem dX3_readText_46 : decode cX3_readText 46 = .ok (.ldc 38, 2) := by decide +kernel
theorem dX3_readText_48 : decode cX3_readText 48 = .ok (.invokevirtual 40, 3) := by decide +kernel
theorem dX3_readText_51 : decode cX3_readText 51 = .ok (.ifCond .eq 10, 3) := by decide +kernel
theorem dX3_readText_54 : decode cX3_readText 54 = .ok (.aload_n 0, 1) := by decide +kernel
theorem dX3_readText_55 : decode cX3_readText 55 = .ok (.invokevirtual 54, 3) := by decide +kernel
theorem dX3_readText_58 : decode cX3_readText 58 = .ok (.goto 72, 3) := by decide +kernel
theorem dX3_readText_61 : decode cX3_readText 61 = .ok (.aload_n 0, 1) := by decide +kernel
theorem dX3_readText_62 : decode cX3_readText 62 = .ok (.ldc 57, 2) := by decide +kernel
theorem dX3_readText_64 : decode cX3_readText 64 = .ok (.invokevirtual 40, 3) := by decide +kernel
theorem dX3_readText_67 : decode cX3_readText 67 = .ok (.ifCond .eq 10, 3) := by decide +kernel
theorem dX3_readText_70 : decode cX3_readText 70 = .ok (.aload_n 0, 1) := by decide +kernel
theorem dX3_readText_71 : decode cX3_readText 71 = .ok (.invokevirtual 59, 3) := by decide +kernel
theorem dX3_readText_74 : decode cX3_readText 74 = .ok (.goto 56, 3) := by decide +kernel
theorem dX3_readText_77 : decode cX3_readText 77 = .ok (.aload_n 0, 1) := by decide +kernel
theorem dX3_readText_78 : decode cX3_readText 78 = .ok (.ldc 62, 2) := by decide +kernel
theorem dX3_readText_80 : decode cX3_readText 80 = .ok (.invokevirtual 40, 3) := by decide +kernel
theorem dX3_readText_83 : decode cX3_readText 83 = .ok (.ifCond .eq 10, 3) := by decide +kernel
theorem dX3_readText_86 : decode cX3_readText 86 = .ok (.aload_n 0, 1) := by decide +kernel
theorem dX3_readText_87 : decode cX3_readText 87 = .ok (.invokevirtual 64, 3) := by decide +kernel
theorem dX3_readText_90 : decode cX3_readText 90 = .ok (.goto 40, 3) := by decide +kernel
theorem dX3_readText_93 : decode cX3_readText 93 = .ok (.aload_n 0, 1) := by decide +kernel
theorem dX3_readText_94 : decode cX3_readText 94 = .ok (.ldc 67, 2) := by decide +kernel
theorem dX3_readText_96 : decode cX3_readText 96 = .ok (.invokevirtual 40, 3) := by decide +kernel
theorem dX3_readText_99 : decode cX3_readText 99 = .ok (.ifCond .eq 10, 3) := by decide +kernel
theorem dX3_readText_102 : decode cX3_readText 102 = .ok (.aload_n 0, 1) := by decide +kernel
theorem dX3_readText_103 : decode cX3_readText 103 = .ok (.invokevirtual 69, 3) := by decide +kernel
theorem dX3_readText_106 : decode cX3_readText 106 = .ok (.goto 24, 3) := by decide +kernel
theorem dX3_readText_109 : decode cX3_readText 109 = .ok (.aload_n 0, 1) := by decide +kernel
theorem dX3_readText_110 : decode cX3_readText 110 = .ok (.ldc 72, 2) := by decide +kernel
theorem dX3_readText_112 : decode cX3_readText 112 = .ok (.invokevirtual 40, 3) := by decide +kernel
theorem dX3_readText_115 : decode cX3_readText 115 = .ok (.ifCond .eq 10, 3) := by decide +kernel
theorem dX3_readText_118 : decode cX3_readText 118 = .ok (.aload_n 0, 1) := by decide +kernel
theorem dX3_readText_119 : decode cX3_readText 119 = .ok (.invokevirtual 74, 3) := by decide +kernel
theorem dX3_readText_122 : decode cX3_readText 122 = .ok (.goto 8, 3) := by decide +kernel
theorem dX3_readText_125 : decode cX3_readText 125 = .ok (.aload_n 0, 1) := by decide +kernel
theorem dX3_readText_126 : decode cX3_readText 126 = .ok (.iconst 1, 1) := by decide +kernel
theorem dX3_readText_127 : decode cX3_readText 127 = .ok (.invokevirtual 44, 3) := by decide +kernel
theorem dX3_readText_130 : decode cX3_readText 130 = .ok (.iinc 1 1, 3) := by decide +kernel
theorem dX3_readText_133 : decode cX3_readText 133 = .ok (.goto (-109), 3) := by decide +kernel
theorem dX3_readText_136 : decode cX3_readText 136 = .ok (.aload_n 0, 1) := by decide +kernel
theorem dX3_readText_137 : decode cX3_readText 137 = .ok (.getfield 48, 3) := by decide +kernel
theorem dX3_readText_140 : decode cX3_readText 140 = .ok (.ifCond .ne 7, 3) := by decide +kernel
theorem dX3_readText_143 : decode cX3_readText 143 = .ok (.iconst 1, 1) := by decide +kernel
theorem dX3_readText_144 : decode cX3_readText 144 = .ok (.goto 4, 3) := by decide +kernel
theorem dX3_readText_147 : decode cX3_readText 147 = .ok (.iconst 0, 1) := by decide +kernel
theorem dX3_readText_148 : decode cX3_readText 148 = .ok (.ireturn, 1) := by decide +kernel
theorem dX3_clear_0 : decode cX3_clear 0 = .ok (.aload_n 0, 1) := by decide +kernel
theorem dX3_clear_1 : decode cX3_clear 1 = .ok (.getfield 21, 3) := by decide +kernel
theorem dX3_clear_4 : decode cX3_clear 4 = .ok (.invokevirtual 77, 3) := by decide +kernel
theorem dX3_clear_7 : decode cX3_clear 7 = .ok (.aload_n 0, 1) := by decide +kernel
theorem dX3_clear_8 : decode cX3_clear 8 = .ok (.iconst 0, 1) := by decide +kernel
theorem dX3_clear_9 : decode cX3_clear 9 = .ok (.putfield 78, 3) := by decide +kernel
theorem dX3_clear_12 : decode cX3_clear 12 = .ok (.aload_n 0, 1) := by decide +kernel
theorem dX3_clear_13 : decode cX3_clear 13 = .ok (.iconst (-1), 1) := by decide +kernel
theorem dX3_clear_14 : decode cX3_clear 14 = .ok (.putfield 25, 3) := by decide +kernel
theorem dX3_clear_17 : decode cX3_clear 17 = .ok (.aload_n 0, 1) := by decide +kernel
theorem dX3_clear_18 : decode cX3_clear 18 = .ok (.iconst 0, 1) := by decide +kernel
theorem dX3_clear_19 : decode cX3_clear 19 = .ok (.putfield 81, 3) := by decide +kernel
theorem dX3_clear_22 : decode cX3_clear 22 = .ok (.aload_n 0, 1) := by decide +kernel
theorem dX3_clear_23 : decode cX3_clear 23 = .ok (.iconst 0, 1) := by decide +kernel
theorem dX3_clear_24 : decode cX3_clear 24 = .ok (.putfield 48, 3) := by decide +kernel
theorem dX3_clear_27 : decode cX3_clear 27 = .ok (.aload_n 0, 1) := by decide +kernel
theorem dX3_clear_28 : decode cX3_clear 28 = .ok (.iconst (-1), 1) := by decide +kernel
theorem dX3_clear_29 : decode cX3_clear 29 = .ok (.putfield 29, 3) := by decide +kernel
theorem dX3_clear_32 : decode cX3_clear 32 = .ok (.aload_n 0, 1) := by decide +kernel
theorem dX3_clear_33 : decode cX3_clear 33 = .ok (.iconst 0, 1) := by decide +kernel
theorem dX3_clear_34 : decode cX3_clear 34 = .ok (.putfield 84, 3) := by decide +kernel
theorem dX3_clear_37 : decode cX3_clear 37 = .ok (.return_, 1) := by decide +kernel
theorem dX3_readPeriod_0 : decode cX3_readPeriod 0 = .ok (.aload_n 0, 1) := by decide +kernel
theorem dX3_readPeriod_1 : decode cX3_readPeriod 1 = .ok (.getfield 21, 3) := by decide +kernel
theorem dX3_readPeriod_4 : decode cX3_readPeriod 4 = .ok (.getfield 87, 3) := by decide +kernel
theorem dX3_readPeriod_7 : decode cX3_readPeriod 7 = .ok (.istore_n 1, 1) := by decide +kernel
theorem dX3_readPeriod_8 : decode cX3_readPeriod 8 = .ok (.iload_n 1, 1) := by decide +kernel
theorem dX3_readPeriod_9 : decode cX3_readPeriod 9 = .ok (.iconst 5, 1) := by decide +kernel
theorem dX3_readPeriod_10 : decode cX3_readPeriod 10 = .ok (.if_icmp .lt 11, 3) := by decide +kernel
theorem dX3_readPeriod_13 : decode cX3_readPeriod 13 = .ok (.aload_n 0, 1) := by decide +kernel
theorem dX3_readPeriod_14 : decode cX3_readPeriod 14 = .ok (.iconst 3, 1) := by decide +kernel
theorem dX3_readPeriod_15 : decode cX3_readPeriod 15 = .ok (.invokevirtual 44, 3) := by decide +kernel
theorem dX3_readPeriod_18 : decode cX3_readPeriod 18 = .ok (.goto 25, 3) := by decide +kernel
theorem dX3_readPeriod_21 : decode cX3_readPeriod 21 = .ok (.iload_n 1, 1) := by decide +kernel
theorem dX3_readPeriod_22 : decode cX3_readPeriod 22 = .ok (.ifCond .le 21, 3) := by decide +kernel
theorem dX3_readPeriod_25 : decode cX3_readPeriod 25 = .ok (.aload_n 0, 1) := by decide +kernel
theorem dX3_readPeriod_26 : decode cX3_readPeriod 26 = .ok (.getfield 21, 3) := by decide +kernel
theorem dX3_readPeriod_29 : decode cX3_readPeriod 29 = .ok (.iload_n 1, 1) := by decide +kernel
theorem dX3_readPeriod_30 : decode cX3_readPeriod 30 = .ok (.iconst 1, 1) := by decide +kernel
theorem dX3_readPeriod_31 : decode cX3_readPeriod 31 = .ok (.isub, 1) := by decide +kernel
theorem dX3_readPeriod_32 : decode cX3_readPeriod 32 = .ok (.invokevirtual 90, 3) := by decide +kernel
theorem dX3_readPeriod_35 : decode cX3_readPeriod 35 = .ok (.ifCond .eq 8, 3) := by decide +kernel
theorem dX3_readPeriod_38 : decode cX3_readPeriod 38 = .ok (.aload_n 0, 1) := by decide +kernel
theorem dX3_readPeriod_39 : decode cX3_readPeriod 39 = .ok (.iconst 4, 1) := by decide +kernel
theorem dX3_readPeriod_40 : decode cX3_readPeriod 40 = .ok (.invokevirtual 44, 3) := by decide +kernel
theorem dX3_readPeriod_43 : decode cX3_readPeriod 43 = .ok (.aload_n 0, 1) := by decide +kernel
theorem dX3_readPeriod_44 : decode cX3_readPeriod 44 = .ok (.ldc 38, 2) := by decide +kernel
theorem dX3_readPeriod_46 : decode cX3_readPeriod 46 = .ok (.invokevirtual 94, 3) := by decide +kernel
theorem dX3_readPeriod_49 : decode cX3_readPeriod 49 = .ok (.aload_n 0, 1) := by decide +kernel
theorem dX3_readPeriod_50 : decode cX3_readPeriod 50 = .ok (.ldc 98, 2) := by decide +kernel
theorem dX3_readPeriod_52 : decode cX3_readPeriod 52 = .ok (.invokevirtual 94, 3) := by decide +kernel
theorem dX3_readPeriod_55 : decode cX3_readPeriod 55 = .ok (.aload_n 0, 1) := by decide +kernel
theorem dX3_readPeriod_56 : decode cX3_readPeriod 56 = .ok (.getfield 21, 3) := by decide +kernel
theorem dX3_readPeriod_59 : decode cX3_readPeriod 59 = .ok (.iload_n 1, 1) := by decide +kernel
theorem dX3_readPeriod_60 : decode cX3_readPeriod 60 = .ok (.iconst 0, 1) := by decide +kernel
theorem dX3_readPeriod_61 : decode cX3_readPeriod 61 = .ok (.aload_n 0, 1) := by decide +kernel
theorem dX3_readPeriod_62 : decode cX3_readPeriod 62 = .ok (.iconst 0, 1) := by decide +kernel
theorem dX3_readPeriod_63 : decode cX3_readPeriod 63 = .ok (.bipush 60, 2) := by decide +kernel
theorem dX3_readPeriod_65 : decode cX3_readPeriod 65 = .ok (.invokevirtual 100, 3) := by decide +kernel
theorem dX3_readPeriod_68 : decode cX3_readPeriod 68 = .ok (.invokevirtual 104, 3) := by decide +kernel
theorem dX3_readPeriod_71 : decode cX3_readPeriod 71 = .ok (.aload_n 0, 1) := by decide +kernel
theorem dX3_readPeriod_72 : decode cX3_readPeriod 72 = .ok (.ldc 108, 2) := by decide +kernel
theorem dX3_readPeriod_74 : decode cX3_readPeriod 74 = .ok (.invokevirtual 94, 3) := by decide +kernel
theorem dX3_readPeriod_77 : decode cX3_readPeriod 77 = .ok (.aload_n 0, 1) := by decide +kernel
theorem dX3_readPeriod_78 : decode cX3_readPeriod 78 = .ok (.getfield 21, 3) := by decide +kernel
theorem dX3_readPeriod_81 : decode cX3_readPeriod 81 = .ok (.iload_n 1, 1) := by decide +kernel
theorem dX3_readPeriod_82 : decode cX3_readPeriod 82 = .ok (.iconst 1, 1) := by decide +kernel
theorem dX3_readPeriod_83 : decode cX3_readPeriod 83 = .ok (.aload_n 0, 1) := by decide +kernel
theorem dX3_readPeriod_84 : decode cX3_readPeriod 84 = .ok (.iconst 1, 1) := by decide +kernel
theorem dX3_readPeriod_85 : decode cX3_readPeriod 85 = .ok (.ldc 110, 2) := by decide +kernel
theorem dX3_readPeriod_87 : decode cX3_readPeriod 87 = .ok (.invokevirtual 100, 3) := by decide +kernel
theorem dX3_readPeriod_90 : decode cX3_readPeriod 90 = .ok (.invokevirtual 104, 3) := by decide +kernel
theorem dX3_readPeriod_93 : decode cX3_readPeriod 93 = .ok (.aload_n 0, 1) := by decide +kernel
theorem dX3_readPeriod_94 : decode cX3_readPeriod 94 = .ok (.getfield 21, 3) := by decide +kernel
theorem dX3_readPeriod_97 : decode cX3_readPeriod 97 = .ok (.iload_n 1, 1) := by decide +kernel
theorem dX3_readPeriod_98 : decode cX3_readPeriod 98 = .ok (.iconst 2, 1) := by decide +kernel
theorem dX3_readPeriod_99 : decode cX3_readPeriod 99 = .ok (.aload_n 0, 1) := by decide +kernel
theorem dX3_readPeriod_100 : decode cX3_readPeriod 100 = .ok (.ldc 111, 2) := by decide +kernel
theorem dX3_readPeriod_102 : decode cX3_readPeriod 102 = .ok (.invokevirtual 113, 3) := by decide +kernel
theorem dX3_readPeriod_105 : decode cX3_readPeriod 105 = .ok (.invokevirtual 104, 3) := by decide +kernel
theorem dX3_readPeriod_108 : decode cX3_readPeriod 108 = .ok (.aload_n 0, 1) := by decide +kernel
theorem dX3_readPeriod_109 : decode cX3_readPeriod 109 = .ok (.getfield 21, 3) := by decide +kernel
theorem dX3_readPeriod_112 : decode cX3_readPeriod 112 = .ok (.iload_n 1, 1) := by decide +kernel
theorem dX3_readPeriod_113 : decode cX3_readPeriod 113 = .ok (.iconst 3, 1) := by decide +kernel
theorem dX3_readPeriod_114 : decode cX3_readPeriod 114 = .ok (.aload_n 0, 1) := by decide +kernel
theorem dX3_readPeriod_115 : decode cX3_readPeriod 115 = .ok (.ldc 117, 2) := by decide +kernel
theorem dX3_readPeriod_117 : decode cX3_readPeriod 117 = .ok (.invokevirtual 113, 3) := by decide +kernel
theorem dX3_readPeriod_120 : decode cX3_readPeriod 120 = .ok (.invokevirtual 104, 3) := by decide +kernel
theorem dX3_readPeriod_123 : decode cX3_readPeriod 123 = .ok (.aload_n 0, 1) := by decide +kernel
theorem dX3_readPeriod_124 : decode cX3_readPeriod 124 = .ok (.getfield 21, 3) := by decide +kernel
theorem dX3_readPeriod_127 : decode cX3_readPeriod 127 = .ok (.iload_n 1, 1) := by decide +kernel
theorem dX3_readPeriod_128 : decode cX3_readPeriod 128 = .ok (.iconst 4, 1) := by decide +kernel
theorem dX3_readPeriod_129 : decode cX3_readPeriod 129 = .ok (.aload_n 0, 1) := by decide +kernel
theorem dX3_readPeriod_130 : decode cX3_readPeriod 130 = .ok (.ldc 119, 2) := by decide +kernel
theorem dX3_readPeriod_132 : decode cX3_readPeriod 132 = .ok (.invokevirtual 113, 3) := by decide +kernel
theorem dX3_readPeriod_135 : decode cX3_readPeriod 135 = .ok (.invokevirtual 104, 3) := by decide +kernel
theorem dX3_readPeriod_138 : decode cX3_readPeriod 138 = .ok (.aload_n 0, 1) := by decide +kernel
theorem dX3_readPeriod_139 : decode cX3_readPeriod 139 = .ok (.invokevirtual 121, 3) := by decide +kernel
theorem dX3_readPeriod_142 : decode cX3_readPeriod 142 = .ok (.aload_n 0, 1) := by decide +kernel
theorem dX3_readPeriod_143 : decode cX3_readPeriod 143 = .ok (.getfield 21, 3) := by decide +kernel
theorem dX3_readPeriod_146 : decode cX3_readPeriod 146 = .ok (.dup, 1) := by decide +kernel
theorem dX3_readPeriod_147 : decode cX3_readPeriod 147 = .ok (.getfield 87, 3) := by decide +kernel
theorem dX3_readPeriod_150 : decode cX3_readPeriod 150 = .ok (.iconst 1, 1) := by decide +kernel
theorem dX3_readPeriod_151 : decode cX3_readPeriod 151 = .ok (.iadd, 1) := by decide +kernel
theorem dX3_readPeriod_152 : decode cX3_readPeriod 152 = .ok (.putfield 87, 3) := by decide +kernel
theorem dX3_readPeriod_155 : decode cX3_readPeriod 155 = .ok (.return_, 1) := by decide +kernel
theorem dX3_readExtra_0 : decode cX3_readExtra 0 = .ok (.aload_n 0, 1) := by decide +kernel
theorem dX3_readExtra_1 : decode cX3_readExtra 1 = .ok (.aload_n 0, 1) := by decide +kernel
theorem dX3_readExtra_2 : decode cX3_readExtra 2 = .ok (.getfield 21, 3) := by decide +kernel
theorem dX3_readExtra_5 : decode cX3_readExtra 5 = .ok (.getfield 124, 3) := by decide +kernel
theorem dX3_readExtra_8 : decode cX3_readExtra 8 = .ok (.ifCond .eq 7, 3) := by decide +kernel
theorem dX3_readExtra_11 : decode cX3_readExtra 11 = .ok (.iconst 1, 1) := by decide +kernel
theorem dX3_readExtra_12 : decode cX3_readExtra 12 = .ok (.goto 4, 3) := by decide +kernel
theorem dX3_readExtra_15 : decode cX3_readExtra 15 = .ok (.iconst 0, 1) := by decide +kernel
theorem dX3_readExtra_16 : decode cX3_readExtra 16 = .ok (.invokevirtual 127, 3) := by decide +kernel
theorem dX3_readExtra_19 : decode cX3_readExtra 19 = .ok (.aload_n 0, 1) := by decide +kernel
theorem dX3_readExtra_20 : decode cX3_readExtra 20 = .ok (.ldc 57, 2) := by decide +kernel
theorem dX3_readExtra_22 : decode cX3_readExtra 22 = .ok (.invokevirtual 94, 3) := by decide +kernel
theorem dX3_readExtra_25 : decode cX3_readExtra 25 = .ok (.aload_n 0, 1) := by decide +kernel
theorem dX3_readExtra_26 : decode cX3_readExtra 26 = .ok (.getfield 21, 3) := by decide +kernel
theorem dX3_readExtra_29 : decode cX3_readExtra 29 = .ok (.aload_n 0, 1) := by decide +kernel
theorem dX3_readExtra_30 : decode cX3_readExtra 30 = .ok (.iconst 1, 1) := by decide +kernel
theorem dX3_readExtra_31 : decode cX3_readExtra 31 = .ok (.bipush 9, 2) := by decide +kernel
theorem dX3_readExtra_33 : decode cX3_readExtra 33 = .ok (.invokevirtual 100, 3) := by decide +kernel
theorem dX3_readExtra_36 : decode cX3_readExtra 36 = .ok (.putfield 124, 3) := by decide +kernel
theorem dX3_readExtra_39 : decode cX3_readExtra 39 = .ok (.aload_n 0, 1) := by decide +kernel
theorem dX3_readExtra_40 : decode cX3_readExtra 40 = .ok (.ldc 108, 2) := by decide +kernel
theorem dX3_readExtra_42 : decode cX3_readExtra 42 = .ok (.invokevirtual 94, 3) := by decide +kernel
theorem dX3_readExtra_45 : decode cX3_readExtra 45 = .ok (.aload_n 0, 1) := by decide +kernel
theorem dX3_readExtra_46 : decode cX3_readExtra 46 = .ok (.getfield 21, 3) := by decide +kernel
theorem dX3_readExtra_49 : decode cX3_readExtra 49 = .ok (.aload_n 0, 1) := by decide +kernel
theorem dX3_readExtra_50 : decode cX3_readExtra 50 = .ok (.iconst 1, 1) := by decide +kernel
theorem dX3_readExtra_51 : decode cX3_readExtra 51 = .ok (.sipush 9999, 3) := by decide +kernel
theorem dX3_readExtra_54 : decode cX3_readExtra 54 = .ok (.invokevirtual 100, 3) := by decide +kernel
theorem dX3_readExtra_57 : decode cX3_readExtra 57 = .ok (.putfield 131, 3) := by decide +kernel
theorem dX3_readExtra_60 : decode cX3_readExtra 60 = .ok (.aload_n 0, 1) := by decide +kernel
theorem dX3_readExtra_61 : decode cX3_readExtra 61 = .ok (.invokevirtual 121, 3) := by decide +kernel
theorem dX3_readExtra_64 : decode cX3_readExtra 64 = .ok (.return_, 1) := by decide +kernel
theorem dX3_readSession_0 : decode cX3_readSession 0 = .ok (.aload_n 0, 1) := by decide +kernel
theorem dX3_readSession_1 : decode cX3_readSession 1 = .ok (.aload_n 0, 1) := by decide +kernel
theorem dX3_readSession_2 : decode cX3_readSession 2 = .ok (.getfield 21, 3) := by decide +kernel
theorem dX3_readSession_5 : decode cX3_readSession 5 = .ok (.getfield 134, 3) := by decide +kernel
theorem dX3_readSession_8 : decode cX3_readSession 8 = .ok (.iconst (-1), 1) := by decide +kernel
theorem dX3_readSession_9 : decode cX3_readSession 9 = .ok (.if_icmp .eq 7, 3) := by decide +kernel
theorem dX3_readSession_12 : decode cX3_readSession 12 = .ok (.iconst 1, 1) := by decide +kernel
theorem dX3_readSession_13 : decode cX3_readSession 13 = .ok (.goto 4, 3) := by decide +kernel
theorem dX3_readSession_16 : decode cX3_readSession 16 = .ok (.iconst 0, 1) := by decide +kernel
theorem dX3_readSession_17 : decode cX3_readSession 17 = .ok (.invokevirtual 127, 3) := by decide +kernel
theorem dX3_readSession_20 : decode cX3_readSession 20 = .ok (.aload_n 0, 1) := by decide +kernel
theorem dX3_readSession_21 : decode cX3_readSession 21 = .ok (.ldc 62, 2) := by decide +kernel
theorem dX3_readSession_23 : decode cX3_readSession 23 = .ok (.invokevirtual 94, 3) := by decide +kernel
theorem dX3_readSession_26 : decode cX3_readSession 26 = .ok (.aload_n 0, 1) := by decide +kernel
theorem dX3_readSession_27 : decode cX3_readSession 27 = .ok (.getfield 21, 3) := by decide +kernel
theorem dX3_readSession_30 : decode cX3_readSession 30 = .ok (.aload_n 0, 1) := by decide +kernel
theorem dX3_readSession_31 : decode cX3_readSession 31 = .ok (.iconst 1, 1) := by decide +kernel
theorem dX3_readSession_32 : decode cX3_readSession 32 = .ok (.ldc 110, 2) := by decide +kernel
theorem dX3_readSession_34 : decode cX3_readSession 34 = .ok (.invokevirtual 100, 3) := by decide +kernel
theorem dX3_readSession_37 : decode cX3_readSession 37 = .ok (.putfield 134, 3) := by decide +kernel
theorem dX3_readSession_40 : decode cX3_readSession 40 = .ok (.aload_n 0, 1) := by decide +kernel
theorem dX3_readSession_41 : decode cX3_readSession 41 = .ok (.invokevirtual 121, 3) := by decide +kernel
theorem dX3_readSession_44 : decode cX3_readSession 44 = .ok (.return_, 1) := by decide +kernel
theorem dX3_readHand_0 : decode cX3_readHand 0 = .ok (.aload_n 0, 1) := by decide +kernel
theorem dX3_readHand_1 : decode cX3_readHand 1 = .ok (.aload_n 0, 1) := by decide +kernel
theorem dX3_readHand_2 : decode cX3_readHand 2 = .ok (.getfield 25, 3) := by decide +kernel
theorem dX3_readHand_5 : decode cX3_readHand 5 = .ok (.iconst (-1), 1) := by decide +kernel
theorem dX3_readHand_6 : decode cX3_readHand 6 = .ok (.if_icmp .eq 7, 3) := by decide +kernel
theorem dX3_readHand_9 : decode cX3_readHand 9 = .ok (.iconst 1, 1) := by decide +kernel
theorem dX3_readHand_10 : decode cX3_readHand 10 = .ok (.goto 4, 3) := by decide +kernel
theorem dX3_readHand_13 : decode cX3_readHand 13 = .ok (.iconst 0, 1) := by decide +kernel
theorem dX3_readHand_14 : decode cX3_readHand 14 = .ok (.invokevirtual 127, 3) := by decide +kernel
theorem dX3_readHand_17 : decode cX3_readHand 17 = .ok (.aload_n 0, 1) := by decide +kernel
theorem dX3_readHand_18 : decode cX3_readHand 18 = .ok (.ldc 67, 2) := by decide +kernel
theorem dX3_readHand_20 : decode cX3_readHand 20 = .ok (.invokevirtual 94, 3) := by decide +kernel
theorem dX3_readHand_23 : decode cX3_readHand 23 = .ok (.aload_n 0, 1) := by decide +kernel
theorem dX3_readHand_24 : decode cX3_readHand 24 = .ok (.ldc 137, 2) := by decide +kernel
theorem dX3_readHand_26 : decode cX3_readHand 26 = .ok (.invokevirtual 40, 3) := by decide +kernel
theorem dX3_readHand_29 : decode cX3_readHand 29 = .ok (.ifCond .eq 17, 3) := by decide +kernel
theorem dX3_readHand_32 : decode cX3_readHand 32 = .ok (.aload_n 0, 1) := by decide +kernel
theorem dX3_readHand_33 : decode cX3_readHand 33 = .ok (.iconst 0, 1) := by decide +kernel
theorem dX3_readHand_34 : decode cX3_readHand 34 = .ok (.putfield 25, 3) := by decide +kernel
theorem dX3_readHand_37 : decode cX3_readHand 37 = .ok (.aload_n 0, 1) := by decide +kernel
theorem dX3_readHand_38 : decode cX3_readHand 38 = .ok (.ldc 137, 2) := by decide +kernel
theorem dX3_readHand_40 : decode cX3_readHand 40 = .ok (.invokevirtual 94, 3) := by decide +kernel
theorem dX3_readHand_43 : decode cX3_readHand 43 = .ok (.goto 14, 3) := by decide +kernel
theorem dX3_readHand_46 : decode cX3_readHand 46 = .ok (.aload_n 0, 1) := by decide +kernel
theorem dX3_readHand_47 : decode cX3_readHand 47 = .ok (.iconst 1, 1) := by decide +kernel
theorem dX3_readHand_48 : decode cX3_readHand 48 = .ok (.putfield 25, 3) := by decide +kernel
theorem dX3_readHand_51 : decode cX3_readHand 51 = .ok (.aload_n 0, 1) := by decide +kernel
theorem dX3_readHand_52 : decode cX3_readHand 52 = .ok (.ldc 139, 2) := by decide +kernel
theorem dX3_readHand_54 : decode cX3_readHand 54 = .ok (.invokevirtual 94, 3) := by decide +kernel
theorem dX3_readHand_57 : decode cX3_readHand 57 = .ok (.aload_n 0, 1) := by decide +kernel
theorem dX3_readHand_58 : decode cX3_readHand 58 = .ok (.aload_n 0, 1) := by decide +kernel
theorem dX3_readHand_59 : decode cX3_readHand 59 = .ok (.iconst 1, 1) := by decide +kernel
theorem dX3_readHand_60 : decode cX3_readHand 60 = .ok (.sipush 9999, 3) := by decide +kernel
theorem dX3_readHand_63 : decode cX3_readHand 63 = .ok (.invokevirtual 100, 3) := by decide +kernel
theorem dX3_readHand_66 : decode cX3_readHand 66 = .ok (.putfield 81, 3) := by decide +kernel
theorem dX3_readHand_69 : decode cX3_readHand 69 = .ok (.aload_n 0, 1) := by decide +kernel
theorem dX3_readHand_70 : decode cX3_readHand 70 = .ok (.invokevirtual 121, 3) := by decide +kernel
theorem dX3_readHand_73 : decode cX3_readHand 73 = .ok (.return_, 1) := by decide +kernel
theorem dX3_readClaims_0 : decode cX3_readClaims 0 = .ok (.aload_n 0, 1) := by decide +kernel
theorem dX3_readClaims_1 : decode cX3_readClaims 1 = .ok (.aload_n 0, 1) := by decide +kernel
theorem dX3_readClaims_2 : decode cX3_readClaims 2 = .ok (.getfield 78, 3) := by decide +kernel
theorem dX3_readClaims_5 : decode cX3_readClaims 5 = .ok (.invokevirtual 127, 3) := by decide +kernel
theorem dX3_readClaims_8 : decode cX3_readClaims 8 = .ok (.aload_n 0, 1) := by decide +kernel
theorem dX3_readClaims_9 : decode cX3_readClaims 9 = .ok (.ldc 72, 2) := by decide +kernel
theorem dX3_readClaims_11 : decode cX3_readClaims 11 = .ok (.invokevirtual 94, 3) := by decide +kernel
theorem dX3_readClaims_14 : decode cX3_readClaims 14 = .ok (.aload_n 0, 1) := by decide +kernel
theorem dX3_readClaims_15 : decode cX3_readClaims 15 = .ok (.invokevirtual 121, 3) := by decide +kernel
theorem dX3_readClaims_18 : decode cX3_readClaims 18 = .ok (.aload_n 0, 1) := by decide +kernel
theorem dX3_readClaims_19 : decode cX3_readClaims 19 = .ok (.iconst 1, 1) := by decide +kernel
theorem dX3_readClaims_20 : decode cX3_readClaims 20 = .ok (.putfield 78, 3) := by decide +kernel
theorem dX3_readClaims_23 : decode cX3_readClaims 23 = .ok (.return_, 1) := by decide +kernel
theorem dX3_failIf_0 : decode cX3_failIf 0 = .ok (.iload_n 1, 1) := by decide +kernel
theorem dX3_failIf_1 : decode cX3_failIf 1 = .ok (.ifCond .eq 8, 3) := by decide +kernel
theorem dX3_failIf_4 : decode cX3_failIf 4 = .ok (.aload_n 0, 1) := by decide +kernel
theorem dX3_failIf_5 : decode cX3_failIf 5 = .ok (.iconst 3, 1) := by decide +kernel
theorem dX3_failIf_6 : decode cX3_failIf 6 = .ok (.invokevirtual 44, 3) := by decide +kernel
theorem dX3_failIf_9 : decode cX3_failIf 9 = .ok (.return_, 1) := by decide +kernel
theorem dX3_fail_0 : decode cX3_fail 0 = .ok (.aload_n 0, 1) := by decide +kernel
theorem dX3_fail_1 : decode cX3_fail 1 = .ok (.getfield 48, 3) := by decide +kernel
theorem dX3_fail_4 : decode cX3_fail 4 = .ok (.ifCond .ne 16, 3) := by decide +kernel
theorem dX3_fail_7 : decode cX3_fail 7 = .ok (.aload_n 0, 1) := by decide +kernel
theorem dX3_fail_8 : decode cX3_fail 8 = .ok (.iload_n 1, 1) := by decide +kernel
theorem dX3_fail_9 : decode cX3_fail 9 = .ok (.putfield 48, 3) := by decide +kernel
theorem dX3_fail_12 : decode cX3_fail 12 = .ok (.aload_n 0, 1) := by decide +kernel
theorem dX3_fail_13 : decode cX3_fail 13 = .ok (.aload_n 0, 1) := by decide +kernel
theorem dX3_fail_14 : decode cX3_fail 14 = .ok (.getfield 141, 3) := by decide +kernel
theorem dX3_fail_17 : decode cX3_fail 17 = .ok (.putfield 29, 3) := by decide +kernel
theorem dX3_fail_20 : decode cX3_fail 20 = .ok (.return_, 1) := by decide +kernel
theorem dX3_takeWord_0 : decode cX3_takeWord 0 = .ok (.aload_n 0, 1) := by decide +kernel
theorem dX3_takeWord_1 : decode cX3_takeWord 1 = .ok (.aload_n 1, 1) := by decide +kernel
theorem dX3_takeWord_2 : decode cX3_takeWord 2 = .ok (.invokevirtual 40, 3) := by decide +kernel
theorem dX3_takeWord_5 : decode cX3_takeWord 5 = .ok (.ifCond .ne 8, 3) := by decide +kernel
theorem dX3_takeWord_8 : decode cX3_takeWord 8 = .ok (.aload_n 0, 1) := by decide +kernel
theorem dX3_takeWord_9 : decode cX3_takeWord 9 = .ok (.iconst 1, 1) := by decide +kernel
theorem dX3_takeWord_10 : decode cX3_takeWord 10 = .ok (.invokevirtual 44, 3) := by decide +kernel
theorem dX3_takeWord_13 : decode cX3_takeWord 13 = .ok (.aload_n 0, 1) := by decide +kernel
theorem dX3_takeWord_14 : decode cX3_takeWord 14 = .ok (.getfield 48, 3) := by decide +kernel
theorem dX3_takeWord_17 : decode cX3_takeWord 17 = .ok (.ifCond .ne 7, 3) := by decide +kernel
theorem dX3_takeWord_20 : decode cX3_takeWord 20 = .ok (.aload_n 0, 1) := by decide +kernel
theorem dX3_takeWord_21 : decode cX3_takeWord 21 = .ok (.invokevirtual 35, 3) := by decide +kernel
theorem dX3_takeWord_24 : decode cX3_takeWord 24 = .ok (.return_, 1) := by decide +kernel
theorem dX3_takeSemicolon_0 : decode cX3_takeSemicolon 0 = .ok (.aload_n 0, 1) := by decide +kernel
theorem dX3_takeSemicolon_1 : decode cX3_takeSemicolon 1 = .ok (.getfield 51, 3) := by decide +kernel
theorem dX3_takeSemicolon_4 : decode cX3_takeSemicolon 4 = .ok (.iconst 4, 1) := by decide +kernel
theorem dX3_takeSemicolon_5 : decode cX3_takeSemicolon 5 = .ok (.if_icmp .ne 12, 3) := by decide +kernel
theorem dX3_takeSemicolon_8 : decode cX3_takeSemicolon 8 = .ok (.aload_n 0, 1) := by decide +kernel
theorem dX3_takeSemicolon_9 : decode cX3_takeSemicolon 9 = .ok (.getfield 144, 3) := by decide +kernel
theorem dX3_takeSemicolon_12 : decode cX3_takeSemicolon 12 = .ok (.bipush 59, 2) := by decide +kernel
theorem dX3_takeSemicolon_14 : decode cX3_takeSemicolon 14 = .ok (.if_icmp .eq 8, 3) := by decide +kernel
theorem dX3_takeSemicolon_17 : decode cX3_takeSemicolon 17 = .ok (.aload_n 0, 1) := by decide +kernel
theorem dX3_takeSemicolon_18 : decode cX3_takeSemicolon 18 = .ok (.iconst 1, 1) := by decide +kernel
theorem dX3_takeSemicolon_19 : decode cX3_takeSemicolon 19 = .ok (.invokevirtual 44, 3) := by decide +kernel
theorem dX3_takeSemicolon_22 : decode cX3_takeSemicolon 22 = .ok (.aload_n 0, 1) := by decide +kernel
theorem dX3_takeSemicolon_23 : decode cX3_takeSemicolon 23 = .ok (.getfield 48, 3) := by decide +kernel
theorem dX3_takeSemicolon_26 : decode cX3_takeSemicolon 26 = .ok (.ifCond .ne 7, 3) := by decide +kernel
theorem dX3_takeSemicolon_29 : decode cX3_takeSemicolon 29 = .ok (.aload_n 0, 1) := by decide +kernel
theorem dX3_takeSemicolon_30 : decode cX3_takeSemicolon 30 = .ok (.invokevirtual 35, 3) := by decide +kernel
theorem dX3_takeSemicolon_33 : decode cX3_takeSemicolon 33 = .ok (.return_, 1) := by decide +kernel
theorem dX3_takeNumber_0 : decode cX3_takeNumber 0 = .ok (.aload_n 0, 1) := by decide +kernel
theorem dX3_takeNumber_1 : decode cX3_takeNumber 1 = .ok (.getfield 51, 3) := by decide +kernel
theorem dX3_takeNumber_4 : decode cX3_takeNumber 4 = .ok (.iconst 3, 1) := by decide +kernel
theorem dX3_takeNumber_5 : decode cX3_takeNumber 5 = .ok (.if_icmp .eq 11, 3) := by decide +kernel
theorem dX3_takeNumber_8 : decode cX3_takeNumber 8 = .ok (.aload_n 0, 1) := by decide +kernel
theorem dX3_takeNumber_9 : decode cX3_takeNumber 9 = .ok (.iconst 1, 1) := by decide +kernel
theorem dX3_takeNumber_10 : decode cX3_takeNumber 10 = .ok (.invokevirtual 44, 3) := by decide +kernel
theorem dX3_takeNumber_13 : decode cX3_takeNumber 13 = .ok (.goto 24, 3) := by decide +kernel
theorem dX3_takeNumber_16 : decode cX3_takeNumber 16 = .ok (.aload_n 0, 1) := by decide +kernel
theorem dX3_takeNumber_17 : decode cX3_takeNumber 17 = .ok (.getfield 144, 3) := by decide +kernel
theorem dX3_takeNumber_20 : decode cX3_takeNumber 20 = .ok (.iload_n 1, 1) := by decide +kernel
theorem dX3_takeNumber_21 : decode cX3_takeNumber 21 = .ok (.if_icmp .lt 11, 3) := by decide +kernel
theorem dX3_takeNumber_24 : decode cX3_takeNumber 24 = .ok (.aload_n 0, 1) := by decide +kernel
theorem dX3_takeNumber_25 : decode cX3_takeNumber 25 = .ok (.getfield 144, 3) := by decide +kernel
theorem dX3_takeNumber_28 : decode cX3_takeNumber 28 = .ok (.iload_n 2, 1) := by decide +kernel
theorem dX3_takeNumber_29 : decode cX3_takeNumber 29 = .ok (.if_icmp .le 8, 3) := by decide +kernel
theorem dX3_takeNumber_32 : decode cX3_takeNumber 32 = .ok (.aload_n 0, 1) := by decide +kernel
theorem dX3_takeNumber_33 : decode cX3_takeNumber 33 = .ok (.iconst 2, 1) := by decide +kernel
theorem dX3_takeNumber_34 : decode cX3_takeNumber 34 = .ok (.invokevirtual 44, 3) := by decide +kernel
theorem dX3_takeNumber_37 : decode cX3_takeNumber 37 = .ok (.aload_n 0, 1) := by decide +kernel
theorem dX3_takeNumber_38 : decode cX3_takeNumber 38 = .ok (.getfield 48, 3) := by decide +kernel
theorem dX3_takeNumber_41 : decode cX3_takeNumber 41 = .ok (.ifCond .eq 5, 3) := by decide +kernel
theorem dX3_takeNumber_44 : decode cX3_takeNumber 44 = .ok (.iconst 0, 1) := by decide +kernel
theorem dX3_takeNumber_45 : decode cX3_takeNumber 45 = .ok (.ireturn, 1) := by decide +kernel
theorem dX3_takeNumber_46 : decode cX3_takeNumber 46 = .ok (.aload_n 0, 1) := by decide +kernel
theorem dX3_takeNumber_47 : decode cX3_takeNumber 47 = .ok (.getfield 144, 3) := by decide +kernel
theorem dX3_takeNumber_50 : decode cX3_takeNumber 50 = .ok (.istore_n 3, 1) := by decide +kernel
theorem dX3_takeNumber_51 : decode cX3_takeNumber 51 = .ok (.aload_n 0, 1) := by decide +kernel
theorem dX3_takeNumber_52 : decode cX3_takeNumber 52 = .ok (.invokevirtual 35, 3) := by decide +kernel
theorem dX3_takeNumber_55 : decode cX3_takeNumber 55 = .ok (.iload_n 3, 1) := by decide +kernel
theorem dX3_takeNumber_56 : decode cX3_takeNumber 56 = .ok (.ireturn, 1) := by decide +kernel
theorem dX3_takeOption_0 : decode cX3_takeOption 0 = .ok (.aload_n 0, 1) := by decide +kernel
theorem dX3_takeOption_1 : decode cX3_takeOption 1 = .ok (.getfield 48, 3) := by decide +kernel
theorem dX3_takeOption_4 : decode cX3_takeOption 4 = .ok (.ifCond .ne 11, 3) := by decide +kernel
theorem dX3_takeOption_7 : decode cX3_takeOption 7 = .ok (.aload_n 0, 1) := by decide +kernel
theorem dX3_takeOption_8 : decode cX3_takeOption 8 = .ok (.aload_n 1, 1) := by decide +kernel
theorem dX3_takeOption_9 : decode cX3_takeOption 9 = .ok (.invokevirtual 40, 3) := by decide +kernel
theorem dX3_takeOption_12 : decode cX3_takeOption 12 = .ok (.ifCond .ne 5, 3) := by decide +kernel
theorem dX3_takeOption_15 : decode cX3_takeOption 15 = .ok (.iconst 0, 1) := by decide +kernel
theorem dX3_takeOption_16 : decode cX3_takeOption 16 = .ok (.ireturn, 1) := by decide +kernel
theorem dX3_takeOption_17 : decode cX3_takeOption 17 = .ok (.aload_n 0, 1) := by decide +kernel
theorem dX3_takeOption_18 : decode cX3_takeOption 18 = .ok (.aload_n 1, 1) := by decide +kernel
theorem dX3_takeOption_19 : decode cX3_takeOption 19 = .ok (.invokevirtual 94, 3) := by decide +kernel
theorem dX3_takeOption_22 : decode cX3_takeOption 22 = .ok (.aload_n 0, 1) := by decide +kernel
theorem dX3_takeOption_23 : decode cX3_takeOption 23 = .ok (.iconst 0, 1) := by decide +kernel
theorem dX3_takeOption_24 : decode cX3_takeOption 24 = .ok (.sipush 999, 3) := by decide +kernel
theorem dX3_takeOption_27 : decode cX3_takeOption 27 = .ok (.invokevirtual 100, 3) := by decide +kernel
theorem dX3_takeOption_30 : decode cX3_takeOption 30 = .ok (.ireturn, 1) := by decide +kernel
theorem dX3_isWord_0 : decode cX3_isWord 0 = .ok (.aload_n 0, 1) := by decide +kernel
theorem dX3_isWord_1 : decode cX3_isWord 1 = .ok (.getfield 51, 3) := by decide +kernel
theorem dX3_isWord_4 : decode cX3_isWord 4 = .ok (.iconst 2, 1) := by decide +kernel
theorem dX3_isWord_5 : decode cX3_isWord 5 = .ok (.if_icmp .ne 19, 3) := by decide +kernel
theorem dX3_isWord_8 : decode cX3_isWord 8 = .ok (.aload_n 0, 1) := by decide +kernel
theorem dX3_isWord_9 : decode cX3_isWord 9 = .ok (.getfield 84, 3) := by decide +kernel
theorem dX3_isWord_12 : decode cX3_isWord 12 = .ok (.aload_n 0, 1) := by decide +kernel
theorem dX3_isWord_13 : decode cX3_isWord 13 = .ok (.getfield 141, 3) := by decide +kernel
theorem dX3_isWord_16 : decode cX3_isWord 16 = .ok (.isub, 1) := by decide +kernel
theorem dX3_isWord_17 : decode cX3_isWord 17 = .ok (.aload_n 1, 1) := by decide +kernel
theorem dX3_isWord_18 : decode cX3_isWord 18 = .ok (.invokevirtual 147, 3) := by decide +kernel
theorem dX3_isWord_21 : decode cX3_isWord 21 = .ok (.if_icmp .eq 5, 3) := by decide +kernel
theorem dX3_isWord_24 : decode cX3_isWord 24 = .ok (.iconst 0, 1) := by decide +kernel
theorem dX3_isWord_25 : decode cX3_isWord 25 = .ok (.ireturn, 1) := by decide +kernel
theorem dX3_isWord_26 : decode cX3_isWord 26 = .ok (.iconst 0, 1) := by decide +kernel
theorem dX3_isWord_27 : decode cX3_isWord 27 = .ok (.istore_n 2, 1) := by decide +kernel
theorem dX3_isWord_28 : decode cX3_isWord 28 = .ok (.iload_n 2, 1) := by decide +kernel
theorem dX3_isWord_29 : decode cX3_isWord 29 = .ok (.aload_n 1, 1) := by decide +kernel
theorem dX3_isWord_30 : decode cX3_isWord 30 = .ok (.invokevirtual 147, 3) := by decide +kernel
theorem dX3_isWord_33 : decode cX3_isWord 33 = .ok (.if_icmp .ge 32, 3) := by decide +kernel
theorem dX3_isWord_36 : decode cX3_isWord 36 = .ok (.aload_n 0, 1) := by decide +kernel
theorem dX3_isWord_37 : decode cX3_isWord 37 = .ok (.getfield 12, 3) := by decide +kernel
theorem dX3_isWord_40 : decode cX3_isWord 40 = .ok (.aload_n 0, 1) := by decide +kernel
theorem dX3_isWord_41 : decode cX3_isWord 41 = .ok (.getfield 141, 3) := by decide +kernel
theorem dX3_isWord_44 : decode cX3_isWord 44 = .ok (.iload_n 2, 1) := by decide +kernel
theorem dX3_isWord_45 : decode cX3_isWord 45 = .ok (.iadd, 1) := by decide +kernel
theorem dX3_isWord_46 : decode cX3_isWord 46 = .ok (.invokevirtual 153, 3) := by decide +kernel
theorem dX3_isWord_49 : decode cX3_isWord 49 = .ok (.aload_n 1, 1) := by decide +kernel
theorem dX3_isWord_50 : decode cX3_isWord 50 = .ok (.iload_n 2, 1) := by decide +kernel
theorem dX3_isWord_51 : decode cX3_isWord 51 = .ok (.invokevirtual 157, 3) := by decide +kernel
theorem dX3_isWord_54 : decode cX3_isWord 54 = .ok (.if_icmp .eq 5, 3) := by decide +kernel
theorem dX3_isWord_57 : decode cX3_isWord 57 = .ok (.iconst 0, 1) := by decide +kernel
theorem dX3_isWord_58 : decode cX3_isWord 58 = .ok (.ireturn, 1) := by decide +kernel
theorem dX3_isWord_59 : decode cX3_isWord 59 = .ok (.iinc 2 1, 3) := by decide +kernel
theorem dX3_isWord_62 : decode cX3_isWord 62 = .ok (.goto (-34), 3) := by decide +kernel
theorem dX3_isWord_65 : decode cX3_isWord 65 = .ok (.iconst 1, 1) := by decide +kernel
theorem dX3_isWord_66 : decode cX3_isWord 66 = .ok (.ireturn, 1) := by decide +kernel
theorem dX3_readToken_0 : decode cX3_readToken 0 = .ok (.aload_n 0, 1) := by decide +kernel
theorem dX3_readToken_1 : decode cX3_readToken 1 = .ok (.aload_n 0, 1) := by decide +kernel
theorem dX3_readToken_2 : decode cX3_readToken 2 = .ok (.getfield 84, 3) := by decide +kernel
theorem dX3_readToken_5 : decode cX3_readToken 5 = .ok (.putfield 141, 3) := by decide +kernel
theorem dX3_readToken_8 : decode cX3_readToken 8 = .ok (.aload_n 0, 1) := by decide +kernel
theorem dX3_readToken_9 : decode cX3_readToken 9 = .ok (.getfield 141, 3) := by decide +kernel
theorem dX3_readToken_12 : decode cX3_readToken 12 = .ok (.aload_n 0, 1) := by decide +kernel
theorem dX3_readToken_13 : decode cX3_readToken 13 = .ok (.getfield 12, 3) := by decide +kernel
theorem dX3_readToken_16 : decode cX3_readToken 16 = .ok (.getfield 161, 3) := by decide +kernel
theorem dX3_readToken_19 : decode cX3_readToken 19 = .ok (.if_icmp .ge 34, 3) := by decide +kernel
theorem dX3_readToken_22 : decode cX3_readToken 22 = .ok (.aload_n 0, 1) := by decide +kernel
theorem dX3_readToken_23 : decode cX3_readToken 23 = .ok (.getfield 12, 3) := by decide +kernel
theorem dX3_readToken_26 : decode cX3_readToken 26 = .ok (.aload_n 0, 1) := by decide +kernel
theorem dX3_readToken_27 : decode cX3_readToken 27 = .ok (.getfield 141, 3) := by decide +kernel
theorem dX3_readToken_30 : decode cX3_readToken 30 = .ok (.invokevirtual 153, 3) := by decide +kernel
theorem dX3_readToken_33 : decode cX3_readToken 33 = .ok (.invokestatic 163, 3) := by decide +kernel
theorem dX3_readToken_36 : decode cX3_readToken 36 = .ok (.iconst 1, 1) := by decide +kernel
theorem dX3_readToken_37 : decode cX3_readToken 37 = .ok (.if_icmp .ne 16, 3) := by decide +kernel
theorem dX3_readToken_40 : decode cX3_readToken 40 = .ok (.aload_n 0, 1) := by decide +kernel
theorem dX3_readToken_41 : decode cX3_readToken 41 = .ok (.dup, 1) := by decide +kernel
theorem dX3_readToken_42 : decode cX3_readToken 42 = .ok (.getfield 141, 3) := by decide +kernel
theorem dX3_readToken_45 : decode cX3_readToken 45 = .ok (.iconst 1, 1) := by decide +kernel
theorem dX3_readToken_46 : decode cX3_readToken 46 = .ok (.iadd, 1) := by decide +kernel
theorem dX3_readToken_47 : decode cX3_readToken 47 = .ok (.putfield 141, 3) := by decide +kernel
theorem dX3_readToken_50 : decode cX3_readToken 50 = .ok (.goto (-42), 3) := by decide +kernel
theorem dX3_readToken_53 : decode cX3_readToken 53 = .ok (.aload_n 0, 1) := by decide +kernel
theorem dX3_readToken_54 : decode cX3_readToken 54 = .ok (.aload_n 0, 1) := by decide +kernel
theorem dX3_readToken_55 : decode cX3_readToken 55 = .ok (.getfield 141, 3) := by decide +kernel
theorem dX3_readToken_58 : decode cX3_readToken 58 = .ok (.putfield 84, 3) := by decide +kernel
theorem dX3_readToken_61 : decode cX3_readToken 61 = .ok (.aload_n 0, 1) := by decide +kernel
theorem dX3_readToken_62 : decode cX3_readToken 62 = .ok (.iconst 0, 1) := by decide +kernel
theorem dX3_readToken_63 : decode cX3_readToken 63 = .ok (.putfield 144, 3) := by decide +kernel
theorem dX3_readToken_66 : decode cX3_readToken 66 = .ok (.aload_n 0, 1) := by decide +kernel
theorem dX3_readToken_67 : decode cX3_readToken 67 = .ok (.getfield 141, 3) := by decide +kernel
theorem dX3_readToken_70 : decode cX3_readToken 70 = .ok (.aload_n 0, 1) := by decide +kernel
theorem dX3_readToken_71 : decode cX3_readToken 71 = .ok (.getfield 12, 3) := by decide +kernel
theorem dX3_readToken_74 : decode cX3_readToken 74 = .ok (.getfield 161, 3) := by decide +kernel
theorem dX3_readToken_77 : decode cX3_readToken 77 = .ok (.if_icmp .lt 9, 3) := by decide +kernel
theorem dX3_readToken_80 : decode cX3_readToken 80 = .ok (.aload_n 0, 1) := by decide +kernel
theorem dX3_readToken_81 : decode cX3_readToken 81 = .ok (.iconst 0, 1) := by decide +kernel
theorem dX3_readToken_82 : decode cX3_readToken 82 = .ok (.putfield 51, 3) := by decide +kernel
theorem dX3_readToken_85 : decode cX3_readToken 85 = .ok (.return_, 1) := by decide +kernel
theorem dX3_readToken_86 : decode cX3_readToken 86 = .ok (.aload_n 0, 1) := by decide +kernel
theorem dX3_readToken_87 : decode cX3_readToken 87 = .ok (.aload_n 0, 1) := by decide +kernel
theorem dX3_readToken_88 : decode cX3_readToken 88 = .ok (.getfield 12, 3) := by decide +kernel
theorem dX3_readToken_91 : decode cX3_readToken 91 = .ok (.aload_n 0, 1) := by decide +kernel
theorem dX3_readToken_92 : decode cX3_readToken 92 = .ok (.getfield 141, 3) := by decide +kernel
theorem dX3_readToken_95 : decode cX3_readToken 95 = .ok (.invokevirtual 153, 3) := by decide +kernel
theorem dX3_readToken_98 : decode cX3_readToken 98 = .ok (.invokestatic 163, 3) := by decide +kernel
theorem dX3_readToken_101 : decode cX3_readToken 101 = .ok (.putfield 51, 3) := by decide +kernel
theorem dX3_readToken_104 : decode cX3_readToken 104 = .ok (.aload_n 0, 1) := by decide +kernel
theorem dX3_readToken_105 : decode cX3_readToken 105 = .ok (.getfield 51, 3) := by decide +kernel
theorem dX3_readToken_108 : decode cX3_readToken 108 = .ok (.iconst 4, 1) := by decide +kernel
theorem dX3_readToken_109 : decode cX3_readToken 109 = .ok (.if_icmp .ne 29, 3) := by decide +kernel
theorem dX3_readToken_112 : decode cX3_readToken 112 = .ok (.aload_n 0, 1) := by decide +kernel
theorem dX3_readToken_113 : decode cX3_readToken 113 = .ok (.aload_n 0, 1) := by decide +kernel
theorem dX3_readToken_114 : decode cX3_readToken 114 = .ok (.getfield 12, 3) := by decide +kernel
theorem dX3_readToken_117 : decode cX3_readToken 117 = .ok (.aload_n 0, 1) := by decide +kernel
theorem dX3_readToken_118 : decode cX3_readToken 118 = .ok (.getfield 141, 3) := by decide +kernel
theorem dX3_readToken_121 : decode cX3_readToken 121 = .ok (.invokevirtual 153, 3) := by decide +kernel
theorem dX3_readToken_124 : decode cX3_readToken 124 = .ok (.putfield 144, 3) := by decide +kernel
theorem dX3_readToken_127 : decode cX3_readToken 127 = .ok (.aload_n 0, 1) := by decide +kernel
theorem dX3_readToken_128 : decode cX3_readToken 128 = .ok (.aload_n 0, 1) := by decide +kernel
theorem dX3_readToken_129 : decode cX3_readToken 129 = .ok (.getfield 141, 3) := by decide +kernel
theorem dX3_readToken_132 : decode cX3_readToken 132 = .ok (.iconst 1, 1) := by decide +kernel
theorem dX3_readToken_133 : decode cX3_readToken 133 = .ok (.iadd, 1) := by decide +kernel
theorem dX3_readToken_134 : decode cX3_readToken 134 = .ok (.putfield 84, 3) := by decide +kernel
theorem dX3_readToken_137 : decode cX3_readToken 137 = .ok (.return_, 1) := by decide +kernel
theorem dX3_readToken_138 : decode cX3_readToken 138 = .ok (.aload_n 0, 1) := by decide +kernel
theorem dX3_readToken_139 : decode cX3_readToken 139 = .ok (.getfield 84, 3) := by decide +kernel
theorem dX3_readToken_142 : decode cX3_readToken 142 = .ok (.aload_n 0, 1) := by decide +kernel
theorem dX3_readToken_143 : decode cX3_readToken 143 = .ok (.getfield 12, 3) := by decide +kernel
theorem dX3_readToken_146 : decode cX3_readToken 146 = .ok (.getfield 161, 3) := by decide +kernel
theorem dX3_readToken_149 : decode cX3_readToken 149 = .ok (.if_icmp .ge 76, 3) := by decide +kernel
theorem dX3_readToken_152 : decode cX3_readToken 152 = .ok (.aload_n 0, 1) := by decide +kernel
theorem dX3_readToken_153 : decode cX3_readToken 153 = .ok (.getfield 12, 3) := by decide +kernel
theorem dX3_readToken_156 : decode cX3_readToken 156 = .ok (.aload_n 0, 1) := by decide +kernel
theorem dX3_readToken_157 : decode cX3_readToken 157 = .ok (.getfield 84, 3) := by decide +kernel
theorem dX3_readToken_160 : decode cX3_readToken 160 = .ok (.invokevirtual 153, 3) := by decide +kernel
theorem dX3_readToken_163 : decode cX3_readToken 163 = .ok (.invokestatic 163, 3) := by decide +kernel
theorem dX3_readToken_166 : decode cX3_readToken 166 = .ok (.aload_n 0, 1) := by decide +kernel
theorem dX3_readToken_167 : decode cX3_readToken 167 = .ok (.getfield 51, 3) := by decide +kernel
theorem dX3_readToken_170 : decode cX3_readToken 170 = .ok (.if_icmp .ne 55, 3) := by decide +kernel
theorem dX3_readToken_173 : decode cX3_readToken 173 = .ok (.aload_n 0, 1) := by decide +kernel
theorem dX3_readToken_174 : decode cX3_readToken 174 = .ok (.getfield 51, 3) := by decide +kernel
theorem dX3_readToken_177 : decode cX3_readToken 177 = .ok (.iconst 3, 1) := by decide +kernel
theorem dX3_readToken_178 : decode cX3_readToken 178 = .ok (.if_icmp .ne 34, 3) := by decide +kernel
theorem dX3_readToken_181 : decode cX3_readToken 181 = .ok (.aload_n 0, 1) := by decide +kernel
theorem dX3_readToken_182 : decode cX3_readToken 182 = .ok (.bipush 10, 2) := by decide +kernel
theorem dX3_readToken_184 : decode cX3_readToken 184 = .ok (.aload_n 0, 1) := by decide +kernel
theorem dX3_readToken_185 : decode cX3_readToken 185 = .ok (.getfield 144, 3) := by decide +kernel
theorem dX3_readToken_188 : decode cX3_readToken 188 = .ok (.imul, 1) := by decide +kernel
theorem dX3_readToken_189 : decode cX3_readToken 189 = .ok (.aload_n 0, 1) := by decide +kernel
theorem dX3_readToken_190 : decode cX3_readToken 190 = .ok (.getfield 12, 3) := by decide +kernel
theorem dX3_readToken_193 : decode cX3_readToken 193 = .ok (.aload_n 0, 1) := by decide +kernel
theorem dX3_readToken_194 : decode cX3_readToken 194 = .ok (.getfield 84, 3) := by decide +kernel
theorem dX3_readToken_197 : decode cX3_readToken 197 = .ok (.invokevirtual 153, 3) := by decide +kernel
theorem dX3_readToken_200 : decode cX3_readToken 200 = .ok (.iadd, 1) := by decide +kernel
theorem dX3_readToken_201 : decode cX3_readToken 201 = .ok (.bipush 48, 2) := by decide +kernel
theorem dX3_readToken_203 : decode cX3_readToken 203 = .ok (.isub, 1) := by decide +kernel
theorem dX3_readToken_204 : decode cX3_readToken 204 = .ok (.ldc 166, 2) := by decide +kernel
theorem dX3_readToken_206 : decode cX3_readToken 206 = .ok (.invokestatic 167, 3) := by decide +kernel
theorem dX3_readToken_209 : decode cX3_readToken 209 = .ok (.putfield 144, 3) := by decide +kernel
theorem dX3_readToken_212 : decode cX3_readToken 212 = .ok (.aload_n 0, 1) := by decide +kernel
theorem dX3_readToken_213 : decode cX3_readToken 213 = .ok (.dup, 1) := by decide +kernel
theorem dX3_readToken_214 : decode cX3_readToken 214 = .ok (.getfield 84, 3) := by decide +kernel
theorem dX3_readToken_217 : decode cX3_readToken 217 = .ok (.iconst 1, 1) := by decide +kernel
theorem dX3_readToken_218 : decode cX3_readToken 218 = .ok (.iadd, 1) := by decide +kernel
theorem dX3_readToken_219 : decode cX3_readToken 219 = .ok (.putfield 84, 3) := by decide +kernel
theorem dX3_readToken_222 : decode cX3_readToken 222 = .ok (.goto (-84), 3) := by decide +kernel
theorem dX3_readToken_225 : decode cX3_readToken 225 = .ok (.return_, 1) := by decide +kernel
theorem dX3_kindOf_0 : decode cX3_kindOf 0 = .ok (.iload_n 0, 1) := by decide +kernel
theorem dX3_kindOf_1 : decode cX3_kindOf 1 = .ok (.bipush 32, 2) := by decide +kernel
theorem dX3_kindOf_3 : decode cX3_kindOf 3 = .ok (.if_icmp .eq 9, 3) := by decide +kernel
theorem dX3_kindOf_6 : decode cX3_kindOf 6 = .ok (.iload_n 0, 1) := by decide +kernel
theorem dX3_kindOf_7 : decode cX3_kindOf 7 = .ok (.bipush 10, 2) := by decide +kernel
theorem dX3_kindOf_9 : decode cX3_kindOf 9 = .ok (.if_icmp .ne 5, 3) := by decide +kernel
theorem dX3_kindOf_12 : decode cX3_kindOf 12 = .ok (.iconst 1, 1) := by decide +kernel
theorem dX3_kindOf_13 : decode cX3_kindOf 13 = .ok (.ireturn, 1) := by decide +kernel
theorem dX3_kindOf_14 : decode cX3_kindOf 14 = .ok (.iload_n 0, 1) := by decide +kernel
theorem dX3_kindOf_15 : decode cX3_kindOf 15 = .ok (.bipush 97, 2) := by decide +kernel
theorem dX3_kindOf_17 : decode cX3_kindOf 17 = .ok (.if_icmp .lt 11, 3) := by decide +kernel
theorem dX3_kindOf_20 : decode cX3_kindOf 20 = .ok (.iload_n 0, 1) := by decide +kernel
theorem dX3_kindOf_21 : decode cX3_kindOf 21 = .ok (.bipush 122, 2) := by decide +kernel
theorem dX3_kindOf_23 : decode cX3_kindOf 23 = .ok (.if_icmp .gt 5, 3) := by decide +kernel
theorem dX3_kindOf_26 : decode cX3_kindOf 26 = .ok (.iconst 2, 1) := by decide +kernel
theorem dX3_kindOf_27 : decode cX3_kindOf 27 = .ok (.ireturn, 1) := by decide +kernel
theorem dX3_kindOf_28 : decode cX3_kindOf 28 = .ok (.iload_n 0, 1) := by decide +kernel
theorem dX3_kindOf_29 : decode cX3_kindOf 29 = .ok (.bipush 48, 2) := by decide +kernel
theorem dX3_kindOf_31 : decode cX3_kindOf 31 = .ok (.if_icmp .lt 13, 3) := by decide +kernel
theorem dX3_kindOf_34 : decode cX3_kindOf 34 = .ok (.iload_n 0, 1) := by decide +kernel
theorem dX3_kindOf_35 : decode cX3_kindOf 35 = .ok (.bipush 57, 2) := by decide +kernel
theorem dX3_kindOf_37 : decode cX3_kindOf 37 = .ok (.if_icmp .gt 7, 3) := by decide +kernel
theorem dX3_kindOf_40 : decode cX3_kindOf 40 = .ok (.iconst 3, 1) := by decide +kernel
theorem dX3_kindOf_41 : decode cX3_kindOf 41 = .ok (.goto 4, 3) := by decide +kernel
theorem dX3_kindOf_44 : decode cX3_kindOf 44 = .ok (.iconst 4, 1) := by decide +kernel
theorem dX3_kindOf_45 : decode cX3_kindOf 45 = .ok (.ireturn, 1) := by decide +kernel
theorem dX4_init_0 : decode cX4_init 0 = .ok (.aload_n 0, 1) := by decide +kernel
theorem dX4_init_1 : decode cX4_init 1 = .ok (.invokespecial 3, 3) := by decide +kernel
theorem dX4_init_4 : decode cX4_init 4 = .ok (.aload_n 0, 1) := by decide +kernel
theorem dX4_init_5 : decode cX4_init 5 = .ok (.bipush 25, 2) := by decide +kernel
theorem dX4_init_7 : decode cX4_init 7 = .ok (.newarray .int, 2) := by decide +kernel
theorem dX4_init_9 : decode cX4_init 9 = .ok (.putfield 9, 3) := by decide +kernel
theorem dX4_init_12 : decode cX4_init 12 = .ok (.aload_n 0, 1) := by decide +kernel
theorem dX4_init_13 : decode cX4_init 13 = .ok (.iconst (-1), 1) := by decide +kernel
theorem dX4_init_14 : decode cX4_init 14 = .ok (.putfield 15, 3) := by decide +kernel
theorem dX4_init_17 : decode cX4_init 17 = .ok (.return_, 1) := by decide +kernel
theorem dX4_clear_0 : decode cX4_clear 0 = .ok (.aload_n 0, 1) := by decide +kernel
theorem dX4_clear_1 : decode cX4_clear 1 = .ok (.getfield 9, 3) := by decide +kernel
theorem dX4_clear_4 : decode cX4_clear 4 = .ok (.iconst 0, 1) := by decide +kernel
theorem dX4_clear_5 : decode cX4_clear 5 = .ok (.invokestatic 19, 3) := by decide +kernel
theorem dX4_clear_8 : decode cX4_clear 8 = .ok (.aload_n 0, 1) := by decide +kernel
theorem dX4_clear_9 : decode cX4_clear 9 = .ok (.iconst 0, 1) := by decide +kernel
theorem dX4_clear_10 : decode cX4_clear 10 = .ok (.putfield 25, 3) := by decide +kernel
theorem dX4_clear_13 : decode cX4_clear 13 = .ok (.aload_n 0, 1) := by decide +kernel
theorem dX4_clear_14 : decode cX4_clear 14 = .ok (.iconst 0, 1) := by decide +kernel
theorem dX4_clear_15 : decode cX4_clear 15 = .ok (.putfield 28, 3) := by decide +kernel
theorem dX4_clear_18 : decode cX4_clear 18 = .ok (.aload_n 0, 1) := by decide +kernel
theorem dX4_clear_19 : decode cX4_clear 19 = .ok (.iconst 0, 1) := by decide +kernel
theorem dX4_clear_20 : decode cX4_clear 20 = .ok (.putfield 31, 3) := by decide +kernel
theorem dX4_clear_23 : decode cX4_clear 23 = .ok (.aload_n 0, 1) := by decide +kernel
theorem dX4_clear_24 : decode cX4_clear 24 = .ok (.iconst (-1), 1) := by decide +kernel
theorem dX4_clear_25 : decode cX4_clear 25 = .ok (.putfield 15, 3) := by decide +kernel
theorem dX4_clear_28 : decode cX4_clear 28 = .ok (.return_, 1) := by decide +kernel
theorem dX4_copyFrom_0 : decode cX4_copyFrom 0 = .ok (.aload_n 1, 1) := by decide +kernel
theorem dX4_copyFrom_1 : decode cX4_copyFrom 1 = .ok (.getfield 9, 3) := by decide +kernel
theorem dX4_copyFrom_4 : decode cX4_copyFrom 4 = .ok (.aload_n 0, 1) := by decide +kernel
theorem dX4_copyFrom_5 : decode cX4_copyFrom 5 = .ok (.getfield 9, 3) := by decide +kernel
theorem dX4_copyFrom_8 : decode cX4_copyFrom 8 = .ok (.invokestatic 34, 3) := by decide +kernel
theorem dX4_copyFrom_11 : decode cX4_copyFrom 11 = .ok (.aload_n 0, 1) := by decide +kernel
theorem dX4_copyFrom_12 : decode cX4_copyFrom 12 = .ok (.aload_n 1, 1) := by decide +kernel
theorem dX4_copyFrom_13 : decode cX4_copyFrom 13 = .ok (.getfield 25, 3) := by decide +kernel
theorem dX4_copyFrom_16 : decode cX4_copyFrom 16 = .ok (.putfield 25, 3) := by decide +kernel
theorem dX4_copyFrom_19 : decode cX4_copyFrom 19 = .ok (.aload_n 0, 1) := by decide +kernel
theorem dX4_copyFrom_20 : decode cX4_copyFrom 20 = .ok (.aload_n 1, 1) := by decide +kernel
theorem dX4_copyFrom_21 : decode cX4_copyFrom 21 = .ok (.getfield 28, 3) := by decide +kernel
theorem dX4_copyFrom_24 : decode cX4_copyFrom 24 = .ok (.putfield 28, 3) := by decide +kernel
theorem dX4_copyFrom_27 : decode cX4_copyFrom 27 = .ok (.aload_n 0, 1) := by decide +kernel
theorem dX4_copyFrom_28 : decode cX4_copyFrom 28 = .ok (.aload_n 1, 1) := by decide +kernel
theorem dX4_copyFrom_29 : decode cX4_copyFrom 29 = .ok (.getfield 31, 3) := by decide +kernel
theorem dX4_copyFrom_32 : decode cX4_copyFrom 32 = .ok (.putfield 31, 3) := by decide +kernel
theorem dX4_copyFrom_35 : decode cX4_copyFrom 35 = .ok (.aload_n 0, 1) := by decide +kernel
theorem dX4_copyFrom_36 : decode cX4_copyFrom 36 = .ok (.aload_n 1, 1) := by decide +kernel
theorem dX4_copyFrom_37 : decode cX4_copyFrom 37 = .ok (.getfield 15, 3) := by decide +kernel
theorem dX4_copyFrom_40 : decode cX4_copyFrom 40 = .ok (.putfield 15, 3) := by decide +kernel
theorem dX4_copyFrom_43 : decode cX4_copyFrom 43 = .ok (.return_, 1) := by decide +kernel
theorem dX4_number_0 : decode cX4_number 0 = .ok (.iload_n 1, 1) := by decide +kernel
theorem dX4_number_1 : decode cX4_number 1 = .ok (.iconst 5, 1) := by decide +kernel
theorem dX4_number_2 : decode cX4_number 2 = .ok (.imul, 1) := by decide +kernel
theorem dX4_number_3 : decode cX4_number 3 = .ok (.iload_n 2, 1) := by decide +kernel
theorem dX4_number_4 : decode cX4_number 4 = .ok (.iadd, 1) := by decide +kernel
theorem dX4_number_5 : decode cX4_number 5 = .ok (.istore_n 3, 1) := by decide +kernel
theorem dX4_number_6 : decode cX4_number 6 = .ok (.iload_n 3, 1) := by decide +kernel
theorem dX4_number_7 : decode cX4_number 7 = .ok (.ifCond .lt 21, 3) := by decide +kernel
theorem dX4_number_10 : decode cX4_number 10 = .ok (.iload_n 3, 1) := by decide +kernel
theorem dX4_number_11 : decode cX4_number 11 = .ok (.aload_n 0, 1) := by decide +kernel
theorem dX4_number_12 : decode cX4_number 12 = .ok (.getfield 9, 3) := by decide +kernel
theorem dX4_number_15 : decode cX4_number 15 = .ok (.arraylength, 1) := by decide +kernel
theorem dX4_number_16 : decode cX4_number 16 = .ok (.if_icmp .ge 12, 3) := by decide +kernel
theorem dX4_number_19 : decode cX4_number 19 = .ok (.aload_n 0, 1) := by decide +kernel
theorem dX4_number_20 : decode cX4_number 20 = .ok (.getfield 9, 3) := by decide +kernel
theorem dX4_number_23 : decode cX4_number 23 = .ok (.iload_n 3, 1) := by decide +kernel
theorem dX4_number_24 : decode cX4_number 24 = .ok (.iaload, 1) := by decide +kernel
theorem dX4_number_25 : decode cX4_number 25 = .ok (.goto 4, 3) := by decide +kernel
theorem dX4_number_28 : decode cX4_number 28 = .ok (.iconst 0, 1) := by decide +kernel
theorem dX4_number_29 : decode cX4_number 29 = .ok (.ireturn, 1) := by decide +kernel
theorem dX4_setNumber_0 : decode cX4_setNumber 0 = .ok (.aload_n 0, 1) := by decide +kernel
theorem dX4_setNumber_1 : decode cX4_setNumber 1 = .ok (.getfield 9, 3) := by decide +kernel
theorem dX4_setNumber_4 : decode cX4_setNumber 4 = .ok (.iload_n 1, 1) := by decide +kernel
theorem dX4_setNumber_5 : decode cX4_setNumber 5 = .ok (.iconst 5, 1) := by decide +kernel
theorem dX4_setNumber_6 : decode cX4_setNumber 6 = .ok (.imul, 1) := by decide +kernel
theorem dX4_setNumber_7 : decode cX4_setNumber 7 = .ok (.iload_n 2, 1) := by decide +kernel
theorem dX4_setNumber_8 : decode cX4_setNumber 8 = .ok (.iadd, 1) := by decide +kernel
theorem dX4_setNumber_9 : decode cX4_setNumber 9 = .ok (.iload_n 3, 1) := by decide +kernel
theorem dX4_setNumber_10 : decode cX4_setNumber 10 = .ok (.invokestatic 38, 3) := by decide +kernel
theorem dX4_setNumber_13 : decode cX4_setNumber 13 = .ok (.return_, 1) := by decide +kernel
theorem dX4_isEndless_0 : decode cX4_isEndless 0 = .ok (.aload_n 0, 1) := by decide +kernel
theorem dX4_isEndless_1 : decode cX4_isEndless 1 = .ok (.iload_n 1, 1) := by decide +kernel
theorem dX4_isEndless_2 : decode cX4_isEndless 2 = .ok (.iconst 0, 1) := by decide +kernel
theorem dX4_isEndless_3 : decode cX4_isEndless 3 = .ok (.invokevirtual 42, 3) := by decide +kernel
theorem dX4_isEndless_6 : decode cX4_isEndless 6 = .ok (.ifCond .ne 7, 3) := by decide +kernel
theorem dX4_isEndless_9 : decode cX4_isEndless 9 = .ok (.iconst 1, 1) := by decide +kernel
theorem dX4_isEndless_10 : decode cX4_isEndless 10 = .ok (.goto 4, 3) := by decide +kernel
theorem dX4_isEndless_13 : decode cX4_isEndless 13 = .ok (.iconst 0, 1) := by decide +kernel
theorem dX4_isEndless_14 : decode cX4_isEndless 14 = .ok (.ireturn, 1) := by decide +kernel
theorem dX5_init_0 : decode cX5_init 0 = .ok (.aload_n 0, 1) := by decide +kernel
theorem dX5_init_1 : decode cX5_init 1 = .ok (.invokespecial 3, 3) := by decide +kernel
theorem dX5_init_4 : decode cX5_init 4 = .ok (.aload_n 0, 1) := by decide +kernel
theorem dX5_init_5 : decode cX5_init 5 = .ok (.iconst 5, 1) := by decide +kernel
theorem dX5_init_6 : decode cX5_init 6 = .ok (.newarray .int, 2) := by decide +kernel
theorem dX5_init_8 : decode cX5_init 8 = .ok (.putfield 9, 3) := by decide +kernel
theorem dX5_init_11 : decode cX5_init 11 = .ok (.return_, 1) := by decide +kernel
theorem dX5_setUp_0 : decode cX5_setUp 0 = .ok (.aload_n 0, 1) := by decide +kernel
theorem dX5_setUp_1 : decode cX5_setUp 1 = .ok (.getfield 9, 3) := by decide +kernel
theorem dX5_setUp_4 : decode cX5_setUp 4 = .ok (.iconst 0, 1) := by decide +kernel
theorem dX5_setUp_5 : decode cX5_setUp 5 = .ok (.invokestatic 15, 3) := by decide +kernel
theorem dX5_setUp_8 : decode cX5_setUp 8 = .ok (.aload_n 0, 1) := by decide +kernel
theorem dX5_setUp_9 : decode cX5_setUp 9 = .ok (.aload_n 1, 1) := by decide +kernel
theorem dX5_setUp_10 : decode cX5_setUp 10 = .ok (.iconst 0, 1) := by decide +kernel
theorem dX5_setUp_11 : decode cX5_setUp 11 = .ok (.iconst 1, 1) := by decide +kernel
theorem dX5_setUp_12 : decode cX5_setUp 12 = .ok (.invokevirtual 21, 3) := by decide +kernel
theorem dX5_setUp_15 : decode cX5_setUp 15 = .ok (.putfield 27, 3) := by decide +kernel
theorem dX5_setUp_18 : decode cX5_setUp 18 = .ok (.aload_n 0, 1) := by decide +kernel
theorem dX5_setUp_19 : decode cX5_setUp 19 = .ok (.iconst 0, 1) := by decide +kernel
theorem dX5_setUp_20 : decode cX5_setUp 20 = .ok (.putfield 31, 3) := by decide +kernel
theorem dX5_setUp_23 : decode cX5_setUp 23 = .ok (.aload_n 0, 1) := by decide +kernel
theorem dX5_setUp_24 : decode cX5_setUp 24 = .ok (.iconst 0, 1) := by decide +kernel
theorem dX5_setUp_25 : decode cX5_setUp 25 = .ok (.putfield 34, 3) := by decide +kernel
theorem dX5_setUp_28 : decode cX5_setUp 28 = .ok (.aload_n 0, 1) := by decide +kernel
theorem dX5_setUp_29 : decode cX5_setUp 29 = .ok (.iconst 0, 1) := by decide +kernel
theorem dX5_setUp_30 : decode cX5_setUp 30 = .ok (.putfield 37, 3) := by decide +kernel
theorem dX5_setUp_33 : decode cX5_setUp 33 = .ok (.aload_n 0, 1) := by decide +kernel
theorem dX5_setUp_34 : decode cX5_setUp 34 = .ok (.aload_n 1, 1) := by decide +kernel
theorem dX5_setUp_35 : decode cX5_setUp 35 = .ok (.getfield 40, 3) := by decide +kernel
theorem dX5_setUp_38 : decode cX5_setUp 38 = .ok (.putfield 43, 3) := by decide +kernel
theorem dX5_setUp_41 : decode cX5_setUp 41 = .ok (.aload_n 0, 1) := by decide +kernel
theorem dX5_setUp_42 : decode cX5_setUp 42 = .ok (.iconst 0, 1) := by decide +kernel
theorem dX5_setUp_43 : decode cX5_setUp 43 = .ok (.putfield 44, 3) := by decide +kernel
theorem dX5_setUp_46 : decode cX5_setUp 46 = .ok (.aload_n 0, 1) := by decide +kernel
theorem dX5_setUp_47 : decode cX5_setUp 47 = .ok (.iconst 0, 1) := by decide +kernel
theorem dX5_setUp_48 : decode cX5_setUp 48 = .ok (.putfield 48, 3) := by decide +kernel
theorem dX5_setUp_51 : decode cX5_setUp 51 = .ok (.aload_n 0, 1) := by decide +kernel
theorem dX5_setUp_52 : decode cX5_setUp 52 = .ok (.iconst 0, 1) := by decide +kernel
theorem dX5_setUp_53 : decode cX5_setUp 53 = .ok (.putfield 51, 3) := by decide +kernel
theorem dX5_setUp_56 : decode cX5_setUp 56 = .ok (.aload_n 0, 1) := by decide +kernel
theorem dX5_setUp_57 : decode cX5_setUp 57 = .ok (.iconst 0, 1) := by decide +kernel
theorem dX5_setUp_58 : decode cX5_setUp 58 = .ok (.putfield 54, 3) := by decide +kernel
theorem dX5_setUp_61 : decode cX5_setUp 61 = .ok (.aload_n 0, 1) := by decide +kernel
theorem dX5_setUp_62 : decode cX5_setUp 62 = .ok (.iconst 0, 1) := by decide +kernel
theorem dX5_setUp_63 : decode cX5_setUp 63 = .ok (.putfield 57, 3) := by decide +kernel
theorem dX5_setUp_66 : decode cX5_setUp 66 = .ok (.aload_n 0, 1) := by decide +kernel
theorem dX5_setUp_67 : decode cX5_setUp 67 = .ok (.iconst 0, 1) := by decide +kernel
theorem dX5_setUp_68 : decode cX5_setUp 68 = .ok (.putfield 60, 3) := by decide +kernel
theorem dX5_setUp_71 : decode cX5_setUp 71 = .ok (.aload_n 0, 1) := by decide +kernel
theorem dX5_setUp_72 : decode cX5_setUp 72 = .ok (.iconst 0, 1) := by decide +kernel
theorem dX5_setUp_73 : decode cX5_setUp 73 = .ok (.putfield 63, 3) := by decide +kernel
theorem dX5_setUp_76 : decode cX5_setUp 76 = .ok (.return_, 1) := by decide +kernel
theorem dX5_copyFrom_0 : decode cX5_copyFrom 0 = .ok (.aload_n 1, 1) := by decide +kernel
theorem dX5_copyFrom_1 : decode cX5_copyFrom 1 = .ok (.getfield 9, 3) := by decide +kernel
theorem dX5_copyFrom_4 : decode cX5_copyFrom 4 = .ok (.aload_n 0, 1) := by decide +kernel
theorem dX5_copyFrom_5 : decode cX5_copyFrom 5 = .ok (.getfield 9, 3) := by decide +kernel
theorem dX5_copyFrom_8 : decode cX5_copyFrom 8 = .ok (.invokestatic 66, 3) := by decide +kernel
theorem dX5_copyFrom_11 : decode cX5_copyFrom 11 = .ok (.aload_n 0, 1) := by decide +kernel
theorem dX5_copyFrom_12 : decode cX5_copyFrom 12 = .ok (.aload_n 1, 1) := by decide +kernel
theorem dX5_copyFrom_13 : decode cX5_copyFrom 13 = .ok (.getfield 27, 3) := by decide +kernel
theorem dX5_copyFrom_16 : decode cX5_copyFrom 16 = .ok (.putfield 27, 3) := by decide +kernel
theorem dX5_copyFrom_19 : decode cX5_copyFrom 19 = .ok (.aload_n 0, 1) := by decide +kernel
theorem dX5_copyFrom_20 : decode cX5_copyFrom 20 = .ok (.aload_n 1, 1) := by decide +kernel
theorem dX5_copyFrom_21 : decode cX5_copyFrom 21 = .ok (.getfield 31, 3) := by decide +kernel
theorem dX5_copyFrom_24 : decode cX5_copyFrom 24 = .ok (.putfield 31, 3) := by decide +kernel
theorem dX5_copyFrom_27 : decode cX5_copyFrom 27 = .ok (.aload_n 0, 1) := by decide +kernel
theorem dX5_copyFrom_28 : decode cX5_copyFrom 28 = .ok (.aload_n 1, 1) := by decide +kernel
theorem dX5_copyFrom_29 : decode cX5_copyFrom 29 = .ok (.getfield 34, 3) := by decide +kernel
theorem dX5_copyFrom_32 : decode cX5_copyFrom 32 = .ok (.putfield 34, 3) := by decide +kernel
theorem dX5_copyFrom_35 : decode cX5_copyFrom 35 = .ok (.aload_n 0, 1) := by decide +kernel
theorem dX5_copyFrom_36 : decode cX5_copyFrom 36 = .ok (.aload_n 1, 1) := by decide +kernel
theorem dX5_copyFrom_37 : decode cX5_copyFrom 37 = .ok (.getfield 37, 3) := by decide +kernel
theorem dX5_copyFrom_40 : decode cX5_copyFrom 40 = .ok (.putfield 37, 3) := by decide +kernel
theorem dX5_copyFrom_43 : decode cX5_copyFrom 43 = .ok (.aload_n 0, 1) := by decide +kernel
theorem dX5_copyFrom_44 : decode cX5_copyFrom 44 = .ok (.aload_n 1, 1) := by decide +kernel
theorem dX5_copyFrom_45 : decode cX5_copyFrom 45 = .ok (.getfield 43, 3) := by decide +kernel
theorem dX5_copyFrom_48 : decode cX5_copyFrom 48 = .ok (.putfield 43, 3) := by decide +kernel
theorem dX5_copyFrom_51 : decode cX5_copyFrom 51 = .ok (.aload_n 0, 1) := by decide +kernel
theorem dX5_copyFrom_52 : decode cX5_copyFrom 52 = .ok (.aload_n 1, 1) := by decide +kernel
theorem dX5_copyFrom_53 : decode cX5_copyFrom 53 = .ok (.getfield 44, 3) := by decide +kernel
theorem dX5_copyFrom_56 : decode cX5_copyFrom 56 = .ok (.putfield 44, 3) := by decide +kernel
theorem dX5_copyFrom_59 : decode cX5_copyFrom 59 = .ok (.aload_n 0, 1) := by decide +kernel
theorem dX5_copyFrom_60 : decode cX5_copyFrom 60 = .ok (.aload_n 1, 1) := by decide +kernel
theorem dX5_copyFrom_61 : decode cX5_copyFrom 61 = .ok (.getfield 48, 3) := by decide +kernel
theorem dX5_copyFrom_64 : decode cX5_copyFrom 64 = .ok (.putfield 48, 3) := by decide +kernel
theorem dX5_copyFrom_67 : decode cX5_copyFrom 67 = .ok (.aload_n 0, 1) := by decide +kernel
theorem dX5_copyFrom_68 : decode cX5_copyFrom 68 = .ok (.aload_n 1, 1) := by decide +kernel
theorem dX5_copyFrom_69 : decode cX5_copyFrom 69 = .ok (.getfield 51, 3) := by decide +kernel
theorem dX5_copyFrom_72 : decode cX5_copyFrom 72 = .ok (.putfield 51, 3) := by decide +kernel
theorem dX5_copyFrom_75 : decode cX5_copyFrom 75 = .ok (.aload_n 0, 1) := by decide +kernel
theorem dX5_copyFrom_76 : decode cX5_copyFrom 76 = .ok (.aload_n 1, 1) := by decide +kernel
theorem dX5_copyFrom_77 : decode cX5_copyFrom 77 = .ok (.getfield 54, 3) := by decide +kernel
theorem dX5_copyFrom_80 : decode cX5_copyFrom 80 = .ok (.putfield 54, 3) := by decide +kernel
theorem dX5_copyFrom_83 : decode cX5_copyFrom 83 = .ok (.aload_n 0, 1) := by decide +kernel
theorem dX5_copyFrom_84 : decode cX5_copyFrom 84 = .ok (.aload_n 1, 1) := by decide +kernel
theorem dX5_copyFrom_85 : decode cX5_copyFrom 85 = .ok (.getfield 57, 3) := by decide +kernel
theorem dX5_copyFrom_88 : decode cX5_copyFrom 88 = .ok (.putfield 57, 3) := by decide +kernel
theorem dX5_copyFrom_91 : decode cX5_copyFrom 91 = .ok (.aload_n 0, 1) := by decide +kernel
theorem dX5_copyFrom_92 : decode cX5_copyFrom 92 = .ok (.aload_n 1, 1) := by decide +kernel
theorem dX5_copyFrom_93 : decode cX5_copyFrom 93 = .ok (.getfield 60, 3) := by decide +kernel
theorem dX5_copyFrom_96 : decode cX5_copyFrom 96 = .ok (.putfield 60, 3) := by decide +kernel
theorem dX5_copyFrom_99 : decode cX5_copyFrom 99 = .ok (.aload_n 0, 1) := by decide +kernel
theorem dX5_copyFrom_100 : decode cX5_copyFrom 100 = .ok (.aload_n 1, 1) := by decide +kernel
theorem dX5_copyFrom_101 : decode cX5_copyFrom 101 = .ok (.getfield 63, 3) := by decide +kernel
theorem dX5_copyFrom_104 : decode cX5_copyFrom 104 = .ok (.putfield 63, 3) := by decide +kernel
theorem dX5_copyFrom_107 : decode cX5_copyFrom 107 = .ok (.return_, 1) := by decide +kernel
theorem dX5_movesToPeriodEnd_0 : decode cX5_movesToPeriodEnd 0 = .ok (.aload_n 1, 1) := by decide +kernel
theorem dX5_movesToPeriodEnd_1 : decode cX5_movesToPeriodEnd 1 = .ok (.aload_n 0, 1) := by decide +kernel
theorem dX5_movesToPeriodEnd_2 : decode cX5_movesToPeriodEnd 2 = .ok (.getfield 31, 3) := by decide +kernel
theorem dX5_movesToPeriodEnd_5 : decode cX5_movesToPeriodEnd 5 = .ok (.invokevirtual 70, 3) := by decide +kernel
theorem dX5_movesToPeriodEnd_8 : decode cX5_movesToPeriodEnd 8 = .ok (.ifCond .eq 7, 3) := by decide +kernel
theorem dX5_movesToPeriodEnd_11 : decode cX5_movesToPeriodEnd 11 = .ok (.iconst (-1), 1) := by decide +kernel
theorem dX5_movesToPeriodEnd_12 : decode cX5_movesToPeriodEnd 12 = .ok (.goto 17, 3) := by decide +kernel
theorem dX5_movesToPeriodEnd_15 : decode cX5_movesToPeriodEnd 15 = .ok (.aload_n 1, 1) := by decide +kernel
theorem dX5_movesToPeriodEnd_16 : decode cX5_movesToPeriodEnd 16 = .ok (.aload_n 0, 1) := by decide +kernel
theorem dX5_movesToPeriodEnd_17 : decode cX5_movesToPeriodEnd 17 = .ok (.getfield 31, 3) := by decide +kernel
theorem dX5_movesToPeriodEnd_20 : decode cX5_movesToPeriodEnd 20 = .ok (.iconst 0, 1) := by decide +kernel
theorem dX5_movesToPeriodEnd_21 : decode cX5_movesToPeriodEnd 21 = .ok (.invokevirtual 21, 3) := by decide +kernel
theorem dX5_movesToPeriodEnd_24 : decode cX5_movesToPeriodEnd 24 = .ok (.aload_n 0, 1) := by decide +kernel
theorem dX5_movesToPeriodEnd_25 : decode cX5_movesToPeriodEnd 25 = .ok (.getfield 37, 3) := by decide +kernel
theorem dX5_movesToPeriodEnd_28 : decode cX5_movesToPeriodEnd 28 = .ok (.isub, 1) := by decide +kernel
theorem dX5_movesToPeriodEnd_29 : decode cX5_movesToPeriodEnd 29 = .ok (.ireturn, 1) := by decide +kernel
theorem dX5_freeTicks_0 : decode cX5_freeTicks 0 = .ok (.iconst 0, 1) := by decide +kernel
theorem dX5_freeTicks_1 : decode cX5_freeTicks 1 = .ok (.aload_n 1, 1) := by decide +kernel
theorem dX5_freeTicks_2 : decode cX5_freeTicks 2 = .ok (.aload_n 0, 1) := by decide +kernel
theorem dX5_freeTicks_3 : decode cX5_freeTicks 3 = .ok (.getfield 31, 3) := by decide +kernel
theorem dX5_freeTicks_6 : decode cX5_freeTicks 6 = .ok (.iconst 3, 1) := by decide +kernel
theorem dX5_freeTicks_7 : decode cX5_freeTicks 7 = .ok (.invokevirtual 21, 3) := by decide +kernel
theorem dX5_freeTicks_10 : decode cX5_freeTicks 10 = .ok (.aload_n 0, 1) := by decide +kernel
theorem dX5_freeTicks_11 : decode cX5_freeTicks 11 = .ok (.getfield 48, 3) := by decide +kernel
theorem dX5_freeTicks_14 : decode cX5_freeTicks 14 = .ok (.isub, 1) := by decide +kernel
theorem dX5_freeTicks_15 : decode cX5_freeTicks 15 = .ok (.invokestatic 74, 3) := by decide +kernel
theorem dX5_freeTicks_18 : decode cX5_freeTicks 18 = .ok (.ireturn, 1) := by decide +kernel
theorem dX5_ticksToFall_0 : decode cX5_ticksToFall 0 = .ok (.aload_n 0, 1) := by decide +kernel
theorem dX5_ticksToFall_1 : decode cX5_ticksToFall 1 = .ok (.getfield 54, 3) := by decide +kernel
theorem dX5_ticksToFall_4 : decode cX5_ticksToFall 4 = .ok (.ifCond .eq 5, 3) := by decide +kernel
theorem dX5_ticksToFall_7 : decode cX5_ticksToFall 7 = .ok (.iconst 0, 1) := by decide +kernel
theorem dX5_ticksToFall_8 : decode cX5_ticksToFall 8 = .ok (.ireturn, 1) := by decide +kernel
theorem dX5_ticksToFall_9 : decode cX5_ticksToFall 9 = .ok (.aload_n 1, 1) := by decide +kernel
theorem dX5_ticksToFall_10 : decode cX5_ticksToFall 10 = .ok (.aload_n 0, 1) := by decide +kernel
theorem dX5_ticksToFall_11 : decode cX5_ticksToFall 11 = .ok (.getfield 31, 3) := by decide +kernel
theorem dX5_ticksToFall_14 : decode cX5_ticksToFall 14 = .ok (.invokevirtual 70, 3) := by decide +kernel
theorem dX5_ticksToFall_17 : decode cX5_ticksToFall 17 = .ok (.ifCond .eq 15, 3) := by decide +kernel
theorem dX5_ticksToFall_20 : decode cX5_ticksToFall 20 = .ok (.aload_n 0, 1) := by decide +kernel
theorem dX5_ticksToFall_21 : decode cX5_ticksToFall 21 = .ok (.getfield 43, 3) := by decide +kernel
theorem dX5_ticksToFall_24 : decode cX5_ticksToFall 24 = .ok (.aload_n 1, 1) := by decide +kernel
theorem dX5_ticksToFall_25 : decode cX5_ticksToFall 25 = .ok (.getfield 79, 3) := by decide +kernel
theorem dX5_ticksToFall_28 : decode cX5_ticksToFall 28 = .ok (.imul, 1) := by decide +kernel
theorem dX5_ticksToFall_29 : decode cX5_ticksToFall 29 = .ok (.goto 4, 3) := by decide +kernel
theorem dX5_ticksToFall_32 : decode cX5_ticksToFall 32 = .ok (.iconst 0, 1) := by decide +kernel
theorem dX5_ticksToFall_33 : decode cX5_ticksToFall 33 = .ok (.istore_n 2, 1) := by decide +kernel
theorem dX5_ticksToFall_34 : decode cX5_ticksToFall 34 = .ok (.aload_n 0, 1) := by decide +kernel
theorem dX5_ticksToFall_35 : decode cX5_ticksToFall 35 = .ok (.aload_n 1, 1) := by decide +kernel
theorem dX5_ticksToFall_36 : decode cX5_ticksToFall 36 = .ok (.invokevirtual 82, 3) := by decide +kernel
theorem dX5_ticksToFall_39 : decode cX5_ticksToFall 39 = .ok (.aload_n 0, 1) := by decide +kernel
theorem dX5_ticksToFall_40 : decode cX5_ticksToFall 40 = .ok (.getfield 27, 3) := by decide +kernel
theorem dX5_ticksToFall_43 : decode cX5_ticksToFall 43 = .ok (.iadd, 1) := by decide +kernel
theorem dX5_ticksToFall_44 : decode cX5_ticksToFall 44 = .ok (.iload_n 2, 1) := by decide +kernel
theorem dX5_ticksToFall_45 : decode cX5_ticksToFall 45 = .ok (.iadd, 1) := by decide +kernel
theorem dX5_ticksToFall_46 : decode cX5_ticksToFall 46 = .ok (.ireturn, 1) := by decide +kernel
theorem dX5_secondsLeft_0 : decode cX5_secondsLeft 0 = .ok (.aload_n 0, 1) := by decide +kernel
theorem dX5_secondsLeft_1 : decode cX5_secondsLeft 1 = .ok (.getfield 27, 3) := by decide +kernel
theorem dX5_secondsLeft_4 : decode cX5_secondsLeft 4 = .ok (.bipush 10, 2) := by decide +kernel
theorem dX5_secondsLeft_6 : decode cX5_secondsLeft 6 = .ok (.idiv, 1) := by decide +kernel
theorem dX5_secondsLeft_7 : decode cX5_secondsLeft 7 = .ok (.aload_n 0, 1) := by decide +kernel
theorem dX5_secondsLeft_8 : decode cX5_secondsLeft 8 = .ok (.getfield 27, 3) := by decide +kernel
theorem dX5_secondsLeft_11 : decode cX5_secondsLeft 11 = .ok (.bipush 10, 2) := by decide +kernel
theorem dX5_secondsLeft_13 : decode cX5_secondsLeft 13 = .ok (.irem, 1) := by decide +kernel
theorem dX5_secondsLeft_14 : decode cX5_secondsLeft 14 = .ok (.ifCond .le 7, 3) := by decide +kernel
theorem dX5_secondsLeft_17 : decode cX5_secondsLeft 17 = .ok (.iconst 1, 1) := by decide +kernel
theorem dX5_secondsLeft_18 : decode cX5_secondsLeft 18 = .ok (.goto 4, 3) := by decide +kernel
theorem dX5_secondsLeft_21 : decode cX5_secondsLeft 21 = .ok (.iconst 0, 1) := by decide +kernel
theorem dX5_secondsLeft_22 : decode cX5_secondsLeft 22 = .ok (.iadd, 1) := by decide +kernel
theorem dX5_secondsLeft_23 : decode cX5_secondsLeft 23 = .ok (.ireturn, 1) := by decide +kernel
theorem dX5_run_0 : decode cX5_run 0 = .ok (.iconst 0, 1) := by decide +kernel
theorem dX5_run_1 : decode cX5_run 1 = .ok (.iload_n 2, 1) := by decide +kernel
theorem dX5_run_2 : decode cX5_run 2 = .ok (.aload_n 0, 1) := by decide +kernel
theorem dX5_run_3 : decode cX5_run 3 = .ok (.aload_n 1, 1) := by decide +kernel
theorem dX5_run_4 : decode cX5_run 4 = .ok (.invokevirtual 82, 3) := by decide +kernel
theorem dX5_run_7 : decode cX5_run 7 = .ok (.isub, 1) := by decide +kernel
theorem dX5_run_8 : decode cX5_run 8 = .ok (.invokestatic 74, 3) := by decide +kernel
theorem dX5_run_11 : decode cX5_run 11 = .ok (.istore_n 3, 1) := by decide +kernel
theorem dX5_run_12 : decode cX5_run 12 = .ok (.aload_n 0, 1) := by decide +kernel
theorem dX5_run_13 : decode cX5_run 13 = .ok (.dup, 1) := by decide +kernel
theorem dX5_run_14 : decode cX5_run 14 = .ok (.getfield 48, 3) := by decide +kernel
theorem dX5_run_17 : decode cX5_run 17 = .ok (.iload_n 2, 1) := by decide +kernel
theorem dX5_run_18 : decode cX5_run 18 = .ok (.iadd, 1) := by decide +kernel
theorem dX5_run_19 : decode cX5_run 19 = .ok (.putfield 48, 3) := by decide +kernel
theorem dX5_run_22 : decode cX5_run 22 = .ok (.aload_n 0, 1) := by decide +kernel
theorem dX5_run_23 : decode cX5_run 23 = .ok (.dup, 1) := by decide +kernel
theorem dX5_run_24 : decode cX5_run 24 = .ok (.getfield 60, 3) := by decide +kernel
theorem dX5_run_27 : decode cX5_run 27 = .ok (.iload_n 2, 1) := by decide +kernel
theorem dX5_run_28 : decode cX5_run 28 = .ok (.iadd, 1) := by decide +kernel
theorem dX5_run_29 : decode cX5_run 29 = .ok (.putfield 60, 3) := by decide +kernel
theorem dX5_run_32 : decode cX5_run 32 = .ok (.iconst 0, 1) := by decide +kernel
theorem dX5_run_33 : decode cX5_run 33 = .ok (.istore 4, 2) := by decide +kernel
theorem dX5_run_35 : decode cX5_run 35 = .ok (.iload 4, 2) := by decide +kernel
theorem dX5_run_37 : decode cX5_run 37 = .ok (.bipush 9, 2) := by decide +kernel
theorem dX5_run_39 : decode cX5_run 39 = .ok (.if_icmp .gt 94, 3) := by decide +kernel
theorem dX5_run_42 : decode cX5_run 42 = .ok (.iload_n 3, 1) := by decide +kernel
theorem dX5_run_43 : decode cX5_run 43 = .ok (.ifCond .le 90, 3) := by decide +kernel
theorem dX5_run_46 : decode cX5_run 46 = .ok (.aload_n 0, 1) := by decide +kernel
theorem dX5_run_47 : decode cX5_run 47 = .ok (.getfield 27, 3) := by decide +kernel
theorem dX5_run_50 : decode cX5_run 50 = .ok (.ifCond .le 83, 3) := by decide +kernel
theorem dX5_run_53 : decode cX5_run 53 = .ok (.iload_n 3, 1) := by decide +kernel
theorem dX5_run_54 : decode cX5_run 54 = .ok (.aload_n 0, 1) := by decide +kernel
theorem dX5_run_55 : decode cX5_run 55 = .ok (.getfield 27, 3) := by decide +kernel
theorem dX5_run_58 : decode cX5_run 58 = .ok (.invokestatic 86, 3) := by decide +kernel
theorem dX5_run_61 : decode cX5_run 61 = .ok (.istore 5, 2) := by decide +kernel
theorem dX5_run_63 : decode cX5_run 63 = .ok (.iload_n 3, 1) := by decide +kernel
theorem dX5_run_64 : decode cX5_run 64 = .ok (.iload 5, 2) := by decide +kernel
theorem dX5_run_66 : decode cX5_run 66 = .ok (.isub, 1) := by decide +kernel
theorem dX5_run_67 : decode cX5_run 67 = .ok (.istore_n 3, 1) := by decide +kernel
theorem dX5_run_68 : decode cX5_run 68 = .ok (.aload_n 0, 1) := by decide +kernel
theorem dX5_run_69 : decode cX5_run 69 = .ok (.dup, 1) := by decide +kernel
theorem dX5_run_70 : decode cX5_run 70 = .ok (.getfield 27, 3) := by decide +kernel
theorem dX5_run_73 : decode cX5_run 73 = .ok (.iload 5, 2) := by decide +kernel
theorem dX5_run_75 : decode cX5_run 75 = .ok (.isub, 1) := by decide +kernel
theorem dX5_run_76 : decode cX5_run 76 = .ok (.putfield 27, 3) := by decide +kernel
theorem dX5_run_79 : decode cX5_run 79 = .ok (.aload_n 0, 1) := by decide +kernel
theorem dX5_run_80 : decode cX5_run 80 = .ok (.dup, 1) := by decide +kernel
theorem dX5_run_81 : decode cX5_run 81 = .ok (.getfield 51, 3) := by decide +kernel
theorem dX5_run_84 : decode cX5_run 84 = .ok (.iload 5, 2) := by decide +kernel
theorem dX5_run_86 : decode cX5_run 86 = .ok (.iadd, 1) := by decide +kernel
theorem dX5_run_87 : decode cX5_run 87 = .ok (.putfield 51, 3) := by decide +kernel
theorem dX5_run_90 : decode cX5_run 90 = .ok (.aload_n 0, 1) := by decide +kernel
theorem dX5_run_91 : decode cX5_run 91 = .ok (.getfield 9, 3) := by decide +kernel
theorem dX5_run_94 : decode cX5_run 94 = .ok (.aload_n 0, 1) := by decide +kernel
theorem dX5_run_95 : decode cX5_run 95 = .ok (.getfield 31, 3) := by decide +kernel
theorem dX5_run_98 : decode cX5_run 98 = .ok (.aload_n 0, 1) := by decide +kernel
theorem dX5_run_99 : decode cX5_run 99 = .ok (.getfield 9, 3) := by decide +kernel
theorem dX5_run_102 : decode cX5_run 102 = .ok (.aload_n 0, 1) := by decide +kernel
theorem dX5_run_103 : decode cX5_run 103 = .ok (.getfield 31, 3) := by decide +kernel
theorem dX5_run_106 : decode cX5_run 106 = .ok (.invokestatic 89, 3) := by decide +kernel
theorem dX5_run_109 : decode cX5_run 109 = .ok (.iload 5, 2) := by decide +kernel
theorem dX5_run_111 : decode cX5_run 111 = .ok (.iadd, 1) := by decide +kernel
theorem dX5_run_112 : decode cX5_run 112 = .ok (.invokestatic 93, 3) := by decide +kernel
theorem dX5_run_115 : decode cX5_run 115 = .ok (.aload_n 0, 1) := by decide +kernel
theorem dX5_run_116 : decode cX5_run 116 = .ok (.getfield 27, 3) := by decide +kernel
theorem dX5_run_119 : decode cX5_run 119 = .ok (.ifCond .ne 8, 3) := by decide +kernel
theorem dX5_run_122 : decode cX5_run 122 = .ok (.aload_n 0, 1) := by decide +kernel
theorem dX5_run_123 : decode cX5_run 123 = .ok (.aload_n 1, 1) := by decide +kernel
theorem dX5_run_124 : decode cX5_run 124 = .ok (.invokevirtual 97, 3) := by decide +kernel
theorem dX5_run_127 : decode cX5_run 127 = .ok (.iinc 4 1, 3) := by decide +kernel
theorem dX5_run_130 : decode cX5_run 130 = .ok (.goto (-95), 3) := by decide +kernel
theorem dX5_run_133 : decode cX5_run 133 = .ok (.return_, 1) := by decide +kernel
theorem dX5_runOut_0 : decode cX5_runOut 0 = .ok (.aload_n 1, 1) := by decide +kernel
theorem dX5_runOut_1 : decode cX5_runOut 1 = .ok (.aload_n 0, 1) := by decide +kernel
theorem dX5_runOut_2 : decode cX5_runOut 2 = .ok (.getfield 31, 3) := by decide +kernel
theorem dX5_runOut_5 : decode cX5_runOut 5 = .ok (.invokevirtual 70, 3) := by decide +kernel
theorem dX5_runOut_8 : decode cX5_runOut 8 = .ok (.ifCond .eq 36, 3) := by decide +kernel
theorem dX5_runOut_11 : decode cX5_runOut 11 = .ok (.aload_n 0, 1) := by decide +kernel
theorem dX5_runOut_12 : decode cX5_runOut 12 = .ok (.getfield 43, 3) := by decide +kernel
theorem dX5_runOut_15 : decode cX5_runOut 15 = .ok (.ifCond .le 29, 3) := by decide +kernel
theorem dX5_runOut_18 : decode cX5_runOut 18 = .ok (.aload_n 0, 1) := by decide +kernel
theorem dX5_runOut_19 : decode cX5_runOut 19 = .ok (.dup, 1) := by decide +kernel
theorem dX5_runOut_20 : decode cX5_runOut 20 = .ok (.getfield 43, 3) := by decide +kernel
theorem dX5_runOut_23 : decode cX5_runOut 23 = .ok (.iconst 1, 1) := by decide +kernel
theorem dX5_runOut_24 : decode cX5_runOut 24 = .ok (.isub, 1) := by decide +kernel
theorem dX5_runOut_25 : decode cX5_runOut 25 = .ok (.putfield 43, 3) := by decide +kernel
theorem dX5_runOut_28 : decode cX5_runOut 28 = .ok (.aload_n 0, 1) := by decide +kernel
theorem dX5_runOut_29 : decode cX5_runOut 29 = .ok (.iconst 1, 1) := by decide +kernel
theorem dX5_runOut_30 : decode cX5_runOut 30 = .ok (.putfield 44, 3) := by decide +kernel
theorem dX5_runOut_33 : decode cX5_runOut 33 = .ok (.aload_n 0, 1) := by decide +kernel
theorem dX5_runOut_34 : decode cX5_runOut 34 = .ok (.aload_n 1, 1) := by decide +kernel
theorem dX5_runOut_35 : decode cX5_runOut 35 = .ok (.getfield 79, 3) := by decide +kernel
theorem dX5_runOut_38 : decode cX5_runOut 38 = .ok (.putfield 27, 3) := by decide +kernel
theorem dX5_runOut_41 : decode cX5_runOut 41 = .ok (.goto 8, 3) := by decide +kernel
theorem dX5_runOut_44 : decode cX5_runOut 44 = .ok (.aload_n 0, 1) := by decide +kernel
theorem dX5_runOut_45 : decode cX5_runOut 45 = .ok (.iconst 1, 1) := by decide +kernel
theorem dX5_runOut_46 : decode cX5_runOut 46 = .ok (.putfield 54, 3) := by decide +kernel
theorem dX5_runOut_49 : decode cX5_runOut 49 = .ok (.return_, 1) := by decide +kernel
theorem dX5_gains_0 : decode cX5_gains 0 = .ok (.aload_n 0, 1) := by decide +kernel
theorem dX5_gains_1 : decode cX5_gains 1 = .ok (.getfield 54, 3) := by decide +kernel
theorem dX5_gains_4 : decode cX5_gains 4 = .ok (.ifCond .eq 5, 3) := by decide +kernel
theorem dX5_gains_7 : decode cX5_gains 7 = .ok (.iconst 0, 1) := by decide +kernel
theorem dX5_gains_8 : decode cX5_gains 8 = .ok (.ireturn, 1) := by decide +kernel
theorem dX5_gains_9 : decode cX5_gains 9 = .ok (.aload_n 0, 1) := by decide +kernel
theorem dX5_gains_10 : decode cX5_gains 10 = .ok (.getfield 44, 3) := by decide +kernel
theorem dX5_gains_13 : decode cX5_gains 13 = .ok (.ifCond .eq 13, 3) := by decide +kernel
theorem dX5_gains_16 : decode cX5_gains 16 = .ok (.aload_n 1, 1) := by decide +kernel
theorem dX5_gains_17 : decode cX5_gains 17 = .ok (.getfield 79, 3) := by decide +kernel
theorem dX5_gains_20 : decode cX5_gains 20 = .ok (.aload_n 0, 1) := by decide +kernel
theorem dX5_gains_21 : decode cX5_gains 21 = .ok (.getfield 27, 3) := by decide +kernel
theorem dX5_gains_24 : decode cX5_gains 24 = .ok (.isub, 1) := by decide +kernel
theorem dX5_gains_25 : decode cX5_gains 25 = .ok (.ireturn, 1) := by decide +kernel
theorem dX5_gains_26 : decode cX5_gains 26 = .ok (.aload_n 1, 1) := by decide +kernel
theorem dX5_gains_27 : decode cX5_gains 27 = .ok (.aload_n 0, 1) := by decide +kernel
theorem dX5_gains_28 : decode cX5_gains 28 = .ok (.getfield 31, 3) := by decide +kernel
theorem dX5_gains_31 : decode cX5_gains 31 = .ok (.iconst 2, 1) := by decide +kernel
theorem dX5_gains_32 : decode cX5_gains 32 = .ok (.invokevirtual 21, 3) := by decide +kernel
theorem dX5_gains_35 : decode cX5_gains 35 = .ok (.aload_n 0, 1) := by decide +kernel
theorem dX5_gains_36 : decode cX5_gains 36 = .ok (.getfield 51, 3) := by decide +kernel
theorem dX5_gains_39 : decode cX5_gains 39 = .ok (.aload_n 1, 1) := by decide +kernel
theorem dX5_gains_40 : decode cX5_gains 40 = .ok (.aload_n 0, 1) := by decide +kernel
theorem dX5_gains_41 : decode cX5_gains 41 = .ok (.getfield 31, 3) := by decide +kernel
theorem dX5_gains_44 : decode cX5_gains 44 = .ok (.iconst 4, 1) := by decide +kernel
theorem dX5_gains_45 : decode cX5_gains 45 = .ok (.invokevirtual 21, 3) := by decide +kernel
theorem dX5_gains_48 : decode cX5_gains 48 = .ok (.invokestatic 86, 3) := by decide +kernel
theorem dX5_gains_51 : decode cX5_gains 51 = .ok (.iadd, 1) := by decide +kernel
theorem dX5_gains_52 : decode cX5_gains 52 = .ok (.ireturn, 1) := by decide +kernel
theorem dX5_finishMove_0 : decode cX5_finishMove 0 = .ok (.aload_n 0, 1) := by decide +kernel
theorem dX5_finishMove_1 : decode cX5_finishMove 1 = .ok (.aload_n 1, 1) := by decide +kernel
theorem dX5_finishMove_2 : decode cX5_finishMove 2 = .ok (.invokevirtual 101, 3) := by decide +kernel
theorem dX5_finishMove_5 : decode cX5_finishMove 5 = .ok (.istore_n 2, 1) := by decide +kernel
theorem dX5_finishMove_6 : decode cX5_finishMove 6 = .ok (.aload_n 0, 1) := by decide +kernel
theorem dX5_finishMove_7 : decode cX5_finishMove 7 = .ok (.dup, 1) := by decide +kernel
theorem dX5_finishMove_8 : decode cX5_finishMove 8 = .ok (.getfield 27, 3) := by decide +kernel
theorem dX5_finishMove_11 : decode cX5_finishMove 11 = .ok (.iload_n 2, 1) := by decide +kernel
theorem dX5_finishMove_12 : decode cX5_finishMove 12 = .ok (.iadd, 1) := by decide +kernel
theorem dX5_finishMove_13 : decode cX5_finishMove 13 = .ok (.putfield 27, 3) := by decide +kernel
theorem dX5_finishMove_16 : decode cX5_finishMove 16 = .ok (.aload_n 0, 1) := by decide +kernel
theorem dX5_finishMove_17 : decode cX5_finishMove 17 = .ok (.dup, 1) := by decide +kernel
theorem dX5_finishMove_18 : decode cX5_finishMove 18 = .ok (.getfield 34, 3) := by decide +kernel
theorem dX5_finishMove_21 : decode cX5_finishMove 21 = .ok (.iconst 1, 1) := by decide +kernel
theorem dX5_finishMove_22 : decode cX5_finishMove 22 = .ok (.iadd, 1) := by decide +kernel
theorem dX5_finishMove_23 : decode cX5_finishMove 23 = .ok (.putfield 34, 3) := by decide +kernel
theorem dX5_finishMove_26 : decode cX5_finishMove 26 = .ok (.aload_n 0, 1) := by decide +kernel
theorem dX5_finishMove_27 : decode cX5_finishMove 27 = .ok (.dup, 1) := by decide +kernel
theorem dX5_finishMove_28 : decode cX5_finishMove 28 = .ok (.getfield 37, 3) := by decide +kernel
theorem dX5_finishMove_31 : decode cX5_finishMove 31 = .ok (.iconst 1, 1) := by decide +kernel
theorem dX5_finishMove_32 : decode cX5_finishMove 32 = .ok (.iadd, 1) := by decide +kernel
theorem dX5_finishMove_33 : decode cX5_finishMove 33 = .ok (.putfield 37, 3) := by decide +kernel
theorem dX5_finishMove_36 : decode cX5_finishMove 36 = .ok (.aload_n 0, 1) := by decide +kernel
theorem dX5_finishMove_37 : decode cX5_finishMove 37 = .ok (.aload_n 1, 1) := by decide +kernel
theorem dX5_finishMove_38 : decode cX5_finishMove 38 = .ok (.invokevirtual 104, 3) := by decide +kernel
theorem dX5_finishMove_41 : decode cX5_finishMove 41 = .ok (.ifCond .ne 8, 3) := by decide +kernel
theorem dX5_finishMove_44 : decode cX5_finishMove 44 = .ok (.aload_n 0, 1) := by decide +kernel
theorem dX5_finishMove_45 : decode cX5_finishMove 45 = .ok (.aload_n 1, 1) := by decide +kernel
theorem dX5_finishMove_46 : decode cX5_finishMove 46 = .ok (.invokevirtual 107, 3) := by decide +kernel
theorem dX5_finishMove_49 : decode cX5_finishMove 49 = .ok (.aload_n 0, 1) := by decide +kernel
theorem dX5_finishMove_50 : decode cX5_finishMove 50 = .ok (.invokevirtual 110, 3) := by decide +kernel
theorem dX5_finishMove_53 : decode cX5_finishMove 53 = .ok (.iload_n 2, 1) := by decide +kernel
theorem dX5_finishMove_54 : decode cX5_finishMove 54 = .ok (.ireturn, 1) := by decide +kernel
theorem dX5_beginNextPeriod_0 : decode cX5_beginNextPeriod 0 = .ok (.aload_n 0, 1) := by decide +kernel
theorem dX5_beginNextPeriod_1 : decode cX5_beginNextPeriod 1 = .ok (.dup, 1) := by decide +kernel
theorem dX5_beginNextPeriod_2 : decode cX5_beginNextPeriod 2 = .ok (.getfield 63, 3) := by decide +kernel
theorem dX5_beginNextPeriod_5 : decode cX5_beginNextPeriod 5 = .ok (.iconst 1, 1) := by decide +kernel
theorem dX5_beginNextPeriod_6 : decode cX5_beginNextPeriod 6 = .ok (.iadd, 1) := by decide +kernel
theorem dX5_beginNextPeriod_7 : decode cX5_beginNextPeriod 7 = .ok (.putfield 63, 3) := by decide +kernel
theorem dX5_beginNextPeriod_10 : decode cX5_beginNextPeriod 10 = .ok (.aload_n 0, 1) := by decide +kernel
theorem dX5_beginNextPeriod_11 : decode cX5_beginNextPeriod 11 = .ok (.aload_n 0, 1) := by decide +kernel
theorem dX5_beginNextPeriod_12 : decode cX5_beginNextPeriod 12 = .ok (.getfield 31, 3) := by decide +kernel
theorem dX5_beginNextPeriod_15 : decode cX5_beginNextPeriod 15 = .ok (.iconst 1, 1) := by decide +kernel
theorem dX5_beginNextPeriod_16 : decode cX5_beginNextPeriod 16 = .ok (.iadd, 1) := by decide +kernel
theorem dX5_beginNextPeriod_17 : decode cX5_beginNextPeriod 17 = .ok (.aload_n 1, 1) := by decide +kernel
theorem dX5_beginNextPeriod_18 : decode cX5_beginNextPeriod 18 = .ok (.getfield 113, 3) := by decide +kernel
theorem dX5_beginNextPeriod_21 : decode cX5_beginNextPeriod 21 = .ok (.iconst 1, 1) := by decide +kernel
theorem dX5_beginNextPeriod_22 : decode cX5_beginNextPeriod 22 = .ok (.isub, 1) := by decide +kernel
theorem dX5_beginNextPeriod_23 : decode cX5_beginNextPeriod 23 = .ok (.invokestatic 86, 3) := by decide +kernel
theorem dX5_beginNextPeriod_26 : decode cX5_beginNextPeriod 26 = .ok (.putfield 31, 3) := by decide +kernel
theorem dX5_beginNextPeriod_29 : decode cX5_beginNextPeriod 29 = .ok (.aload_n 0, 1) := by decide +kernel
theorem dX5_beginNextPeriod_30 : decode cX5_beginNextPeriod 30 = .ok (.iconst 0, 1) := by decide +kernel
theorem dX5_beginNextPeriod_31 : decode cX5_beginNextPeriod 31 = .ok (.putfield 37, 3) := by decide +kernel
theorem dX5_beginNextPeriod_34 : decode cX5_beginNextPeriod 34 = .ok (.aload_n 0, 1) := by decide +kernel
theorem dX5_beginNextPeriod_35 : decode cX5_beginNextPeriod 35 = .ok (.getfield 54, 3) := by decide +kernel
theorem dX5_beginNextPeriod_38 : decode cX5_beginNextPeriod 38 = .ok (.ifCond .ne 21, 3) := by decide +kernel
theorem dX5_beginNextPeriod_41 : decode cX5_beginNextPeriod 41 = .ok (.aload_n 0, 1) := by decide +kernel
theorem dX5_beginNextPeriod_42 : decode cX5_beginNextPeriod 42 = .ok (.dup, 1) := by decide +kernel
theorem dX5_beginNextPeriod_43 : decode cX5_beginNextPeriod 43 = .ok (.getfield 27, 3) := by decide +kernel
theorem dX5_beginNextPeriod_46 : decode cX5_beginNextPeriod 46 = .ok (.aload_n 1, 1) := by decide +kernel
theorem dX5_beginNextPeriod_47 : decode cX5_beginNextPeriod 47 = .ok (.aload_n 0, 1) := by decide +kernel
theorem dX5_beginNextPeriod_48 : decode cX5_beginNextPeriod 48 = .ok (.getfield 31, 3) := by decide +kernel
theorem dX5_beginNextPeriod_51 : decode cX5_beginNextPeriod 51 = .ok (.iconst 1, 1) := by decide +kernel
theorem dX5_beginNextPeriod_52 : decode cX5_beginNextPeriod 52 = .ok (.invokevirtual 21, 3) := by decide +kernel
theorem dX5_beginNextPeriod_55 : decode cX5_beginNextPeriod 55 = .ok (.iadd, 1) := by decide +kernel
theorem dX5_beginNextPeriod_56 : decode cX5_beginNextPeriod 56 = .ok (.putfield 27, 3) := by decide +kernel
theorem dX5_beginNextPeriod_59 : decode cX5_beginNextPeriod 59 = .ok (.return_, 1) := by decide +kernel
theorem dX5_dropMove_0 : decode cX5_dropMove 0 = .ok (.aload_n 0, 1) := by decide +kernel
theorem dX5_dropMove_1 : decode cX5_dropMove 1 = .ok (.iconst 0, 1) := by decide +kernel
theorem dX5_dropMove_2 : decode cX5_dropMove 2 = .ok (.putfield 48, 3) := by decide +kernel
theorem dX5_dropMove_5 : decode cX5_dropMove 5 = .ok (.aload_n 0, 1) := by decide +kernel
theorem dX5_dropMove_6 : decode cX5_dropMove 6 = .ok (.iconst 0, 1) := by decide +kernel
theorem dX5_dropMove_7 : decode cX5_dropMove 7 = .ok (.putfield 51, 3) := by decide +kernel
theorem dX5_dropMove_10 : decode cX5_dropMove 10 = .ok (.return_, 1) := by decide +kernel
theorem dX6_init_0 : decode cX6_init 0 = .ok (.aload_n 0, 1) := by decide +kernel
theorem dX6_init_1 : decode cX6_init 1 = .ok (.invokespecial 3, 3) := by decide +kernel
theorem dX6_init_4 : decode cX6_init 4 = .ok (.aload_n 0, 1) := by decide +kernel
theorem dX6_init_5 : decode cX6_init 5 = .ok (.new 9, 3) := by decide +kernel
theorem dX6_init_8 : decode cX6_init 8 = .ok (.dup, 1) := by decide +kernel
theorem dX6_init_9 : decode cX6_init 9 = .ok (.invokespecial 11, 3) := by decide +kernel
theorem dX6_init_12 : decode cX6_init 12 = .ok (.putfield 12, 3) := by decide +kernel
theorem dX6_init_15 : decode cX6_init 15 = .ok (.aload_n 0, 1) := by decide +kernel
theorem dX6_init_16 : decode cX6_init 16 = .ok (.new 18, 3) := by decide +kernel
theorem dX6_init_19 : decode cX6_init 19 = .ok (.dup, 1) := by decide +kernel
theorem dX6_init_20 : decode cX6_init 20 = .ok (.invokespecial 20, 3) := by decide +kernel
theorem dX6_init_23 : decode cX6_init 23 = .ok (.putfield 21, 3) := by decide +kernel
theorem dX6_init_26 : decode cX6_init 26 = .ok (.aload_n 0, 1) := by decide +kernel
theorem dX6_init_27 : decode cX6_init 27 = .ok (.new 25, 3) := by decide +kernel
theorem dX6_init_30 : decode cX6_init 30 = .ok (.dup, 1) := by decide +kernel
theorem dX6_init_31 : decode cX6_init 31 = .ok (.invokespecial 27, 3) := by decide +kernel
theorem dX6_init_34 : decode cX6_init 34 = .ok (.putfield 28, 3) := by decide +kernel
theorem dX6_init_37 : decode cX6_init 37 = .ok (.aload_n 0, 1) := by decide +kernel
theorem dX6_init_38 : decode cX6_init 38 = .ok (.new 25, 3) := by decide +kernel
theorem dX6_init_41 : decode cX6_init 41 = .ok (.dup, 1) := by decide +kernel
theorem dX6_init_42 : decode cX6_init 42 = .ok (.invokespecial 27, 3) := by decide +kernel
theorem dX6_init_45 : decode cX6_init 45 = .ok (.putfield 32, 3) := by decide +kernel
theorem dX6_init_48 : decode cX6_init 48 = .ok (.aload_n 0, 1) := by decide +kernel
theorem dX6_init_49 : decode cX6_init 49 = .ok (.iconst (-1), 1) := by decide +kernel
theorem dX6_init_50 : decode cX6_init 50 = .ok (.putfield 35, 3) := by decide +kernel
theorem dX6_init_53 : decode cX6_init 53 = .ok (.aload_n 0, 1) := by decide +kernel
theorem dX6_init_54 : decode cX6_init 54 = .ok (.iconst (-1), 1) := by decide +kernel
theorem dX6_init_55 : decode cX6_init 55 = .ok (.putfield 39, 3) := by decide +kernel
theorem dX6_init_58 : decode cX6_init 58 = .ok (.aload_n 0, 1) := by decide +kernel
theorem dX6_init_59 : decode cX6_init 59 = .ok (.getfield 12, 3) := by decide +kernel
theorem dX6_init_62 : decode cX6_init 62 = .ok (.iconst 1, 1) := by decide +kernel
theorem dX6_init_63 : decode cX6_init 63 = .ok (.putfield 42, 3) := by decide +kernel
theorem dX6_init_66 : decode cX6_init 66 = .ok (.aload_n 0, 1) := by decide +kernel
theorem dX6_init_67 : decode cX6_init 67 = .ok (.getfield 12, 3) := by decide +kernel
theorem dX6_init_70 : decode cX6_init 70 = .ok (.iconst 0, 1) := by decide +kernel
theorem dX6_init_71 : decode cX6_init 71 = .ok (.iconst 1, 1) := by decide +kernel
theorem dX6_init_72 : decode cX6_init 72 = .ok (.sipush 3000, 3) := by decide +kernel
theorem dX6_init_75 : decode cX6_init 75 = .ok (.invokevirtual 45, 3) := by decide +kernel
theorem dX6_init_78 : decode cX6_init 78 = .ok (.aload_n 0, 1) := by decide +kernel
theorem dX6_init_79 : decode cX6_init 79 = .ok (.getfield 28, 3) := by decide +kernel
theorem dX6_init_82 : decode cX6_init 82 = .ok (.aload_n 0, 1) := by decide +kernel
theorem dX6_init_83 : decode cX6_init 83 = .ok (.getfield 12, 3) := by decide +kernel
theorem dX6_init_86 : decode cX6_init 86 = .ok (.invokevirtual 49, 3) := by decide +kernel
theorem dX6_init_89 : decode cX6_init 89 = .ok (.aload_n 0, 1) := by decide +kernel
theorem dX6_init_90 : decode cX6_init 90 = .ok (.getfield 32, 3) := by decide +kernel
theorem dX6_init_93 : decode cX6_init 93 = .ok (.aload_n 0, 1) := by decide +kernel
theorem dX6_init_94 : decode cX6_init 94 = .ok (.getfield 12, 3) := by decide +kernel
theorem dX6_init_97 : decode cX6_init 97 = .ok (.invokevirtual 49, 3) := by decide +kernel
theorem dX6_init_100 : decode cX6_init 100 = .ok (.return_, 1) := by decide +kernel
theorem dX6_setUp_0 : decode cX6_setUp 0 = .ok (.aload_n 0, 1) := by decide +kernel
theorem dX6_setUp_1 : decode cX6_setUp 1 = .ok (.getfield 12, 3) := by decide +kernel
theorem dX6_setUp_4 : decode cX6_setUp 4 = .ok (.aload_n 1, 1) := by decide +kernel
theorem dX6_setUp_5 : decode cX6_setUp 5 = .ok (.invokevirtual 53, 3) := by decide +kernel
theorem dX6_setUp_8 : decode cX6_setUp 8 = .ok (.aload_n 0, 1) := by decide +kernel
theorem dX6_setUp_9 : decode cX6_setUp 9 = .ok (.getfield 21, 3) := by decide +kernel
theorem dX6_setUp_12 : decode cX6_setUp 12 = .ok (.invokevirtual 56, 3) := by decide +kernel
theorem dX6_setUp_15 : decode cX6_setUp 15 = .ok (.aload_n 0, 1) := by decide +kernel
theorem dX6_setUp_16 : decode cX6_setUp 16 = .ok (.getfield 28, 3) := by decide +kernel
theorem dX6_setUp_19 : decode cX6_setUp 19 = .ok (.aload_n 0, 1) := by decide +kernel
theorem dX6_setUp_20 : decode cX6_setUp 20 = .ok (.getfield 12, 3) := by decide +kernel
theorem dX6_setUp_23 : decode cX6_setUp 23 = .ok (.invokevirtual 49, 3) := by decide +kernel
theorem dX6_setUp_26 : decode cX6_setUp 26 = .ok (.aload_n 0, 1) := by decide +kernel
theorem dX6_setUp_27 : decode cX6_setUp 27 = .ok (.getfield 32, 3) := by decide +kernel
theorem dX6_setUp_30 : decode cX6_setUp 30 = .ok (.aload_n 0, 1) := by decide +kernel
theorem dX6_setUp_31 : decode cX6_setUp 31 = .ok (.getfield 12, 3) := by decide +kernel
theorem dX6_setUp_34 : decode cX6_setUp 34 = .ok (.invokevirtual 49, 3) := by decide +kernel
theorem dX6_setUp_37 : decode cX6_setUp 37 = .ok (.aload_n 0, 1) := by decide +kernel
theorem dX6_setUp_38 : decode cX6_setUp 38 = .ok (.iload_n 2, 1) := by decide +kernel
theorem dX6_setUp_39 : decode cX6_setUp 39 = .ok (.putfield 59, 3) := by decide +kernel
theorem dX6_setUp_42 : decode cX6_setUp 42 = .ok (.aload_n 0, 1) := by decide +kernel
theorem dX6_setUp_43 : decode cX6_setUp 43 = .ok (.iconst 0, 1) := by decide +kernel
theorem dX6_setUp_44 : decode cX6_setUp 44 = .ok (.putfield 63, 3) := by decide +kernel
theorem dX6_setUp_47 : decode cX6_setUp 47 = .ok (.aload_n 0, 1) := by decide +kernel
theorem dX6_setUp_48 : decode cX6_setUp 48 = .ok (.iconst 0, 1) := by decide +kernel
theorem dX6_setUp_49 : decode cX6_setUp 49 = .ok (.putfield 66, 3) := by decide +kernel
theorem dX6_setUp_52 : decode cX6_setUp 52 = .ok (.aload_n 0, 1) := by decide +kernel
theorem dX6_setUp_53 : decode cX6_setUp 53 = .ok (.iconst (-1), 1) := by decide +kernel
theorem dX6_setUp_54 : decode cX6_setUp 54 = .ok (.putfield 35, 3) := by decide +kernel
theorem dX6_setUp_57 : decode cX6_setUp 57 = .ok (.aload_n 0, 1) := by decide +kernel
theorem dX6_setUp_58 : decode cX6_setUp 58 = .ok (.iconst (-1), 1) := by decide +kernel
theorem dX6_setUp_59 : decode cX6_setUp 59 = .ok (.putfield 39, 3) := by decide +kernel
theorem dX6_setUp_62 : decode cX6_setUp 62 = .ok (.aload_n 0, 1) := by decide +kernel
theorem dX6_setUp_63 : decode cX6_setUp 63 = .ok (.iconst 0, 1) := by decide +kernel
theorem dX6_setUp_64 : decode cX6_setUp 64 = .ok (.putfield 69, 3) := by decide +kernel
theorem dX6_setUp_67 : decode cX6_setUp 67 = .ok (.aload_n 0, 1) := by decide +kernel
theorem dX6_setUp_68 : decode cX6_setUp 68 = .ok (.iconst 0, 1) := by decide +kernel
theorem dX6_setUp_69 : decode cX6_setUp 69 = .ok (.putfield 72, 3) := by decide +kernel
theorem dX6_setUp_72 : decode cX6_setUp 72 = .ok (.return_, 1) := by decide +kernel
theorem dX6_copyFrom_0 : decode cX6_copyFrom 0 = .ok (.aload_n 0, 1) := by decide +kernel
theorem dX6_copyFrom_1 : decode cX6_copyFrom 1 = .ok (.getfield 12, 3) := by decide +kernel
theorem dX6_copyFrom_4 : decode cX6_copyFrom 4 = .ok (.aload_n 1, 1) := by decide +kernel
theorem dX6_copyFrom_5 : decode cX6_copyFrom 5 = .ok (.getfield 12, 3) := by decide +kernel
theorem dX6_copyFrom_8 : decode cX6_copyFrom 8 = .ok (.invokevirtual 53, 3) := by decide +kernel
theorem dX6_copyFrom_11 : decode cX6_copyFrom 11 = .ok (.aload_n 0, 1) := by decide +kernel
theorem dX6_copyFrom_12 : decode cX6_copyFrom 12 = .ok (.getfield 21, 3) := by decide +kernel
theorem dX6_copyFrom_15 : decode cX6_copyFrom 15 = .ok (.aload_n 1, 1) := by decide +kernel
theorem dX6_copyFrom_16 : decode cX6_copyFrom 16 = .ok (.getfield 21, 3) := by decide +kernel
theorem dX6_copyFrom_19 : decode cX6_copyFrom 19 = .ok (.invokevirtual 75, 3) := by decide +kernel
theorem dX6_copyFrom_22 : decode cX6_copyFrom 22 = .ok (.aload_n 0, 1) := by decide +kernel
theorem dX6_copyFrom_23 : decode cX6_copyFrom 23 = .ok (.getfield 28, 3) := by decide +kernel
theorem dX6_copyFrom_26 : decode cX6_copyFrom 26 = .ok (.aload_n 1, 1) := by decide +kernel
theorem dX6_copyFrom_27 : decode cX6_copyFrom 27 = .ok (.getfield 28, 3) := by decide +kernel
theorem dX6_copyFrom_30 : decode cX6_copyFrom 30 = .ok (.invokevirtual 78, 3) := by decide +kernel
theorem dX6_copyFrom_33 : decode cX6_copyFrom 33 = .ok (.aload_n 0, 1) := by decide +kernel
theorem dX6_copyFrom_34 : decode cX6_copyFrom 34 = .ok (.getfield 32, 3) := by decide +kernel
theorem dX6_copyFrom_37 : decode cX6_copyFrom 37 = .ok (.aload_n 1, 1) := by decide +kernel
theorem dX6_copyFrom_38 : decode cX6_copyFrom 38 = .ok (.getfield 32, 3) := by decide +kernel
theorem dX6_copyFrom_41 : decode cX6_copyFrom 41 = .ok (.invokevirtual 78, 3) := by decide +kernel
theorem dX6_copyFrom_44 : decode cX6_copyFrom 44 = .ok (.aload_n 0, 1) := by decide +kernel
theorem dX6_copyFrom_45 : decode cX6_copyFrom 45 = .ok (.aload_n 1, 1) := by decide +kernel
theorem dX6_copyFrom_46 : decode cX6_copyFrom 46 = .ok (.getfield 59, 3) := by decide +kernel
theorem dX6_copyFrom_49 : decode cX6_copyFrom 49 = .ok (.putfield 59, 3) := by decide +kernel
theorem dX6_copyFrom_52 : decode cX6_copyFrom 52 = .ok (.aload_n 0, 1) := by decide +kernel
theorem dX6_copyFrom_53 : decode cX6_copyFrom 53 = .ok (.aload_n 1, 1) := by decide +kernel
theorem dX6_copyFrom_54 : decode cX6_copyFrom 54 = .ok (.getfield 63, 3) := by decide +kernel
theorem dX6_copyFrom_57 : decode cX6_copyFrom 57 = .ok (.putfield 63, 3) := by decide +kernel
theorem dX6_copyFrom_60 : decode cX6_copyFrom 60 = .ok (.aload_n 0, 1) := by decide +kernel
theorem dX6_copyFrom_61 : decode cX6_copyFrom 61 = .ok (.aload_n 1, 1) := by decide +kernel
theorem dX6_copyFrom_62 : decode cX6_copyFrom 62 = .ok (.getfield 66, 3) := by decide +kernel
theorem dX6_copyFrom_65 : decode cX6_copyFrom 65 = .ok (.putfield 66, 3) := by decide +kernel
theorem dX6_copyFrom_68 : decode cX6_copyFrom 68 = .ok (.aload_n 0, 1) := by decide +kernel
theorem dX6_copyFrom_69 : decode cX6_copyFrom 69 = .ok (.aload_n 1, 1) := by decide +kernel
theorem dX6_copyFrom_70 : decode cX6_copyFrom 70 = .ok (.getfield 35, 3) := by decide +kernel
theorem dX6_copyFrom_73 : decode cX6_copyFrom 73 = .ok (.putfield 35, 3) := by decide +kernel
theorem dX6_copyFrom_76 : decode cX6_copyFrom 76 = .ok (.aload_n 0, 1) := by decide +kernel
theorem dX6_copyFrom_77 : decode cX6_copyFrom 77 = .ok (.aload_n 1, 1) := by decide +kernel
theorem dX6_copyFrom_78 : decode cX6_copyFrom 78 = .ok (.getfield 39, 3) := by decide +kernel
theorem dX6_copyFrom_81 : decode cX6_copyFrom 81 = .ok (.putfield 39, 3) := by decide +kernel
theorem dX6_copyFrom_84 : decode cX6_copyFrom 84 = .ok (.aload_n 0, 1) := by decide +kernel
theorem dX6_copyFrom_85 : decode cX6_copyFrom 85 = .ok (.aload_n 1, 1) := by decide +kernel
theorem dX6_copyFrom_86 : decode cX6_copyFrom 86 = .ok (.getfield 69, 3) := by decide +kernel
theorem dX6_copyFrom_89 : decode cX6_copyFrom 89 = .ok (.putfield 69, 3) := by decide +kernel
theorem dX6_copyFrom_92 : decode cX6_copyFrom 92 = .ok (.aload_n 0, 1) := by decide +kernel
theorem dX6_copyFrom_93 : decode cX6_copyFrom 93 = .ok (.aload_n 1, 1) := by decide +kernel
theorem dX6_copyFrom_94 : decode cX6_copyFrom 94 = .ok (.getfield 72, 3) := by decide +kernel
theorem dX6_copyFrom_97 : decode cX6_copyFrom 97 = .ok (.putfield 72, 3) := by decide +kernel
theorem dX6_copyFrom_100 : decode cX6_copyFrom 100 = .ok (.return_, 1) := by decide +kernel
theorem dX6_sideOf_0 : decode cX6_sideOf 0 = .ok (.iload_n 1, 1) := by decide +kernel
theorem dX6_sideOf_1 : decode cX6_sideOf 1 = .ok (.ifCond .ne 10, 3) := by decide +kernel
theorem dX6_sideOf_4 : decode cX6_sideOf 4 = .ok (.aload_n 0, 1) := by decide +kernel
theorem dX6_sideOf_5 : decode cX6_sideOf 5 = .ok (.getfield 28, 3) := by decide +kernel
theorem dX6_sideOf_8 : decode cX6_sideOf 8 = .ok (.goto 7, 3) := by decide +kernel
theorem dX6_sideOf_11 : decode cX6_sideOf 11 = .ok (.aload_n 0, 1) := by decide +kernel
theorem dX6_sideOf_12 : decode cX6_sideOf 12 = .ok (.getfield 32, 3) := by decide +kernel
theorem dX6_sideOf_15 : decode cX6_sideOf 15 = .ok (.areturn, 1) := by decide +kernel
theorem dX6_mover_0 : decode cX6_mover 0 = .ok (.aload_n 0, 1) := by decide +kernel
theorem dX6_mover_1 : decode cX6_mover 1 = .ok (.aload_n 0, 1) := by decide +kernel
theorem dX6_mover_2 : decode cX6_mover 2 = .ok (.getfield 66, 3) := by decide +kernel
theorem dX6_mover_5 : decode cX6_mover 5 = .ok (.invokevirtual 81, 3) := by decide +kernel
theorem dX6_mover_8 : decode cX6_mover 8 = .ok (.areturn, 1) := by decide +kernel
theorem dX6_whiteAhead_0 : decode cX6_whiteAhead 0 = .ok (.aload_n 0, 1) := by decide +kernel
theorem dX6_whiteAhead_1 : decode cX6_whiteAhead 1 = .ok (.getfield 28, 3) := by decide +kernel
theorem dX6_whiteAhead_4 : decode cX6_whiteAhead 4 = .ok (.getfield 85, 3) := by decide +kernel
theorem dX6_whiteAhead_7 : decode cX6_whiteAhead 7 = .ok (.aload_n 0, 1) := by decide +kernel
theorem dX6_whiteAhead_8 : decode cX6_whiteAhead 8 = .ok (.getfield 32, 3) := by decide +kernel
theorem dX6_whiteAhead_11 : decode cX6_whiteAhead 11 = .ok (.getfield 85, 3) := by decide +kernel
theorem dX6_whiteAhead_14 : decode cX6_whiteAhead 14 = .ok (.isub, 1) := by decide +kernel
theorem dX6_whiteAhead_15 : decode cX6_whiteAhead 15 = .ok (.ireturn, 1) := by decide +kernel
theorem dX6_swapSides_0 : decode cX6_swapSides 0 = .ok (.aload_n 0, 1) := by decide +kernel
theorem dX6_swapSides_1 : decode cX6_swapSides 1 = .ok (.getfield 28, 3) := by decide +kernel
theorem dX6_swapSides_4 : decode cX6_swapSides 4 = .ok (.astore_n 1, 1) := by decide +kernel
theorem dX6_swapSides_5 : decode cX6_swapSides 5 = .ok (.aload_n 0, 1) := by decide +kernel
theorem dX6_swapSides_6 : decode cX6_swapSides 6 = .ok (.aload_n 0, 1) := by decide +kernel
theorem dX6_swapSides_7 : decode cX6_swapSides 7 = .ok (.getfield 32, 3) := by decide +kernel
theorem dX6_swapSides_10 : decode cX6_swapSides 10 = .ok (.putfield 28, 3) := by decide +kernel
theorem dX6_swapSides_13 : decode cX6_swapSides 13 = .ok (.aload_n 0, 1) := by decide +kernel
theorem dX6_swapSides_14 : decode cX6_swapSides 14 = .ok (.aload_n 1, 1) := by decide +kernel
theorem dX6_swapSides_15 : decode cX6_swapSides 15 = .ok (.putfield 32, 3) := by decide +kernel
theorem dX6_swapSides_18 : decode cX6_swapSides 18 = .ok (.return_, 1) := by decide +kernel
theorem dX6_resultOfFall_0 : decode cX6_resultOfFall 0 = .ok (.aload_n 0, 1) := by decide +kernel
theorem dX6_resultOfFall_1 : decode cX6_resultOfFall 1 = .ok (.iload_n 1, 1) := by decide +kernel
theorem dX6_resultOfFall_2 : decode cX6_resultOfFall 2 = .ok (.invokestatic 88, 3) := by decide +kernel
theorem dX6_resultOfFall_5 : decode cX6_resultOfFall 5 = .ok (.invokevirtual 81, 3) := by decide +kernel
theorem dX6_resultOfFall_8 : decode cX6_resultOfFall 8 = .ok (.getfield 92, 3) := by decide +kernel
theorem dX6_resultOfFall_11 : decode cX6_resultOfFall 11 = .ok (.ifCond .eq 7, 3) := by decide +kernel
theorem dX6_resultOfFall_14 : decode cX6_resultOfFall 14 = .ok (.iconst 2, 1) := by decide +kernel
theorem dX6_resultOfFall_15 : decode cX6_resultOfFall 15 = .ok (.goto 7, 3) := by decide +kernel
theorem dX6_resultOfFall_18 : decode cX6_resultOfFall 18 = .ok (.iload_n 1, 1) := by decide +kernel
theorem dX6_resultOfFall_19 : decode cX6_resultOfFall 19 = .ok (.invokestatic 88, 3) := by decide +kernel
theorem dX6_resultOfFall_22 : decode cX6_resultOfFall 22 = .ok (.ireturn, 1) := by decide +kernel
theorem dX6_endWith_0 : decode cX6_endWith 0 = .ok (.aload_n 0, 1) := by decide +kernel
theorem dX6_endWith_1 : decode cX6_endWith 1 = .ok (.iconst 4, 1) := by decide +kernel
theorem dX6_endWith_2 : decode cX6_endWith 2 = .ok (.putfield 63, 3) := by decide +kernel
theorem dX6_endWith_5 : decode cX6_endWith 5 = .ok (.aload_n 0, 1) := by decide +kernel
theorem dX6_endWith_6 : decode cX6_endWith 6 = .ok (.iload_n 1, 1) := by decide +kernel
theorem dX6_endWith_7 : decode cX6_endWith 7 = .ok (.putfield 35, 3) := by decide +kernel
theorem dX6_endWith_10 : decode cX6_endWith 10 = .ok (.return_, 1) := by decide +kernel
theorem dX6_ticksToSealing_0 : decode cX6_ticksToSealing 0 = .ok (.aload_n 0, 1) := by decide +kernel
theorem dX6_ticksToSealing_1 : decode cX6_ticksToSealing 1 = .ok (.getfield 63, 3) := by decide +kernel
theorem dX6_ticksToSealing_4 : decode cX6_ticksToSealing 4 = .ok (.iconst 1, 1) := by decide +kernel
theorem dX6_ticksToSealing_5 : decode cX6_ticksToSealing 5 = .ok (.if_icmp .ne 14, 3) := by decide +kernel
theorem dX6_ticksToSealing_8 : decode cX6_ticksToSealing 8 = .ok (.aload_n 0, 1) := by decide +kernel
theorem dX6_ticksToSealing_9 : decode cX6_ticksToSealing 9 = .ok (.getfield 12, 3) := by decide +kernel
theorem dX6_ticksToSealing_12 : decode cX6_ticksToSealing 12 = .ok (.getfield 95, 3) := by decide +kernel
theorem dX6_ticksToSealing_15 : decode cX6_ticksToSealing 15 = .ok (.iconst (-1), 1) := by decide +kernel
theorem dX6_ticksToSealing_16 : decode cX6_ticksToSealing 16 = .ok (.if_icmp .ne 5, 3) := by decide +kernel
theorem dX6_ticksToSealing_19 : decode cX6_ticksToSealing 19 = .ok (.iconst (-1), 1) := by decide +kernel
theorem dX6_ticksToSealing_20 : decode cX6_ticksToSealing 20 = .ok (.ireturn, 1) := by decide +kernel
theorem dX6_ticksToSealing_21 : decode cX6_ticksToSealing 21 = .ok (.iconst 0, 1) := by decide +kernel
theorem dX6_ticksToSealing_22 : decode cX6_ticksToSealing 22 = .ok (.aload_n 0, 1) := by decide +kernel
theorem dX6_ticksToSealing_23 : decode cX6_ticksToSealing 23 = .ok (.getfield 12, 3) := by decide +kernel
theorem dX6_ticksToSealing_26 : decode cX6_ticksToSealing 26 = .ok (.getfield 95, 3) := by decide +kernel
theorem dX6_ticksToSealing_29 : decode cX6_ticksToSealing 29 = .ok (.aload_n 0, 1) := by decide +kernel
theorem dX6_ticksToSealing_30 : decode cX6_ticksToSealing 30 = .ok (.getfield 72, 3) := by decide +kernel
theorem dX6_ticksToSealing_33 : decode cX6_ticksToSealing 33 = .ok (.isub, 1) := by decide +kernel
theorem dX6_ticksToSealing_34 : decode cX6_ticksToSealing 34 = .ok (.invokestatic 98, 3) := by decide +kernel
theorem dX6_ticksToSealing_37 : decode cX6_ticksToSealing 37 = .ok (.ireturn, 1) := by decide +kernel
theorem dX6_letRun_0 : decode cX6_letRun 0 = .ok (.aload_n 0, 1) := by decide +kernel
theorem dX6_letRun_1 : decode cX6_letRun 1 = .ok (.invokevirtual 104, 3) := by decide +kernel
theorem dX6_letRun_4 : decode cX6_letRun 4 = .ok (.astore_n 2, 1) := by decide +kernel
theorem dX6_letRun_5 : decode cX6_letRun 5 = .ok (.aload_n 2, 1) := by decide +kernel
theorem dX6_letRun_6 : decode cX6_letRun 6 = .ok (.getfield 108, 3) := by decide +kernel
theorem dX6_letRun_9 : decode cX6_letRun 9 = .ok (.istore_n 3, 1) := by decide +kernel
theorem dX6_letRun_10 : decode cX6_letRun 10 = .ok (.iload_n 1, 1) := by decide +kernel
theorem dX6_letRun_11 : decode cX6_letRun 11 = .ok (.istore 4, 2) := by decide +kernel
theorem dX6_letRun_13 : decode cX6_letRun 13 = .ok (.aload_n 0, 1) := by decide +kernel
theorem dX6_letRun_14 : decode cX6_letRun 14 = .ok (.getfield 59, 3) := by decide +kernel
theorem dX6_letRun_17 : decode cX6_letRun 17 = .ok (.ifCond .ne 21, 3) := by decide +kernel
theorem dX6_letRun_20 : decode cX6_letRun 20 = .ok (.iload_n 3, 1) := by decide +kernel
theorem dX6_letRun_21 : decode cX6_letRun 21 = .ok (.ifCond .ne 17, 3) := by decide +kernel
theorem dX6_letRun_24 : decode cX6_letRun 24 = .ok (.iload_n 1, 1) := by decide +kernel
theorem dX6_letRun_25 : decode cX6_letRun 25 = .ok (.aload_n 2, 1) := by decide +kernel
theorem dX6_letRun_26 : decode cX6_letRun 26 = .ok (.aload_n 0, 1) := by decide +kernel
theorem dX6_letRun_27 : decode cX6_letRun 27 = .ok (.getfield 12, 3) := by decide +kernel
theorem dX6_letRun_30 : decode cX6_letRun 30 = .ok (.invokevirtual 111, 3) := by decide +kernel
theorem dX6_letRun_33 : decode cX6_letRun 33 = .ok (.invokestatic 115, 3) := by decide +kernel
theorem dX6_letRun_36 : decode cX6_letRun 36 = .ok (.istore 4, 2) := by decide +kernel
theorem dX6_letRun_38 : decode cX6_letRun 38 = .ok (.aload_n 0, 1) := by decide +kernel
theorem dX6_letRun_39 : decode cX6_letRun 39 = .ok (.dup, 1) := by decide +kernel
theorem dX6_letRun_40 : decode cX6_letRun 40 = .ok (.getfield 69, 3) := by decide +kernel
theorem dX6_letRun_43 : decode cX6_letRun 43 = .ok (.iload 4, 2) := by decide +kernel
theorem dX6_letRun_45 : decode cX6_letRun 45 = .ok (.iadd, 1) := by decide +kernel
theorem dX6_letRun_46 : decode cX6_letRun 46 = .ok (.putfield 69, 3) := by decide +kernel
theorem dX6_letRun_49 : decode cX6_letRun 49 = .ok (.aload_n 0, 1) := by decide +kernel
theorem dX6_letRun_50 : decode cX6_letRun 50 = .ok (.dup, 1) := by decide +kernel
theorem dX6_letRun_51 : decode cX6_letRun 51 = .ok (.getfield 72, 3) := by decide +kernel
theorem dX6_letRun_54 : decode cX6_letRun 54 = .ok (.iload 4, 2) := by decide +kernel
theorem dX6_letRun_56 : decode cX6_letRun 56 = .ok (.iadd, 1) := by decide +kernel
theorem dX6_letRun_57 : decode cX6_letRun 57 = .ok (.putfield 72, 3) := by decide +kernel
theorem dX6_letRun_60 : decode cX6_letRun 60 = .ok (.aload_n 2, 1) := by decide +kernel
theorem dX6_letRun_61 : decode cX6_letRun 61 = .ok (.aload_n 0, 1) := by decide +kernel
theorem dX6_letRun_62 : decode cX6_letRun 62 = .ok (.getfield 12, 3) := by decide +kernel
theorem dX6_letRun_65 : decode cX6_letRun 65 = .ok (.iload 4, 2) := by decide +kernel
theorem dX6_letRun_67 : decode cX6_letRun 67 = .ok (.invokevirtual 118, 3) := by decide +kernel
theorem dX6_letRun_70 : decode cX6_letRun 70 = .ok (.aload_n 2, 1) := by decide +kernel
theorem dX6_letRun_71 : decode cX6_letRun 71 = .ok (.getfield 108, 3) := by decide +kernel
theorem dX6_letRun_74 : decode cX6_letRun 74 = .ok (.ifCond .eq 11, 3) := by decide +kernel
theorem dX6_letRun_77 : decode cX6_letRun 77 = .ok (.iload_n 3, 1) := by decide +kernel
theorem dX6_letRun_78 : decode cX6_letRun 78 = .ok (.ifCond .ne 7, 3) := by decide +kernel
theorem dX6_letRun_81 : decode cX6_letRun 81 = .ok (.aload_n 0, 1) := by decide +kernel
theorem dX6_letRun_82 : decode cX6_letRun 82 = .ok (.invokevirtual 122, 3) := by decide +kernel
theorem dX6_letRun_85 : decode cX6_letRun 85 = .ok (.return_, 1) := by decide +kernel
theorem dX6_noteFall_0 : decode cX6_noteFall 0 = .ok (.aload_n 0, 1) := by decide +kernel
theorem dX6_noteFall_1 : decode cX6_noteFall 1 = .ok (.getfield 39, 3) := by decide +kernel
theorem dX6_noteFall_4 : decode cX6_noteFall 4 = .ok (.iconst (-1), 1) := by decide +kernel
theorem dX6_noteFall_5 : decode cX6_noteFall 5 = .ok (.if_icmp .ne 11, 3) := by decide +kernel
theorem dX6_noteFall_8 : decode cX6_noteFall 8 = .ok (.aload_n 0, 1) := by decide +kernel
theorem dX6_noteFall_9 : decode cX6_noteFall 9 = .ok (.aload_n 0, 1) := by decide +kernel
theorem dX6_noteFall_10 : decode cX6_noteFall 10 = .ok (.getfield 66, 3) := by decide +kernel
theorem dX6_noteFall_13 : decode cX6_noteFall 13 = .ok (.putfield 39, 3) := by decide +kernel
theorem dX6_noteFall_16 : decode cX6_noteFall 16 = .ok (.aload_n 0, 1) := by decide +kernel
theorem dX6_noteFall_17 : decode cX6_noteFall 17 = .ok (.getfield 59, 3) := by decide +kernel
theorem dX6_noteFall_20 : decode cX6_noteFall 20 = .ok (.ifCond .ne 15, 3) := by decide +kernel
theorem dX6_noteFall_23 : decode cX6_noteFall 23 = .ok (.aload_n 0, 1) := by decide +kernel
theorem dX6_noteFall_24 : decode cX6_noteFall 24 = .ok (.aload_n 0, 1) := by decide +kernel
theorem dX6_noteFall_25 : decode cX6_noteFall 25 = .ok (.aload_n 0, 1) := by decide +kernel
theorem dX6_noteFall_26 : decode cX6_noteFall 26 = .ok (.getfield 66, 3) := by decide +kernel
theorem dX6_noteFall_29 : decode cX6_noteFall 29 = .ok (.invokevirtual 125, 3) := by decide +kernel
theorem dX6_noteFall_32 : decode cX6_noteFall 32 = .ok (.invokevirtual 128, 3) := by decide +kernel
theorem dX6_noteFall_35 : decode cX6_noteFall 35 = .ok (.return_, 1) := by decide +kernel
theorem dX6_makeMove_0 : decode cX6_makeMove 0 = .ok (.aload_n 0, 1) := by decide +kernel
theorem dX6_makeMove_1 : decode cX6_makeMove 1 = .ok (.invokevirtual 104, 3) := by decide +kernel
theorem dX6_makeMove_4 : decode cX6_makeMove 4 = .ok (.astore_n 1, 1) := by decide +kernel
theorem dX6_makeMove_5 : decode cX6_makeMove 5 = .ok (.aload_n 1, 1) := by decide +kernel
theorem dX6_makeMove_6 : decode cX6_makeMove 6 = .ok (.getfield 132, 3) := by decide +kernel
theorem dX6_makeMove_9 : decode cX6_makeMove 9 = .ok (.istore_n 2, 1) := by decide +kernel
theorem dX6_makeMove_10 : decode cX6_makeMove 10 = .ok (.aload_n 1, 1) := by decide +kernel
theorem dX6_makeMove_11 : decode cX6_makeMove 11 = .ok (.getfield 135, 3) := by decide +kernel
theorem dX6_makeMove_14 : decode cX6_makeMove 14 = .ok (.istore_n 3, 1) := by decide +kernel
theorem dX6_makeMove_15 : decode cX6_makeMove 15 = .ok (.aload_n 1, 1) := by decide +kernel
theorem dX6_makeMove_16 : decode cX6_makeMove 16 = .ok (.aload_n 0, 1) := by decide +kernel
theorem dX6_makeMove_17 : decode cX6_makeMove 17 = .ok (.getfield 12, 3) := by decide +kernel
theorem dX6_makeMove_20 : decode cX6_makeMove 20 = .ok (.invokevirtual 138, 3) := by decide +kernel
theorem dX6_makeMove_23 : decode cX6_makeMove 23 = .ok (.istore 4, 2) := by decide +kernel
theorem dX6_makeMove_25 : decode cX6_makeMove 25 = .ok (.aload_n 0, 1) := by decide +kernel
theorem dX6_makeMove_26 : decode cX6_makeMove 26 = .ok (.getfield 21, 3) := by decide +kernel
theorem dX6_makeMove_29 : decode cX6_makeMove 29 = .ok (.aload_n 0, 1) := by decide +kernel
theorem dX6_makeMove_30 : decode cX6_makeMove 30 = .ok (.getfield 66, 3) := by decide +kernel
theorem dX6_makeMove_33 : decode cX6_makeMove 33 = .ok (.iload_n 2, 1) := by decide +kernel
theorem dX6_makeMove_34 : decode cX6_makeMove 34 = .ok (.iload_n 3, 1) := by decide +kernel
theorem dX6_makeMove_35 : decode cX6_makeMove 35 = .ok (.iload 4, 2) := by decide +kernel
theorem dX6_makeMove_37 : decode cX6_makeMove 37 = .ok (.aload_n 1, 1) := by decide +kernel
theorem dX6_makeMove_38 : decode cX6_makeMove 38 = .ok (.getfield 85, 3) := by decide +kernel
theorem dX6_makeMove_41 : decode cX6_makeMove 41 = .ok (.aload_n 0, 1) := by decide +kernel
theorem dX6_makeMove_42 : decode cX6_makeMove 42 = .ok (.getfield 69, 3) := by decide +kernel
theorem dX6_makeMove_45 : decode cX6_makeMove 45 = .ok (.invokevirtual 141, 3) := by decide +kernel
theorem dX6_makeMove_48 : decode cX6_makeMove 48 = .ok (.aload_n 0, 1) := by decide +kernel
theorem dX6_makeMove_49 : decode cX6_makeMove 49 = .ok (.aload_n 0, 1) := by decide +kernel
theorem dX6_makeMove_50 : decode cX6_makeMove 50 = .ok (.getfield 66, 3) := by decide +kernel
theorem dX6_makeMove_53 : decode cX6_makeMove 53 = .ok (.invokestatic 88, 3) := by decide +kernel
theorem dX6_makeMove_56 : decode cX6_makeMove 56 = .ok (.putfield 66, 3) := by decide +kernel
theorem dX6_makeMove_59 : decode cX6_makeMove 59 = .ok (.iload 4, 2) := by decide +kernel
theorem dX6_makeMove_61 : decode cX6_makeMove 61 = .ok (.ireturn, 1) := by decide +kernel
theorem dX7_init_0 : decode cX7_init 0 = .ok (.aload_n 0, 1) := by decide +kernel
theorem dX7_init_1 : decode cX7_init 1 = .ok (.invokespecial 3, 3) := by decide +kernel
theorem dX7_init_4 : decode cX7_init 4 = .ok (.aload_n 0, 1) := by decide +kernel
theorem dX7_init_5 : decode cX7_init 5 = .ok (.new 9, 3) := by decide +kernel
theorem dX7_init_8 : decode cX7_init 8 = .ok (.dup, 1) := by decide +kernel
theorem dX7_init_9 : decode cX7_init 9 = .ok (.invokespecial 11, 3) := by decide +kernel
theorem dX7_init_12 : decode cX7_init 12 = .ok (.putfield 12, 3) := by decide +kernel
theorem dX7_init_15 : decode cX7_init 15 = .ok (.aload_n 0, 1) := by decide +kernel
theorem dX7_init_16 : decode cX7_init 16 = .ok (.new 9, 3) := by decide +kernel
theorem dX7_init_19 : decode cX7_init 19 = .ok (.dup, 1) := by decide +kernel
theorem dX7_init_20 : decode cX7_init 20 = .ok (.invokespecial 11, 3) := by decide +kernel
theorem dX7_init_23 : decode cX7_init 23 = .ok (.putfield 18, 3) := by decide +kernel
theorem dX7_init_26 : decode cX7_init 26 = .ok (.return_, 1) := by decide +kernel
theorem dX7_leftBehind_0 : decode cX7_leftBehind 0 = .ok (.aload_n 0, 1) := by decide +kernel
theorem dX7_leftBehind_1 : decode cX7_leftBehind 1 = .ok (.getfield 12, 3) := by decide +kernel
theorem dX7_leftBehind_4 : decode cX7_leftBehind 4 = .ok (.aload_n 2, 1) := by decide +kernel
theorem dX7_leftBehind_5 : decode cX7_leftBehind 5 = .ok (.invokevirtual 21, 3) := by decide +kernel
theorem dX7_leftBehind_8 : decode cX7_leftBehind 8 = .ok (.aload_n 0, 1) := by decide +kernel
theorem dX7_leftBehind_9 : decode cX7_leftBehind 9 = .ok (.getfield 12, 3) := by decide +kernel
theorem dX7_leftBehind_12 : decode cX7_leftBehind 12 = .ok (.aload_n 1, 1) := by decide +kernel
theorem dX7_leftBehind_13 : decode cX7_leftBehind 13 = .ok (.iload_n 3, 1) := by decide +kernel
theorem dX7_leftBehind_14 : decode cX7_leftBehind 14 = .ok (.invokevirtual 25, 3) := by decide +kernel
theorem dX7_leftBehind_17 : decode cX7_leftBehind 17 = .ok (.aload_n 0, 1) := by decide +kernel
theorem dX7_leftBehind_18 : decode cX7_leftBehind 18 = .ok (.getfield 12, 3) := by decide +kernel
theorem dX7_leftBehind_21 : decode cX7_leftBehind 21 = .ok (.getfield 29, 3) := by decide +kernel
theorem dX7_leftBehind_24 : decode cX7_leftBehind 24 = .ok (.ireturn, 1) := by decide +kernel
theorem dX7_movesAt_0 : decode cX7_movesAt 0 = .ok (.aload_n 2, 1) := by decide +kernel
theorem dX7_movesAt_1 : decode cX7_movesAt 1 = .ok (.getfield 33, 3) := by decide +kernel
theorem dX7_movesAt_4 : decode cX7_movesAt 4 = .ok (.ifCond .eq 5, 3) := by decide +kernel
theorem dX7_movesAt_7 : decode cX7_movesAt 7 = .ok (.iconst 0, 1) := by decide +kernel
theorem dX7_movesAt_8 : decode cX7_movesAt 8 = .ok (.ireturn, 1) := by decide +kernel
theorem dX7_movesAt_9 : decode cX7_movesAt 9 = .ok (.aload_n 0, 1) := by decide +kernel
theorem dX7_movesAt_10 : decode cX7_movesAt 10 = .ok (.getfield 12, 3) := by decide +kernel
theorem dX7_movesAt_13 : decode cX7_movesAt 13 = .ok (.aload_n 2, 1) := by decide +kernel
theorem dX7_movesAt_14 : decode cX7_movesAt 14 = .ok (.invokevirtual 21, 3) := by decide +kernel
theorem dX7_movesAt_17 : decode cX7_movesAt 17 = .ok (.aload_n 0, 1) := by decide +kernel
theorem dX7_movesAt_18 : decode cX7_movesAt 18 = .ok (.getfield 12, 3) := by decide +kernel
theorem dX7_movesAt_21 : decode cX7_movesAt 21 = .ok (.invokevirtual 37, 3) := by decide +kernel
theorem dX7_movesAt_24 : decode cX7_movesAt 24 = .ok (.aload_n 0, 1) := by decide +kernel
theorem dX7_movesAt_25 : decode cX7_movesAt 25 = .ok (.getfield 12, 3) := by decide +kernel
theorem dX7_movesAt_28 : decode cX7_movesAt 28 = .ok (.dup, 1) := by decide +kernel
theorem dX7_movesAt_29 : decode cX7_movesAt 29 = .ok (.getfield 29, 3) := by decide +kernel
theorem dX7_movesAt_32 : decode cX7_movesAt 32 = .ok (.iload 4, 2) := by decide +kernel
theorem dX7_movesAt_34 : decode cX7_movesAt 34 = .ok (.iadd, 1) := by decide +kernel
theorem dX7_movesAt_35 : decode cX7_movesAt 35 = .ok (.putfield 29, 3) := by decide +kernel
theorem dX7_movesAt_38 : decode cX7_movesAt 38 = .ok (.iconst 0, 1) := by decide +kernel
theorem dX7_movesAt_39 : decode cX7_movesAt 39 = .ok (.istore 6, 2) := by decide +kernel
theorem dX7_movesAt_41 : decode cX7_movesAt 41 = .ok (.iload 6, 2) := by decide +kernel
theorem dX7_movesAt_43 : decode cX7_movesAt 43 = .ok (.iload 5, 2) := by decide +kernel
theorem dX7_movesAt_45 : decode cX7_movesAt 45 = .ok (.if_icmp .ge 40, 3) := by decide +kernel
theorem dX7_movesAt_48 : decode cX7_movesAt 48 = .ok (.aload_n 0, 1) := by decide +kernel
theorem dX7_movesAt_49 : decode cX7_movesAt 49 = .ok (.getfield 12, 3) := by decide +kernel
theorem dX7_movesAt_52 : decode cX7_movesAt 52 = .ok (.aload_n 1, 1) := by decide +kernel
theorem dX7_movesAt_53 : decode cX7_movesAt 53 = .ok (.iload_n 3, 1) := by decide +kernel
theorem dX7_movesAt_54 : decode cX7_movesAt 54 = .ok (.invokevirtual 25, 3) := by decide +kernel
theorem dX7_movesAt_57 : decode cX7_movesAt 57 = .ok (.aload_n 0, 1) := by decide +kernel
theorem dX7_movesAt_58 : decode cX7_movesAt 58 = .ok (.getfield 12, 3) := by decide +kernel
theorem dX7_movesAt_61 : decode cX7_movesAt 61 = .ok (.getfield 33, 3) := by decide +kernel
theorem dX7_movesAt_64 : decode cX7_movesAt 64 = .ok (.ifCond .eq 6, 3) := by decide +kernel
theorem dX7_movesAt_67 : decode cX7_movesAt 67 = .ok (.iload 6, 2) := by decide +kernel
theorem dX7_movesAt_69 : decode cX7_movesAt 69 = .ok (.ireturn, 1) := by decide +kernel
theorem dX7_movesAt_70 : decode cX7_movesAt 70 = .ok (.aload_n 0, 1) := by decide +kernel
theorem dX7_movesAt_71 : decode cX7_movesAt 71 = .ok (.getfield 12, 3) := by decide +kernel
theorem dX7_movesAt_74 : decode cX7_movesAt 74 = .ok (.aload_n 1, 1) := by decide +kernel
theorem dX7_movesAt_75 : decode cX7_movesAt 75 = .ok (.invokevirtual 40, 3) := by decide +kernel
theorem dX7_movesAt_78 : decode cX7_movesAt 78 = .ok (.pop, 1) := by decide +kernel
theorem dX7_movesAt_79 : decode cX7_movesAt 79 = .ok (.iinc 6 1, 3) := by decide +kernel
theorem dX7_movesAt_82 : decode cX7_movesAt 82 = .ok (.goto (-41), 3) := by decide +kernel
theorem dX7_movesAt_85 : decode cX7_movesAt 85 = .ok (.iload 6, 2) := by decide +kernel
theorem dX7_movesAt_87 : decode cX7_movesAt 87 = .ok (.ireturn, 1) := by decide +kernel
theorem dX7_greatestPace_0 : decode cX7_greatestPace 0 = .ok (.iconst 0, 1) := by decide +kernel
theorem dX7_greatestPace_1 : decode cX7_greatestPace 1 = .ok (.istore 4, 2) := by decide +kernel
theorem dX7_greatestPace_3 : decode cX7_greatestPace 3 = .ok (.sipush 10000, 3) := by decide +kernel
theorem dX7_greatestPace_6 : decode cX7_greatestPace 6 = .ok (.istore 5, 2) := by decide +kernel
theorem dX7_greatestPace_8 : decode cX7_greatestPace 8 = .ok (.iconst 0, 1) := by decide +kernel
theorem dX7_greatestPace_9 : decode cX7_greatestPace 9 = .ok (.istore 6, 2) := by decide +kernel
theorem dX7_greatestPace_11 : decode cX7_greatestPace 11 = .ok (.iload 6, 2) := by decide +kernel
theorem dX7_greatestPace_13 : decode cX7_greatestPace 13 = .ok (.bipush 20, 2) := by decide +kernel
theorem dX7_greatestPace_15 : decode cX7_greatestPace 15 = .ok (.if_icmp .ge 52, 3) := by decide +kernel
theorem dX7_greatestPace_18 : decode cX7_greatestPace 18 = .ok (.iload 5, 2) := by decide +kernel
theorem dX7_greatestPace_20 : decode cX7_greatestPace 20 = .ok (.iload 4, 2) := by decide +kernel
theorem dX7_greatestPace_22 : decode cX7_greatestPace 22 = .ok (.isub, 1) := by decide +kernel
theorem dX7_greatestPace_23 : decode cX7_greatestPace 23 = .ok (.iconst 1, 1) := by decide +kernel
theorem dX7_greatestPace_24 : decode cX7_greatestPace 24 = .ok (.if_icmp .le 43, 3) := by decide +kernel
theorem dX7_greatestPace_27 : decode cX7_greatestPace 27 = .ok (.iload 4, 2) := by decide +kernel
theorem dX7_greatestPace_29 : decode cX7_greatestPace 29 = .ok (.iload 5, 2) := by decide +kernel
theorem dX7_greatestPace_31 : decode cX7_greatestPace 31 = .ok (.iadd, 1) := by decide +kernel
theorem dX7_greatestPace_32 : decode cX7_greatestPace 32 = .ok (.iconst 2, 1) := by decide +kernel
theorem dX7_greatestPace_33 : decode cX7_greatestPace 33 = .ok (.idiv, 1) := by decide +kernel
theorem dX7_greatestPace_34 : decode cX7_greatestPace 34 = .ok (.istore 7, 2) := by decide +kernel
theorem dX7_greatestPace_36 : decode cX7_greatestPace 36 = .ok (.aload_n 0, 1) := by decide +kernel
theorem dX7_greatestPace_37 : decode cX7_greatestPace 37 = .ok (.aload_n 1, 1) := by decide +kernel
theorem dX7_greatestPace_38 : decode cX7_greatestPace 38 = .ok (.aload_n 2, 1) := by decide +kernel
theorem dX7_greatestPace_39 : decode cX7_greatestPace 39 = .ok (.iload 7, 2) := by decide +kernel
theorem dX7_greatestPace_41 : decode cX7_greatestPace 41 = .ok (.iconst 0, 1) := by decide +kernel
theorem dX7_greatestPace_42 : decode cX7_greatestPace 42 = .ok (.iload_n 3, 1) := by decide +kernel
theorem dX7_greatestPace_43 : decode cX7_greatestPace 43 = .ok (.invokevirtual 44, 3) := by decide +kernel
theorem dX7_greatestPace_46 : decode cX7_greatestPace 46 = .ok (.iload_n 3, 1) := by decide +kernel
theorem dX7_greatestPace_47 : decode cX7_greatestPace 47 = .ok (.if_icmp .lt 10, 3) := by decide +kernel
theorem dX7_greatestPace_50 : decode cX7_greatestPace 50 = .ok (.iload 7, 2) := by decide +kernel
theorem dX7_greatestPace_52 : decode cX7_greatestPace 52 = .ok (.istore 4, 2) := by decide +kernel
theorem dX7_greatestPace_54 : decode cX7_greatestPace 54 = .ok (.goto 7, 3) := by decide +kernel
theorem dX7_greatestPace_57 : decode cX7_greatestPace 57 = .ok (.iload 7, 2) := by decide +kernel
theorem dX7_greatestPace_59 : decode cX7_greatestPace 59 = .ok (.istore 5, 2) := by decide +kernel
theorem dX7_greatestPace_61 : decode cX7_greatestPace 61 = .ok (.iinc 6 1, 3) := by decide +kernel
theorem dX7_greatestPace_64 : decode cX7_greatestPace 64 = .ok (.goto (-53), 3) := by decide +kernel
theorem dX7_greatestPace_67 : decode cX7_greatestPace 67 = .ok (.iload 4, 2) := by decide +kernel
theorem dX7_greatestPace_69 : decode cX7_greatestPace 69 = .ok (.ifCond .ne 7, 3) := by decide +kernel
theorem dX7_greatestPace_72 : decode cX7_greatestPace 72 = .ok (.iconst (-1), 1) := by decide +kernel
theorem dX7_greatestPace_73 : decode cX7_greatestPace 73 = .ok (.goto 5, 3) := by decide +kernel
theorem dX7_greatestPace_76 : decode cX7_greatestPace 76 = .ok (.iload 4, 2) := by decide +kernel
theorem dX7_greatestPace_78 : decode cX7_greatestPace 78 = .ok (.ireturn, 1) := by decide +kernel
theorem dX7_leastMore_0 : decode cX7_leastMore 0 = .ok (.iconst (-1), 1) := by decide +kernel
theorem dX7_leastMore_1 : decode cX7_leastMore 1 = .ok (.istore 5, 2) := by decide +kernel
theorem dX7_leastMore_3 : decode cX7_leastMore 3 = .ok (.ldc 48, 2) := by decide +kernel
theorem dX7_leastMore_5 : decode cX7_leastMore 5 = .ok (.istore 6, 2) := by decide +kernel
theorem dX7_leastMore_7 : decode cX7_leastMore 7 = .ok (.iconst 0, 1) := by decide +kernel
theorem dX7_leastMore_8 : decode cX7_leastMore 8 = .ok (.istore 7, 2) := by decide +kernel
theorem dX7_leastMore_10 : decode cX7_leastMore 10 = .ok (.iload 7, 2) := by decide +kernel
theorem dX7_leastMore_12 : decode cX7_leastMore 12 = .ok (.bipush 20, 2) := by decide +kernel
theorem dX7_leastMore_14 : decode cX7_leastMore 14 = .ok (.if_icmp .ge 53, 3) := by decide +kernel
theorem dX7_leastMore_17 : decode cX7_leastMore 17 = .ok (.iload 6, 2) := by decide +kernel
theorem dX7_leastMore_19 : decode cX7_leastMore 19 = .ok (.iload 5, 2) := by decide +kernel
theorem dX7_leastMore_21 : decode cX7_leastMore 21 = .ok (.isub, 1) := by decide +kernel
theorem dX7_leastMore_22 : decode cX7_leastMore 22 = .ok (.iconst 1, 1) := by decide +kernel
theorem dX7_leastMore_23 : decode cX7_leastMore 23 = .ok (.if_icmp .le 44, 3) := by decide +kernel
theorem dX7_leastMore_26 : decode cX7_leastMore 26 = .ok (.iload 6, 2) := by decide +kernel
theorem dX7_leastMore_28 : decode cX7_leastMore 28 = .ok (.iload 5, 2) := by decide +kernel
theorem dX7_leastMore_30 : decode cX7_leastMore 30 = .ok (.iadd, 1) := by decide +kernel
theorem dX7_leastMore_31 : decode cX7_leastMore 31 = .ok (.iconst 2, 1) := by decide +kernel
theorem dX7_leastMore_32 : decode cX7_leastMore 32 = .ok (.idiv, 1) := by decide +kernel
theorem dX7_leastMore_33 : decode cX7_leastMore 33 = .ok (.istore 8, 2) := by decide +kernel
theorem dX7_leastMore_35 : decode cX7_leastMore 35 = .ok (.aload_n 0, 1) := by decide +kernel
theorem dX7_leastMore_36 : decode cX7_leastMore 36 = .ok (.aload_n 1, 1) := by decide +kernel
theorem dX7_leastMore_37 : decode cX7_leastMore 37 = .ok (.aload_n 2, 1) := by decide +kernel
theorem dX7_leastMore_38 : decode cX7_leastMore 38 = .ok (.iload 4, 2) := by decide +kernel
theorem dX7_leastMore_40 : decode cX7_leastMore 40 = .ok (.iload 8, 2) := by decide +kernel
theorem dX7_leastMore_42 : decode cX7_leastMore 42 = .ok (.iload_n 3, 1) := by decide +kernel
theorem dX7_leastMore_43 : decode cX7_leastMore 43 = .ok (.invokevirtual 44, 3) := by decide +kernel
theorem dX7_leastMore_46 : decode cX7_leastMore 46 = .ok (.iload_n 3, 1) := by decide +kernel
theorem dX7_leastMore_47 : decode cX7_leastMore 47 = .ok (.if_icmp .lt 10, 3) := by decide +kernel
theorem dX7_leastMore_50 : decode cX7_leastMore 50 = .ok (.iload 8, 2) := by decide +kernel
theorem dX7_leastMore_52 : decode cX7_leastMore 52 = .ok (.istore 6, 2) := by decide +kernel
theorem dX7_leastMore_54 : decode cX7_leastMore 54 = .ok (.goto 7, 3) := by decide +kernel
theorem dX7_leastMore_57 : decode cX7_leastMore 57 = .ok (.iload 8, 2) := by decide +kernel
theorem dX7_leastMore_59 : decode cX7_leastMore 59 = .ok (.istore 5, 2) := by decide +kernel
theorem dX7_leastMore_61 : decode cX7_leastMore 61 = .ok (.iinc 7 1, 3) := by decide +kernel
theorem dX7_leastMore_64 : decode cX7_leastMore 64 = .ok (.goto (-54), 3) := by decide +kernel
theorem dX7_leastMore_67 : decode cX7_leastMore 67 = .ok (.iload 6, 2) := by decide +kernel
theorem dX7_leastMore_69 : decode cX7_leastMore 69 = .ok (.ldc 49, 2) := by decide +kernel
theorem dX7_leastMore_71 : decode cX7_leastMore 71 = .ok (.if_icmp .le 7, 3) := by decide +kernel
theorem dX7_leastMore_74 : decode cX7_leastMore 74 = .ok (.iconst (-1), 1) := by decide +kernel
theorem dX7_leastMore_75 : decode cX7_leastMore 75 = .ok (.goto 5, 3) := by decide +kernel
theorem dX7_leastMore_78 : decode cX7_leastMore 78 = .ok (.iload 6, 2) := by decide +kernel
theorem dX7_leastMore_80 : decode cX7_leastMore 80 = .ok (.ireturn, 1) := by decide +kernel
theorem dX7_play_0 : decode cX7_play 0 = .ok (.aload_n 0, 1) := by decide +kernel
theorem dX7_play_1 : decode cX7_play 1 = .ok (.aload_n 1, 1) := by decide +kernel
theorem dX7_play_2 : decode cX7_play 2 = .ok (.ldc 50, 2) := by decide +kernel
theorem dX7_play_4 : decode cX7_play 4 = .ok (.invokevirtual 51, 3) := by decide +kernel
theorem dX7_play_7 : decode cX7_play 7 = .ok (.iconst 0, 1) := by decide +kernel
theorem dX7_play_8 : decode cX7_play 8 = .ok (.istore 5, 2) := by decide +kernel
theorem dX7_play_10 : decode cX7_play 10 = .ok (.iload 5, 2) := by decide +kernel
theorem dX7_play_12 : decode cX7_play 12 = .ok (.iload 4, 2) := by decide +kernel
theorem dX7_play_14 : decode cX7_play 14 = .ok (.if_icmp .ge 30, 3) := by decide +kernel
theorem dX7_play_17 : decode cX7_play 17 = .ok (.aload_n 0, 1) := by decide +kernel
theorem dX7_play_18 : decode cX7_play 18 = .ok (.aload_n 1, 1) := by decide +kernel
theorem dX7_play_19 : decode cX7_play 19 = .ok (.getfield 55, 3) := by decide +kernel
theorem dX7_play_22 : decode cX7_play 22 = .ok (.iload_n 2, 1) := by decide +kernel
theorem dX7_play_23 : decode cX7_play 23 = .ok (.iload_n 3, 1) := by decide +kernel
theorem dX7_play_24 : decode cX7_play 24 = .ok (.invokevirtual 61, 3) := by decide +kernel
theorem dX7_play_27 : decode cX7_play 27 = .ok (.ifCond .eq 17, 3) := by decide +kernel
theorem dX7_play_30 : decode cX7_play 30 = .ok (.aload_n 0, 1) := by decide +kernel
theorem dX7_play_31 : decode cX7_play 31 = .ok (.aload_n 1, 1) := by decide +kernel
theorem dX7_play_32 : decode cX7_play 32 = .ok (.getfield 55, 3) := by decide +kernel
theorem dX7_play_35 : decode cX7_play 35 = .ok (.invokevirtual 65, 3) := by decide +kernel
theorem dX7_play_38 : decode cX7_play 38 = .ok (.iinc 5 1, 3) := by decide +kernel
theorem dX7_play_41 : decode cX7_play 41 = .ok (.goto (-31), 3) := by decide +kernel
theorem dX7_play_44 : decode cX7_play 44 = .ok (.return_, 1) := by decide +kernel
theorem dX7_playFor_0 : decode cX7_playFor 0 = .ok (.aload_n 0, 1) := by decide +kernel
theorem dX7_playFor_1 : decode cX7_playFor 1 = .ok (.aload_n 1, 1) := by decide +kernel
theorem dX7_playFor_2 : decode cX7_playFor 2 = .ok (.iload 4, 2) := by decide +kernel
theorem dX7_playFor_4 : decode cX7_playFor 4 = .ok (.invokevirtual 51, 3) := by decide +kernel
theorem dX7_playFor_7 : decode cX7_playFor 7 = .ok (.iconst 0, 1) := by decide +kernel
theorem dX7_playFor_8 : decode cX7_playFor 8 = .ok (.istore 5, 2) := by decide +kernel
theorem dX7_playFor_10 : decode cX7_playFor 10 = .ok (.iload 5, 2) := by decide +kernel
theorem dX7_playFor_12 : decode cX7_playFor 12 = .ok (.sipush 10001, 3) := by decide +kernel
theorem dX7_playFor_15 : decode cX7_playFor 15 = .ok (.if_icmp .ge 30, 3) := by decide +kernel
theorem dX7_playFor_18 : decode cX7_playFor 18 = .ok (.aload_n 0, 1) := by decide +kernel
theorem dX7_playFor_19 : decode cX7_playFor 19 = .ok (.aload_n 1, 1) := by decide +kernel
theorem dX7_playFor_20 : decode cX7_playFor 20 = .ok (.getfield 55, 3) := by decide +kernel
theorem dX7_playFor_23 : decode cX7_playFor 23 = .ok (.iload_n 2, 1) := by decide +kernel
theorem dX7_playFor_24 : decode cX7_playFor 24 = .ok (.iload_n 3, 1) := by decide +kernel
theorem dX7_playFor_25 : decode cX7_playFor 25 = .ok (.invokevirtual 61, 3) := by decide +kernel
theorem dX7_playFor_28 : decode cX7_playFor 28 = .ok (.ifCond .eq 17, 3) := by decide +kernel
theorem dX7_playFor_31 : decode cX7_playFor 31 = .ok (.aload_n 0, 1) := by decide +kernel
theorem dX7_playFor_32 : decode cX7_playFor 32 = .ok (.aload_n 1, 1) := by decide +kernel
theorem dX7_playFor_33 : decode cX7_playFor 33 = .ok (.getfield 55, 3) := by decide +kernel
theorem dX7_playFor_36 : decode cX7_playFor 36 = .ok (.invokevirtual 65, 3) := by decide +kernel
theorem dX7_playFor_39 : decode cX7_playFor 39 = .ok (.iinc 5 1, 3) := by decide +kernel
theorem dX7_playFor_42 : decode cX7_playFor 42 = .ok (.goto (-32), 3) := by decide +kernel
theorem dX7_playFor_45 : decode cX7_playFor 45 = .ok (.return_, 1) := by decide +kernel
theorem dX7_begin_0 : decode cX7_begin 0 = .ok (.aload_n 0, 1) := by decide +kernel
theorem dX7_begin_1 : decode cX7_begin 1 = .ok (.getfield 12, 3) := by decide +kernel
theorem dX7_begin_4 : decode cX7_begin 4 = .ok (.aload_n 1, 1) := by decide +kernel
theorem dX7_begin_5 : decode cX7_begin 5 = .ok (.getfield 68, 3) := by decide +kernel
theorem dX7_begin_8 : decode cX7_begin 8 = .ok (.invokevirtual 21, 3) := by decide +kernel
theorem dX7_begin_11 : decode cX7_begin 11 = .ok (.aload_n 0, 1) := by decide +kernel
theorem dX7_begin_12 : decode cX7_begin 12 = .ok (.getfield 18, 3) := by decide +kernel
theorem dX7_begin_15 : decode cX7_begin 15 = .ok (.aload_n 1, 1) := by decide +kernel
theorem dX7_begin_16 : decode cX7_begin 16 = .ok (.getfield 69, 3) := by decide +kernel
theorem dX7_begin_19 : decode cX7_begin 19 = .ok (.invokevirtual 21, 3) := by decide +kernel
theorem dX7_begin_22 : decode cX7_begin 22 = .ok (.aload_n 0, 1) := by decide +kernel
theorem dX7_begin_23 : decode cX7_begin 23 = .ok (.aload_n 1, 1) := by decide +kernel
theorem dX7_begin_24 : decode cX7_begin 24 = .ok (.getfield 70, 3) := by decide +kernel
theorem dX7_begin_27 : decode cX7_begin 27 = .ok (.putfield 73, 3) := by decide +kernel
theorem dX7_begin_30 : decode cX7_begin 30 = .ok (.aload_n 0, 1) := by decide +kernel
theorem dX7_begin_31 : decode cX7_begin 31 = .ok (.iconst 0, 1) := by decide +kernel
theorem dX7_begin_32 : decode cX7_begin 32 = .ok (.putfield 74, 3) := by decide +kernel
theorem dX7_begin_35 : decode cX7_begin 35 = .ok (.aload_n 0, 1) := by decide +kernel
theorem dX7_begin_36 : decode cX7_begin 36 = .ok (.iload_n 2, 1) := by decide +kernel
theorem dX7_begin_37 : decode cX7_begin 37 = .ok (.putfield 77, 3) := by decide +kernel
theorem dX7_begin_40 : decode cX7_begin 40 = .ok (.aload_n 0, 1) := by decide +kernel
theorem dX7_begin_41 : decode cX7_begin 41 = .ok (.iconst (-1), 1) := by decide +kernel
theorem dX7_begin_42 : decode cX7_begin 42 = .ok (.putfield 80, 3) := by decide +kernel
theorem dX7_begin_45 : decode cX7_begin 45 = .ok (.return_, 1) := by decide +kernel
theorem dX7_canMove_0 : decode cX7_canMove 0 = .ok (.aload_n 0, 1) := by decide +kernel
theorem dX7_canMove_1 : decode cX7_canMove 1 = .ok (.getfield 73, 3) := by decide +kernel
theorem dX7_canMove_4 : decode cX7_canMove 4 = .ok (.ifCond .ne 10, 3) := by decide +kernel
theorem dX7_canMove_7 : decode cX7_canMove 7 = .ok (.aload_n 0, 1) := by decide +kernel
theorem dX7_canMove_8 : decode cX7_canMove 8 = .ok (.getfield 12, 3) := by decide +kernel
theorem dX7_canMove_11 : decode cX7_canMove 11 = .ok (.goto 7, 3) := by decide +kernel
theorem dX7_canMove_14 : decode cX7_canMove 14 = .ok (.aload_n 0, 1) := by decide +kernel
theorem dX7_canMove_15 : decode cX7_canMove 15 = .ok (.getfield 18, 3) := by decide +kernel
theorem dX7_canMove_18 : decode cX7_canMove 18 = .ok (.astore 4, 2) := by decide +kernel
theorem dX7_canMove_20 : decode cX7_canMove 20 = .ok (.iconst 0, 1) := by decide +kernel
theorem dX7_canMove_21 : decode cX7_canMove 21 = .ok (.aload_n 0, 1) := by decide +kernel
theorem dX7_canMove_22 : decode cX7_canMove 22 = .ok (.getfield 73, 3) := by decide +kernel
theorem dX7_canMove_25 : decode cX7_canMove 25 = .ok (.ifCond .ne 7, 3) := by decide +kernel
theorem dX7_canMove_28 : decode cX7_canMove 28 = .ok (.iload_n 2, 1) := by decide +kernel
theorem dX7_canMove_29 : decode cX7_canMove 29 = .ok (.goto 4, 3) := by decide +kernel
theorem dX7_canMove_32 : decode cX7_canMove 32 = .ok (.iload_n 3, 1) := by decide +kernel
theorem dX7_canMove_33 : decode cX7_canMove 33 = .ok (.aload 4, 2) := by decide +kernel
theorem dX7_canMove_35 : decode cX7_canMove 35 = .ok (.getfield 83, 3) := by decide +kernel
theorem dX7_canMove_38 : decode cX7_canMove 38 = .ok (.isub, 1) := by decide +kernel
theorem dX7_canMove_39 : decode cX7_canMove 39 = .ok (.invokestatic 86, 3) := by decide +kernel
theorem dX7_canMove_42 : decode cX7_canMove 42 = .ok (.istore 5, 2) := by decide +kernel
theorem dX7_canMove_44 : decode cX7_canMove 44 = .ok (.iload 5, 2) := by decide +kernel
theorem dX7_canMove_46 : decode cX7_canMove 46 = .ok (.aload_n 0, 1) := by decide +kernel
theorem dX7_canMove_47 : decode cX7_canMove 47 = .ok (.getfield 77, 3) := by decide +kernel
theorem dX7_canMove_50 : decode cX7_canMove 50 = .ok (.if_icmp .le 5, 3) := by decide +kernel
theorem dX7_canMove_53 : decode cX7_canMove 53 = .ok (.iconst 0, 1) := by decide +kernel
theorem dX7_canMove_54 : decode cX7_canMove 54 = .ok (.ireturn, 1) := by decide +kernel
theorem dX7_canMove_55 : decode cX7_canMove 55 = .ok (.aload 4, 2) := by decide +kernel
theorem dX7_canMove_57 : decode cX7_canMove 57 = .ok (.getfield 33, 3) := by decide +kernel
theorem dX7_canMove_60 : decode cX7_canMove 60 = .ok (.istore 6, 2) := by decide +kernel
theorem dX7_canMove_62 : decode cX7_canMove 62 = .ok (.aload 4, 2) := by decide +kernel
theorem dX7_canMove_64 : decode cX7_canMove 64 = .ok (.aload_n 1, 1) := by decide +kernel
theorem dX7_canMove_65 : decode cX7_canMove 65 = .ok (.iload 5, 2) := by decide +kernel
theorem dX7_canMove_67 : decode cX7_canMove 67 = .ok (.invokevirtual 25, 3) := by decide +kernel
theorem dX7_canMove_70 : decode cX7_canMove 70 = .ok (.aload_n 0, 1) := by decide +kernel
theorem dX7_canMove_71 : decode cX7_canMove 71 = .ok (.dup, 1) := by decide +kernel
theorem dX7_canMove_72 : decode cX7_canMove 72 = .ok (.getfield 77, 3) := by decide +kernel
theorem dX7_canMove_75 : decode cX7_canMove 75 = .ok (.iload 5, 2) := by decide +kernel
theorem dX7_canMove_77 : decode cX7_canMove 77 = .ok (.isub, 1) := by decide +kernel
theorem dX7_canMove_78 : decode cX7_canMove 78 = .ok (.putfield 77, 3) := by decide +kernel
theorem dX7_canMove_81 : decode cX7_canMove 81 = .ok (.aload 4, 2) := by decide +kernel
theorem dX7_canMove_83 : decode cX7_canMove 83 = .ok (.getfield 33, 3) := by decide +kernel
theorem dX7_canMove_86 : decode cX7_canMove 86 = .ok (.ifCond .eq 18, 3) := by decide +kernel
theorem dX7_canMove_89 : decode cX7_canMove 89 = .ok (.iload 6, 2) := by decide +kernel
theorem dX7_canMove_91 : decode cX7_canMove 91 = .ok (.ifCond .ne 13, 3) := by decide +kernel
theorem dX7_canMove_94 : decode cX7_canMove 94 = .ok (.aload_n 0, 1) := by decide +kernel
theorem dX7_canMove_95 : decode cX7_canMove 95 = .ok (.aload_n 0, 1) := by decide +kernel
theorem dX7_canMove_96 : decode cX7_canMove 96 = .ok (.getfield 73, 3) := by decide +kernel
theorem dX7_canMove_99 : decode cX7_canMove 99 = .ok (.putfield 80, 3) := by decide +kernel
theorem dX7_canMove_102 : decode cX7_canMove 102 = .ok (.iconst 0, 1) := by decide +kernel
theorem dX7_canMove_103 : decode cX7_canMove 103 = .ok (.ireturn, 1) := by decide +kernel
theorem dX7_canMove_104 : decode cX7_canMove 104 = .ok (.iconst 1, 1) := by decide +kernel
theorem dX7_canMove_105 : decode cX7_canMove 105 = .ok (.ireturn, 1) := by decide +kernel
theorem dX7_finishMove_0 : decode cX7_finishMove 0 = .ok (.aload_n 0, 1) := by decide +kernel
theorem dX7_finishMove_1 : decode cX7_finishMove 1 = .ok (.getfield 73, 3) := by decide +kernel
theorem dX7_finishMove_4 : decode cX7_finishMove 4 = .ok (.ifCond .ne 15, 3) := by decide +kernel
theorem dX7_finishMove_7 : decode cX7_finishMove 7 = .ok (.aload_n 0, 1) := by decide +kernel
theorem dX7_finishMove_8 : decode cX7_finishMove 8 = .ok (.getfield 12, 3) := by decide +kernel
theorem dX7_finishMove_11 : decode cX7_finishMove 11 = .ok (.aload_n 1, 1) := by decide +kernel
theorem dX7_finishMove_12 : decode cX7_finishMove 12 = .ok (.invokevirtual 40, 3) := by decide +kernel
theorem dX7_finishMove_15 : decode cX7_finishMove 15 = .ok (.pop, 1) := by decide +kernel
theorem dX7_finishMove_16 : decode cX7_finishMove 16 = .ok (.goto 12, 3) := by decide +kernel
theorem dX7_finishMove_19 : decode cX7_finishMove 19 = .ok (.aload_n 0, 1) := by decide +kernel
theorem dX7_finishMove_20 : decode cX7_finishMove 20 = .ok (.getfield 18, 3) := by decide +kernel
theorem dX7_finishMove_23 : decode cX7_finishMove 23 = .ok (.aload_n 1, 1) := by decide +kernel
theorem dX7_finishMove_24 : decode cX7_finishMove 24 = .ok (.invokevirtual 40, 3) := by decide +kernel
theorem dX7_finishMove_27 : decode cX7_finishMove 27 = .ok (.pop, 1) := by decide +kernel
theorem dX7_finishMove_28 : decode cX7_finishMove 28 = .ok (.aload_n 0, 1) := by decide +kernel
theorem dX7_finishMove_29 : decode cX7_finishMove 29 = .ok (.aload_n 0, 1) := by decide +kernel
theorem dX7_finishMove_30 : decode cX7_finishMove 30 = .ok (.getfield 73, 3) := by decide +kernel
theorem dX7_finishMove_33 : decode cX7_finishMove 33 = .ok (.invokestatic 92, 3) := by decide +kernel
theorem dX7_finishMove_36 : decode cX7_finishMove 36 = .ok (.putfield 73, 3) := by decide +kernel
theorem dX7_finishMove_39 : decode cX7_finishMove 39 = .ok (.aload_n 0, 1) := by decide +kernel
theorem dX7_finishMove_40 : decode cX7_finishMove 40 = .ok (.dup, 1) := by decide +kernel
theorem dX7_finishMove_41 : decode cX7_finishMove 41 = .ok (.getfield 74, 3) := by decide +kernel
theorem dX7_finishMove_44 : decode cX7_finishMove 44 = .ok (.iconst 1, 1) := by decide +kernel
theorem dX7_finishMove_45 : decode cX7_finishMove 45 = .ok (.iadd, 1) := by decide +kernel
theorem dX7_finishMove_46 : decode cX7_finishMove 46 = .ok (.putfield 74, 3) := by decide +kernel
theorem dX7_finishMove_49 : decode cX7_finishMove 49 = .ok (.return_, 1) := by decide +kernel
theorem dX8_init_0 : decode cX8_init 0 = .ok (.aload_n 0, 1) := by decide +kernel
theorem dX8_init_1 : decode cX8_init 1 = .ok (.invokespecial 1, 3) := by decide +kernel
theorem dX8_init_4 : decode cX8_init 4 = .ok (.aload_n 0, 1) := by decide +kernel
theorem dX8_init_5 : decode cX8_init 5 = .ok (.new 7, 3) := by decide +kernel
theorem dX8_init_8 : decode cX8_init 8 = .ok (.dup, 1) := by decide +kernel
theorem dX8_init_9 : decode cX8_init 9 = .ok (.invokespecial 9, 3) := by decide +kernel
theorem dX8_init_12 : decode cX8_init 12 = .ok (.putfield 10, 3) := by decide +kernel
theorem dX8_init_15 : decode cX8_init 15 = .ok (.aload_n 0, 1) := by decide +kernel
theorem dX8_init_16 : decode cX8_init 16 = .ok (.aload_n 0, 1) := by decide +kernel
theorem dX8_init_17 : decode cX8_init 17 = .ok (.getfield 10, 3) := by decide +kernel
theorem dX8_init_20 : decode cX8_init 20 = .ok (.getfield 16, 3) := by decide +kernel
theorem dX8_init_23 : decode cX8_init 23 = .ok (.putfield 20, 3) := by decide +kernel
theorem dX8_init_26 : decode cX8_init 26 = .ok (.aload_n 0, 1) := by decide +kernel
theorem dX8_init_27 : decode cX8_init 27 = .ok (.new 21, 3) := by decide +kernel
theorem dX8_init_30 : decode cX8_init 30 = .ok (.dup, 1) := by decide +kernel
theorem dX8_init_31 : decode cX8_init 31 = .ok (.invokespecial 23, 3) := by decide +kernel
theorem dX8_init_34 : decode cX8_init 34 = .ok (.putfield 24, 3) := by decide +kernel
theorem dX8_init_37 : decode cX8_init 37 = .ok (.aload_n 0, 1) := by decide +kernel
theorem dX8_init_38 : decode cX8_init 38 = .ok (.new 28, 3) := by decide +kernel
theorem dX8_init_41 : decode cX8_init 41 = .ok (.dup, 1) := by decide +kernel
theorem dX8_init_42 : decode cX8_init 42 = .ok (.invokespecial 30, 3) := by decide +kernel
theorem dX8_init_45 : decode cX8_init 45 = .ok (.putfield 31, 3) := by decide +kernel
theorem dX8_init_48 : decode cX8_init 48 = .ok (.aload_n 0, 1) := by decide +kernel
theorem dX8_init_49 : decode cX8_init 49 = .ok (.new 35, 3) := by decide +kernel
theorem dX8_init_52 : decode cX8_init 52 = .ok (.dup, 1) := by decide +kernel
theorem dX8_init_53 : decode cX8_init 53 = .ok (.invokespecial 37, 3) := by decide +kernel
theorem dX8_init_56 : decode cX8_init 56 = .ok (.putfield 38, 3) := by decide +kernel
theorem dX8_init_59 : decode cX8_init 59 = .ok (.aload_n 0, 1) := by decide +kernel
theorem dX8_init_60 : decode cX8_init 60 = .ok (.bipush 6, 2) := by decide +kernel
theorem dX8_init_62 : decode cX8_init 62 = .ok (.anewarray 28, 3) := by decide +kernel
theorem dX8_init_65 : decode cX8_init 65 = .ok (.putfield 42, 3) := by decide +kernel
theorem dX8_init_68 : decode cX8_init 68 = .ok (.aload_n 0, 1) := by decide +kernel
theorem dX8_init_69 : decode cX8_init 69 = .ok (.iconst 2, 1) := by decide +kernel
theorem dX8_init_70 : decode cX8_init 70 = .ok (.anewarray 28, 3) := by decide +kernel
theorem dX8_init_73 : decode cX8_init 73 = .ok (.putfield 46, 3) := by decide +kernel
theorem dX8_init_76 : decode cX8_init 76 = .ok (.iconst 0, 1) := by decide +kernel
theorem dX8_init_77 : decode cX8_init 77 = .ok (.istore_n 1, 1) := by decide +kernel
theorem dX8_init_78 : decode cX8_init 78 = .ok (.iload_n 1, 1) := by decide +kernel
theorem dX8_init_79 : decode cX8_init 79 = .ok (.aload_n 0, 1) := by decide +kernel
theorem dX8_init_80 : decode cX8_init 80 = .ok (.getfield 42, 3) := by decide +kernel
theorem dX8_init_83 : decode cX8_init 83 = .ok (.arraylength, 1) := by decide +kernel
theorem dX8_init_84 : decode cX8_init 84 = .ok (.if_icmp .ge 22, 3) := by decide +kernel
theorem dX8_init_87 : decode cX8_init 87 = .ok (.aload_n 0, 1) := by decide +kernel
theorem dX8_init_88 : decode cX8_init 88 = .ok (.getfield 42, 3) := by decide +kernel
theorem dX8_init_91 : decode cX8_init 91 = .ok (.iload_n 1, 1) := by decide +kernel
theorem dX8_init_92 : decode cX8_init 92 = .ok (.new 28, 3) := by decide +kernel
theorem dX8_init_95 : decode cX8_init 95 = .ok (.dup, 1) := by decide +kernel
theorem dX8_init_96 : decode cX8_init 96 = .ok (.invokespecial 30, 3) := by decide +kernel
theorem dX8_init_99 : decode cX8_init 99 = .ok (.aastore, 1) := by decide +kernel
theorem dX8_init_100 : decode cX8_init 100 = .ok (.iinc 1 1, 3) := by decide +kernel
theorem dX8_init_103 : decode cX8_init 103 = .ok (.goto (-25), 3) := by decide +kernel
theorem dX8_init_106 : decode cX8_init 106 = .ok (.iconst 0, 1) := by decide +kernel
theorem dX8_init_107 : decode cX8_init 107 = .ok (.istore_n 1, 1) := by decide +kernel
theorem dX8_init_108 : decode cX8_init 108 = .ok (.iload_n 1, 1) := by decide +kernel
theorem dX8_init_109 : decode cX8_init 109 = .ok (.aload_n 0, 1) := by decide +kernel
theorem dX8_init_110 : decode cX8_init 110 = .ok (.getfield 46, 3) := by decide +kernel
theorem dX8_init_113 : decode cX8_init 113 = .ok (.arraylength, 1) := by decide +kernel
theorem dX8_init_114 : decode cX8_init 114 = .ok (.if_icmp .ge 22, 3) := by decide +kernel
theorem dX8_init_117 : decode cX8_init 117 = .ok (.aload_n 0, 1) := by decide +kernel
theorem dX8_init_118 : decode cX8_init 118 = .ok (.getfield 46, 3) := by decide +kernel
theorem dX8_init_121 : decode cX8_init 121 = .ok (.iload_n 1, 1) := by decide +kernel
theorem dX8_init_122 : decode cX8_init 122 = .ok (.new 28, 3) := by decide +kernel
theorem dX8_init_125 : decode cX8_init 125 = .ok (.dup, 1) := by decide +kernel
theorem dX8_init_126 : decode cX8_init 126 = .ok (.invokespecial 30, 3) := by decide +kernel
theorem dX8_init_129 : decode cX8_init 129 = .ok (.aastore, 1) := by decide +kernel
theorem dX8_init_130 : decode cX8_init 130 = .ok (.iinc 1 1, 3) := by decide +kernel
theorem dX8_init_133 : decode cX8_init 133 = .ok (.goto (-25), 3) := by decide +kernel
theorem dX8_init_136 : decode cX8_init 136 = .ok (.return_, 1) := by decide +kernel
theorem dX8_append_0 : decode cX8_append 0 = .ok (.aload_n 0, 1) := by decide +kernel
theorem dX8_append_1 : decode cX8_append 1 = .ok (.getfield 20, 3) := by decide +kernel
theorem dX8_append_4 : decode cX8_append 4 = .ok (.getfield 49, 3) := by decide +kernel
theorem dX8_append_7 : decode cX8_append 7 = .ok (.bipush 20, 2) := by decide +kernel
theorem dX8_append_9 : decode cX8_append 9 = .ok (.iadd, 1) := by decide +kernel
theorem dX8_append_10 : decode cX8_append 10 = .ok (.sipush 400, 3) := by decide +kernel
theorem dX8_append_13 : decode cX8_append 13 = .ok (.if_icmp .le 13, 3) := by decide +kernel
theorem dX8_append_16 : decode cX8_append 16 = .ok (.new 55, 3) := by decide +kernel
theorem dX8_append_19 : decode cX8_append 19 = .ok (.dup, 1) := by decide +kernel
theorem dX8_append_20 : decode cX8_append 20 = .ok (.ldc 57, 2) := by decide +kernel
theorem dX8_append_22 : decode cX8_append 22 = .ok (.invokespecial 59, 3) := by decide +kernel
theorem dX8_append_25 : decode cX8_append 25 = .ok (.athrow, 1) := by decide +kernel
theorem dX8_append_26 : decode cX8_append 26 = .ok (.aload_n 0, 1) := by decide +kernel
theorem dX8_append_27 : decode cX8_append 27 = .ok (.getfield 20, 3) := by decide +kernel
theorem dX8_append_30 : decode cX8_append 30 = .ok (.iload_n 1, 1) := by decide +kernel
theorem dX8_append_31 : decode cX8_append 31 = .ok (.invokevirtual 62, 3) := by decide +kernel
theorem dX8_append_34 : decode cX8_append 34 = .ok (.aload_n 0, 1) := by decide +kernel
theorem dX8_append_35 : decode cX8_append 35 = .ok (.getfield 20, 3) := by decide +kernel
theorem dX8_append_38 : decode cX8_append 38 = .ok (.iload_n 2, 1) := by decide +kernel
theorem dX8_append_39 : decode cX8_append 39 = .ok (.invokevirtual 62, 3) := by decide +kernel
theorem dX8_append_42 : decode cX8_append 42 = .ok (.aload_n 0, 1) := by decide +kernel
theorem dX8_append_43 : decode cX8_append 43 = .ok (.getfield 20, 3) := by decide +kernel
theorem dX8_append_46 : decode cX8_append 46 = .ok (.iload_n 3, 1) := by decide +kernel
theorem dX8_append_47 : decode cX8_append 47 = .ok (.invokevirtual 62, 3) := by decide +kernel
theorem dX8_append_50 : decode cX8_append 50 = .ok (.aload_n 0, 1) := by decide +kernel
theorem dX8_append_51 : decode cX8_append 51 = .ok (.getfield 20, 3) := by decide +kernel
theorem dX8_append_54 : decode cX8_append 54 = .ok (.iload 4, 2) := by decide +kernel
theorem dX8_append_56 : decode cX8_append 56 = .ok (.invokevirtual 62, 3) := by decide +kernel
theorem dX8_append_59 : decode cX8_append 59 = .ok (.aload_n 0, 1) := by decide +kernel
theorem dX8_append_60 : decode cX8_append 60 = .ok (.getfield 20, 3) := by decide +kernel
theorem dX8_append_63 : decode cX8_append 63 = .ok (.iload 5, 2) := by decide +kernel
theorem dX8_append_65 : decode cX8_append 65 = .ok (.invokevirtual 62, 3) := by decide +kernel
theorem dX8_append_68 : decode cX8_append 68 = .ok (.aload_n 0, 1) := by decide +kernel
theorem dX8_append_69 : decode cX8_append 69 = .ok (.getfield 20, 3) := by decide +kernel
theorem dX8_append_72 : decode cX8_append 72 = .ok (.getfield 49, 3) := by decide +kernel
theorem dX8_append_75 : decode cX8_append 75 = .ok (.ireturn, 1) := by decide +kernel
theorem dX8_truncate_0 : decode cX8_truncate 0 = .ok (.iload_n 1, 1) := by decide +kernel
theorem dX8_truncate_1 : decode cX8_truncate 1 = .ok (.ifCond .lt 14, 3) := by decide +kernel
theorem dX8_truncate_4 : decode cX8_truncate 4 = .ok (.iload_n 1, 1) := by decide +kernel
theorem dX8_truncate_5 : decode cX8_truncate 5 = .ok (.aload_n 0, 1) := by decide +kernel
theorem dX8_truncate_6 : decode cX8_truncate 6 = .ok (.getfield 20, 3) := by decide +kernel
theorem dX8_truncate_9 : decode cX8_truncate 9 = .ok (.getfield 49, 3) := by decide +kernel
theorem dX8_truncate_12 : decode cX8_truncate 12 = .ok (.if_icmp .le 13, 3) := by decide +kernel
theorem dX8_truncate_15 : decode cX8_truncate 15 = .ok (.new 66, 3) := by decide +kernel
theorem dX8_truncate_18 : decode cX8_truncate 18 = .ok (.dup, 1) := by decide +kernel
theorem dX8_truncate_19 : decode cX8_truncate 19 = .ok (.ldc 68, 2) := by decide +kernel
theorem dX8_truncate_21 : decode cX8_truncate 21 = .ok (.invokespecial 70, 3) := by decide +kernel
theorem dX8_truncate_24 : decode cX8_truncate 24 = .ok (.athrow, 1) := by decide +kernel
theorem dX8_truncate_25 : decode cX8_truncate 25 = .ok (.aload_n 0, 1) := by decide +kernel
theorem dX8_truncate_26 : decode cX8_truncate 26 = .ok (.getfield 20, 3) := by decide +kernel
theorem dX8_truncate_29 : decode cX8_truncate 29 = .ok (.iload_n 1, 1) := by decide +kernel
theorem dX8_truncate_30 : decode cX8_truncate 30 = .ok (.putfield 49, 3) := by decide +kernel
theorem dX8_truncate_33 : decode cX8_truncate 33 = .ok (.return_, 1) := by decide +kernel
theorem dX8_load_0 : decode cX8_load 0 = .ok (.aload_n 0, 1) := by decide +kernel
theorem dX8_load_1 : decode cX8_load 1 = .ok (.getfield 10, 3) := by decide +kernel
theorem dX8_load_4 : decode cX8_load 4 = .ok (.invokevirtual 71, 3) := by decide +kernel
theorem dX8_load_7 : decode cX8_load 7 = .ok (.istore_n 1, 1) := by decide +kernel
theorem dX8_load_8 : decode cX8_load 8 = .ok (.aload_n 0, 1) := by decide +kernel
theorem dX8_load_9 : decode cX8_load 9 = .ok (.getfield 20, 3) := by decide +kernel
theorem dX8_load_12 : decode cX8_load 12 = .ok (.iconst 0, 1) := by decide +kernel
theorem dX8_load_13 : decode cX8_load 13 = .ok (.putfield 49, 3) := by decide +kernel
theorem dX8_load_16 : decode cX8_load 16 = .ok (.iload_n 1, 1) := by decide +kernel
theorem dX8_load_17 : decode cX8_load 17 = .ok (.ifCond .ne 6, 3) := by decide +kernel
theorem dX8_load_20 : decode cX8_load 20 = .ok (.bipush (-4), 2) := by decide +kernel
theorem dX8_load_22 : decode cX8_load 22 = .ok (.ireturn, 1) := by decide +kernel
theorem dX8_load_23 : decode cX8_load 23 = .ok (.aload_n 0, 1) := by decide +kernel
theorem dX8_load_24 : decode cX8_load 24 = .ok (.invokevirtual 75, 3) := by decide +kernel
theorem dX8_load_27 : decode cX8_load 27 = .ok (.aload_n 0, 1) := by decide +kernel
theorem dX8_load_28 : decode cX8_load 28 = .ok (.getfield 31, 3) := by decide +kernel
theorem dX8_load_31 : decode cX8_load 31 = .ok (.aload_n 0, 1) := by decide +kernel
theorem dX8_load_32 : decode cX8_load 32 = .ok (.getfield 10, 3) := by decide +kernel
theorem dX8_load_35 : decode cX8_load 35 = .ok (.getfield 78, 3) := by decide +kernel
theorem dX8_load_38 : decode cX8_load 38 = .ok (.aload_n 0, 1) := by decide +kernel
theorem dX8_load_39 : decode cX8_load 39 = .ok (.getfield 10, 3) := by decide +kernel
theorem dX8_load_42 : decode cX8_load 42 = .ok (.getfield 82, 3) := by decide +kernel
theorem dX8_load_45 : decode cX8_load 45 = .ok (.invokevirtual 86, 3) := by decide +kernel
theorem dX8_load_48 : decode cX8_load 48 = .ok (.aload_n 0, 1) := by decide +kernel
theorem dX8_load_49 : decode cX8_load 49 = .ok (.getfield 10, 3) := by decide +kernel
theorem dX8_load_52 : decode cX8_load 52 = .ok (.getfield 90, 3) := by decide +kernel
theorem dX8_load_55 : decode cX8_load 55 = .ok (.iconst (-1), 1) := by decide +kernel
theorem dX8_load_56 : decode cX8_load 56 = .ok (.if_icmp .eq 32, 3) := by decide +kernel
theorem dX8_load_59 : decode cX8_load 59 = .ok (.aload_n 0, 1) := by decide +kernel
theorem dX8_load_60 : decode cX8_load 60 = .ok (.getfield 31, 3) := by decide +kernel
theorem dX8_load_63 : decode cX8_load 63 = .ok (.aload_n 0, 1) := by decide +kernel
theorem dX8_load_64 : decode cX8_load 64 = .ok (.getfield 10, 3) := by decide +kernel
theorem dX8_load_67 : decode cX8_load 67 = .ok (.getfield 90, 3) := by decide +kernel
theorem dX8_load_70 : decode cX8_load 70 = .ok (.invokevirtual 93, 3) := by decide +kernel
theorem dX8_load_73 : decode cX8_load 73 = .ok (.dup, 1) := by decide +kernel
theorem dX8_load_74 : decode cX8_load 74 = .ok (.getfield 97, 3) := by decide +kernel
theorem dX8_load_77 : decode cX8_load 77 = .ok (.aload_n 0, 1) := by decide +kernel
theorem dX8_load_78 : decode cX8_load 78 = .ok (.getfield 10, 3) := by decide +kernel
theorem dX8_load_81 : decode cX8_load 81 = .ok (.getfield 102, 3) := by decide +kernel
theorem dX8_load_84 : decode cX8_load 84 = .ok (.iadd, 1) := by decide +kernel
theorem dX8_load_85 : decode cX8_load 85 = .ok (.putfield 97, 3) := by decide +kernel
theorem dX8_load_88 : decode cX8_load 88 = .ok (.aload_n 0, 1) := by decide +kernel
theorem dX8_load_89 : decode cX8_load 89 = .ok (.getfield 31, 3) := by decide +kernel
theorem dX8_load_92 : decode cX8_load 92 = .ok (.getfield 105, 3) := by decide +kernel
theorem dX8_load_95 : decode cX8_load 95 = .ok (.getfield 106, 3) := by decide +kernel
theorem dX8_load_98 : decode cX8_load 98 = .ok (.ireturn, 1) := by decide +kernel
theorem dX8_errorCode_0 : decode cX8_errorCode 0 = .ok (.aload_n 0, 1) := by decide +kernel
theorem dX8_errorCode_1 : decode cX8_errorCode 1 = .ok (.getfield 10, 3) := by decide +kernel
theorem dX8_errorCode_4 : decode cX8_errorCode 4 = .ok (.getfield 111, 3) := by decide +kernel
theorem dX8_errorCode_7 : decode cX8_errorCode 7 = .ok (.ireturn, 1) := by decide +kernel
theorem dX8_errorPosition_0 : decode cX8_errorPosition 0 = .ok (.aload_n 0, 1) := by decide +kernel
theorem dX8_errorPosition_1 : decode cX8_errorPosition 1 = .ok (.getfield 10, 3) := by decide +kernel
theorem dX8_errorPosition_4 : decode cX8_errorPosition 4 = .ok (.getfield 114, 3) := by decide +kernel
theorem dX8_errorPosition_7 : decode cX8_errorPosition 7 = .ok (.ireturn, 1) := by decide +kernel
theorem dX8_property_0 : decode cX8_property 0 = .ok (.iload_n 1, 1) := by decide +kernel
theorem dX8_property_1 : decode cX8_property 1 = .ok (.tableswitch 193 0 11 #[63, 71, 79, 90, 101, 112, 123, 131, 139, 161, 169, 185], 63) := by decide +kernel
theorem dX8_property_64 : decode cX8_property 64 = .ok (.aload_n 0, 1) := by decide +kernel
theorem dX8_property_65 : decode cX8_property 65 = .ok (.getfield 31, 3) := by decide +kernel
theorem dX8_property_68 : decode cX8_property 68 = .ok (.getfield 117, 3) := by decide +kernel
theorem dX8_property_71 : decode cX8_property 71 = .ok (.ireturn, 1) := by decide +kernel
theorem dX8_property_72 : decode cX8_property 72 = .ok (.aload_n 0, 1) := by decide +kernel
theorem dX8_property_73 : decode cX8_property 73 = .ok (.getfield 31, 3) := by decide +kernel
theorem dX8_property_76 : decode cX8_property 76 = .ok (.getfield 120, 3) := by decide +kernel
theorem dX8_property_79 : decode cX8_property 79 = .ok (.ireturn, 1) := by decide +kernel
theorem dX8_property_80 : decode cX8_property 80 = .ok (.aload_n 0, 1) := by decide +kernel
theorem dX8_property_81 : decode cX8_property 81 = .ok (.getfield 31, 3) := by decide +kernel
theorem dX8_property_84 : decode cX8_property 84 = .ok (.getfield 105, 3) := by decide +kernel
theorem dX8_property_87 : decode cX8_property 87 = .ok (.getfield 106, 3) := by decide +kernel
theorem dX8_property_90 : decode cX8_property 90 = .ok (.ireturn, 1) := by decide +kernel
theorem dX8_property_91 : decode cX8_property 91 = .ok (.aload_n 0, 1) := by decide +kernel
theorem dX8_property_92 : decode cX8_property 92 = .ok (.getfield 31, 3) := by decide +kernel
theorem dX8_property_95 : decode cX8_property 95 = .ok (.getfield 105, 3) := by decide +kernel
theorem dX8_property_98 : decode cX8_property 98 = .ok (.getfield 123, 3) := by decide +kernel
theorem dX8_property_101 : decode cX8_property 101 = .ok (.ireturn, 1) := by decide +kernel
theorem dX8_property_102 : decode cX8_property 102 = .ok (.aload_n 0, 1) := by decide +kernel
theorem dX8_property_103 : decode cX8_property 103 = .ok (.getfield 31, 3) := by decide +kernel
theorem dX8_property_106 : decode cX8_property 106 = .ok (.getfield 105, 3) := by decide +kernel
theorem dX8_property_109 : decode cX8_property 109 = .ok (.getfield 126, 3) := by decide +kernel
theorem dX8_property_112 : decode cX8_property 112 = .ok (.ireturn, 1) := by decide +kernel
theorem dX8_property_113 : decode cX8_property 113 = .ok (.aload_n 0, 1) := by decide +kernel
theorem dX8_property_114 : decode cX8_property 114 = .ok (.getfield 31, 3) := by decide +kernel
theorem dX8_property_117 : decode cX8_property 117 = .ok (.getfield 105, 3) := by decide +kernel
theorem dX8_property_120 : decode cX8_property 120 = .ok (.getfield 129, 3) := by decide +kernel
theorem dX8_property_123 : decode cX8_property 123 = .ok (.ireturn, 1) := by decide +kernel
theorem dX8_property_124 : decode cX8_property 124 = .ok (.aload_n 0, 1) := by decide +kernel
theorem dX8_property_125 : decode cX8_property 125 = .ok (.getfield 31, 3) := by decide +kernel
theorem dX8_property_128 : decode cX8_property 128 = .ok (.getfield 132, 3) := by decide +kernel
theorem dX8_property_131 : decode cX8_property 131 = .ok (.ireturn, 1) := by decide +kernel
theorem dX8_property_132 : decode cX8_property 132 = .ok (.aload_n 0, 1) := by decide +kernel
theorem dX8_property_133 : decode cX8_property 133 = .ok (.getfield 31, 3) := by decide +kernel
theorem dX8_property_136 : decode cX8_property 136 = .ok (.getfield 135, 3) := by decide +kernel
theorem dX8_property_139 : decode cX8_property 139 = .ok (.ireturn, 1) := by decide +kernel
theorem dX8_property_140 : decode cX8_property 140 = .ok (.aload_n 0, 1) := by decide +kernel
theorem dX8_property_141 : decode cX8_property 141 = .ok (.getfield 31, 3) := by decide +kernel
theorem dX8_property_144 : decode cX8_property 144 = .ok (.getfield 138, 3) := by decide +kernel
theorem dX8_property_147 : decode cX8_property 147 = .ok (.getfield 142, 3) := by decide +kernel
theorem dX8_property_150 : decode cX8_property 150 = .ok (.aload_n 0, 1) := by decide +kernel
theorem dX8_property_151 : decode cX8_property 151 = .ok (.getfield 31, 3) := by decide +kernel
theorem dX8_property_154 : decode cX8_property 154 = .ok (.getfield 145, 3) := by decide +kernel
theorem dX8_property_157 : decode cX8_property 157 = .ok (.getfield 142, 3) := by decide +kernel
theorem dX8_property_160 : decode cX8_property 160 = .ok (.iadd, 1) := by decide +kernel
theorem dX8_property_161 : decode cX8_property 161 = .ok (.ireturn, 1) := by decide +kernel
theorem dX8_property_162 : decode cX8_property 162 = .ok (.aload_n 0, 1) := by decide +kernel
theorem dX8_property_163 : decode cX8_property 163 = .ok (.getfield 31, 3) := by decide +kernel
theorem dX8_property_166 : decode cX8_property 166 = .ok (.getfield 148, 3) := by decide +kernel
theorem dX8_property_169 : decode cX8_property 169 = .ok (.ireturn, 1) := by decide +kernel
theorem dX8_property_170 : decode cX8_property 170 = .ok (.aload_n 0, 1) := by decide +kernel
theorem dX8_property_171 : decode cX8_property 171 = .ok (.getfield 31, 3) := by decide +kernel
theorem dX8_property_174 : decode cX8_property 174 = .ok (.getfield 151, 3) := by decide +kernel
theorem dX8_property_177 : decode cX8_property 177 = .ok (.ifCond .eq 7, 3) := by decide +kernel
theorem dX8_property_180 : decode cX8_property 180 = .ok (.iconst 1, 1) := by decide +kernel
theorem dX8_property_181 : decode cX8_property 181 = .ok (.goto 4, 3) := by decide +kernel
theorem dX8_property_184 : decode cX8_property 184 = .ok (.iconst 0, 1) := by decide +kernel
theorem dX8_property_185 : decode cX8_property 185 = .ok (.ireturn, 1) := by decide +kernel
theorem dX8_property_186 : decode cX8_property 186 = .ok (.aload_n 0, 1) := by decide +kernel
theorem dX8_property_187 : decode cX8_property 187 = .ok (.getfield 31, 3) := by decide +kernel
theorem dX8_property_190 : decode cX8_property 190 = .ok (.getfield 152, 3) := by decide +kernel
theorem dX8_property_193 : decode cX8_property 193 = .ok (.ireturn, 1) := by decide +kernel
theorem dX8_property_194 : decode cX8_property 194 = .ok (.new 66, 3) := by decide +kernel
theorem dX8_property_197 : decode cX8_property 197 = .ok (.dup, 1) := by decide +kernel
theorem dX8_property_198 : decode cX8_property 198 = .ok (.ldc 155, 2) := by decide +kernel
theorem dX8_property_200 : decode cX8_property 200 = .ok (.invokespecial 70, 3) := by decide +kernel
theorem dX8_property_203 : decode cX8_property 203 = .ok (.athrow, 1) := by decide +kernel
theorem dX8_period_0 : decode cX8_period 0 = .ok (.aload_n 0, 1) := by decide +kernel
theorem dX8_period_1 : decode cX8_period 1 = .ok (.iload_n 1, 1) := by decide +kernel
theorem dX8_period_2 : decode cX8_period 2 = .ok (.invokevirtual 157, 3) := by decide +kernel
theorem dX8_period_5 : decode cX8_period 5 = .ok (.iload_n 2, 1) := by decide +kernel
theorem dX8_period_6 : decode cX8_period 6 = .ok (.ifCond .lt 8, 3) := by decide +kernel
theorem dX8_period_9 : decode cX8_period 9 = .ok (.iload_n 2, 1) := by decide +kernel
theorem dX8_period_10 : decode cX8_period 10 = .ok (.iconst 5, 1) := by decide +kernel
theorem dX8_period_11 : decode cX8_period 11 = .ok (.if_icmp .lt 13, 3) := by decide +kernel
theorem dX8_period_14 : decode cX8_period 14 = .ok (.new 66, 3) := by decide +kernel
theorem dX8_period_17 : decode cX8_period 17 = .ok (.dup, 1) := by decide +kernel
theorem dX8_period_18 : decode cX8_period 18 = .ok (.ldc 155, 2) := by decide +kernel
theorem dX8_period_20 : decode cX8_period 20 = .ok (.invokespecial 70, 3) := by decide +kernel
theorem dX8_period_23 : decode cX8_period 23 = .ok (.athrow, 1) := by decide +kernel
theorem dX8_period_24 : decode cX8_period 24 = .ok (.aload_n 0, 1) := by decide +kernel
theorem dX8_period_25 : decode cX8_period 25 = .ok (.getfield 31, 3) := by decide +kernel
theorem dX8_period_28 : decode cX8_period 28 = .ok (.getfield 105, 3) := by decide +kernel
theorem dX8_period_31 : decode cX8_period 31 = .ok (.iload_n 1, 1) := by decide +kernel
theorem dX8_period_32 : decode cX8_period 32 = .ok (.iload_n 2, 1) := by decide +kernel
theorem dX8_period_33 : decode cX8_period 33 = .ok (.invokevirtual 160, 3) := by decide +kernel
theorem dX8_period_36 : decode cX8_period 36 = .ok (.ireturn, 1) := by decide +kernel
theorem dX8_side_0 : decode cX8_side 0 = .ok (.aload_n 0, 1) := by decide +kernel
theorem dX8_side_1 : decode cX8_side 1 = .ok (.iload_n 1, 1) := by decide +kernel
theorem dX8_side_2 : decode cX8_side 2 = .ok (.invokevirtual 164, 3) := by decide +kernel
theorem dX8_side_5 : decode cX8_side 5 = .ok (.aload_n 0, 1) := by decide +kernel
theorem dX8_side_6 : decode cX8_side 6 = .ok (.getfield 31, 3) := by decide +kernel
theorem dX8_side_9 : decode cX8_side 9 = .ok (.iload_n 1, 1) := by decide +kernel
theorem dX8_side_10 : decode cX8_side 10 = .ok (.invokevirtual 93, 3) := by decide +kernel
theorem dX8_side_13 : decode cX8_side 13 = .ok (.astore_n 3, 1) := by decide +kernel
theorem dX8_side_14 : decode cX8_side 14 = .ok (.iload_n 2, 1) := by decide +kernel
theorem dX8_side_15 : decode cX8_side 15 = .ok (.tableswitch 152 0 11 #[61, 66, 71, 76, 81, 86, 99, 104, 109, 122, 135, 140], 61) := by decide +kernel
theorem dX8_side_76 : decode cX8_side 76 = .ok (.aload_n 3, 1) := by decide +kernel
theorem dX8_side_77 : decode cX8_side 77 = .ok (.getfield 97, 3) := by decide +kernel
theorem dX8_side_80 : decode cX8_side 80 = .ok (.ireturn, 1) := by decide +kernel
theorem dX8_side_81 : decode cX8_side 81 = .ok (.aload_n 3, 1) := by decide +kernel
theorem dX8_side_82 : decode cX8_side 82 = .ok (.getfield 142, 3) := by decide +kernel
theorem dX8_side_85 : decode cX8_side 85 = .ok (.ireturn, 1) := by decide +kernel
theorem dX8_side_86 : decode cX8_side 86 = .ok (.aload_n 3, 1) := by decide +kernel
theorem dX8_side_87 : decode cX8_side 87 = .ok (.getfield 167, 3) := by decide +kernel
theorem dX8_side_90 : decode cX8_side 90 = .ok (.ireturn, 1) := by decide +kernel
theorem dX8_side_91 : decode cX8_side 91 = .ok (.aload_n 3, 1) := by decide +kernel
theorem dX8_side_92 : decode cX8_side 92 = .ok (.getfield 170, 3) := by decide +kernel
theorem dX8_side_95 : decode cX8_side 95 = .ok (.ireturn, 1) := by decide +kernel
theorem dX8_side_96 : decode cX8_side 96 = .ok (.aload_n 3, 1) := by decide +kernel
theorem dX8_side_97 : decode cX8_side 97 = .ok (.getfield 173, 3) := by decide +kernel
theorem dX8_side_100 : decode cX8_side 100 = .ok (.ireturn, 1) := by decide +kernel
theorem dX8_side_101 : decode cX8_side 101 = .ok (.aload_n 3, 1) := by decide +kernel
theorem dX8_side_102 : decode cX8_side 102 = .ok (.getfield 174, 3) := by decide +kernel
theorem dX8_side_105 : decode cX8_side 105 = .ok (.ifCond .eq 7, 3) := by decide +kernel
theorem dX8_side_108 : decode cX8_side 108 = .ok (.iconst 1, 1) := by decide +kernel
theorem dX8_side_109 : decode cX8_side 109 = .ok (.goto 4, 3) := by decide +kernel
theorem dX8_side_112 : decode cX8_side 112 = .ok (.iconst 0, 1) := by decide +kernel
theorem dX8_side_113 : decode cX8_side 113 = .ok (.ireturn, 1) := by decide +kernel
theorem dX8_side_114 : decode cX8_side 114 = .ok (.aload_n 3, 1) := by decide +kernel
theorem dX8_side_115 : decode cX8_side 115 = .ok (.getfield 177, 3) := by decide +kernel
theorem dX8_side_118 : decode cX8_side 118 = .ok (.ireturn, 1) := by decide +kernel
theorem dX8_side_119 : decode cX8_side 119 = .ok (.aload_n 3, 1) := by decide +kernel
theorem dX8_side_120 : decode cX8_side 120 = .ok (.getfield 180, 3) := by decide +kernel
theorem dX8_side_123 : decode cX8_side 123 = .ok (.ireturn, 1) := by decide +kernel
theorem dX8_side_124 : decode cX8_side 124 = .ok (.aload_n 3, 1) := by decide +kernel
theorem dX8_side_125 : decode cX8_side 125 = .ok (.getfield 183, 3) := by decide +kernel
theorem dX8_side_128 : decode cX8_side 128 = .ok (.ifCond .eq 7, 3) := by decide +kernel
theorem dX8_side_131 : decode cX8_side 131 = .ok (.iconst 1, 1) := by decide +kernel
theorem dX8_side_132 : decode cX8_side 132 = .ok (.goto 4, 3) := by decide +kernel
theorem dX8_side_135 : decode cX8_side 135 = .ok (.iconst 0, 1) := by decide +kernel
theorem dX8_side_136 : decode cX8_side 136 = .ok (.ireturn, 1) := by decide +kernel
theorem dX8_side_137 : decode cX8_side 137 = .ok (.aload_n 3, 1) := by decide +kernel
theorem dX8_side_138 : decode cX8_side 138 = .ok (.getfield 186, 3) := by decide +kernel
theorem dX8_side_141 : decode cX8_side 141 = .ok (.ifCond .eq 7, 3) := by decide +kernel
theorem dX8_side_144 : decode cX8_side 144 = .ok (.iconst 1, 1) := by decide +kernel
theorem dX8_side_145 : decode cX8_side 145 = .ok (.goto 4, 3) := by decide +kernel
theorem dX8_side_148 : decode cX8_side 148 = .ok (.iconst 0, 1) := by decide +kernel
theorem dX8_side_149 : decode cX8_side 149 = .ok (.ireturn, 1) := by decide +kernel
theorem dX8_side_150 : decode cX8_side 150 = .ok (.aload_n 3, 1) := by decide +kernel
theorem dX8_side_151 : decode cX8_side 151 = .ok (.getfield 189, 3) := by decide +kernel
theorem dX8_side_154 : decode cX8_side 154 = .ok (.ireturn, 1) := by decide +kernel
theorem dX8_side_155 : decode cX8_side 155 = .ok (.aload_n 3, 1) := by decide +kernel
theorem dX8_side_156 : decode cX8_side 156 = .ok (.aload_n 0, 1) := by decide +kernel
theorem dX8_side_157 : decode cX8_side 157 = .ok (.getfield 31, 3) := by decide +kernel
theorem dX8_side_160 : decode cX8_side 160 = .ok (.getfield 105, 3) := by decide +kernel
theorem dX8_side_163 : decode cX8_side 163 = .ok (.invokevirtual 192, 3) := by decide +kernel
theorem dX8_side_166 : decode cX8_side 166 = .ok (.ireturn, 1) := by decide +kernel
theorem dX8_side_167 : decode cX8_side 167 = .ok (.new 66, 3) := by decide +kernel
theorem dX8_side_170 : decode cX8_side 170 = .ok (.dup, 1) := by decide +kernel
theorem dX8_side_171 : decode cX8_side 171 = .ok (.ldc 155, 2) := by decide +kernel
theorem dX8_side_173 : decode cX8_side 173 = .ok (.invokespecial 70, 3) := by decide +kernel
theorem dX8_side_176 : decode cX8_side 176 = .ok (.athrow, 1) := by decide +kernel
theorem dX8_logged_0 : decode cX8_logged 0 = .ok (.iload_n 1, 1) := by decide +kernel
theorem dX8_logged_1 : decode cX8_logged 1 = .ok (.ifCond .lt 17, 3) := by decide +kernel
theorem dX8_logged_4 : decode cX8_logged 4 = .ok (.iload_n 1, 1) := by decide +kernel
theorem dX8_logged_5 : decode cX8_logged 5 = .ok (.aload_n 0, 1) := by decide +kernel
theorem dX8_logged_6 : decode cX8_logged 6 = .ok (.getfield 31, 3) := by decide +kernel
theorem dX8_logged_9 : decode cX8_logged 9 = .ok (.getfield 196, 3) := by decide +kernel
theorem dX8_logged_12 : decode cX8_logged 12 = .ok (.getfield 200, 3) := by decide +kernel
theorem dX8_logged_15 : decode cX8_logged 15 = .ok (.if_icmp .lt 13, 3) := by decide +kernel
theorem dX8_logged_18 : decode cX8_logged 18 = .ok (.new 205, 3) := by decide +kernel
theorem dX8_logged_21 : decode cX8_logged 21 = .ok (.dup, 1) := by decide +kernel
theorem dX8_logged_22 : decode cX8_logged 22 = .ok (.ldc 207, 2) := by decide +kernel
theorem dX8_logged_24 : decode cX8_logged 24 = .ok (.invokespecial 209, 3) := by decide +kernel
theorem dX8_logged_27 : decode cX8_logged 27 = .ok (.athrow, 1) := by decide +kernel
theorem dX8_logged_28 : decode cX8_logged 28 = .ok (.iload_n 2, 1) := by decide +kernel
theorem dX8_logged_29 : decode cX8_logged 29 = .ok (.ifCond .lt 9, 3) := by decide +kernel
theorem dX8_logged_32 : decode cX8_logged 32 = .ok (.iload_n 2, 1) := by decide +kernel
theorem dX8_logged_33 : decode cX8_logged 33 = .ok (.bipush 6, 2) := by decide +kernel
theorem dX8_logged_35 : decode cX8_logged 35 = .ok (.if_icmp .lt 13, 3) := by decide +kernel
theorem dX8_logged_38 : decode cX8_logged 38 = .ok (.new 66, 3) := by decide +kernel
theorem dX8_logged_41 : decode cX8_logged 41 = .ok (.dup, 1) := by decide +kernel
theorem dX8_logged_42 : decode cX8_logged 42 = .ok (.ldc 155, 2) := by decide +kernel
theorem dX8_logged_44 : decode cX8_logged 44 = .ok (.invokespecial 70, 3) := by decide +kernel
theorem dX8_logged_47 : decode cX8_logged 47 = .ok (.athrow, 1) := by decide +kernel
theorem dX8_logged_48 : decode cX8_logged 48 = .ok (.aload_n 0, 1) := by decide +kernel
theorem dX8_logged_49 : decode cX8_logged 49 = .ok (.getfield 31, 3) := by decide +kernel
theorem dX8_logged_52 : decode cX8_logged 52 = .ok (.getfield 196, 3) := by decide +kernel
theorem dX8_logged_55 : decode cX8_logged 55 = .ok (.iload_n 1, 1) := by decide +kernel
theorem dX8_logged_56 : decode cX8_logged 56 = .ok (.iload_n 2, 1) := by decide +kernel
theorem dX8_logged_57 : decode cX8_logged 57 = .ok (.invokevirtual 210, 3) := by decide +kernel
theorem dX8_logged_60 : decode cX8_logged 60 = .ok (.ireturn, 1) := by decide +kernel
theorem dX8_flagIn_0 : decode cX8_flagIn 0 = .ok (.aload_n 0, 1) := by decide +kernel
theorem dX8_flagIn_1 : decode cX8_flagIn 1 = .ok (.iload_n 1, 1) := by decide +kernel
theorem dX8_flagIn_2 : decode cX8_flagIn 2 = .ok (.invokevirtual 164, 3) := by decide +kernel
theorem dX8_flagIn_5 : decode cX8_flagIn 5 = .ok (.aload_n 0, 1) := by decide +kernel
theorem dX8_flagIn_6 : decode cX8_flagIn 6 = .ok (.getfield 31, 3) := by decide +kernel
theorem dX8_flagIn_9 : decode cX8_flagIn 9 = .ok (.iload_n 1, 1) := by decide +kernel
theorem dX8_flagIn_10 : decode cX8_flagIn 10 = .ok (.invokevirtual 93, 3) := by decide +kernel
theorem dX8_flagIn_13 : decode cX8_flagIn 13 = .ok (.aload_n 0, 1) := by decide +kernel
theorem dX8_flagIn_14 : decode cX8_flagIn 14 = .ok (.getfield 31, 3) := by decide +kernel
theorem dX8_flagIn_17 : decode cX8_flagIn 17 = .ok (.getfield 105, 3) := by decide +kernel
theorem dX8_flagIn_20 : decode cX8_flagIn 20 = .ok (.invokevirtual 211, 3) := by decide +kernel
theorem dX8_flagIn_23 : decode cX8_flagIn 23 = .ok (.ireturn, 1) := by decide +kernel
theorem dX8_delayLeft_0 : decode cX8_delayLeft 0 = .ok (.aload_n 0, 1) := by decide +kernel
theorem dX8_delayLeft_1 : decode cX8_delayLeft 1 = .ok (.iload_n 1, 1) := by decide +kernel
theorem dX8_delayLeft_2 : decode cX8_delayLeft 2 = .ok (.invokevirtual 164, 3) := by decide +kernel
theorem dX8_delayLeft_5 : decode cX8_delayLeft 5 = .ok (.aload_n 0, 1) := by decide +kernel
theorem dX8_delayLeft_6 : decode cX8_delayLeft 6 = .ok (.getfield 31, 3) := by decide +kernel
theorem dX8_delayLeft_9 : decode cX8_delayLeft 9 = .ok (.iload_n 1, 1) := by decide +kernel
theorem dX8_delayLeft_10 : decode cX8_delayLeft 10 = .ok (.invokevirtual 93, 3) := by decide +kernel
theorem dX8_delayLeft_13 : decode cX8_delayLeft 13 = .ok (.aload_n 0, 1) := by decide +kernel
theorem dX8_delayLeft_14 : decode cX8_delayLeft 14 = .ok (.getfield 31, 3) := by decide +kernel
theorem dX8_delayLeft_17 : decode cX8_delayLeft 17 = .ok (.getfield 105, 3) := by decide +kernel
theorem dX8_delayLeft_20 : decode cX8_delayLeft 20 = .ok (.invokevirtual 214, 3) := by decide +kernel
theorem dX8_delayLeft_23 : decode cX8_delayLeft 23 = .ok (.ireturn, 1) := by decide +kernel
theorem dX8_shown_0 : decode cX8_shown 0 = .ok (.aload_n 0, 1) := by decide +kernel
theorem dX8_shown_1 : decode cX8_shown 1 = .ok (.iload_n 1, 1) := by decide +kernel
theorem dX8_shown_2 : decode cX8_shown 2 = .ok (.invokevirtual 164, 3) := by decide +kernel
theorem dX8_shown_5 : decode cX8_shown 5 = .ok (.aload_n 0, 1) := by decide +kernel
theorem dX8_shown_6 : decode cX8_shown 6 = .ok (.getfield 31, 3) := by decide +kernel
theorem dX8_shown_9 : decode cX8_shown 9 = .ok (.iload_n 1, 1) := by decide +kernel
theorem dX8_shown_10 : decode cX8_shown 10 = .ok (.invokevirtual 93, 3) := by decide +kernel
theorem dX8_shown_13 : decode cX8_shown 13 = .ok (.invokevirtual 217, 3) := by decide +kernel
theorem dX8_shown_16 : decode cX8_shown 16 = .ok (.istore_n 2, 1) := by decide +kernel
theorem dX8_shown_17 : decode cX8_shown 17 = .ok (.sipush 10000, 3) := by decide +kernel
theorem dX8_shown_20 : decode cX8_shown 20 = .ok (.iload_n 2, 1) := by decide +kernel
theorem dX8_shown_21 : decode cX8_shown 21 = .ok (.sipush 3600, 3) := by decide +kernel
theorem dX8_shown_24 : decode cX8_shown 24 = .ok (.idiv, 1) := by decide +kernel
theorem dX8_shown_25 : decode cX8_shown 25 = .ok (.imul, 1) := by decide +kernel
theorem dX8_shown_26 : decode cX8_shown 26 = .ok (.bipush 100, 2) := by decide +kernel
