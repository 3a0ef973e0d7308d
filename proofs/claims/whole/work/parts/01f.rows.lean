theorem dX9_scan_187 : decode cX9_scan 187 = .ok (.invokestatic 99, 3) := by decide +kernel
theorem dX9_scan_190 : decode cX9_scan 190 = .ok (.putfield 196, 3) := by decide +kernel
theorem dX9_scan_193 : decode cX9_scan 193 = .ok (.aload_n 0, 1) := by decide +kernel
theorem dX9_scan_194 : decode cX9_scan 194 = .ok (.dup, 1) := by decide +kernel
theorem dX9_scan_195 : decode cX9_scan 195 = .ok (.getfield 179, 3) := by decide +kernel
theorem dX9_scan_198 : decode cX9_scan 198 = .ok (.iconst 1, 1) := by decide +kernel
theorem dX9_scan_199 : decode cX9_scan 199 = .ok (.iadd, 1) := by decide +kernel
theorem dX9_scan_200 : decode cX9_scan 200 = .ok (.putfield 179, 3) := by decide +kernel
theorem dX9_scan_203 : decode cX9_scan 203 = .ok (.goto (-59), 3) := by decide +kernel
theorem dX9_scan_206 : decode cX9_scan 206 = .ok (.aload_n 0, 1) := by decide +kernel
theorem dX9_scan_207 : decode cX9_scan 207 = .ok (.iconst 2, 1) := by decide +kernel
theorem dX9_scan_208 : decode cX9_scan 208 = .ok (.putfield 185, 3) := by decide +kernel
theorem dX9_scan_211 : decode cX9_scan 211 = .ok (.goto 23, 3) := by decide +kernel
theorem dX9_scan_214 : decode cX9_scan 214 = .ok (.aload_n 0, 1) := by decide +kernel
theorem dX9_scan_215 : decode cX9_scan 215 = .ok (.iconst 3, 1) := by decide +kernel
theorem dX9_scan_216 : decode cX9_scan 216 = .ok (.putfield 185, 3) := by decide +kernel
theorem dX9_scan_219 : decode cX9_scan 219 = .ok (.aload_n 0, 1) := by decide +kernel
theorem dX9_scan_220 : decode cX9_scan 220 = .ok (.iload_n 1, 1) := by decide +kernel
theorem dX9_scan_221 : decode cX9_scan 221 = .ok (.putfield 196, 3) := by decide +kernel
theorem dX9_scan_224 : decode cX9_scan 224 = .ok (.aload_n 0, 1) := by decide +kernel
theorem dX9_scan_225 : decode cX9_scan 225 = .ok (.dup, 1) := by decide +kernel
theorem dX9_scan_226 : decode cX9_scan 226 = .ok (.getfield 179, 3) := by decide +kernel
theorem dX9_scan_229 : decode cX9_scan 229 = .ok (.iconst 1, 1) := by decide +kernel
theorem dX9_scan_230 : decode cX9_scan 230 = .ok (.iadd, 1) := by decide +kernel
theorem dX9_scan_231 : decode cX9_scan 231 = .ok (.putfield 179, 3) := by decide +kernel
theorem dX9_scan_234 : decode cX9_scan 234 = .ok (.return_, 1) := by decide +kernel
theorem dX9_goOn_0 : decode cX9_goOn 0 = .ok (.aload_n 0, 1) := by decide +kernel
theorem dX9_goOn_1 : decode cX9_goOn 1 = .ok (.invokevirtual 169, 3) := by decide +kernel
theorem dX9_goOn_4 : decode cX9_goOn 4 = .ok (.ifCond .eq 7, 3) := by decide +kernel
theorem dX9_goOn_7 : decode cX9_goOn 7 = .ok (.aload_n 0, 1) := by decide +kernel
theorem dX9_goOn_8 : decode cX9_goOn 8 = .ok (.invokevirtual 200, 3) := by decide +kernel
theorem dX9_goOn_11 : decode cX9_goOn 11 = .ok (.return_, 1) := by decide +kernel
theorem dX9_isWord_0 : decode cX9_isWord 0 = .ok (.aload_n 0, 1) := by decide +kernel
theorem dX9_isWord_1 : decode cX9_isWord 1 = .ok (.invokevirtual 169, 3) := by decide +kernel
theorem dX9_isWord_4 : decode cX9_isWord 4 = .ok (.ifCond .eq 31, 3) := by decide +kernel
theorem dX9_isWord_7 : decode cX9_isWord 7 = .ok (.aload_n 0, 1) := by decide +kernel
theorem dX9_isWord_8 : decode cX9_isWord 8 = .ok (.getfield 185, 3) := by decide +kernel
theorem dX9_isWord_11 : decode cX9_isWord 11 = .ok (.iconst 1, 1) := by decide +kernel
theorem dX9_isWord_12 : decode cX9_isWord 12 = .ok (.if_icmp .ne 23, 3) := by decide +kernel
theorem dX9_isWord_15 : decode cX9_isWord 15 = .ok (.aload_n 0, 1) := by decide +kernel
theorem dX9_isWord_16 : decode cX9_isWord 16 = .ok (.getfield 179, 3) := by decide +kernel
theorem dX9_isWord_19 : decode cX9_isWord 19 = .ok (.aload_n 0, 1) := by decide +kernel
theorem dX9_isWord_20 : decode cX9_isWord 20 = .ok (.getfield 173, 3) := by decide +kernel
theorem dX9_isWord_23 : decode cX9_isWord 23 = .ok (.isub, 1) := by decide +kernel
theorem dX9_isWord_24 : decode cX9_isWord 24 = .ok (.aload_n 1, 1) := by decide +kernel
theorem dX9_isWord_25 : decode cX9_isWord 25 = .ok (.invokevirtual 203, 3) := by decide +kernel
theorem dX9_isWord_28 : decode cX9_isWord 28 = .ok (.if_icmp .ne 7, 3) := by decide +kernel
theorem dX9_isWord_31 : decode cX9_isWord 31 = .ok (.iconst 1, 1) := by decide +kernel
theorem dX9_isWord_32 : decode cX9_isWord 32 = .ok (.goto 4, 3) := by decide +kernel
theorem dX9_isWord_35 : decode cX9_isWord 35 = .ok (.iconst 0, 1) := by decide +kernel
theorem dX9_isWord_36 : decode cX9_isWord 36 = .ok (.istore_n 2, 1) := by decide +kernel
theorem dX9_isWord_37 : decode cX9_isWord 37 = .ok (.iconst 0, 1) := by decide +kernel
theorem dX9_isWord_38 : decode cX9_isWord 38 = .ok (.istore_n 3, 1) := by decide +kernel
theorem dX9_isWord_39 : decode cX9_isWord 39 = .ok (.iload_n 3, 1) := by decide +kernel
theorem dX9_isWord_40 : decode cX9_isWord 40 = .ok (.aload_n 1, 1) := by decide +kernel
theorem dX9_isWord_41 : decode cX9_isWord 41 = .ok (.invokevirtual 203, 3) := by decide +kernel
theorem dX9_isWord_44 : decode cX9_isWord 44 = .ok (.if_icmp .ge 38, 3) := by decide +kernel
theorem dX9_isWord_47 : decode cX9_isWord 47 = .ok (.iload_n 2, 1) := by decide +kernel
theorem dX9_isWord_48 : decode cX9_isWord 48 = .ok (.ifCond .eq 34, 3) := by decide +kernel
theorem dX9_isWord_51 : decode cX9_isWord 51 = .ok (.aload_n 0, 1) := by decide +kernel
theorem dX9_isWord_52 : decode cX9_isWord 52 = .ok (.getfield 30, 3) := by decide +kernel
theorem dX9_isWord_55 : decode cX9_isWord 55 = .ok (.aload_n 0, 1) := by decide +kernel
theorem dX9_isWord_56 : decode cX9_isWord 56 = .ok (.getfield 173, 3) := by decide +kernel
theorem dX9_isWord_59 : decode cX9_isWord 59 = .ok (.iload_n 3, 1) := by decide +kernel
theorem dX9_isWord_60 : decode cX9_isWord 60 = .ok (.iadd, 1) := by decide +kernel
theorem dX9_isWord_61 : decode cX9_isWord 61 = .ok (.baload, 1) := by decide +kernel
theorem dX9_isWord_62 : decode cX9_isWord 62 = .ok (.aload_n 1, 1) := by decide +kernel
theorem dX9_isWord_63 : decode cX9_isWord 63 = .ok (.iload_n 3, 1) := by decide +kernel
theorem dX9_isWord_64 : decode cX9_isWord 64 = .ok (.invokevirtual 208, 3) := by decide +kernel
theorem dX9_isWord_67 : decode cX9_isWord 67 = .ok (.if_icmp .ne 7, 3) := by decide +kernel
theorem dX9_isWord_70 : decode cX9_isWord 70 = .ok (.iconst 1, 1) := by decide +kernel
theorem dX9_isWord_71 : decode cX9_isWord 71 = .ok (.goto 4, 3) := by decide +kernel
theorem dX9_isWord_74 : decode cX9_isWord 74 = .ok (.iconst 0, 1) := by decide +kernel
theorem dX9_isWord_75 : decode cX9_isWord 75 = .ok (.istore_n 2, 1) := by decide +kernel
theorem dX9_isWord_76 : decode cX9_isWord 76 = .ok (.iinc 3 1, 3) := by decide +kernel
theorem dX9_isWord_79 : decode cX9_isWord 79 = .ok (.goto (-40), 3) := by decide +kernel
theorem dX9_isWord_82 : decode cX9_isWord 82 = .ok (.iload_n 2, 1) := by decide +kernel
theorem dX9_isWord_83 : decode cX9_isWord 83 = .ok (.ireturn, 1) := by decide +kernel
theorem dX9_numberHere_0 : decode cX9_numberHere 0 = .ok (.aload_n 0, 1) := by decide +kernel
theorem dX9_numberHere_1 : decode cX9_numberHere 1 = .ok (.invokevirtual 169, 3) := by decide +kernel
theorem dX9_numberHere_4 : decode cX9_numberHere 4 = .ok (.ifCond .eq 16, 3) := by decide +kernel
theorem dX9_numberHere_7 : decode cX9_numberHere 7 = .ok (.aload_n 0, 1) := by decide +kernel
theorem dX9_numberHere_8 : decode cX9_numberHere 8 = .ok (.getfield 185, 3) := by decide +kernel
theorem dX9_numberHere_11 : decode cX9_numberHere 11 = .ok (.iconst 2, 1) := by decide +kernel
theorem dX9_numberHere_12 : decode cX9_numberHere 12 = .ok (.if_icmp .eq 8, 3) := by decide +kernel
theorem dX9_numberHere_15 : decode cX9_numberHere 15 = .ok (.aload_n 0, 1) := by decide +kernel
theorem dX9_numberHere_16 : decode cX9_numberHere 16 = .ok (.iconst 1, 1) := by decide +kernel
theorem dX9_numberHere_17 : decode cX9_numberHere 17 = .ok (.invokevirtual 212, 3) := by decide +kernel
theorem dX9_numberHere_20 : decode cX9_numberHere 20 = .ok (.aload_n 0, 1) := by decide +kernel
theorem dX9_numberHere_21 : decode cX9_numberHere 21 = .ok (.invokevirtual 169, 3) := by decide +kernel
theorem dX9_numberHere_24 : decode cX9_numberHere 24 = .ok (.ifCond .eq 23, 3) := by decide +kernel
theorem dX9_numberHere_27 : decode cX9_numberHere 27 = .ok (.aload_n 0, 1) := by decide +kernel
theorem dX9_numberHere_28 : decode cX9_numberHere 28 = .ok (.getfield 196, 3) := by decide +kernel
theorem dX9_numberHere_31 : decode cX9_numberHere 31 = .ok (.i2l, 1) := by decide +kernel
theorem dX9_numberHere_32 : decode cX9_numberHere 32 = .ok (.iload_n 1, 1) := by decide +kernel
theorem dX9_numberHere_33 : decode cX9_numberHere 33 = .ok (.i2l, 1) := by decide +kernel
theorem dX9_numberHere_34 : decode cX9_numberHere 34 = .ok (.iload_n 2, 1) := by decide +kernel
theorem dX9_numberHere_35 : decode cX9_numberHere 35 = .ok (.i2l, 1) := by decide +kernel
theorem dX9_numberHere_36 : decode cX9_numberHere 36 = .ok (.invokestatic 64, 3) := by decide +kernel
theorem dX9_numberHere_39 : decode cX9_numberHere 39 = .ok (.ifCond .ne 8, 3) := by decide +kernel
theorem dX9_numberHere_42 : decode cX9_numberHere 42 = .ok (.aload_n 0, 1) := by decide +kernel
theorem dX9_numberHere_43 : decode cX9_numberHere 43 = .ok (.iconst 2, 1) := by decide +kernel
theorem dX9_numberHere_44 : decode cX9_numberHere 44 = .ok (.invokevirtual 212, 3) := by decide +kernel
theorem dX9_numberHere_47 : decode cX9_numberHere 47 = .ok (.aload_n 0, 1) := by decide +kernel
theorem dX9_numberHere_48 : decode cX9_numberHere 48 = .ok (.invokevirtual 169, 3) := by decide +kernel
theorem dX9_numberHere_51 : decode cX9_numberHere 51 = .ok (.ifCond .eq 10, 3) := by decide +kernel
theorem dX9_numberHere_54 : decode cX9_numberHere 54 = .ok (.aload_n 0, 1) := by decide +kernel
theorem dX9_numberHere_55 : decode cX9_numberHere 55 = .ok (.getfield 196, 3) := by decide +kernel
theorem dX9_numberHere_58 : decode cX9_numberHere 58 = .ok (.goto 4, 3) := by decide +kernel
theorem dX9_numberHere_61 : decode cX9_numberHere 61 = .ok (.iload_n 1, 1) := by decide +kernel
theorem dX9_numberHere_62 : decode cX9_numberHere 62 = .ok (.ireturn, 1) := by decide +kernel
theorem dX9_number_0 : decode cX9_number 0 = .ok (.aload_n 0, 1) := by decide +kernel
theorem dX9_number_1 : decode cX9_number 1 = .ok (.iload_n 1, 1) := by decide +kernel
theorem dX9_number_2 : decode cX9_number 2 = .ok (.iload_n 2, 1) := by decide +kernel
theorem dX9_number_3 : decode cX9_number 3 = .ok (.invokevirtual 215, 3) := by decide +kernel
theorem dX9_number_6 : decode cX9_number 6 = .ok (.istore_n 3, 1) := by decide +kernel
theorem dX9_number_7 : decode cX9_number 7 = .ok (.aload_n 0, 1) := by decide +kernel
theorem dX9_number_8 : decode cX9_number 8 = .ok (.invokevirtual 218, 3) := by decide +kernel
theorem dX9_number_11 : decode cX9_number 11 = .ok (.iload_n 3, 1) := by decide +kernel
theorem dX9_number_12 : decode cX9_number 12 = .ok (.ireturn, 1) := by decide +kernel
theorem dX9_takeWord_0 : decode cX9_takeWord 0 = .ok (.aload_n 0, 1) := by decide +kernel
theorem dX9_takeWord_1 : decode cX9_takeWord 1 = .ok (.aload_n 1, 1) := by decide +kernel
theorem dX9_takeWord_2 : decode cX9_takeWord 2 = .ok (.invokevirtual 221, 3) := by decide +kernel
theorem dX9_takeWord_5 : decode cX9_takeWord 5 = .ok (.ifCond .ne 8, 3) := by decide +kernel
theorem dX9_takeWord_8 : decode cX9_takeWord 8 = .ok (.aload_n 0, 1) := by decide +kernel
theorem dX9_takeWord_9 : decode cX9_takeWord 9 = .ok (.iconst 1, 1) := by decide +kernel
theorem dX9_takeWord_10 : decode cX9_takeWord 10 = .ok (.invokevirtual 212, 3) := by decide +kernel
theorem dX9_takeWord_13 : decode cX9_takeWord 13 = .ok (.aload_n 0, 1) := by decide +kernel
theorem dX9_takeWord_14 : decode cX9_takeWord 14 = .ok (.invokevirtual 218, 3) := by decide +kernel
theorem dX9_takeWord_17 : decode cX9_takeWord 17 = .ok (.return_, 1) := by decide +kernel
theorem dX9_semicolon_0 : decode cX9_semicolon 0 = .ok (.aload_n 0, 1) := by decide +kernel
theorem dX9_semicolon_1 : decode cX9_semicolon 1 = .ok (.invokevirtual 169, 3) := by decide +kernel
theorem dX9_semicolon_4 : decode cX9_semicolon 4 = .ok (.ifCond .eq 20, 3) := by decide +kernel
theorem dX9_semicolon_7 : decode cX9_semicolon 7 = .ok (.aload_n 0, 1) := by decide +kernel
theorem dX9_semicolon_8 : decode cX9_semicolon 8 = .ok (.getfield 185, 3) := by decide +kernel
theorem dX9_semicolon_11 : decode cX9_semicolon 11 = .ok (.iconst 3, 1) := by decide +kernel
theorem dX9_semicolon_12 : decode cX9_semicolon 12 = .ok (.if_icmp .ne 12, 3) := by decide +kernel
theorem dX9_semicolon_15 : decode cX9_semicolon 15 = .ok (.aload_n 0, 1) := by decide +kernel
theorem dX9_semicolon_16 : decode cX9_semicolon 16 = .ok (.getfield 196, 3) := by decide +kernel
theorem dX9_semicolon_19 : decode cX9_semicolon 19 = .ok (.bipush 59, 2) := by decide +kernel
theorem dX9_semicolon_21 : decode cX9_semicolon 21 = .ok (.if_icmp .eq 8, 3) := by decide +kernel
theorem dX9_semicolon_24 : decode cX9_semicolon 24 = .ok (.aload_n 0, 1) := by decide +kernel
theorem dX9_semicolon_25 : decode cX9_semicolon 25 = .ok (.iconst 1, 1) := by decide +kernel
theorem dX9_semicolon_26 : decode cX9_semicolon 26 = .ok (.invokevirtual 212, 3) := by decide +kernel
theorem dX9_semicolon_29 : decode cX9_semicolon 29 = .ok (.aload_n 0, 1) := by decide +kernel
theorem dX9_semicolon_30 : decode cX9_semicolon 30 = .ok (.invokevirtual 218, 3) := by decide +kernel
theorem dX9_semicolon_33 : decode cX9_semicolon 33 = .ok (.return_, 1) := by decide +kernel
theorem dX9_errsIf_0 : decode cX9_errsIf 0 = .ok (.aload_n 0, 1) := by decide +kernel
theorem dX9_errsIf_1 : decode cX9_errsIf 1 = .ok (.invokevirtual 169, 3) := by decide +kernel
theorem dX9_errsIf_4 : decode cX9_errsIf 4 = .ok (.ifCond .eq 12, 3) := by decide +kernel
theorem dX9_errsIf_7 : decode cX9_errsIf 7 = .ok (.iload_n 1, 1) := by decide +kernel
theorem dX9_errsIf_8 : decode cX9_errsIf 8 = .ok (.ifCond .eq 8, 3) := by decide +kernel
theorem dX9_errsIf_11 : decode cX9_errsIf 11 = .ok (.aload_n 0, 1) := by decide +kernel
theorem dX9_errsIf_12 : decode cX9_errsIf 12 = .ok (.iload_n 2, 1) := by decide +kernel
theorem dX9_errsIf_13 : decode cX9_errsIf 13 = .ok (.invokevirtual 212, 3) := by decide +kernel
theorem dX9_errsIf_16 : decode cX9_errsIf 16 = .ok (.return_, 1) := by decide +kernel
theorem dX9_numberAfter_0 : decode cX9_numberAfter 0 = .ok (.aload_n 0, 1) := by decide +kernel
theorem dX9_numberAfter_1 : decode cX9_numberAfter 1 = .ok (.aload_n 1, 1) := by decide +kernel
theorem dX9_numberAfter_2 : decode cX9_numberAfter 2 = .ok (.invokevirtual 225, 3) := by decide +kernel
theorem dX9_numberAfter_5 : decode cX9_numberAfter 5 = .ok (.aload_n 0, 1) := by decide +kernel
theorem dX9_numberAfter_6 : decode cX9_numberAfter 6 = .ok (.iload_n 2, 1) := by decide +kernel
theorem dX9_numberAfter_7 : decode cX9_numberAfter 7 = .ok (.iload_n 3, 1) := by decide +kernel
theorem dX9_numberAfter_8 : decode cX9_numberAfter 8 = .ok (.invokevirtual 229, 3) := by decide +kernel
theorem dX9_numberAfter_11 : decode cX9_numberAfter 11 = .ok (.ireturn, 1) := by decide +kernel
theorem dX9_numberIf_0 : decode cX9_numberIf 0 = .ok (.aload_n 0, 1) := by decide +kernel
theorem dX9_numberIf_1 : decode cX9_numberIf 1 = .ok (.aload_n 1, 1) := by decide +kernel
theorem dX9_numberIf_2 : decode cX9_numberIf 2 = .ok (.invokevirtual 221, 3) := by decide +kernel
theorem dX9_numberIf_5 : decode cX9_numberIf 5 = .ok (.ifCond .eq 15, 3) := by decide +kernel
theorem dX9_numberIf_8 : decode cX9_numberIf 8 = .ok (.aload_n 0, 1) := by decide +kernel
theorem dX9_numberIf_9 : decode cX9_numberIf 9 = .ok (.aload_n 1, 1) := by decide +kernel
theorem dX9_numberIf_10 : decode cX9_numberIf 10 = .ok (.iconst 0, 1) := by decide +kernel
theorem dX9_numberIf_11 : decode cX9_numberIf 11 = .ok (.sipush 999, 3) := by decide +kernel
theorem dX9_numberIf_14 : decode cX9_numberIf 14 = .ok (.invokevirtual 232, 3) := by decide +kernel
theorem dX9_numberIf_17 : decode cX9_numberIf 17 = .ok (.goto 4, 3) := by decide +kernel
theorem dX9_numberIf_20 : decode cX9_numberIf 20 = .ok (.iconst 0, 1) := by decide +kernel
theorem dX9_numberIf_21 : decode cX9_numberIf 21 = .ok (.ireturn, 1) := by decide +kernel
theorem dX9_parsePeriod_0 : decode cX9_parsePeriod 0 = .ok (.aload_n 0, 1) := by decide +kernel
theorem dX9_parsePeriod_1 : decode cX9_parsePeriod 1 = .ok (.getfield 24, 3) := by decide +kernel
theorem dX9_parsePeriod_4 : decode cX9_parsePeriod 4 = .ok (.iconst 2, 1) := by decide +kernel
theorem dX9_parsePeriod_5 : decode cX9_parsePeriod 5 = .ok (.iaload, 1) := by decide +kernel
theorem dX9_parsePeriod_6 : decode cX9_parsePeriod 6 = .ok (.istore_n 1, 1) := by decide +kernel
theorem dX9_parsePeriod_7 : decode cX9_parsePeriod 7 = .ok (.aload_n 0, 1) := by decide +kernel
theorem dX9_parsePeriod_8 : decode cX9_parsePeriod 8 = .ok (.iload_n 1, 1) := by decide +kernel
theorem dX9_parsePeriod_9 : decode cX9_parsePeriod 9 = .ok (.iconst 5, 1) := by decide +kernel
theorem dX9_parsePeriod_10 : decode cX9_parsePeriod 10 = .ok (.if_icmp .ne 7, 3) := by decide +kernel
theorem dX9_parsePeriod_13 : decode cX9_parsePeriod 13 = .ok (.iconst 1, 1) := by decide +kernel
theorem dX9_parsePeriod_14 : decode cX9_parsePeriod 14 = .ok (.goto 4, 3) := by decide +kernel
theorem dX9_parsePeriod_17 : decode cX9_parsePeriod 17 = .ok (.iconst 0, 1) := by decide +kernel
theorem dX9_parsePeriod_18 : decode cX9_parsePeriod 18 = .ok (.iconst 3, 1) := by decide +kernel
theorem dX9_parsePeriod_19 : decode cX9_parsePeriod 19 = .ok (.invokevirtual 236, 3) := by decide +kernel
theorem dX9_parsePeriod_22 : decode cX9_parsePeriod 22 = .ok (.aload_n 0, 1) := by decide +kernel
theorem dX9_parsePeriod_23 : decode cX9_parsePeriod 23 = .ok (.iload_n 1, 1) := by decide +kernel
theorem dX9_parsePeriod_24 : decode cX9_parsePeriod 24 = .ok (.ifCond .le 22, 3) := by decide +kernel
theorem dX9_parsePeriod_27 : decode cX9_parsePeriod 27 = .ok (.aload_n 0, 1) := by decide +kernel
theorem dX9_parsePeriod_28 : decode cX9_parsePeriod 28 = .ok (.iconst 0, 1) := by decide +kernel
theorem dX9_parsePeriod_29 : decode cX9_parsePeriod 29 = .ok (.iload_n 1, 1) := by decide +kernel
theorem dX9_parsePeriod_30 : decode cX9_parsePeriod 30 = .ok (.iconst 1, 1) := by decide +kernel
theorem dX9_parsePeriod_31 : decode cX9_parsePeriod 31 = .ok (.isub, 1) := by decide +kernel
theorem dX9_parsePeriod_32 : decode cX9_parsePeriod 32 = .ok (.invokestatic 114, 3) := by decide +kernel
theorem dX9_parsePeriod_35 : decode cX9_parsePeriod 35 = .ok (.iconst 0, 1) := by decide +kernel
theorem dX9_parsePeriod_36 : decode cX9_parsePeriod 36 = .ok (.invokevirtual 61, 3) := by decide +kernel
theorem dX9_parsePeriod_39 : decode cX9_parsePeriod 39 = .ok (.ifCond .ne 7, 3) := by decide +kernel
theorem dX9_parsePeriod_42 : decode cX9_parsePeriod 42 = .ok (.iconst 1, 1) := by decide +kernel
theorem dX9_parsePeriod_43 : decode cX9_parsePeriod 43 = .ok (.goto 4, 3) := by decide +kernel
theorem dX9_parsePeriod_46 : decode cX9_parsePeriod 46 = .ok (.iconst 0, 1) := by decide +kernel
theorem dX9_parsePeriod_47 : decode cX9_parsePeriod 47 = .ok (.iconst 4, 1) := by decide +kernel
theorem dX9_parsePeriod_48 : decode cX9_parsePeriod 48 = .ok (.invokevirtual 236, 3) := by decide +kernel
theorem dX9_parsePeriod_51 : decode cX9_parsePeriod 51 = .ok (.aload_n 0, 1) := by decide +kernel
theorem dX9_parsePeriod_52 : decode cX9_parsePeriod 52 = .ok (.invokevirtual 218, 3) := by decide +kernel
theorem dX9_parsePeriod_55 : decode cX9_parsePeriod 55 = .ok (.aload_n 0, 1) := by decide +kernel
theorem dX9_parsePeriod_56 : decode cX9_parsePeriod 56 = .ok (.ldc 240, 2) := by decide +kernel
theorem dX9_parsePeriod_58 : decode cX9_parsePeriod 58 = .ok (.iconst 0, 1) := by decide +kernel
theorem dX9_parsePeriod_59 : decode cX9_parsePeriod 59 = .ok (.bipush 60, 2) := by decide +kernel
theorem dX9_parsePeriod_61 : decode cX9_parsePeriod 61 = .ok (.invokevirtual 232, 3) := by decide +kernel
theorem dX9_parsePeriod_64 : decode cX9_parsePeriod 64 = .ok (.istore_n 2, 1) := by decide +kernel
theorem dX9_parsePeriod_65 : decode cX9_parsePeriod 65 = .ok (.aload_n 0, 1) := by decide +kernel
theorem dX9_parsePeriod_66 : decode cX9_parsePeriod 66 = .ok (.ldc 242, 2) := by decide +kernel
theorem dX9_parsePeriod_68 : decode cX9_parsePeriod 68 = .ok (.iconst 1, 1) := by decide +kernel
theorem dX9_parsePeriod_69 : decode cX9_parsePeriod 69 = .ok (.ldc 244, 2) := by decide +kernel
theorem dX9_parsePeriod_71 : decode cX9_parsePeriod 71 = .ok (.invokevirtual 232, 3) := by decide +kernel
theorem dX9_parsePeriod_74 : decode cX9_parsePeriod 74 = .ok (.istore_n 3, 1) := by decide +kernel
theorem dX9_parsePeriod_75 : decode cX9_parsePeriod 75 = .ok (.aload_n 0, 1) := by decide +kernel
theorem dX9_parsePeriod_76 : decode cX9_parsePeriod 76 = .ok (.ldc 245, 2) := by decide +kernel
theorem dX9_parsePeriod_78 : decode cX9_parsePeriod 78 = .ok (.invokevirtual 247, 3) := by decide +kernel
theorem dX9_parsePeriod_81 : decode cX9_parsePeriod 81 = .ok (.istore 4, 2) := by decide +kernel
theorem dX9_parsePeriod_83 : decode cX9_parsePeriod 83 = .ok (.aload_n 0, 1) := by decide +kernel
theorem dX9_parsePeriod_84 : decode cX9_parsePeriod 84 = .ok (.ldc 251, 2) := by decide +kernel
theorem dX9_parsePeriod_86 : decode cX9_parsePeriod 86 = .ok (.invokevirtual 247, 3) := by decide +kernel
theorem dX9_parsePeriod_89 : decode cX9_parsePeriod 89 = .ok (.istore 5, 2) := by decide +kernel
theorem dX9_parsePeriod_91 : decode cX9_parsePeriod 91 = .ok (.aload_n 0, 1) := by decide +kernel
theorem dX9_parsePeriod_92 : decode cX9_parsePeriod 92 = .ok (.ldc 253, 2) := by decide +kernel
theorem dX9_parsePeriod_94 : decode cX9_parsePeriod 94 = .ok (.invokevirtual 247, 3) := by decide +kernel
theorem dX9_parsePeriod_97 : decode cX9_parsePeriod 97 = .ok (.istore 6, 2) := by decide +kernel
theorem dX9_parsePeriod_99 : decode cX9_parsePeriod 99 = .ok (.aload_n 0, 1) := by decide +kernel
theorem dX9_parsePeriod_100 : decode cX9_parsePeriod 100 = .ok (.invokevirtual 255, 3) := by decide +kernel
theorem dX9_parsePeriod_103 : decode cX9_parsePeriod 103 = .ok (.aload_n 0, 1) := by decide +kernel
theorem dX9_parsePeriod_104 : decode cX9_parsePeriod 104 = .ok (.invokevirtual 169, 3) := by decide +kernel
theorem dX9_parsePeriod_107 : decode cX9_parsePeriod 107 = .ok (.ifCond .ne 4, 3) := by decide +kernel
theorem dX9_parsePeriod_110 : decode cX9_parsePeriod 110 = .ok (.return_, 1) := by decide +kernel
theorem dX9_parsePeriod_111 : decode cX9_parsePeriod 111 = .ok (.bipush 12, 2) := by decide +kernel
theorem dX9_parsePeriod_113 : decode cX9_parsePeriod 113 = .ok (.iconst 5, 1) := by decide +kernel
theorem dX9_parsePeriod_114 : decode cX9_parsePeriod 114 = .ok (.iload_n 1, 1) := by decide +kernel
theorem dX9_parsePeriod_115 : decode cX9_parsePeriod 115 = .ok (.imul, 1) := by decide +kernel
theorem dX9_parsePeriod_116 : decode cX9_parsePeriod 116 = .ok (.iadd, 1) := by decide +kernel
theorem dX9_parsePeriod_117 : decode cX9_parsePeriod 117 = .ok (.istore 7, 2) := by decide +kernel
theorem dX9_parsePeriod_119 : decode cX9_parsePeriod 119 = .ok (.aload_n 0, 1) := by decide +kernel
theorem dX9_parsePeriod_120 : decode cX9_parsePeriod 120 = .ok (.getfield 24, 3) := by decide +kernel
theorem dX9_parsePeriod_123 : decode cX9_parsePeriod 123 = .ok (.iconst 2, 1) := by decide +kernel
theorem dX9_parsePeriod_124 : decode cX9_parsePeriod 124 = .ok (.dup2, 1) := by decide +kernel
theorem dX9_parsePeriod_125 : decode cX9_parsePeriod 125 = .ok (.iaload, 1) := by decide +kernel
theorem dX9_parsePeriod_126 : decode cX9_parsePeriod 126 = .ok (.iconst 1, 1) := by decide +kernel
theorem dX9_parsePeriod_127 : decode cX9_parsePeriod 127 = .ok (.iadd, 1) := by decide +kernel
theorem dX9_parsePeriod_128 : decode cX9_parsePeriod 128 = .ok (.iastore, 1) := by decide +kernel
theorem dX9_parsePeriod_129 : decode cX9_parsePeriod 129 = .ok (.aload_n 0, 1) := by decide +kernel
theorem dX9_parsePeriod_130 : decode cX9_parsePeriod 130 = .ok (.getfield 24, 3) := by decide +kernel
theorem dX9_parsePeriod_133 : decode cX9_parsePeriod 133 = .ok (.iload 7, 2) := by decide +kernel
theorem dX9_parsePeriod_135 : decode cX9_parsePeriod 135 = .ok (.iconst 0, 1) := by decide +kernel
theorem dX9_parsePeriod_136 : decode cX9_parsePeriod 136 = .ok (.iadd, 1) := by decide +kernel
theorem dX9_parsePeriod_137 : decode cX9_parsePeriod 137 = .ok (.iload_n 2, 1) := by decide +kernel
theorem dX9_parsePeriod_138 : decode cX9_parsePeriod 138 = .ok (.iastore, 1) := by decide +kernel
theorem dX9_parsePeriod_139 : decode cX9_parsePeriod 139 = .ok (.aload_n 0, 1) := by decide +kernel
theorem dX9_parsePeriod_140 : decode cX9_parsePeriod 140 = .ok (.getfield 24, 3) := by decide +kernel
theorem dX9_parsePeriod_143 : decode cX9_parsePeriod 143 = .ok (.iload 7, 2) := by decide +kernel
theorem dX9_parsePeriod_145 : decode cX9_parsePeriod 145 = .ok (.iconst 1, 1) := by decide +kernel
theorem dX9_parsePeriod_146 : decode cX9_parsePeriod 146 = .ok (.iadd, 1) := by decide +kernel
theorem dX9_parsePeriod_147 : decode cX9_parsePeriod 147 = .ok (.iload_n 3, 1) := by decide +kernel
theorem dX9_parsePeriod_148 : decode cX9_parsePeriod 148 = .ok (.iastore, 1) := by decide +kernel
theorem dX9_parsePeriod_149 : decode cX9_parsePeriod 149 = .ok (.aload_n 0, 1) := by decide +kernel
theorem dX9_parsePeriod_150 : decode cX9_parsePeriod 150 = .ok (.getfield 24, 3) := by decide +kernel
theorem dX9_parsePeriod_153 : decode cX9_parsePeriod 153 = .ok (.iload 7, 2) := by decide +kernel
theorem dX9_parsePeriod_155 : decode cX9_parsePeriod 155 = .ok (.iconst 2, 1) := by decide +kernel
theorem dX9_parsePeriod_156 : decode cX9_parsePeriod 156 = .ok (.iadd, 1) := by decide +kernel
theorem dX9_parsePeriod_157 : decode cX9_parsePeriod 157 = .ok (.iload 4, 2) := by decide +kernel
theorem dX9_parsePeriod_159 : decode cX9_parsePeriod 159 = .ok (.iastore, 1) := by decide +kernel
theorem dX9_parsePeriod_160 : decode cX9_parsePeriod 160 = .ok (.aload_n 0, 1) := by decide +kernel
theorem dX9_parsePeriod_161 : decode cX9_parsePeriod 161 = .ok (.getfield 24, 3) := by decide +kernel
theorem dX9_parsePeriod_164 : decode cX9_parsePeriod 164 = .ok (.iload 7, 2) := by decide +kernel
theorem dX9_parsePeriod_166 : decode cX9_parsePeriod 166 = .ok (.iconst 3, 1) := by decide +kernel
theorem dX9_parsePeriod_167 : decode cX9_parsePeriod 167 = .ok (.iadd, 1) := by decide +kernel
theorem dX9_parsePeriod_168 : decode cX9_parsePeriod 168 = .ok (.iload 5, 2) := by decide +kernel
theorem dX9_parsePeriod_170 : decode cX9_parsePeriod 170 = .ok (.iastore, 1) := by decide +kernel
theorem dX9_parsePeriod_171 : decode cX9_parsePeriod 171 = .ok (.aload_n 0, 1) := by decide +kernel
theorem dX9_parsePeriod_172 : decode cX9_parsePeriod 172 = .ok (.getfield 24, 3) := by decide +kernel
theorem dX9_parsePeriod_175 : decode cX9_parsePeriod 175 = .ok (.iload 7, 2) := by decide +kernel
theorem dX9_parsePeriod_177 : decode cX9_parsePeriod 177 = .ok (.iconst 4, 1) := by decide +kernel
theorem dX9_parsePeriod_178 : decode cX9_parsePeriod 178 = .ok (.iadd, 1) := by decide +kernel
theorem dX9_parsePeriod_179 : decode cX9_parsePeriod 179 = .ok (.iload 6, 2) := by decide +kernel
theorem dX9_parsePeriod_181 : decode cX9_parsePeriod 181 = .ok (.iastore, 1) := by decide +kernel
theorem dX9_parsePeriod_182 : decode cX9_parsePeriod 182 = .ok (.return_, 1) := by decide +kernel
theorem dX9_parseExtra_0 : decode cX9_parseExtra 0 = .ok (.aload_n 0, 1) := by decide +kernel
theorem dX9_parseExtra_1 : decode cX9_parseExtra 1 = .ok (.aload_n 0, 1) := by decide +kernel
theorem dX9_parseExtra_2 : decode cX9_parseExtra 2 = .ok (.getfield 258, 3) := by decide +kernel
theorem dX9_parseExtra_5 : decode cX9_parseExtra 5 = .ok (.iconst 3, 1) := by decide +kernel
theorem dX9_parseExtra_6 : decode cX9_parseExtra 6 = .ok (.invokevirtual 236, 3) := by decide +kernel
theorem dX9_parseExtra_9 : decode cX9_parseExtra 9 = .ok (.aload_n 0, 1) := by decide +kernel
theorem dX9_parseExtra_10 : decode cX9_parseExtra 10 = .ok (.iconst 1, 1) := by decide +kernel
theorem dX9_parseExtra_11 : decode cX9_parseExtra 11 = .ok (.putfield 258, 3) := by decide +kernel
theorem dX9_parseExtra_14 : decode cX9_parseExtra 14 = .ok (.aload_n 0, 1) := by decide +kernel
theorem dX9_parseExtra_15 : decode cX9_parseExtra 15 = .ok (.invokevirtual 218, 3) := by decide +kernel
theorem dX9_parseExtra_18 : decode cX9_parseExtra 18 = .ok (.aload_n 0, 1) := by decide +kernel
theorem dX9_parseExtra_19 : decode cX9_parseExtra 19 = .ok (.getfield 24, 3) := by decide +kernel
theorem dX9_parseExtra_22 : decode cX9_parseExtra 22 = .ok (.iconst 3, 1) := by decide +kernel
theorem dX9_parseExtra_23 : decode cX9_parseExtra 23 = .ok (.aload_n 0, 1) := by decide +kernel
theorem dX9_parseExtra_24 : decode cX9_parseExtra 24 = .ok (.iconst 1, 1) := by decide +kernel
theorem dX9_parseExtra_25 : decode cX9_parseExtra 25 = .ok (.bipush 9, 2) := by decide +kernel
theorem dX9_parseExtra_27 : decode cX9_parseExtra 27 = .ok (.invokevirtual 229, 3) := by decide +kernel
theorem dX9_parseExtra_30 : decode cX9_parseExtra 30 = .ok (.iastore, 1) := by decide +kernel
theorem dX9_parseExtra_31 : decode cX9_parseExtra 31 = .ok (.aload_n 0, 1) := by decide +kernel
theorem dX9_parseExtra_32 : decode cX9_parseExtra 32 = .ok (.getfield 24, 3) := by decide +kernel
theorem dX9_parseExtra_35 : decode cX9_parseExtra 35 = .ok (.iconst 4, 1) := by decide +kernel
theorem dX9_parseExtra_36 : decode cX9_parseExtra 36 = .ok (.aload_n 0, 1) := by decide +kernel
theorem dX9_parseExtra_37 : decode cX9_parseExtra 37 = .ok (.ldc 242, 2) := by decide +kernel
theorem dX9_parseExtra_39 : decode cX9_parseExtra 39 = .ok (.iconst 1, 1) := by decide +kernel
theorem dX9_parseExtra_40 : decode cX9_parseExtra 40 = .ok (.sipush 9999, 3) := by decide +kernel
theorem dX9_parseExtra_43 : decode cX9_parseExtra 43 = .ok (.invokevirtual 232, 3) := by decide +kernel
theorem dX9_parseExtra_46 : decode cX9_parseExtra 46 = .ok (.iastore, 1) := by decide +kernel
theorem dX9_parseExtra_47 : decode cX9_parseExtra 47 = .ok (.aload_n 0, 1) := by decide +kernel
theorem dX9_parseExtra_48 : decode cX9_parseExtra 48 = .ok (.invokevirtual 255, 3) := by decide +kernel
theorem dX9_parseExtra_51 : decode cX9_parseExtra 51 = .ok (.return_, 1) := by decide +kernel
theorem dX9_parseSession_0 : decode cX9_parseSession 0 = .ok (.aload_n 0, 1) := by decide +kernel
theorem dX9_parseSession_1 : decode cX9_parseSession 1 = .ok (.aload_n 0, 1) := by decide +kernel
theorem dX9_parseSession_2 : decode cX9_parseSession 2 = .ok (.getfield 24, 3) := by decide +kernel
theorem dX9_parseSession_5 : decode cX9_parseSession 5 = .ok (.iconst 5, 1) := by decide +kernel
theorem dX9_parseSession_6 : decode cX9_parseSession 6 = .ok (.iaload, 1) := by decide +kernel
theorem dX9_parseSession_7 : decode cX9_parseSession 7 = .ok (.iconst (-1), 1) := by decide +kernel
theorem dX9_parseSession_8 : decode cX9_parseSession 8 = .ok (.if_icmp .eq 7, 3) := by decide +kernel
theorem dX9_parseSession_11 : decode cX9_parseSession 11 = .ok (.iconst 1, 1) := by decide +kernel
theorem dX9_parseSession_12 : decode cX9_parseSession 12 = .ok (.goto 4, 3) := by decide +kernel
theorem dX9_parseSession_15 : decode cX9_parseSession 15 = .ok (.iconst 0, 1) := by decide +kernel
theorem dX9_parseSession_16 : decode cX9_parseSession 16 = .ok (.iconst 3, 1) := by decide +kernel
theorem dX9_parseSession_17 : decode cX9_parseSession 17 = .ok (.invokevirtual 236, 3) := by decide +kernel
theorem dX9_parseSession_20 : decode cX9_parseSession 20 = .ok (.aload_n 0, 1) := by decide +kernel
theorem dX9_parseSession_21 : decode cX9_parseSession 21 = .ok (.invokevirtual 218, 3) := by decide +kernel
theorem dX9_parseSession_24 : decode cX9_parseSession 24 = .ok (.aload_n 0, 1) := by decide +kernel
theorem dX9_parseSession_25 : decode cX9_parseSession 25 = .ok (.getfield 24, 3) := by decide +kernel
theorem dX9_parseSession_28 : decode cX9_parseSession 28 = .ok (.iconst 5, 1) := by decide +kernel
theorem dX9_parseSession_29 : decode cX9_parseSession 29 = .ok (.aload_n 0, 1) := by decide +kernel
theorem dX9_parseSession_30 : decode cX9_parseSession 30 = .ok (.iconst 1, 1) := by decide +kernel
theorem dX9_parseSession_31 : decode cX9_parseSession 31 = .ok (.ldc 244, 2) := by decide +kernel
theorem dX9_parseSession_33 : decode cX9_parseSession 33 = .ok (.invokevirtual 229, 3) := by decide +kernel
theorem dX9_parseSession_36 : decode cX9_parseSession 36 = .ok (.iastore, 1) := by decide +kernel
theorem dX9_parseSession_37 : decode cX9_parseSession 37 = .ok (.aload_n 0, 1) := by decide +kernel
theorem dX9_parseSession_38 : decode cX9_parseSession 38 = .ok (.invokevirtual 255, 3) := by decide +kernel
theorem dX9_parseSession_41 : decode cX9_parseSession 41 = .ok (.return_, 1) := by decide +kernel
theorem dX9_parseHand_0 : decode cX9_parseHand 0 = .ok (.aload_n 0, 1) := by decide +kernel
theorem dX9_parseHand_1 : decode cX9_parseHand 1 = .ok (.aload_n 0, 1) := by decide +kernel
theorem dX9_parseHand_2 : decode cX9_parseHand 2 = .ok (.getfield 261, 3) := by decide +kernel
theorem dX9_parseHand_5 : decode cX9_parseHand 5 = .ok (.iconst 3, 1) := by decide +kernel
theorem dX9_parseHand_6 : decode cX9_parseHand 6 = .ok (.invokevirtual 236, 3) := by decide +kernel
theorem dX9_parseHand_9 : decode cX9_parseHand 9 = .ok (.aload_n 0, 1) := by decide +kernel
theorem dX9_parseHand_10 : decode cX9_parseHand 10 = .ok (.iconst 1, 1) := by decide +kernel
theorem dX9_parseHand_11 : decode cX9_parseHand 11 = .ok (.putfield 261, 3) := by decide +kernel
theorem dX9_parseHand_14 : decode cX9_parseHand 14 = .ok (.aload_n 0, 1) := by decide +kernel
theorem dX9_parseHand_15 : decode cX9_parseHand 15 = .ok (.invokevirtual 218, 3) := by decide +kernel
theorem dX9_parseHand_18 : decode cX9_parseHand 18 = .ok (.aload_n 0, 1) := by decide +kernel
theorem dX9_parseHand_19 : decode cX9_parseHand 19 = .ok (.aload_n 0, 1) := by decide +kernel
theorem dX9_parseHand_20 : decode cX9_parseHand 20 = .ok (.ldc_w 264, 3) := by decide +kernel
theorem dX9_parseHand_23 : decode cX9_parseHand 23 = .ok (.invokevirtual 221, 3) := by decide +kernel
theorem dX9_parseHand_26 : decode cX9_parseHand 26 = .ok (.ifCond .eq 7, 3) := by decide +kernel
theorem dX9_parseHand_29 : decode cX9_parseHand 29 = .ok (.iconst 1, 1) := by decide +kernel
theorem dX9_parseHand_30 : decode cX9_parseHand 30 = .ok (.goto 4, 3) := by decide +kernel
theorem dX9_parseHand_33 : decode cX9_parseHand 33 = .ok (.iconst 0, 1) := by decide +kernel
theorem dX9_parseHand_34 : decode cX9_parseHand 34 = .ok (.putfield 266, 3) := by decide +kernel
theorem dX9_parseHand_37 : decode cX9_parseHand 37 = .ok (.aload_n 0, 1) := by decide +kernel
theorem dX9_parseHand_38 : decode cX9_parseHand 38 = .ok (.aload_n 0, 1) := by decide +kernel
theorem dX9_parseHand_39 : decode cX9_parseHand 39 = .ok (.ldc_w 264, 3) := by decide +kernel
theorem dX9_parseHand_42 : decode cX9_parseHand 42 = .ok (.invokevirtual 221, 3) := by decide +kernel
theorem dX9_parseHand_45 : decode cX9_parseHand 45 = .ok (.ifCond .ne 17, 3) := by decide +kernel
theorem dX9_parseHand_48 : decode cX9_parseHand 48 = .ok (.aload_n 0, 1) := by decide +kernel
theorem dX9_parseHand_49 : decode cX9_parseHand 49 = .ok (.ldc_w 269, 3) := by decide +kernel
theorem dX9_parseHand_52 : decode cX9_parseHand 52 = .ok (.invokevirtual 221, 3) := by decide +kernel
theorem dX9_parseHand_55 : decode cX9_parseHand 55 = .ok (.ifCond .ne 7, 3) := by decide +kernel
theorem dX9_parseHand_58 : decode cX9_parseHand 58 = .ok (.iconst 1, 1) := by decide +kernel
theorem dX9_parseHand_59 : decode cX9_parseHand 59 = .ok (.goto 4, 3) := by decide +kernel
theorem dX9_parseHand_62 : decode cX9_parseHand 62 = .ok (.iconst 0, 1) := by decide +kernel
theorem dX9_parseHand_63 : decode cX9_parseHand 63 = .ok (.iconst 1, 1) := by decide +kernel
theorem dX9_parseHand_64 : decode cX9_parseHand 64 = .ok (.invokevirtual 236, 3) := by decide +kernel
theorem dX9_parseHand_67 : decode cX9_parseHand 67 = .ok (.aload_n 0, 1) := by decide +kernel
theorem dX9_parseHand_68 : decode cX9_parseHand 68 = .ok (.invokevirtual 218, 3) := by decide +kernel
theorem dX9_parseHand_71 : decode cX9_parseHand 71 = .ok (.aload_n 0, 1) := by decide +kernel
theorem dX9_parseHand_72 : decode cX9_parseHand 72 = .ok (.aload_n 0, 1) := by decide +kernel
theorem dX9_parseHand_73 : decode cX9_parseHand 73 = .ok (.iconst 1, 1) := by decide +kernel
theorem dX9_parseHand_74 : decode cX9_parseHand 74 = .ok (.sipush 9999, 3) := by decide +kernel
theorem dX9_parseHand_77 : decode cX9_parseHand 77 = .ok (.invokevirtual 229, 3) := by decide +kernel
theorem dX9_parseHand_80 : decode cX9_parseHand 80 = .ok (.putfield 271, 3) := by decide +kernel
theorem dX9_parseHand_83 : decode cX9_parseHand 83 = .ok (.aload_n 0, 1) := by decide +kernel
theorem dX9_parseHand_84 : decode cX9_parseHand 84 = .ok (.invokevirtual 255, 3) := by decide +kernel
theorem dX9_parseHand_87 : decode cX9_parseHand 87 = .ok (.return_, 1) := by decide +kernel
theorem dX9_parseClaims_0 : decode cX9_parseClaims 0 = .ok (.aload_n 0, 1) := by decide +kernel
theorem dX9_parseClaims_1 : decode cX9_parseClaims 1 = .ok (.aload_n 0, 1) := by decide +kernel
theorem dX9_parseClaims_2 : decode cX9_parseClaims 2 = .ok (.getfield 24, 3) := by decide +kernel
theorem dX9_parseClaims_5 : decode cX9_parseClaims 5 = .ok (.bipush 10, 2) := by decide +kernel
theorem dX9_parseClaims_7 : decode cX9_parseClaims 7 = .ok (.iaload, 1) := by decide +kernel
theorem dX9_parseClaims_8 : decode cX9_parseClaims 8 = .ok (.iconst 1, 1) := by decide +kernel
theorem dX9_parseClaims_9 : decode cX9_parseClaims 9 = .ok (.if_icmp .ne 7, 3) := by decide +kernel
theorem dX9_parseClaims_12 : decode cX9_parseClaims 12 = .ok (.iconst 1, 1) := by decide +kernel
theorem dX9_parseClaims_13 : decode cX9_parseClaims 13 = .ok (.goto 4, 3) := by decide +kernel
theorem dX9_parseClaims_16 : decode cX9_parseClaims 16 = .ok (.iconst 0, 1) := by decide +kernel
theorem dX9_parseClaims_17 : decode cX9_parseClaims 17 = .ok (.iconst 3, 1) := by decide +kernel
theorem dX9_parseClaims_18 : decode cX9_parseClaims 18 = .ok (.invokevirtual 236, 3) := by decide +kernel
theorem dX9_parseClaims_21 : decode cX9_parseClaims 21 = .ok (.aload_n 0, 1) := by decide +kernel
theorem dX9_parseClaims_22 : decode cX9_parseClaims 22 = .ok (.getfield 24, 3) := by decide +kernel
theorem dX9_parseClaims_25 : decode cX9_parseClaims 25 = .ok (.bipush 10, 2) := by decide +kernel
theorem dX9_parseClaims_27 : decode cX9_parseClaims 27 = .ok (.iconst 1, 1) := by decide +kernel
theorem dX9_parseClaims_28 : decode cX9_parseClaims 28 = .ok (.iastore, 1) := by decide +kernel
theorem dX9_parseClaims_29 : decode cX9_parseClaims 29 = .ok (.aload_n 0, 1) := by decide +kernel
theorem dX9_parseClaims_30 : decode cX9_parseClaims 30 = .ok (.invokevirtual 218, 3) := by decide +kernel
theorem dX9_parseClaims_33 : decode cX9_parseClaims 33 = .ok (.aload_n 0, 1) := by decide +kernel
theorem dX9_parseClaims_34 : decode cX9_parseClaims 34 = .ok (.invokevirtual 255, 3) := by decide +kernel
theorem dX9_parseClaims_37 : decode cX9_parseClaims 37 = .ok (.return_, 1) := by decide +kernel
theorem dX9_parseStatement_0 : decode cX9_parseStatement 0 = .ok (.aload_n 0, 1) := by decide +kernel
theorem dX9_parseStatement_1 : decode cX9_parseStatement 1 = .ok (.ldc_w 274, 3) := by decide +kernel
theorem dX9_parseStatement_4 : decode cX9_parseStatement 4 = .ok (.invokevirtual 221, 3) := by decide +kernel
theorem dX9_parseStatement_7 : decode cX9_parseStatement 7 = .ok (.ifCond .eq 10, 3) := by decide +kernel
theorem dX9_parseStatement_10 : decode cX9_parseStatement 10 = .ok (.aload_n 0, 1) := by decide +kernel
theorem dX9_parseStatement_11 : decode cX9_parseStatement 11 = .ok (.invokevirtual 276, 3) := by decide +kernel
theorem dX9_parseStatement_14 : decode cX9_parseStatement 14 = .ok (.goto 76, 3) := by decide +kernel
theorem dX9_parseStatement_17 : decode cX9_parseStatement 17 = .ok (.aload_n 0, 1) := by decide +kernel
theorem dX9_parseStatement_18 : decode cX9_parseStatement 18 = .ok (.ldc_w 279, 3) := by decide +kernel
theorem dX9_parseStatement_21 : decode cX9_parseStatement 21 = .ok (.invokevirtual 221, 3) := by decide +kernel
theorem dX9_parseStatement_24 : decode cX9_parseStatement 24 = .ok (.ifCond .eq 10, 3) := by decide +kernel
theorem dX9_parseStatement_27 : decode cX9_parseStatement 27 = .ok (.aload_n 0, 1) := by decide +kernel
theorem dX9_parseStatement_28 : decode cX9_parseStatement 28 = .ok (.invokevirtual 281, 3) := by decide +kernel
theorem dX9_parseStatement_31 : decode cX9_parseStatement 31 = .ok (.goto 59, 3) := by decide +kernel
theorem dX9_parseStatement_34 : decode cX9_parseStatement 34 = .ok (.aload_n 0, 1) := by decide +kernel
theorem dX9_parseStatement_35 : decode cX9_parseStatement 35 = .ok (.ldc_w 284, 3) := by decide +kernel
theorem dX9_parseStatement_38 : decode cX9_parseStatement 38 = .ok (.invokevirtual 221, 3) := by decide +kernel
theorem dX9_parseStatement_41 : decode cX9_parseStatement 41 = .ok (.ifCond .eq 10, 3) := by decide +kernel
theorem dX9_parseStatement_44 : decode cX9_parseStatement 44 = .ok (.aload_n 0, 1) := by decide +kernel
theorem dX9_parseStatement_45 : decode cX9_parseStatement 45 = .ok (.invokevirtual 286, 3) := by decide +kernel
theorem dX9_parseStatement_48 : decode cX9_parseStatement 48 = .ok (.goto 42, 3) := by decide +kernel
theorem dX9_parseStatement_51 : decode cX9_parseStatement 51 = .ok (.aload_n 0, 1) := by decide +kernel
theorem dX9_parseStatement_52 : decode cX9_parseStatement 52 = .ok (.ldc_w 289, 3) := by decide +kernel
theorem dX9_parseStatement_55 : decode cX9_parseStatement 55 = .ok (.invokevirtual 221, 3) := by decide +kernel
theorem dX9_parseStatement_58 : decode cX9_parseStatement 58 = .ok (.ifCond .eq 10, 3) := by decide +kernel
theorem dX9_parseStatement_61 : decode cX9_parseStatement 61 = .ok (.aload_n 0, 1) := by decide +kernel
theorem dX9_parseStatement_62 : decode cX9_parseStatement 62 = .ok (.invokevirtual 290, 3) := by decide +kernel
theorem dX9_parseStatement_65 : decode cX9_parseStatement 65 = .ok (.goto 25, 3) := by decide +kernel
theorem dX9_parseStatement_68 : decode cX9_parseStatement 68 = .ok (.aload_n 0, 1) := by decide +kernel
theorem dX9_parseStatement_69 : decode cX9_parseStatement 69 = .ok (.ldc_w 293, 3) := by decide +kernel
theorem dX9_parseStatement_72 : decode cX9_parseStatement 72 = .ok (.invokevirtual 221, 3) := by decide +kernel
theorem dX9_parseStatement_75 : decode cX9_parseStatement 75 = .ok (.ifCond .eq 10, 3) := by decide +kernel
theorem dX9_parseStatement_78 : decode cX9_parseStatement 78 = .ok (.aload_n 0, 1) := by decide +kernel
theorem dX9_parseStatement_79 : decode cX9_parseStatement 79 = .ok (.invokevirtual 295, 3) := by decide +kernel
theorem dX9_parseStatement_82 : decode cX9_parseStatement 82 = .ok (.goto 8, 3) := by decide +kernel
theorem dX9_parseStatement_85 : decode cX9_parseStatement 85 = .ok (.aload_n 0, 1) := by decide +kernel
theorem dX9_parseStatement_86 : decode cX9_parseStatement 86 = .ok (.iconst 1, 1) := by decide +kernel
theorem dX9_parseStatement_87 : decode cX9_parseStatement 87 = .ok (.invokevirtual 212, 3) := by decide +kernel
theorem dX9_parseStatement_90 : decode cX9_parseStatement 90 = .ok (.return_, 1) := by decide +kernel
theorem dX9_setSides_0 : decode cX9_setSides 0 = .ok (.iconst 0, 1) := by decide +kernel
theorem dX9_setSides_1 : decode cX9_setSides 1 = .ok (.istore_n 1, 1) := by decide +kernel
theorem dX9_setSides_2 : decode cX9_setSides 2 = .ok (.iload_n 1, 1) := by decide +kernel
theorem dX9_setSides_3 : decode cX9_setSides 3 = .ok (.iconst 2, 1) := by decide +kernel
theorem dX9_setSides_4 : decode cX9_setSides 4 = .ok (.if_icmp .ge 57, 3) := by decide +kernel
theorem dX9_setSides_7 : decode cX9_setSides 7 = .ok (.aload_n 0, 1) := by decide +kernel
theorem dX9_setSides_8 : decode cX9_setSides 8 = .ok (.iload_n 1, 1) := by decide +kernel
theorem dX9_setSides_9 : decode cX9_setSides 9 = .ok (.iconst 0, 1) := by decide +kernel
theorem dX9_setSides_10 : decode cX9_setSides 10 = .ok (.aload_n 0, 1) := by decide +kernel
theorem dX9_setSides_11 : decode cX9_setSides 11 = .ok (.iconst 0, 1) := by decide +kernel
theorem dX9_setSides_12 : decode cX9_setSides 12 = .ok (.iconst 1, 1) := by decide +kernel
theorem dX9_setSides_13 : decode cX9_setSides 13 = .ok (.invokevirtual 61, 3) := by decide +kernel
theorem dX9_setSides_16 : decode cX9_setSides 16 = .ok (.aload_n 0, 1) := by decide +kernel
theorem dX9_setSides_17 : decode cX9_setSides 17 = .ok (.getfield 261, 3) := by decide +kernel
theorem dX9_setSides_20 : decode cX9_setSides 20 = .ok (.ifCond .eq 18, 3) := by decide +kernel
theorem dX9_setSides_23 : decode cX9_setSides 23 = .ok (.aload_n 0, 1) := by decide +kernel
theorem dX9_setSides_24 : decode cX9_setSides 24 = .ok (.getfield 266, 3) := by decide +kernel
theorem dX9_setSides_27 : decode cX9_setSides 27 = .ok (.iload_n 1, 1) := by decide +kernel
theorem dX9_setSides_28 : decode cX9_setSides 28 = .ok (.if_icmp .ne 10, 3) := by decide +kernel
theorem dX9_setSides_31 : decode cX9_setSides 31 = .ok (.aload_n 0, 1) := by decide +kernel
theorem dX9_setSides_32 : decode cX9_setSides 32 = .ok (.getfield 271, 3) := by decide +kernel
theorem dX9_setSides_35 : decode cX9_setSides 35 = .ok (.goto 4, 3) := by decide +kernel
theorem dX9_setSides_38 : decode cX9_setSides 38 = .ok (.iconst 0, 1) := by decide +kernel
theorem dX9_setSides_39 : decode cX9_setSides 39 = .ok (.iadd, 1) := by decide +kernel
theorem dX9_setSides_40 : decode cX9_setSides 40 = .ok (.invokevirtual 53, 3) := by decide +kernel
theorem dX9_setSides_43 : decode cX9_setSides 43 = .ok (.aload_n 0, 1) := by decide +kernel
theorem dX9_setSides_44 : decode cX9_setSides 44 = .ok (.iload_n 1, 1) := by decide +kernel
theorem dX9_setSides_45 : decode cX9_setSides 45 = .ok (.iconst 4, 1) := by decide +kernel
theorem dX9_setSides_46 : decode cX9_setSides 46 = .ok (.aload_n 0, 1) := by decide +kernel
theorem dX9_setSides_47 : decode cX9_setSides 47 = .ok (.getfield 24, 3) := by decide +kernel
theorem dX9_setSides_50 : decode cX9_setSides 50 = .ok (.iconst 3, 1) := by decide +kernel
theorem dX9_setSides_51 : decode cX9_setSides 51 = .ok (.iaload, 1) := by decide +kernel
theorem dX9_setSides_52 : decode cX9_setSides 52 = .ok (.invokevirtual 53, 3) := by decide +kernel
theorem dX9_setSides_55 : decode cX9_setSides 55 = .ok (.iinc 1 1, 3) := by decide +kernel
theorem dX9_setSides_58 : decode cX9_setSides 58 = .ok (.goto (-56), 3) := by decide +kernel
theorem dX9_setSides_61 : decode cX9_setSides 61 = .ok (.return_, 1) := by decide +kernel
theorem dX9_load_0 : decode cX9_load 0 = .ok (.aload_n 0, 1) := by decide +kernel
theorem dX9_load_1 : decode cX9_load 1 = .ok (.iconst 0, 1) := by decide +kernel
theorem dX9_load_2 : decode cX9_load 2 = .ok (.putfield 3, 3) := by decide +kernel
theorem dX9_load_5 : decode cX9_load 5 = .ok (.aload_n 0, 1) := by decide +kernel
theorem dX9_load_6 : decode cX9_load 6 = .ok (.aload_n 0, 1) := by decide +kernel
theorem dX9_load_7 : decode cX9_load 7 = .ok (.getfield 156, 3) := by decide +kernel
theorem dX9_load_10 : decode cX9_load 10 = .ok (.putfield 176, 3) := by decide +kernel
theorem dX9_load_13 : decode cX9_load 13 = .ok (.aload_n 0, 1) := by decide +kernel
theorem dX9_load_14 : decode cX9_load 14 = .ok (.iconst 0, 1) := by decide +kernel
theorem dX9_load_15 : decode cX9_load 15 = .ok (.putfield 156, 3) := by decide +kernel
theorem dX9_load_18 : decode cX9_load 18 = .ok (.aload_n 0, 1) := by decide +kernel
theorem dX9_load_19 : decode cX9_load 19 = .ok (.iconst 0, 1) := by decide +kernel
theorem dX9_load_20 : decode cX9_load 20 = .ok (.putfield 179, 3) := by decide +kernel
theorem dX9_load_23 : decode cX9_load 23 = .ok (.aload_n 0, 1) := by decide +kernel
theorem dX9_load_24 : decode cX9_load 24 = .ok (.iconst 0, 1) := by decide +kernel
theorem dX9_load_25 : decode cX9_load 25 = .ok (.putfield 166, 3) := by decide +kernel
theorem dX9_load_28 : decode cX9_load 28 = .ok (.aload_n 0, 1) := by decide +kernel
theorem dX9_load_29 : decode cX9_load 29 = .ok (.iconst (-1), 1) := by decide +kernel
theorem dX9_load_30 : decode cX9_load 30 = .ok (.putfield 34, 3) := by decide +kernel
theorem dX9_load_33 : decode cX9_load 33 = .ok (.aload_n 0, 1) := by decide +kernel
theorem dX9_load_34 : decode cX9_load 34 = .ok (.iconst 0, 1) := by decide +kernel
theorem dX9_load_35 : decode cX9_load 35 = .ok (.putfield 258, 3) := by decide +kernel
theorem dX9_load_38 : decode cX9_load 38 = .ok (.aload_n 0, 1) := by decide +kernel
theorem dX9_load_39 : decode cX9_load 39 = .ok (.iconst 0, 1) := by decide +kernel
theorem dX9_load_40 : decode cX9_load 40 = .ok (.putfield 261, 3) := by decide +kernel
theorem dX9_load_43 : decode cX9_load 43 = .ok (.aload_n 0, 1) := by decide +kernel
theorem dX9_load_44 : decode cX9_load 44 = .ok (.aload_n 0, 1) := by decide +kernel
theorem dX9_load_45 : decode cX9_load 45 = .ok (.getfield 21, 3) := by decide +kernel
theorem dX9_load_48 : decode cX9_load 48 = .ok (.putfield 24, 3) := by decide +kernel
theorem dX9_load_51 : decode cX9_load 51 = .ok (.aload_n 0, 1) := by decide +kernel
theorem dX9_load_52 : decode cX9_load 52 = .ok (.invokevirtual 50, 3) := by decide +kernel
theorem dX9_load_55 : decode cX9_load 55 = .ok (.aload_n 0, 1) := by decide +kernel
theorem dX9_load_56 : decode cX9_load 56 = .ok (.invokevirtual 200, 3) := by decide +kernel
theorem dX9_load_59 : decode cX9_load 59 = .ok (.aload_n 0, 1) := by decide +kernel
theorem dX9_load_60 : decode cX9_load 60 = .ok (.aload_n 0, 1) := by decide +kernel
theorem dX9_load_61 : decode cX9_load 61 = .ok (.ldc_w 274, 3) := by decide +kernel
theorem dX9_load_64 : decode cX9_load 64 = .ok (.invokevirtual 221, 3) := by decide +kernel
theorem dX9_load_67 : decode cX9_load 67 = .ok (.ifCond .ne 7, 3) := by decide +kernel
theorem dX9_load_70 : decode cX9_load 70 = .ok (.iconst 1, 1) := by decide +kernel
theorem dX9_load_71 : decode cX9_load 71 = .ok (.goto 4, 3) := by decide +kernel
theorem dX9_load_74 : decode cX9_load 74 = .ok (.iconst 0, 1) := by decide +kernel
theorem dX9_load_75 : decode cX9_load 75 = .ok (.iconst 1, 1) := by decide +kernel
theorem dX9_load_76 : decode cX9_load 76 = .ok (.invokevirtual 236, 3) := by decide +kernel
theorem dX9_load_79 : decode cX9_load 79 = .ok (.aload_n 0, 1) := by decide +kernel
theorem dX9_load_80 : decode cX9_load 80 = .ok (.invokevirtual 169, 3) := by decide +kernel
theorem dX9_load_83 : decode cX9_load 83 = .ok (.ifCond .eq 17, 3) := by decide +kernel
theorem dX9_load_86 : decode cX9_load 86 = .ok (.aload_n 0, 1) := by decide +kernel
theorem dX9_load_87 : decode cX9_load 87 = .ok (.getfield 185, 3) := by decide +kernel
theorem dX9_load_90 : decode cX9_load 90 = .ok (.ifCond .eq 10, 3) := by decide +kernel
theorem dX9_load_93 : decode cX9_load 93 = .ok (.aload_n 0, 1) := by decide +kernel
theorem dX9_load_94 : decode cX9_load 94 = .ok (.invokevirtual 298, 3) := by decide +kernel
theorem dX9_load_97 : decode cX9_load 97 = .ok (.goto (-18), 3) := by decide +kernel
theorem dX9_load_100 : decode cX9_load 100 = .ok (.aload_n 0, 1) := by decide +kernel
theorem dX9_load_101 : decode cX9_load 101 = .ok (.invokevirtual 301, 3) := by decide +kernel
theorem dX9_load_104 : decode cX9_load 104 = .ok (.aload_n 0, 1) := by decide +kernel
theorem dX9_load_105 : decode cX9_load 105 = .ok (.aload_n 0, 1) := by decide +kernel
theorem dX9_load_106 : decode cX9_load 106 = .ok (.getfield 17, 3) := by decide +kernel
theorem dX9_load_109 : decode cX9_load 109 = .ok (.putfield 24, 3) := by decide +kernel
theorem dX9_load_112 : decode cX9_load 112 = .ok (.aload_n 0, 1) := by decide +kernel
theorem dX9_load_113 : decode cX9_load 113 = .ok (.invokevirtual 169, 3) := by decide +kernel
theorem dX9_load_116 : decode cX9_load 116 = .ok (.ifCond .ne 6, 3) := by decide +kernel
theorem dX9_load_119 : decode cX9_load 119 = .ok (.bipush (-4), 2) := by decide +kernel
theorem dX9_load_121 : decode cX9_load 121 = .ok (.ireturn, 1) := by decide +kernel
theorem dX9_load_122 : decode cX9_load 122 = .ok (.aload_n 0, 1) := by decide +kernel
theorem dX9_load_123 : decode cX9_load 123 = .ok (.invokevirtual 304, 3) := by decide +kernel
theorem dX9_load_126 : decode cX9_load 126 = .ok (.iconst 0, 1) := by decide +kernel
theorem dX9_load_127 : decode cX9_load 127 = .ok (.istore_n 1, 1) := by decide +kernel
theorem dX9_load_128 : decode cX9_load 128 = .ok (.iload_n 1, 1) := by decide +kernel
theorem dX9_load_129 : decode cX9_load 129 = .ok (.sipush 311, 3) := by decide +kernel
theorem dX9_load_132 : decode cX9_load 132 = .ok (.if_icmp .ge 21, 3) := by decide +kernel
theorem dX9_load_135 : decode cX9_load 135 = .ok (.aload_n 0, 1) := by decide +kernel
theorem dX9_load_136 : decode cX9_load 136 = .ok (.getfield 17, 3) := by decide +kernel
theorem dX9_load_139 : decode cX9_load 139 = .ok (.iload_n 1, 1) := by decide +kernel
theorem dX9_load_140 : decode cX9_load 140 = .ok (.aload_n 0, 1) := by decide +kernel
theorem dX9_load_141 : decode cX9_load 141 = .ok (.getfield 21, 3) := by decide +kernel
theorem dX9_load_144 : decode cX9_load 144 = .ok (.iload_n 1, 1) := by decide +kernel
theorem dX9_load_145 : decode cX9_load 145 = .ok (.iaload, 1) := by decide +kernel
theorem dX9_load_146 : decode cX9_load 146 = .ok (.iastore, 1) := by decide +kernel
theorem dX9_load_147 : decode cX9_load 147 = .ok (.iinc 1 1, 3) := by decide +kernel
theorem dX9_load_150 : decode cX9_load 150 = .ok (.goto (-22), 3) := by decide +kernel
theorem dX9_load_153 : decode cX9_load 153 = .ok (.aload_n 0, 1) := by decide +kernel
theorem dX9_load_154 : decode cX9_load 154 = .ok (.getfield 17, 3) := by decide +kernel
theorem dX9_load_157 : decode cX9_load 157 = .ok (.iconst 2, 1) := by decide +kernel
theorem dX9_load_158 : decode cX9_load 158 = .ok (.iaload, 1) := by decide +kernel
theorem dX9_load_159 : decode cX9_load 159 = .ok (.ireturn, 1) := by decide +kernel
theorem dX9_errorCode_0 : decode cX9_errorCode 0 = .ok (.aload_n 0, 1) := by decide +kernel
theorem dX9_errorCode_1 : decode cX9_errorCode 1 = .ok (.iconst 0, 1) := by decide +kernel
theorem dX9_errorCode_2 : decode cX9_errorCode 2 = .ok (.putfield 3, 3) := by decide +kernel
theorem dX9_errorCode_5 : decode cX9_errorCode 5 = .ok (.aload_n 0, 1) := by decide +kernel
theorem dX9_errorCode_6 : decode cX9_errorCode 6 = .ok (.getfield 166, 3) := by decide +kernel
theorem dX9_errorCode_9 : decode cX9_errorCode 9 = .ok (.ireturn, 1) := by decide +kernel
theorem dX9_errorPosition_0 : decode cX9_errorPosition 0 = .ok (.aload_n 0, 1) := by decide +kernel
theorem dX9_errorPosition_1 : decode cX9_errorPosition 1 = .ok (.iconst 0, 1) := by decide +kernel
theorem dX9_errorPosition_2 : decode cX9_errorPosition 2 = .ok (.putfield 3, 3) := by decide +kernel
theorem dX9_errorPosition_5 : decode cX9_errorPosition 5 = .ok (.aload_n 0, 1) := by decide +kernel
theorem dX9_errorPosition_6 : decode cX9_errorPosition 6 = .ok (.getfield 34, 3) := by decide +kernel
theorem dX9_errorPosition_9 : decode cX9_errorPosition 9 = .ok (.ireturn, 1) := by decide +kernel
theorem dX9_property_0 : decode cX9_property 0 = .ok (.aload_n 0, 1) := by decide +kernel
theorem dX9_property_1 : decode cX9_property 1 = .ok (.iload_n 1, 1) := by decide +kernel
theorem dX9_property_2 : decode cX9_property 2 = .ok (.i2l, 1) := by decide +kernel
theorem dX9_property_3 : decode cX9_property 3 = .ok (.lconst 0, 1) := by decide +kernel
theorem dX9_property_4 : decode cX9_property 4 = .ok (.ldc2_w 307, 3) := by decide +kernel
theorem dX9_property_7 : decode cX9_property 7 = .ok (.invokestatic 64, 3) := by decide +kernel
theorem dX9_property_10 : decode cX9_property 10 = .ok (.invokevirtual 159, 3) := by decide +kernel
theorem dX9_property_13 : decode cX9_property 13 = .ok (.ifCond .ne 5, 3) := by decide +kernel
theorem dX9_property_16 : decode cX9_property 16 = .ok (.iconst 0, 1) := by decide +kernel
theorem dX9_property_17 : decode cX9_property 17 = .ok (.ireturn, 1) := by decide +kernel
theorem dX9_property_18 : decode cX9_property 18 = .ok (.iload_n 1, 1) := by decide +kernel
theorem dX9_property_19 : decode cX9_property 19 = .ok (.tableswitch 137 0 10 #[57, 64, 69, 76, 83, 90, 97, 105, 113, 121, 129], 57) := by decide +kernel
theorem dX9_property_76 : decode cX9_property 76 = .ok (.aload_n 0, 1) := by decide +kernel
theorem dX9_property_77 : decode cX9_property 77 = .ok (.getfield 17, 3) := by decide +kernel
theorem dX9_property_80 : decode cX9_property 80 = .ok (.iconst 0, 1) := by decide +kernel
theorem dX9_property_81 : decode cX9_property 81 = .ok (.iaload, 1) := by decide +kernel
theorem dX9_property_82 : decode cX9_property 82 = .ok (.ireturn, 1) := by decide +kernel
theorem dX9_property_83 : decode cX9_property 83 = .ok (.aload_n 0, 1) := by decide +kernel
theorem dX9_property_84 : decode cX9_property 84 = .ok (.invokevirtual 80, 3) := by decide +kernel
theorem dX9_property_87 : decode cX9_property 87 = .ok (.ireturn, 1) := by decide +kernel
theorem dX9_property_88 : decode cX9_property 88 = .ok (.aload_n 0, 1) := by decide +kernel
theorem dX9_property_89 : decode cX9_property 89 = .ok (.getfield 17, 3) := by decide +kernel
theorem dX9_property_92 : decode cX9_property 92 = .ok (.iconst 2, 1) := by decide +kernel
theorem dX9_property_93 : decode cX9_property 93 = .ok (.iaload, 1) := by decide +kernel
theorem dX9_property_94 : decode cX9_property 94 = .ok (.ireturn, 1) := by decide +kernel
theorem dX9_property_95 : decode cX9_property 95 = .ok (.aload_n 0, 1) := by decide +kernel
theorem dX9_property_96 : decode cX9_property 96 = .ok (.getfield 17, 3) := by decide +kernel
theorem dX9_property_99 : decode cX9_property 99 = .ok (.iconst 3, 1) := by decide +kernel
theorem dX9_property_100 : decode cX9_property 100 = .ok (.iaload, 1) := by decide +kernel
theorem dX9_property_101 : decode cX9_property 101 = .ok (.ireturn, 1) := by decide +kernel
theorem dX9_property_102 : decode cX9_property 102 = .ok (.aload_n 0, 1) := by decide +kernel
theorem dX9_property_103 : decode cX9_property 103 = .ok (.getfield 17, 3) := by decide +kernel
theorem dX9_property_106 : decode cX9_property 106 = .ok (.iconst 4, 1) := by decide +kernel
theorem dX9_property_107 : decode cX9_property 107 = .ok (.iaload, 1) := by decide +kernel
theorem dX9_property_108 : decode cX9_property 108 = .ok (.ireturn, 1) := by decide +kernel
theorem dX9_property_109 : decode cX9_property 109 = .ok (.aload_n 0, 1) := by decide +kernel
theorem dX9_property_110 : decode cX9_property 110 = .ok (.getfield 17, 3) := by decide +kernel
theorem dX9_property_113 : decode cX9_property 113 = .ok (.iconst 5, 1) := by decide +kernel
theorem dX9_property_114 : decode cX9_property 114 = .ok (.iaload, 1) := by decide +kernel
theorem dX9_property_115 : decode cX9_property 115 = .ok (.ireturn, 1) := by decide +kernel
theorem dX9_property_116 : decode cX9_property 116 = .ok (.aload_n 0, 1) := by decide +kernel
theorem dX9_property_117 : decode cX9_property 117 = .ok (.getfield 17, 3) := by decide +kernel
theorem dX9_property_120 : decode cX9_property 120 = .ok (.bipush 6, 2) := by decide +kernel
theorem dX9_property_122 : decode cX9_property 122 = .ok (.iaload, 1) := by decide +kernel
theorem dX9_property_123 : decode cX9_property 123 = .ok (.ireturn, 1) := by decide +kernel
theorem dX9_property_124 : decode cX9_property 124 = .ok (.aload_n 0, 1) := by decide +kernel
theorem dX9_property_125 : decode cX9_property 125 = .ok (.getfield 17, 3) := by decide +kernel
theorem dX9_property_128 : decode cX9_property 128 = .ok (.bipush 7, 2) := by decide +kernel
theorem dX9_property_130 : decode cX9_property 130 = .ok (.iaload, 1) := by decide +kernel
theorem dX9_property_131 : decode cX9_property 131 = .ok (.ireturn, 1) := by decide +kernel
theorem dX9_property_132 : decode cX9_property 132 = .ok (.aload_n 0, 1) := by decide +kernel
theorem dX9_property_133 : decode cX9_property 133 = .ok (.getfield 17, 3) := by decide +kernel
theorem dX9_property_136 : decode cX9_property 136 = .ok (.bipush 8, 2) := by decide +kernel
theorem dX9_property_138 : decode cX9_property 138 = .ok (.iaload, 1) := by decide +kernel
theorem dX9_property_139 : decode cX9_property 139 = .ok (.ireturn, 1) := by decide +kernel
theorem dX9_property_140 : decode cX9_property 140 = .ok (.aload_n 0, 1) := by decide +kernel
theorem dX9_property_141 : decode cX9_property 141 = .ok (.getfield 17, 3) := by decide +kernel
theorem dX9_property_144 : decode cX9_property 144 = .ok (.bipush 9, 2) := by decide +kernel
theorem dX9_property_146 : decode cX9_property 146 = .ok (.iaload, 1) := by decide +kernel
theorem dX9_property_147 : decode cX9_property 147 = .ok (.ireturn, 1) := by decide +kernel
theorem dX9_property_148 : decode cX9_property 148 = .ok (.aload_n 0, 1) := by decide +kernel
theorem dX9_property_149 : decode cX9_property 149 = .ok (.getfield 17, 3) := by decide +kernel
theorem dX9_property_152 : decode cX9_property 152 = .ok (.bipush 10, 2) := by decide +kernel
theorem dX9_property_154 : decode cX9_property 154 = .ok (.iaload, 1) := by decide +kernel
theorem dX9_property_155 : decode cX9_property 155 = .ok (.ireturn, 1) := by decide +kernel
theorem dX9_property_156 : decode cX9_property 156 = .ok (.aload_n 0, 1) := by decide +kernel
theorem dX9_property_157 : decode cX9_property 157 = .ok (.getfield 17, 3) := by decide +kernel
theorem dX9_property_160 : decode cX9_property 160 = .ok (.bipush 11, 2) := by decide +kernel
theorem dX9_property_162 : decode cX9_property 162 = .ok (.iaload, 1) := by decide +kernel
theorem dX9_property_163 : decode cX9_property 163 = .ok (.ireturn, 1) := by decide +kernel
theorem dX9_isPeriod_0 : decode cX9_isPeriod 0 = .ok (.iload_n 1, 1) := by decide +kernel
theorem dX9_isPeriod_1 : decode cX9_isPeriod 1 = .ok (.i2l, 1) := by decide +kernel
theorem dX9_isPeriod_2 : decode cX9_isPeriod 2 = .ok (.lconst 0, 1) := by decide +kernel
theorem dX9_isPeriod_3 : decode cX9_isPeriod 3 = .ok (.aload_n 0, 1) := by decide +kernel
theorem dX9_isPeriod_4 : decode cX9_isPeriod 4 = .ok (.getfield 17, 3) := by decide +kernel
theorem dX9_isPeriod_7 : decode cX9_isPeriod 7 = .ok (.iconst 2, 1) := by decide +kernel
theorem dX9_isPeriod_8 : decode cX9_isPeriod 8 = .ok (.iaload, 1) := by decide +kernel
theorem dX9_isPeriod_9 : decode cX9_isPeriod 9 = .ok (.iconst 1, 1) := by decide +kernel
theorem dX9_isPeriod_10 : decode cX9_isPeriod 10 = .ok (.isub, 1) := by decide +kernel
theorem dX9_isPeriod_11 : decode cX9_isPeriod 11 = .ok (.i2l, 1) := by decide +kernel
theorem dX9_isPeriod_12 : decode cX9_isPeriod 12 = .ok (.invokestatic 64, 3) := by decide +kernel
theorem dX9_isPeriod_15 : decode cX9_isPeriod 15 = .ok (.ireturn, 1) := by decide +kernel
theorem dX9_period_0 : decode cX9_period 0 = .ok (.aload_n 0, 1) := by decide +kernel
theorem dX9_period_1 : decode cX9_period 1 = .ok (.aload_n 0, 1) := by decide +kernel
theorem dX9_period_2 : decode cX9_period 2 = .ok (.iload_n 1, 1) := by decide +kernel
theorem dX9_period_3 : decode cX9_period 3 = .ok (.invokevirtual 309, 3) := by decide +kernel
theorem dX9_period_6 : decode cX9_period 6 = .ok (.iload_n 2, 1) := by decide +kernel
theorem dX9_period_7 : decode cX9_period 7 = .ok (.i2l, 1) := by decide +kernel
theorem dX9_period_8 : decode cX9_period 8 = .ok (.lconst 0, 1) := by decide +kernel
theorem dX9_period_9 : decode cX9_period 9 = .ok (.ldc2_w 312, 3) := by decide +kernel
theorem dX9_period_12 : decode cX9_period 12 = .ok (.invokestatic 64, 3) := by decide +kernel
theorem dX9_period_15 : decode cX9_period 15 = .ok (.invokevirtual 314, 3) := by decide +kernel
theorem dX9_period_18 : decode cX9_period 18 = .ok (.ifCond .eq 12, 3) := by decide +kernel
theorem dX9_period_21 : decode cX9_period 21 = .ok (.aload_n 0, 1) := by decide +kernel
theorem dX9_period_22 : decode cX9_period 22 = .ok (.iload_n 1, 1) := by decide +kernel
theorem dX9_period_23 : decode cX9_period 23 = .ok (.iload_n 2, 1) := by decide +kernel
theorem dX9_period_24 : decode cX9_period 24 = .ok (.invokevirtual 61, 3) := by decide +kernel
theorem dX9_period_27 : decode cX9_period 27 = .ok (.goto 4, 3) := by decide +kernel
theorem dX9_period_30 : decode cX9_period 30 = .ok (.iconst 0, 1) := by decide +kernel
theorem dX9_period_31 : decode cX9_period 31 = .ok (.ireturn, 1) := by decide +kernel
theorem dX9_movesLeft_0 : decode cX9_movesLeft 0 = .ok (.aload_n 0, 1) := by decide +kernel
theorem dX9_movesLeft_1 : decode cX9_movesLeft 1 = .ok (.iload_n 1, 1) := by decide +kernel
theorem dX9_movesLeft_2 : decode cX9_movesLeft 2 = .ok (.iconst 0, 1) := by decide +kernel
theorem dX9_movesLeft_3 : decode cX9_movesLeft 3 = .ok (.invokevirtual 87, 3) := by decide +kernel
theorem dX9_movesLeft_6 : decode cX9_movesLeft 6 = .ok (.ifCond .ne 7, 3) := by decide +kernel
theorem dX9_movesLeft_9 : decode cX9_movesLeft 9 = .ok (.iconst (-1), 1) := by decide +kernel
theorem dX9_movesLeft_10 : decode cX9_movesLeft 10 = .ok (.goto 16, 3) := by decide +kernel
theorem dX9_movesLeft_13 : decode cX9_movesLeft 13 = .ok (.aload_n 0, 1) := by decide +kernel
theorem dX9_movesLeft_14 : decode cX9_movesLeft 14 = .ok (.iload_n 1, 1) := by decide +kernel
theorem dX9_movesLeft_15 : decode cX9_movesLeft 15 = .ok (.iconst 0, 1) := by decide +kernel
theorem dX9_movesLeft_16 : decode cX9_movesLeft 16 = .ok (.invokevirtual 87, 3) := by decide +kernel
theorem dX9_movesLeft_19 : decode cX9_movesLeft 19 = .ok (.aload_n 0, 1) := by decide +kernel
theorem dX9_movesLeft_20 : decode cX9_movesLeft 20 = .ok (.iload_n 1, 1) := by decide +kernel
theorem dX9_movesLeft_21 : decode cX9_movesLeft 21 = .ok (.iconst 3, 1) := by decide +kernel
theorem dX9_movesLeft_22 : decode cX9_movesLeft 22 = .ok (.invokevirtual 57, 3) := by decide +kernel
theorem dX9_movesLeft_25 : decode cX9_movesLeft 25 = .ok (.isub, 1) := by decide +kernel
theorem dX9_movesLeft_26 : decode cX9_movesLeft 26 = .ok (.ireturn, 1) := by decide +kernel
theorem dX9_side_0 : decode cX9_side 0 = .ok (.aload_n 0, 1) := by decide +kernel
theorem dX9_side_1 : decode cX9_side 1 = .ok (.iload_n 1, 1) := by decide +kernel
theorem dX9_side_2 : decode cX9_side 2 = .ok (.invokestatic 318, 3) := by decide +kernel
theorem dX9_side_5 : decode cX9_side 5 = .ok (.iload_n 2, 1) := by decide +kernel
theorem dX9_side_6 : decode cX9_side 6 = .ok (.i2l, 1) := by decide +kernel
theorem dX9_side_7 : decode cX9_side 7 = .ok (.lconst 0, 1) := by decide +kernel
theorem dX9_side_8 : decode cX9_side 8 = .ok (.ldc2_w 307, 3) := by decide +kernel
theorem dX9_side_11 : decode cX9_side 11 = .ok (.invokestatic 64, 3) := by decide +kernel
theorem dX9_side_14 : decode cX9_side 14 = .ok (.invokevirtual 314, 3) := by decide +kernel
theorem dX9_side_17 : decode cX9_side 17 = .ok (.ifCond .ne 5, 3) := by decide +kernel
theorem dX9_side_20 : decode cX9_side 20 = .ok (.iconst 0, 1) := by decide +kernel
theorem dX9_side_21 : decode cX9_side 21 = .ok (.ireturn, 1) := by decide +kernel
theorem dX9_side_22 : decode cX9_side 22 = .ok (.iload_n 2, 1) := by decide +kernel
theorem dX9_side_23 : decode cX9_side 23 = .ok (.tableswitch 139 0 10 #[57, 64, 71, 78, 85, 92, 99, 107, 115, 123, 131], 57) := by decide +kernel
theorem dX9_side_80 : decode cX9_side 80 = .ok (.aload_n 0, 1) := by decide +kernel
theorem dX9_side_81 : decode cX9_side 81 = .ok (.iload_n 1, 1) := by decide +kernel
theorem dX9_side_82 : decode cX9_side 82 = .ok (.iconst 0, 1) := by decide +kernel
theorem dX9_side_83 : decode cX9_side 83 = .ok (.invokevirtual 57, 3) := by decide +kernel
theorem dX9_side_86 : decode cX9_side 86 = .ok (.ireturn, 1) := by decide +kernel
theorem dX9_side_87 : decode cX9_side 87 = .ok (.aload_n 0, 1) := by decide +kernel
theorem dX9_side_88 : decode cX9_side 88 = .ok (.iload_n 1, 1) := by decide +kernel
theorem dX9_side_89 : decode cX9_side 89 = .ok (.iconst 1, 1) := by decide +kernel
theorem dX9_side_90 : decode cX9_side 90 = .ok (.invokevirtual 57, 3) := by decide +kernel
theorem dX9_side_93 : decode cX9_side 93 = .ok (.ireturn, 1) := by decide +kernel
theorem dX9_side_94 : decode cX9_side 94 = .ok (.aload_n 0, 1) := by decide +kernel
theorem dX9_side_95 : decode cX9_side 95 = .ok (.iload_n 1, 1) := by decide +kernel
theorem dX9_side_96 : decode cX9_side 96 = .ok (.iconst 2, 1) := by decide +kernel
theorem dX9_side_97 : decode cX9_side 97 = .ok (.invokevirtual 57, 3) := by decide +kernel
theorem dX9_side_100 : decode cX9_side 100 = .ok (.ireturn, 1) := by decide +kernel
theorem dX9_side_101 : decode cX9_side 101 = .ok (.aload_n 0, 1) := by decide +kernel
theorem dX9_side_102 : decode cX9_side 102 = .ok (.iload_n 1, 1) := by decide +kernel
theorem dX9_side_103 : decode cX9_side 103 = .ok (.iconst 3, 1) := by decide +kernel
theorem dX9_side_104 : decode cX9_side 104 = .ok (.invokevirtual 57, 3) := by decide +kernel
theorem dX9_side_107 : decode cX9_side 107 = .ok (.ireturn, 1) := by decide +kernel
theorem dX9_side_108 : decode cX9_side 108 = .ok (.aload_n 0, 1) := by decide +kernel
theorem dX9_side_109 : decode cX9_side 109 = .ok (.iload_n 1, 1) := by decide +kernel
theorem dX9_side_110 : decode cX9_side 110 = .ok (.iconst 4, 1) := by decide +kernel
theorem dX9_side_111 : decode cX9_side 111 = .ok (.invokevirtual 57, 3) := by decide +kernel
theorem dX9_side_114 : decode cX9_side 114 = .ok (.ireturn, 1) := by decide +kernel
theorem dX9_side_115 : decode cX9_side 115 = .ok (.aload_n 0, 1) := by decide +kernel
theorem dX9_side_116 : decode cX9_side 116 = .ok (.iload_n 1, 1) := by decide +kernel
theorem dX9_side_117 : decode cX9_side 117 = .ok (.iconst 5, 1) := by decide +kernel
theorem dX9_side_118 : decode cX9_side 118 = .ok (.invokevirtual 57, 3) := by decide +kernel
theorem dX9_side_121 : decode cX9_side 121 = .ok (.ireturn, 1) := by decide +kernel
theorem dX9_side_122 : decode cX9_side 122 = .ok (.aload_n 0, 1) := by decide +kernel
theorem dX9_side_123 : decode cX9_side 123 = .ok (.iload_n 1, 1) := by decide +kernel
theorem dX9_side_124 : decode cX9_side 124 = .ok (.bipush 6, 2) := by decide +kernel
theorem dX9_side_126 : decode cX9_side 126 = .ok (.invokevirtual 57, 3) := by decide +kernel
theorem dX9_side_129 : decode cX9_side 129 = .ok (.ireturn, 1) := by decide +kernel
theorem dX9_side_130 : decode cX9_side 130 = .ok (.aload_n 0, 1) := by decide +kernel
theorem dX9_side_131 : decode cX9_side 131 = .ok (.iload_n 1, 1) := by decide +kernel
theorem dX9_side_132 : decode cX9_side 132 = .ok (.bipush 7, 2) := by decide +kernel
theorem dX9_side_134 : decode cX9_side 134 = .ok (.invokevirtual 57, 3) := by decide +kernel
theorem dX9_side_137 : decode cX9_side 137 = .ok (.ireturn, 1) := by decide +kernel
theorem dX9_side_138 : decode cX9_side 138 = .ok (.aload_n 0, 1) := by decide +kernel
theorem dX9_side_139 : decode cX9_side 139 = .ok (.iload_n 1, 1) := by decide +kernel
theorem dX9_side_140 : decode cX9_side 140 = .ok (.bipush 8, 2) := by decide +kernel
theorem dX9_side_142 : decode cX9_side 142 = .ok (.invokevirtual 57, 3) := by decide +kernel
theorem dX9_side_145 : decode cX9_side 145 = .ok (.ireturn, 1) := by decide +kernel
theorem dX9_side_146 : decode cX9_side 146 = .ok (.aload_n 0, 1) := by decide +kernel
theorem dX9_side_147 : decode cX9_side 147 = .ok (.iload_n 1, 1) := by decide +kernel
theorem dX9_side_148 : decode cX9_side 148 = .ok (.bipush 9, 2) := by decide +kernel
theorem dX9_side_150 : decode cX9_side 150 = .ok (.invokevirtual 57, 3) := by decide +kernel
theorem dX9_side_153 : decode cX9_side 153 = .ok (.ireturn, 1) := by decide +kernel
theorem dX9_side_154 : decode cX9_side 154 = .ok (.aload_n 0, 1) := by decide +kernel
theorem dX9_side_155 : decode cX9_side 155 = .ok (.iload_n 1, 1) := by decide +kernel
theorem dX9_side_156 : decode cX9_side 156 = .ok (.bipush 10, 2) := by decide +kernel
theorem dX9_side_158 : decode cX9_side 158 = .ok (.invokevirtual 57, 3) := by decide +kernel
theorem dX9_side_161 : decode cX9_side 161 = .ok (.ireturn, 1) := by decide +kernel
theorem dX9_side_162 : decode cX9_side 162 = .ok (.aload_n 0, 1) := by decide +kernel
theorem dX9_side_163 : decode cX9_side 163 = .ok (.iload_n 1, 1) := by decide +kernel
theorem dX9_side_164 : decode cX9_side 164 = .ok (.invokevirtual 321, 3) := by decide +kernel
theorem dX9_side_167 : decode cX9_side 167 = .ok (.ireturn, 1) := by decide +kernel
theorem dX9_logMany_0 : decode cX9_logMany 0 = .ok (.bipush 40, 2) := by decide +kernel
theorem dX9_logMany_2 : decode cX9_logMany 2 = .ok (.aload_n 0, 1) := by decide +kernel
theorem dX9_logMany_3 : decode cX9_logMany 3 = .ok (.getfield 17, 3) := by decide +kernel
theorem dX9_logMany_6 : decode cX9_logMany 6 = .ok (.bipush 8, 2) := by decide +kernel
theorem dX9_logMany_8 : decode cX9_logMany 8 = .ok (.iaload, 1) := by decide +kernel
theorem dX9_logMany_9 : decode cX9_logMany 9 = .ok (.invokestatic 99, 3) := by decide +kernel
theorem dX9_logMany_12 : decode cX9_logMany 12 = .ok (.ireturn, 1) := by decide +kernel
theorem dX9_ofLog_0 : decode cX9_ofLog 0 = .ok (.aload_n 0, 1) := by decide +kernel
theorem dX9_ofLog_1 : decode cX9_ofLog 1 = .ok (.getfield 17, 3) := by decide +kernel
theorem dX9_ofLog_4 : decode cX9_ofLog 4 = .ok (.bipush 71, 2) := by decide +kernel
theorem dX9_ofLog_6 : decode cX9_ofLog 6 = .ok (.bipush 6, 2) := by decide +kernel
theorem dX9_ofLog_8 : decode cX9_ofLog 8 = .ok (.iload_n 1, 1) := by decide +kernel
theorem dX9_ofLog_9 : decode cX9_ofLog 9 = .ok (.imul, 1) := by decide +kernel
theorem dX9_ofLog_10 : decode cX9_ofLog 10 = .ok (.iadd, 1) := by decide +kernel
theorem dX9_ofLog_11 : decode cX9_ofLog 11 = .ok (.iload_n 2, 1) := by decide +kernel
theorem dX9_ofLog_12 : decode cX9_ofLog 12 = .ok (.iadd, 1) := by decide +kernel
theorem dX9_ofLog_13 : decode cX9_ofLog 13 = .ok (.iaload, 1) := by decide +kernel
theorem dX9_ofLog_14 : decode cX9_ofLog 14 = .ok (.ireturn, 1) := by decide +kernel
theorem dX9_logged_0 : decode cX9_logged 0 = .ok (.aload_n 0, 1) := by decide +kernel
theorem dX9_logged_1 : decode cX9_logged 1 = .ok (.iload_n 1, 1) := by decide +kernel
theorem dX9_logged_2 : decode cX9_logged 2 = .ok (.i2l, 1) := by decide +kernel
theorem dX9_logged_3 : decode cX9_logged 3 = .ok (.lconst 0, 1) := by decide +kernel
theorem dX9_logged_4 : decode cX9_logged 4 = .ok (.aload_n 0, 1) := by decide +kernel
theorem dX9_logged_5 : decode cX9_logged 5 = .ok (.invokevirtual 324, 3) := by decide +kernel
theorem dX9_logged_8 : decode cX9_logged 8 = .ok (.iconst 1, 1) := by decide +kernel
theorem dX9_logged_9 : decode cX9_logged 9 = .ok (.isub, 1) := by decide +kernel
theorem dX9_logged_10 : decode cX9_logged 10 = .ok (.i2l, 1) := by decide +kernel
theorem dX9_logged_11 : decode cX9_logged 11 = .ok (.invokestatic 64, 3) := by decide +kernel
theorem dX9_logged_14 : decode cX9_logged 14 = .ok (.iload_n 2, 1) := by decide +kernel
theorem dX9_logged_15 : decode cX9_logged 15 = .ok (.i2l, 1) := by decide +kernel
theorem dX9_logged_16 : decode cX9_logged 16 = .ok (.lconst 0, 1) := by decide +kernel
theorem dX9_logged_17 : decode cX9_logged 17 = .ok (.ldc2_w 327, 3) := by decide +kernel
theorem dX9_logged_20 : decode cX9_logged 20 = .ok (.invokestatic 64, 3) := by decide +kernel
theorem dX9_logged_23 : decode cX9_logged 23 = .ok (.invokevirtual 314, 3) := by decide +kernel
theorem dX9_logged_26 : decode cX9_logged 26 = .ok (.ifCond .eq 12, 3) := by decide +kernel
theorem dX9_logged_29 : decode cX9_logged 29 = .ok (.aload_n 0, 1) := by decide +kernel
theorem dX9_logged_30 : decode cX9_logged 30 = .ok (.iload_n 1, 1) := by decide +kernel
theorem dX9_logged_31 : decode cX9_logged 31 = .ok (.iload_n 2, 1) := by decide +kernel
theorem dX9_logged_32 : decode cX9_logged 32 = .ok (.invokevirtual 329, 3) := by decide +kernel
theorem dX9_logged_35 : decode cX9_logged 35 = .ok (.goto 4, 3) := by decide +kernel
theorem dX9_logged_38 : decode cX9_logged 38 = .ok (.iconst 0, 1) := by decide +kernel
theorem dX9_logged_39 : decode cX9_logged 39 = .ok (.ireturn, 1) := by decide +kernel
theorem dX9_flagIn_0 : decode cX9_flagIn 0 = .ok (.aload_n 0, 1) := by decide +kernel
theorem dX9_flagIn_1 : decode cX9_flagIn 1 = .ok (.iload_n 1, 1) := by decide +kernel
theorem dX9_flagIn_2 : decode cX9_flagIn 2 = .ok (.invokestatic 318, 3) := by decide +kernel
theorem dX9_flagIn_5 : decode cX9_flagIn 5 = .ok (.invokevirtual 159, 3) := by decide +kernel
theorem dX9_flagIn_8 : decode cX9_flagIn 8 = .ok (.ifCond .ne 5, 3) := by decide +kernel
theorem dX9_flagIn_11 : decode cX9_flagIn 11 = .ok (.iconst 0, 1) := by decide +kernel
theorem dX9_flagIn_12 : decode cX9_flagIn 12 = .ok (.ireturn, 1) := by decide +kernel
theorem dX9_flagIn_13 : decode cX9_flagIn 13 = .ok (.aload_n 0, 1) := by decide +kernel
theorem dX9_flagIn_14 : decode cX9_flagIn 14 = .ok (.iload_n 1, 1) := by decide +kernel
theorem dX9_flagIn_15 : decode cX9_flagIn 15 = .ok (.invokevirtual 96, 3) := by decide +kernel
theorem dX9_flagIn_18 : decode cX9_flagIn 18 = .ok (.ifCond .eq 7, 3) := by decide +kernel
theorem dX9_flagIn_21 : decode cX9_flagIn 21 = .ok (.iconst 0, 1) := by decide +kernel
theorem dX9_flagIn_22 : decode cX9_flagIn 22 = .ok (.goto 8, 3) := by decide +kernel
theorem dX9_flagIn_25 : decode cX9_flagIn 25 = .ok (.aload_n 0, 1) := by decide +kernel
theorem dX9_flagIn_26 : decode cX9_flagIn 26 = .ok (.iload_n 1, 1) := by decide +kernel
theorem dX9_flagIn_27 : decode cX9_flagIn 27 = .ok (.invokevirtual 332, 3) := by decide +kernel
theorem dX9_flagIn_30 : decode cX9_flagIn 30 = .ok (.ireturn, 1) := by decide +kernel
theorem dX9_delayLeft_0 : decode cX9_delayLeft 0 = .ok (.aload_n 0, 1) := by decide +kernel
theorem dX9_delayLeft_1 : decode cX9_delayLeft 1 = .ok (.iload_n 1, 1) := by decide +kernel
theorem dX9_delayLeft_2 : decode cX9_delayLeft 2 = .ok (.invokestatic 318, 3) := by decide +kernel
theorem dX9_delayLeft_5 : decode cX9_delayLeft 5 = .ok (.invokevirtual 159, 3) := by decide +kernel
theorem dX9_delayLeft_8 : decode cX9_delayLeft 8 = .ok (.ifCond .eq 11, 3) := by decide +kernel
theorem dX9_delayLeft_11 : decode cX9_delayLeft 11 = .ok (.aload_n 0, 1) := by decide +kernel
theorem dX9_delayLeft_12 : decode cX9_delayLeft 12 = .ok (.iload_n 1, 1) := by decide +kernel
theorem dX9_delayLeft_13 : decode cX9_delayLeft 13 = .ok (.invokevirtual 117, 3) := by decide +kernel
theorem dX9_delayLeft_16 : decode cX9_delayLeft 16 = .ok (.goto 4, 3) := by decide +kernel
theorem dX9_delayLeft_19 : decode cX9_delayLeft 19 = .ok (.iconst 0, 1) := by decide +kernel
theorem dX9_delayLeft_20 : decode cX9_delayLeft 20 = .ok (.ireturn, 1) := by decide +kernel
theorem dX9_secondsOf_0 : decode cX9_secondsOf 0 = .ok (.aload_n 0, 1) := by decide +kernel
theorem dX9_secondsOf_1 : decode cX9_secondsOf 1 = .ok (.iload_n 1, 1) := by decide +kernel
theorem dX9_secondsOf_2 : decode cX9_secondsOf 2 = .ok (.iconst 0, 1) := by decide +kernel
theorem dX9_secondsOf_3 : decode cX9_secondsOf 3 = .ok (.invokevirtual 57, 3) := by decide +kernel
theorem dX9_secondsOf_6 : decode cX9_secondsOf 6 = .ok (.bipush 9, 2) := by decide +kernel
theorem dX9_secondsOf_8 : decode cX9_secondsOf 8 = .ok (.iadd, 1) := by decide +kernel
theorem dX9_secondsOf_9 : decode cX9_secondsOf 9 = .ok (.bipush 10, 2) := by decide +kernel
theorem dX9_secondsOf_11 : decode cX9_secondsOf 11 = .ok (.idiv, 1) := by decide +kernel
theorem dX9_secondsOf_12 : decode cX9_secondsOf 12 = .ok (.ireturn, 1) := by decide +kernel
theorem dX9_shown_0 : decode cX9_shown 0 = .ok (.aload_n 0, 1) := by decide +kernel
theorem dX9_shown_1 : decode cX9_shown 1 = .ok (.iload_n 1, 1) := by decide +kernel
theorem dX9_shown_2 : decode cX9_shown 2 = .ok (.invokestatic 318, 3) := by decide +kernel
theorem dX9_shown_5 : decode cX9_shown 5 = .ok (.invokevirtual 159, 3) := by decide +kernel
theorem dX9_shown_8 : decode cX9_shown 8 = .ok (.ifCond .ne 5, 3) := by decide +kernel
theorem dX9_shown_11 : decode cX9_shown 11 = .ok (.iconst 0, 1) := by decide +kernel
theorem dX9_shown_12 : decode cX9_shown 12 = .ok (.ireturn, 1) := by decide +kernel
theorem dX9_shown_13 : decode cX9_shown 13 = .ok (.aload_n 0, 1) := by decide +kernel
theorem dX9_shown_14 : decode cX9_shown 14 = .ok (.iload_n 1, 1) := by decide +kernel
theorem dX9_shown_15 : decode cX9_shown 15 = .ok (.invokevirtual 335, 3) := by decide +kernel
theorem dX9_shown_18 : decode cX9_shown 18 = .ok (.istore_n 2, 1) := by decide +kernel
theorem dX9_shown_19 : decode cX9_shown 19 = .ok (.sipush 10000, 3) := by decide +kernel
theorem dX9_shown_22 : decode cX9_shown 22 = .ok (.iload_n 2, 1) := by decide +kernel
theorem dX9_shown_23 : decode cX9_shown 23 = .ok (.sipush 3600, 3) := by decide +kernel
theorem dX9_shown_26 : decode cX9_shown 26 = .ok (.idiv, 1) := by decide +kernel
theorem dX9_shown_27 : decode cX9_shown 27 = .ok (.imul, 1) := by decide +kernel
theorem dX9_shown_28 : decode cX9_shown 28 = .ok (.bipush 100, 2) := by decide +kernel
theorem dX9_shown_30 : decode cX9_shown 30 = .ok (.iload_n 2, 1) := by decide +kernel
theorem dX9_shown_31 : decode cX9_shown 31 = .ok (.bipush 60, 2) := by decide +kernel
theorem dX9_shown_33 : decode cX9_shown 33 = .ok (.idiv, 1) := by decide +kernel
theorem dX9_shown_34 : decode cX9_shown 34 = .ok (.bipush 60, 2) := by decide +kernel
theorem dX9_shown_36 : decode cX9_shown 36 = .ok (.irem, 1) := by decide +kernel
theorem dX9_shown_37 : decode cX9_shown 37 = .ok (.imul, 1) := by decide +kernel
theorem dX9_shown_38 : decode cX9_shown 38 = .ok (.iadd, 1) := by decide +kernel
theorem dX9_shown_39 : decode cX9_shown 39 = .ok (.iload_n 2, 1) := by decide +kernel
theorem dX9_shown_40 : decode cX9_shown 40 = .ok (.bipush 60, 2) := by decide +kernel
theorem dX9_shown_42 : decode cX9_shown 42 = .ok (.irem, 1) := by decide +kernel
theorem dX9_shown_43 : decode cX9_shown 43 = .ok (.iadd, 1) := by decide +kernel
theorem dX9_shown_44 : decode cX9_shown 44 = .ok (.ireturn, 1) := by decide +kernel
theorem dX9_pace_0 : decode cX9_pace 0 = .ok (.aload_n 0, 1) := by decide +kernel
theorem dX9_pace_1 : decode cX9_pace 1 = .ok (.iload_n 1, 1) := by decide +kernel
theorem dX9_pace_2 : decode cX9_pace 2 = .ok (.invokestatic 318, 3) := by decide +kernel
theorem dX9_pace_5 : decode cX9_pace 5 = .ok (.invokevirtual 159, 3) := by decide +kernel
theorem dX9_pace_8 : decode cX9_pace 8 = .ok (.ifCond .ne 5, 3) := by decide +kernel
theorem dX9_pace_11 : decode cX9_pace 11 = .ok (.iconst 0, 1) := by decide +kernel
theorem dX9_pace_12 : decode cX9_pace 12 = .ok (.ireturn, 1) := by decide +kernel
theorem dX9_pace_13 : decode cX9_pace 13 = .ok (.aload_n 0, 1) := by decide +kernel
theorem dX9_pace_14 : decode cX9_pace 14 = .ok (.iload_n 1, 1) := by decide +kernel
theorem dX9_pace_15 : decode cX9_pace 15 = .ok (.invokevirtual 321, 3) := by decide +kernel
theorem dX9_pace_18 : decode cX9_pace 18 = .ok (.iconst (-1), 1) := by decide +kernel
theorem dX9_pace_19 : decode cX9_pace 19 = .ok (.if_icmp .ne 7, 3) := by decide +kernel
theorem dX9_pace_22 : decode cX9_pace 22 = .ok (.iconst (-1), 1) := by decide +kernel
theorem dX9_pace_23 : decode cX9_pace 23 = .ok (.goto 13, 3) := by decide +kernel
theorem dX9_pace_26 : decode cX9_pace 26 = .ok (.aload_n 0, 1) := by decide +kernel
theorem dX9_pace_27 : decode cX9_pace 27 = .ok (.iload_n 1, 1) := by decide +kernel
theorem dX9_pace_28 : decode cX9_pace 28 = .ok (.aload_n 0, 1) := by decide +kernel
theorem dX9_pace_29 : decode cX9_pace 29 = .ok (.iload_n 1, 1) := by decide +kernel
theorem dX9_pace_30 : decode cX9_pace 30 = .ok (.invokevirtual 321, 3) := by decide +kernel
theorem dX9_pace_33 : decode cX9_pace 33 = .ok (.invokevirtual 338, 3) := by decide +kernel
theorem dX9_pace_36 : decode cX9_pace 36 = .ok (.ireturn, 1) := by decide +kernel
theorem dX9_areMoves_0 : decode cX9_areMoves 0 = .ok (.iload_n 0, 1) := by decide +kernel
theorem dX9_areMoves_1 : decode cX9_areMoves 1 = .ok (.i2l, 1) := by decide +kernel
theorem dX9_areMoves_2 : decode cX9_areMoves 2 = .ok (.lconst 1, 1) := by decide +kernel
theorem dX9_areMoves_3 : decode cX9_areMoves 3 = .ok (.ldc2_w 341, 3) := by decide +kernel
theorem dX9_areMoves_6 : decode cX9_areMoves 6 = .ok (.invokestatic 64, 3) := by decide +kernel
theorem dX9_areMoves_9 : decode cX9_areMoves 9 = .ok (.ireturn, 1) := by decide +kernel
theorem dX9_paceFor_0 : decode cX9_paceFor 0 = .ok (.aload_n 0, 1) := by decide +kernel
theorem dX9_paceFor_1 : decode cX9_paceFor 1 = .ok (.iload_n 1, 1) := by decide +kernel
theorem dX9_paceFor_2 : decode cX9_paceFor 2 = .ok (.invokestatic 318, 3) := by decide +kernel
theorem dX9_paceFor_5 : decode cX9_paceFor 5 = .ok (.iload_n 2, 1) := by decide +kernel
theorem dX9_paceFor_6 : decode cX9_paceFor 6 = .ok (.invokestatic 343, 3) := by decide +kernel
theorem dX9_paceFor_9 : decode cX9_paceFor 9 = .ok (.invokevirtual 314, 3) := by decide +kernel
theorem dX9_paceFor_12 : decode cX9_paceFor 12 = .ok (.ifCond .eq 12, 3) := by decide +kernel
theorem dX9_paceFor_15 : decode cX9_paceFor 15 = .ok (.aload_n 0, 1) := by decide +kernel
theorem dX9_paceFor_16 : decode cX9_paceFor 16 = .ok (.iload_n 1, 1) := by decide +kernel
theorem dX9_paceFor_17 : decode cX9_paceFor 17 = .ok (.iload_n 2, 1) := by decide +kernel
theorem dX9_paceFor_18 : decode cX9_paceFor 18 = .ok (.invokevirtual 338, 3) := by decide +kernel
theorem dX9_paceFor_21 : decode cX9_paceFor 21 = .ok (.goto 4, 3) := by decide +kernel
theorem dX9_paceFor_24 : decode cX9_paceFor 24 = .ok (.iconst 0, 1) := by decide +kernel
theorem dX9_paceFor_25 : decode cX9_paceFor 25 = .ok (.ireturn, 1) := by decide +kernel
theorem dX9_needs_0 : decode cX9_needs 0 = .ok (.aload_n 0, 1) := by decide +kernel
theorem dX9_needs_1 : decode cX9_needs 1 = .ok (.iload_n 1, 1) := by decide +kernel
theorem dX9_needs_2 : decode cX9_needs 2 = .ok (.invokestatic 318, 3) := by decide +kernel
theorem dX9_needs_5 : decode cX9_needs 5 = .ok (.iload_n 2, 1) := by decide +kernel
theorem dX9_needs_6 : decode cX9_needs 6 = .ok (.invokestatic 343, 3) := by decide +kernel
theorem dX9_needs_9 : decode cX9_needs 9 = .ok (.ifCond .eq 14, 3) := by decide +kernel
theorem dX9_needs_12 : decode cX9_needs 12 = .ok (.iload_n 3, 1) := by decide +kernel
theorem dX9_needs_13 : decode cX9_needs 13 = .ok (.invokestatic 346, 3) := by decide +kernel
theorem dX9_needs_16 : decode cX9_needs 16 = .ok (.ifCond .eq 7, 3) := by decide +kernel
theorem dX9_needs_19 : decode cX9_needs 19 = .ok (.iconst 1, 1) := by decide +kernel
theorem dX9_needs_20 : decode cX9_needs 20 = .ok (.goto 4, 3) := by decide +kernel
theorem dX9_needs_23 : decode cX9_needs 23 = .ok (.iconst 0, 1) := by decide +kernel
theorem dX9_needs_24 : decode cX9_needs 24 = .ok (.invokevirtual 314, 3) := by decide +kernel
theorem dX9_needs_27 : decode cX9_needs 27 = .ok (.ifCond .ne 5, 3) := by decide +kernel
theorem dX9_needs_30 : decode cX9_needs 30 = .ok (.iconst 0, 1) := by decide +kernel
theorem dX9_needs_31 : decode cX9_needs 31 = .ok (.ireturn, 1) := by decide +kernel
theorem dX9_needs_32 : decode cX9_needs 32 = .ok (.iconst 0, 1) := by decide +kernel
theorem dX9_needs_33 : decode cX9_needs 33 = .ok (.istore 4, 2) := by decide +kernel
theorem dX9_needs_35 : decode cX9_needs 35 = .ok (.iload 4, 2) := by decide +kernel
theorem dX9_needs_37 : decode cX9_needs 37 = .ok (.ldc 244, 2) := by decide +kernel
theorem dX9_needs_39 : decode cX9_needs 39 = .ok (.if_icmp .gt 25, 3) := by decide +kernel
theorem dX9_needs_42 : decode cX9_needs 42 = .ok (.aload_n 0, 1) := by decide +kernel
theorem dX9_needs_43 : decode cX9_needs 43 = .ok (.iload_n 1, 1) := by decide +kernel
theorem dX9_needs_44 : decode cX9_needs 44 = .ok (.iload_n 3, 1) := by decide +kernel
theorem dX9_needs_45 : decode cX9_needs 45 = .ok (.iload_n 2, 1) := by decide +kernel
theorem dX9_needs_46 : decode cX9_needs 46 = .ok (.iload 4, 2) := by decide +kernel
theorem dX9_needs_48 : decode cX9_needs 48 = .ok (.invokevirtual 139, 3) := by decide +kernel
theorem dX9_needs_51 : decode cX9_needs 51 = .ok (.iload_n 2, 1) := by decide +kernel
theorem dX9_needs_52 : decode cX9_needs 52 = .ok (.if_icmp .ne 6, 3) := by decide +kernel
theorem dX9_needs_55 : decode cX9_needs 55 = .ok (.iload 4, 2) := by decide +kernel
theorem dX9_needs_57 : decode cX9_needs 57 = .ok (.ireturn, 1) := by decide +kernel
theorem dX9_needs_58 : decode cX9_needs 58 = .ok (.iinc 4 1, 3) := by decide +kernel
theorem dX9_needs_61 : decode cX9_needs 61 = .ok (.goto (-26), 3) := by decide +kernel
theorem dX9_needs_64 : decode cX9_needs 64 = .ok (.iconst (-1), 1) := by decide +kernel
theorem dX9_needs_65 : decode cX9_needs 65 = .ok (.ireturn, 1) := by decide +kernel
theorem dX9_isPace_0 : decode cX9_isPace 0 = .ok (.iload_n 0, 1) := by decide +kernel
theorem dX9_isPace_1 : decode cX9_isPace 1 = .ok (.i2l, 1) := by decide +kernel
theorem dX9_isPace_2 : decode cX9_isPace 2 = .ok (.lconst 1, 1) := by decide +kernel
theorem dX9_isPace_3 : decode cX9_isPace 3 = .ok (.ldc2_w 349, 3) := by decide +kernel
theorem dX9_isPace_6 : decode cX9_isPace 6 = .ok (.invokestatic 64, 3) := by decide +kernel
theorem dX9_isPace_9 : decode cX9_isPace 9 = .ok (.ireturn, 1) := by decide +kernel
theorem dX9_lasts_0 : decode cX9_lasts 0 = .ok (.aload_n 0, 1) := by decide +kernel
theorem dX9_lasts_1 : decode cX9_lasts 1 = .ok (.iload_n 1, 1) := by decide +kernel
theorem dX9_lasts_2 : decode cX9_lasts 2 = .ok (.invokestatic 318, 3) := by decide +kernel
theorem dX9_lasts_5 : decode cX9_lasts 5 = .ok (.iload_n 2, 1) := by decide +kernel
theorem dX9_lasts_6 : decode cX9_lasts 6 = .ok (.invokestatic 346, 3) := by decide +kernel
theorem dX9_lasts_9 : decode cX9_lasts 9 = .ok (.invokevirtual 314, 3) := by decide +kernel
theorem dX9_lasts_12 : decode cX9_lasts 12 = .ok (.ifCond .eq 16, 3) := by decide +kernel
theorem dX9_lasts_15 : decode cX9_lasts 15 = .ok (.aload_n 0, 1) := by decide +kernel
theorem dX9_lasts_16 : decode cX9_lasts 16 = .ok (.iload_n 1, 1) := by decide +kernel
theorem dX9_lasts_17 : decode cX9_lasts 17 = .ok (.iload_n 2, 1) := by decide +kernel
theorem dX9_lasts_18 : decode cX9_lasts 18 = .ok (.sipush 200, 3) := by decide +kernel
theorem dX9_lasts_21 : decode cX9_lasts 21 = .ok (.iconst 0, 1) := by decide +kernel
theorem dX9_lasts_22 : decode cX9_lasts 22 = .ok (.invokevirtual 139, 3) := by decide +kernel
theorem dX9_lasts_25 : decode cX9_lasts 25 = .ok (.goto 4, 3) := by decide +kernel
theorem dX9_lasts_28 : decode cX9_lasts 28 = .ok (.iconst 0, 1) := by decide +kernel
theorem dX9_lasts_29 : decode cX9_lasts 29 = .ok (.ireturn, 1) := by decide +kernel
theorem dX9_ahead_0 : decode cX9_ahead 0 = .ok (.aload_n 0, 1) := by decide +kernel
theorem dX9_ahead_1 : decode cX9_ahead 1 = .ok (.iconst 0, 1) := by decide +kernel
theorem dX9_ahead_2 : decode cX9_ahead 2 = .ok (.putfield 3, 3) := by decide +kernel
theorem dX9_ahead_5 : decode cX9_ahead 5 = .ok (.aload_n 0, 1) := by decide +kernel
theorem dX9_ahead_6 : decode cX9_ahead 6 = .ok (.iconst 0, 1) := by decide +kernel
theorem dX9_ahead_7 : decode cX9_ahead 7 = .ok (.iconst 0, 1) := by decide +kernel
theorem dX9_ahead_8 : decode cX9_ahead 8 = .ok (.invokevirtual 57, 3) := by decide +kernel
theorem dX9_ahead_11 : decode cX9_ahead 11 = .ok (.aload_n 0, 1) := by decide +kernel
theorem dX9_ahead_12 : decode cX9_ahead 12 = .ok (.iconst 1, 1) := by decide +kernel
theorem dX9_ahead_13 : decode cX9_ahead 13 = .ok (.iconst 0, 1) := by decide +kernel
theorem dX9_ahead_14 : decode cX9_ahead 14 = .ok (.invokevirtual 57, 3) := by decide +kernel
theorem dX9_ahead_17 : decode cX9_ahead 17 = .ok (.isub, 1) := by decide +kernel
theorem dX9_ahead_18 : decode cX9_ahead 18 = .ok (.ireturn, 1) := by decide +kernel
theorem dX9_longest_0 : decode cX9_longest 0 = .ok (.aload_n 0, 1) := by decide +kernel
theorem dX9_longest_1 : decode cX9_longest 1 = .ok (.iload_n 1, 1) := by decide +kernel
theorem dX9_longest_2 : decode cX9_longest 2 = .ok (.invokestatic 318, 3) := by decide +kernel
theorem dX9_longest_5 : decode cX9_longest 5 = .ok (.invokevirtual 159, 3) := by decide +kernel
theorem dX9_longest_8 : decode cX9_longest 8 = .ok (.ifCond .ne 5, 3) := by decide +kernel
theorem dX9_longest_11 : decode cX9_longest 11 = .ok (.iconst 0, 1) := by decide +kernel
theorem dX9_longest_12 : decode cX9_longest 12 = .ok (.ireturn, 1) := by decide +kernel
theorem dX9_longest_13 : decode cX9_longest 13 = .ok (.iconst 0, 1) := by decide +kernel
theorem dX9_longest_14 : decode cX9_longest 14 = .ok (.istore_n 2, 1) := by decide +kernel
theorem dX9_longest_15 : decode cX9_longest 15 = .ok (.iconst 0, 1) := by decide +kernel
theorem dX9_longest_16 : decode cX9_longest 16 = .ok (.istore_n 3, 1) := by decide +kernel
theorem dX9_longest_17 : decode cX9_longest 17 = .ok (.iload_n 3, 1) := by decide +kernel
theorem dX9_longest_18 : decode cX9_longest 18 = .ok (.aload_n 0, 1) := by decide +kernel
theorem dX9_longest_19 : decode cX9_longest 19 = .ok (.invokevirtual 324, 3) := by decide +kernel
theorem dX9_longest_22 : decode cX9_longest 22 = .ok (.if_icmp .ge 34, 3) := by decide +kernel
theorem dX9_longest_25 : decode cX9_longest 25 = .ok (.aload_n 0, 1) := by decide +kernel
theorem dX9_longest_26 : decode cX9_longest 26 = .ok (.iload_n 3, 1) := by decide +kernel
theorem dX9_longest_27 : decode cX9_longest 27 = .ok (.iconst 0, 1) := by decide +kernel
theorem dX9_longest_28 : decode cX9_longest 28 = .ok (.invokevirtual 329, 3) := by decide +kernel
theorem dX9_longest_31 : decode cX9_longest 31 = .ok (.iload_n 1, 1) := by decide +kernel
theorem dX9_longest_32 : decode cX9_longest 32 = .ok (.if_icmp .ne 16, 3) := by decide +kernel
theorem dX9_longest_35 : decode cX9_longest 35 = .ok (.iload_n 2, 1) := by decide +kernel
theorem dX9_longest_36 : decode cX9_longest 36 = .ok (.aload_n 0, 1) := by decide +kernel
theorem dX9_longest_37 : decode cX9_longest 37 = .ok (.iload_n 3, 1) := by decide +kernel
theorem dX9_longest_38 : decode cX9_longest 38 = .ok (.iconst 1, 1) := by decide +kernel
theorem dX9_longest_39 : decode cX9_longest 39 = .ok (.invokevirtual 329, 3) := by decide +kernel
theorem dX9_longest_42 : decode cX9_longest 42 = .ok (.invokestatic 114, 3) := by decide +kernel
theorem dX9_longest_45 : decode cX9_longest 45 = .ok (.goto 4, 3) := by decide +kernel
theorem dX9_longest_48 : decode cX9_longest 48 = .ok (.iload_n 2, 1) := by decide +kernel
theorem dX9_longest_49 : decode cX9_longest 49 = .ok (.istore_n 2, 1) := by decide +kernel
theorem dX9_longest_50 : decode cX9_longest 50 = .ok (.iinc 3 1, 3) := by decide +kernel
theorem dX9_longest_53 : decode cX9_longest 53 = .ok (.goto (-36), 3) := by decide +kernel
theorem dX9_longest_56 : decode cX9_longest 56 = .ok (.iload_n 2, 1) := by decide +kernel
theorem dX9_longest_57 : decode cX9_longest 57 = .ok (.ireturn, 1) := by decide +kernel
theorem dX9_sumOf_0 : decode cX9_sumOf 0 = .ok (.iconst 0, 1) := by decide +kernel
theorem dX9_sumOf_1 : decode cX9_sumOf 1 = .ok (.istore_n 3, 1) := by decide +kernel
theorem dX9_sumOf_2 : decode cX9_sumOf 2 = .ok (.iconst 0, 1) := by decide +kernel
theorem dX9_sumOf_3 : decode cX9_sumOf 3 = .ok (.istore 4, 2) := by decide +kernel
theorem dX9_sumOf_5 : decode cX9_sumOf 5 = .ok (.iload 4, 2) := by decide +kernel
theorem dX9_sumOf_7 : decode cX9_sumOf 7 = .ok (.aload_n 0, 1) := by decide +kernel
theorem dX9_sumOf_8 : decode cX9_sumOf 8 = .ok (.invokevirtual 324, 3) := by decide +kernel
theorem dX9_sumOf_11 : decode cX9_sumOf 11 = .ok (.if_icmp .ge 34, 3) := by decide +kernel
theorem dX9_sumOf_14 : decode cX9_sumOf 14 = .ok (.iload_n 3, 1) := by decide +kernel
theorem dX9_sumOf_15 : decode cX9_sumOf 15 = .ok (.aload_n 0, 1) := by decide +kernel
theorem dX9_sumOf_16 : decode cX9_sumOf 16 = .ok (.iload 4, 2) := by decide +kernel
theorem dX9_sumOf_18 : decode cX9_sumOf 18 = .ok (.iconst 0, 1) := by decide +kernel
theorem dX9_sumOf_19 : decode cX9_sumOf 19 = .ok (.invokevirtual 329, 3) := by decide +kernel
theorem dX9_sumOf_22 : decode cX9_sumOf 22 = .ok (.iload_n 1, 1) := by decide +kernel
theorem dX9_sumOf_23 : decode cX9_sumOf 23 = .ok (.if_icmp .ne 13, 3) := by decide +kernel
theorem dX9_sumOf_26 : decode cX9_sumOf 26 = .ok (.aload_n 0, 1) := by decide +kernel
theorem dX9_sumOf_27 : decode cX9_sumOf 27 = .ok (.iload 4, 2) := by decide +kernel
theorem dX9_sumOf_29 : decode cX9_sumOf 29 = .ok (.iload_n 2, 1) := by decide +kernel
theorem dX9_sumOf_30 : decode cX9_sumOf 30 = .ok (.invokevirtual 329, 3) := by decide +kernel
theorem dX9_sumOf_33 : decode cX9_sumOf 33 = .ok (.goto 4, 3) := by decide +kernel
theorem dX9_sumOf_36 : decode cX9_sumOf 36 = .ok (.iconst 0, 1) := by decide +kernel
theorem dX9_sumOf_37 : decode cX9_sumOf 37 = .ok (.iadd, 1) := by decide +kernel
theorem dX9_sumOf_38 : decode cX9_sumOf 38 = .ok (.istore_n 3, 1) := by decide +kernel
theorem dX9_sumOf_39 : decode cX9_sumOf 39 = .ok (.iinc 4 1, 3) := by decide +kernel
theorem dX9_sumOf_42 : decode cX9_sumOf 42 = .ok (.goto (-37), 3) := by decide +kernel
theorem dX9_sumOf_45 : decode cX9_sumOf 45 = .ok (.iload_n 3, 1) := by decide +kernel
theorem dX9_sumOf_46 : decode cX9_sumOf 46 = .ok (.ireturn, 1) := by decide +kernel
theorem dX9_meanThink_0 : decode cX9_meanThink 0 = .ok (.aload_n 0, 1) := by decide +kernel
theorem dX9_meanThink_1 : decode cX9_meanThink 1 = .ok (.iload_n 1, 1) := by decide +kernel
theorem dX9_meanThink_2 : decode cX9_meanThink 2 = .ok (.invokestatic 318, 3) := by decide +kernel
theorem dX9_meanThink_5 : decode cX9_meanThink 5 = .ok (.invokevirtual 159, 3) := by decide +kernel
theorem dX9_meanThink_8 : decode cX9_meanThink 8 = .ok (.ifCond .ne 5, 3) := by decide +kernel
theorem dX9_meanThink_11 : decode cX9_meanThink 11 = .ok (.dconst 0, 1) := by decide +kernel
theorem dX9_meanThink_12 : decode cX9_meanThink 12 = .ok (.dreturn, 1) := by decide +kernel
theorem dX9_meanThink_13 : decode cX9_meanThink 13 = .ok (.iconst 0, 1) := by decide +kernel
theorem dX9_meanThink_14 : decode cX9_meanThink 14 = .ok (.istore_n 2, 1) := by decide +kernel
theorem dX9_meanThink_15 : decode cX9_meanThink 15 = .ok (.iconst 0, 1) := by decide +kernel
theorem dX9_meanThink_16 : decode cX9_meanThink 16 = .ok (.istore_n 3, 1) := by decide +kernel
theorem dX9_meanThink_17 : decode cX9_meanThink 17 = .ok (.iload_n 3, 1) := by decide +kernel
theorem dX9_meanThink_18 : decode cX9_meanThink 18 = .ok (.aload_n 0, 1) := by decide +kernel
theorem dX9_meanThink_19 : decode cX9_meanThink 19 = .ok (.invokevirtual 324, 3) := by decide +kernel
theorem dX9_meanThink_22 : decode cX9_meanThink 22 = .ok (.if_icmp .ge 27, 3) := by decide +kernel
theorem dX9_meanThink_25 : decode cX9_meanThink 25 = .ok (.iload_n 2, 1) := by decide +kernel
theorem dX9_meanThink_26 : decode cX9_meanThink 26 = .ok (.aload_n 0, 1) := by decide +kernel
theorem dX9_meanThink_27 : decode cX9_meanThink 27 = .ok (.iload_n 3, 1) := by decide +kernel
theorem dX9_meanThink_28 : decode cX9_meanThink 28 = .ok (.iconst 0, 1) := by decide +kernel
theorem dX9_meanThink_29 : decode cX9_meanThink 29 = .ok (.invokevirtual 329, 3) := by decide +kernel
theorem dX9_meanThink_32 : decode cX9_meanThink 32 = .ok (.iload_n 1, 1) := by decide +kernel
theorem dX9_meanThink_33 : decode cX9_meanThink 33 = .ok (.if_icmp .ne 7, 3) := by decide +kernel
theorem dX9_meanThink_36 : decode cX9_meanThink 36 = .ok (.iconst 1, 1) := by decide +kernel
theorem dX9_meanThink_37 : decode cX9_meanThink 37 = .ok (.goto 4, 3) := by decide +kernel
theorem dX9_meanThink_40 : decode cX9_meanThink 40 = .ok (.iconst 0, 1) := by decide +kernel
theorem dX9_meanThink_41 : decode cX9_meanThink 41 = .ok (.iadd, 1) := by decide +kernel
theorem dX9_meanThink_42 : decode cX9_meanThink 42 = .ok (.istore_n 2, 1) := by decide +kernel
theorem dX9_meanThink_43 : decode cX9_meanThink 43 = .ok (.iinc 3 1, 3) := by decide +kernel
theorem dX9_meanThink_46 : decode cX9_meanThink 46 = .ok (.goto (-29), 3) := by decide +kernel
theorem dX9_meanThink_49 : decode cX9_meanThink 49 = .ok (.iload_n 2, 1) := by decide +kernel
theorem dX9_meanThink_50 : decode cX9_meanThink 50 = .ok (.ifCond .ne 7, 3) := by decide +kernel
theorem dX9_meanThink_53 : decode cX9_meanThink 53 = .ok (.dconst 0, 1) := by decide +kernel
theorem dX9_meanThink_54 : decode cX9_meanThink 54 = .ok (.goto 13, 3) := by decide +kernel
theorem dX9_meanThink_57 : decode cX9_meanThink 57 = .ok (.aload_n 0, 1) := by decide +kernel
theorem dX9_meanThink_58 : decode cX9_meanThink 58 = .ok (.iload_n 1, 1) := by decide +kernel
theorem dX9_meanThink_59 : decode cX9_meanThink 59 = .ok (.iconst 1, 1) := by decide +kernel
theorem dX9_meanThink_60 : decode cX9_meanThink 60 = .ok (.invokevirtual 351, 3) := by decide +kernel
theorem dX9_meanThink_63 : decode cX9_meanThink 63 = .ok (.i2d, 1) := by decide +kernel
theorem dX9_meanThink_64 : decode cX9_meanThink 64 = .ok (.iload_n 2, 1) := by decide +kernel
theorem dX9_meanThink_65 : decode cX9_meanThink 65 = .ok (.i2d, 1) := by decide +kernel
theorem dX9_meanThink_66 : decode cX9_meanThink 66 = .ok (.ddiv, 1) := by decide +kernel
theorem dX9_meanThink_67 : decode cX9_meanThink 67 = .ok (.dreturn, 1) := by decide +kernel
theorem dX9_share_0 : decode cX9_share 0 = .ok (.aload_n 0, 1) := by decide +kernel
theorem dX9_share_1 : decode cX9_share 1 = .ok (.iload_n 1, 1) := by decide +kernel
theorem dX9_share_2 : decode cX9_share 2 = .ok (.invokestatic 318, 3) := by decide +kernel
theorem dX9_share_5 : decode cX9_share 5 = .ok (.invokevirtual 159, 3) := by decide +kernel
theorem dX9_share_8 : decode cX9_share 8 = .ok (.ifCond .ne 5, 3) := by decide +kernel
theorem dX9_share_11 : decode cX9_share 11 = .ok (.fconst 0, 1) := by decide +kernel
theorem dX9_share_12 : decode cX9_share 12 = .ok (.freturn, 1) := by decide +kernel
theorem dX9_share_13 : decode cX9_share 13 = .ok (.aload_n 0, 1) := by decide +kernel
theorem dX9_share_14 : decode cX9_share 14 = .ok (.getfield 17, 3) := by decide +kernel
theorem dX9_share_17 : decode cX9_share 17 = .ok (.bipush 7, 2) := by decide +kernel
theorem dX9_share_19 : decode cX9_share 19 = .ok (.iaload, 1) := by decide +kernel
theorem dX9_share_20 : decode cX9_share 20 = .ok (.ifCond .ne 7, 3) := by decide +kernel
theorem dX9_share_23 : decode cX9_share 23 = .ok (.fconst 0, 1) := by decide +kernel
theorem dX9_share_24 : decode cX9_share 24 = .ok (.goto 20, 3) := by decide +kernel
theorem dX9_share_27 : decode cX9_share 27 = .ok (.aload_n 0, 1) := by decide +kernel
theorem dX9_share_28 : decode cX9_share 28 = .ok (.iload_n 1, 1) := by decide +kernel
theorem dX9_share_29 : decode cX9_share 29 = .ok (.bipush 10, 2) := by decide +kernel
theorem dX9_share_31 : decode cX9_share 31 = .ok (.invokevirtual 57, 3) := by decide +kernel
theorem dX9_share_34 : decode cX9_share 34 = .ok (.i2f, 1) := by decide +kernel
theorem dX9_share_35 : decode cX9_share 35 = .ok (.aload_n 0, 1) := by decide +kernel
theorem dX9_share_36 : decode cX9_share 36 = .ok (.getfield 17, 3) := by decide +kernel
theorem dX9_share_39 : decode cX9_share 39 = .ok (.bipush 7, 2) := by decide +kernel
theorem dX9_share_41 : decode cX9_share 41 = .ok (.iaload, 1) := by decide +kernel
theorem dX9_share_42 : decode cX9_share 42 = .ok (.i2f, 1) := by decide +kernel
theorem dX9_share_43 : decode cX9_share 43 = .ok (.fdiv, 1) := by decide +kernel
theorem dX9_share_44 : decode cX9_share 44 = .ok (.freturn, 1) := by decide +kernel
theorem dX9_spent_0 : decode cX9_spent 0 = .ok (.aload_n 0, 1) := by decide +kernel
theorem dX9_spent_1 : decode cX9_spent 1 = .ok (.iload_n 1, 1) := by decide +kernel
theorem dX9_spent_2 : decode cX9_spent 2 = .ok (.invokestatic 318, 3) := by decide +kernel
theorem dX9_spent_5 : decode cX9_spent 5 = .ok (.ifCond .eq 15, 3) := by decide +kernel
theorem dX9_spent_8 : decode cX9_spent 8 = .ok (.aload_n 0, 1) := by decide +kernel
theorem dX9_spent_9 : decode cX9_spent 9 = .ok (.iload_n 2, 1) := by decide +kernel
theorem dX9_spent_10 : decode cX9_spent 10 = .ok (.invokevirtual 309, 3) := by decide +kernel
theorem dX9_spent_13 : decode cX9_spent 13 = .ok (.ifCond .eq 7, 3) := by decide +kernel
theorem dX9_spent_16 : decode cX9_spent 16 = .ok (.iconst 1, 1) := by decide +kernel
theorem dX9_spent_17 : decode cX9_spent 17 = .ok (.goto 4, 3) := by decide +kernel
theorem dX9_spent_20 : decode cX9_spent 20 = .ok (.iconst 0, 1) := by decide +kernel
theorem dX9_spent_21 : decode cX9_spent 21 = .ok (.invokevirtual 159, 3) := by decide +kernel
theorem dX9_spent_24 : decode cX9_spent 24 = .ok (.ifCond .eq 15, 3) := by decide +kernel
theorem dX9_spent_27 : decode cX9_spent 27 = .ok (.aload_n 0, 1) := by decide +kernel
theorem dX9_spent_28 : decode cX9_spent 28 = .ok (.iload_n 1, 1) := by decide +kernel
theorem dX9_spent_29 : decode cX9_spent 29 = .ok (.bipush 12, 2) := by decide +kernel
theorem dX9_spent_31 : decode cX9_spent 31 = .ok (.iload_n 2, 1) := by decide +kernel
theorem dX9_spent_32 : decode cX9_spent 32 = .ok (.iadd, 1) := by decide +kernel
theorem dX9_spent_33 : decode cX9_spent 33 = .ok (.invokevirtual 57, 3) := by decide +kernel
theorem dX9_spent_36 : decode cX9_spent 36 = .ok (.goto 4, 3) := by decide +kernel
theorem dX9_spent_39 : decode cX9_spent 39 = .ok (.iconst 0, 1) := by decide +kernel
theorem dX9_spent_40 : decode cX9_spent 40 = .ok (.ireturn, 1) := by decide +kernel
theorem dX9_slowest_0 : decode cX9_slowest 0 = .ok (.aload_n 0, 1) := by decide +kernel
theorem dX9_slowest_1 : decode cX9_slowest 1 = .ok (.iconst 0, 1) := by decide +kernel
theorem dX9_slowest_2 : decode cX9_slowest 2 = .ok (.putfield 3, 3) := by decide +kernel
theorem dX9_slowest_5 : decode cX9_slowest 5 = .ok (.iconst (-1), 1) := by decide +kernel
theorem dX9_slowest_6 : decode cX9_slowest 6 = .ok (.istore_n 1, 1) := by decide +kernel
theorem dX9_slowest_7 : decode cX9_slowest 7 = .ok (.iconst 0, 1) := by decide +kernel
theorem dX9_slowest_8 : decode cX9_slowest 8 = .ok (.istore_n 2, 1) := by decide +kernel
theorem dX9_slowest_9 : decode cX9_slowest 9 = .ok (.iload_n 2, 1) := by decide +kernel
theorem dX9_slowest_10 : decode cX9_slowest 10 = .ok (.aload_n 0, 1) := by decide +kernel
theorem dX9_slowest_11 : decode cX9_slowest 11 = .ok (.invokevirtual 324, 3) := by decide +kernel
theorem dX9_slowest_14 : decode cX9_slowest 14 = .ok (.if_icmp .ge 35, 3) := by decide +kernel
theorem dX9_slowest_17 : decode cX9_slowest 17 = .ok (.iload_n 1, 1) := by decide +kernel
theorem dX9_slowest_18 : decode cX9_slowest 18 = .ok (.iconst (-1), 1) := by decide +kernel
theorem dX9_slowest_19 : decode cX9_slowest 19 = .ok (.if_icmp .eq 18, 3) := by decide +kernel
theorem dX9_slowest_22 : decode cX9_slowest 22 = .ok (.aload_n 0, 1) := by decide +kernel
theorem dX9_slowest_23 : decode cX9_slowest 23 = .ok (.iload_n 2, 1) := by decide +kernel
theorem dX9_slowest_24 : decode cX9_slowest 24 = .ok (.iconst 1, 1) := by decide +kernel
theorem dX9_slowest_25 : decode cX9_slowest 25 = .ok (.invokevirtual 329, 3) := by decide +kernel
theorem dX9_slowest_28 : decode cX9_slowest 28 = .ok (.aload_n 0, 1) := by decide +kernel
theorem dX9_slowest_29 : decode cX9_slowest 29 = .ok (.iload_n 1, 1) := by decide +kernel
theorem dX9_slowest_30 : decode cX9_slowest 30 = .ok (.iconst 1, 1) := by decide +kernel
theorem dX9_slowest_31 : decode cX9_slowest 31 = .ok (.invokevirtual 329, 3) := by decide +kernel
theorem dX9_slowest_34 : decode cX9_slowest 34 = .ok (.if_icmp .le 7, 3) := by decide +kernel
theorem dX9_slowest_37 : decode cX9_slowest 37 = .ok (.iload_n 2, 1) := by decide +kernel
theorem dX9_slowest_38 : decode cX9_slowest 38 = .ok (.goto 4, 3) := by decide +kernel
theorem dX9_slowest_41 : decode cX9_slowest 41 = .ok (.iload_n 1, 1) := by decide +kernel
theorem dX9_slowest_42 : decode cX9_slowest 42 = .ok (.istore_n 1, 1) := by decide +kernel
theorem dX9_slowest_43 : decode cX9_slowest 43 = .ok (.iinc 2 1, 3) := by decide +kernel
theorem dX9_slowest_46 : decode cX9_slowest 46 = .ok (.goto (-37), 3) := by decide +kernel
theorem dX9_slowest_49 : decode cX9_slowest 49 = .ok (.iload_n 1, 1) := by decide +kernel
theorem dX9_slowest_50 : decode cX9_slowest 50 = .ok (.ireturn, 1) := by decide +kernel
theorem dX9_within_0 : decode cX9_within 0 = .ok (.aload_n 0, 1) := by decide +kernel
theorem dX9_within_1 : decode cX9_within 1 = .ok (.iload_n 1, 1) := by decide +kernel
theorem dX9_within_2 : decode cX9_within 2 = .ok (.invokestatic 318, 3) := by decide +kernel
theorem dX9_within_5 : decode cX9_within 5 = .ok (.iload_n 2, 1) := by decide +kernel
theorem dX9_within_6 : decode cX9_within 6 = .ok (.i2l, 1) := by decide +kernel
theorem dX9_within_7 : decode cX9_within 7 = .ok (.lconst 0, 1) := by decide +kernel
theorem dX9_within_8 : decode cX9_within 8 = .ok (.ldc2_w 349, 3) := by decide +kernel
theorem dX9_within_11 : decode cX9_within 11 = .ok (.invokestatic 64, 3) := by decide +kernel
theorem dX9_within_14 : decode cX9_within 14 = .ok (.invokevirtual 314, 3) := by decide +kernel
theorem dX9_within_17 : decode cX9_within 17 = .ok (.ifCond .ne 5, 3) := by decide +kernel
theorem dX9_within_20 : decode cX9_within 20 = .ok (.iconst 0, 1) := by decide +kernel
theorem dX9_within_21 : decode cX9_within 21 = .ok (.ireturn, 1) := by decide +kernel
theorem dX9_within_22 : decode cX9_within 22 = .ok (.iconst 0, 1) := by decide +kernel
theorem dX9_within_23 : decode cX9_within 23 = .ok (.istore_n 3, 1) := by decide +kernel
theorem dX9_within_24 : decode cX9_within 24 = .ok (.iconst 0, 1) := by decide +kernel
theorem dX9_within_25 : decode cX9_within 25 = .ok (.istore 4, 2) := by decide +kernel
theorem dX9_within_27 : decode cX9_within 27 = .ok (.iload 4, 2) := by decide +kernel
theorem dX9_within_29 : decode cX9_within 29 = .ok (.aload_n 0, 1) := by decide +kernel
theorem dX9_within_30 : decode cX9_within 30 = .ok (.invokevirtual 324, 3) := by decide +kernel
theorem dX9_within_33 : decode cX9_within 33 = .ok (.if_icmp .ge 39, 3) := by decide +kernel
theorem dX9_within_36 : decode cX9_within 36 = .ok (.iload_n 3, 1) := by decide +kernel
theorem dX9_within_37 : decode cX9_within 37 = .ok (.aload_n 0, 1) := by decide +kernel
theorem dX9_within_38 : decode cX9_within 38 = .ok (.iload 4, 2) := by decide +kernel
theorem dX9_within_40 : decode cX9_within 40 = .ok (.iconst 0, 1) := by decide +kernel
theorem dX9_within_41 : decode cX9_within 41 = .ok (.invokevirtual 329, 3) := by decide +kernel
theorem dX9_within_44 : decode cX9_within 44 = .ok (.iload_n 1, 1) := by decide +kernel
theorem dX9_within_45 : decode cX9_within 45 = .ok (.if_icmp .ne 18, 3) := by decide +kernel
theorem dX9_within_48 : decode cX9_within 48 = .ok (.aload_n 0, 1) := by decide +kernel
theorem dX9_within_49 : decode cX9_within 49 = .ok (.iload 4, 2) := by decide +kernel
theorem dX9_within_51 : decode cX9_within 51 = .ok (.iconst 1, 1) := by decide +kernel
theorem dX9_within_52 : decode cX9_within 52 = .ok (.invokevirtual 329, 3) := by decide +kernel
theorem dX9_within_55 : decode cX9_within 55 = .ok (.iload_n 2, 1) := by decide +kernel
theorem dX9_within_56 : decode cX9_within 56 = .ok (.if_icmp .gt 7, 3) := by decide +kernel
theorem dX9_within_59 : decode cX9_within 59 = .ok (.iconst 1, 1) := by decide +kernel
theorem dX9_within_60 : decode cX9_within 60 = .ok (.goto 4, 3) := by decide +kernel
theorem dX9_within_63 : decode cX9_within 63 = .ok (.iconst 0, 1) := by decide +kernel
theorem dX9_within_64 : decode cX9_within 64 = .ok (.iadd, 1) := by decide +kernel
theorem dX9_within_65 : decode cX9_within 65 = .ok (.istore_n 3, 1) := by decide +kernel
theorem dX9_within_66 : decode cX9_within 66 = .ok (.iinc 4 1, 3) := by decide +kernel
theorem dX9_within_69 : decode cX9_within 69 = .ok (.goto (-42), 3) := by decide +kernel
theorem dX9_within_72 : decode cX9_within 72 = .ok (.iload_n 3, 1) := by decide +kernel
theorem dX9_within_73 : decode cX9_within 73 = .ok (.ireturn, 1) := by decide +kernel
theorem dX9_gained_0 : decode cX9_gained 0 = .ok (.aload_n 0, 1) := by decide +kernel
theorem dX9_gained_1 : decode cX9_gained 1 = .ok (.iload_n 1, 1) := by decide +kernel
theorem dX9_gained_2 : decode cX9_gained 2 = .ok (.invokestatic 318, 3) := by decide +kernel
theorem dX9_gained_5 : decode cX9_gained 5 = .ok (.invokevirtual 159, 3) := by decide +kernel
theorem dX9_gained_8 : decode cX9_gained 8 = .ok (.ifCond .eq 12, 3) := by decide +kernel
theorem dX9_gained_11 : decode cX9_gained 11 = .ok (.aload_n 0, 1) := by decide +kernel
theorem dX9_gained_12 : decode cX9_gained 12 = .ok (.iload_n 1, 1) := by decide +kernel
theorem dX9_gained_13 : decode cX9_gained 13 = .ok (.iconst 3, 1) := by decide +kernel
theorem dX9_gained_14 : decode cX9_gained 14 = .ok (.invokevirtual 351, 3) := by decide +kernel
theorem dX9_gained_17 : decode cX9_gained 17 = .ok (.goto 4, 3) := by decide +kernel
theorem dX9_gained_20 : decode cX9_gained 20 = .ok (.iconst 0, 1) := by decide +kernel
theorem dX9_gained_21 : decode cX9_gained 21 = .ok (.ireturn, 1) := by decide +kernel
theorem dX9_finished_0 : decode cX9_finished 0 = .ok (.aload_n 0, 1) := by decide +kernel
theorem dX9_finished_1 : decode cX9_finished 1 = .ok (.iload_n 1, 1) := by decide +kernel
theorem dX9_finished_2 : decode cX9_finished 2 = .ok (.invokestatic 318, 3) := by decide +kernel
theorem dX9_finished_5 : decode cX9_finished 5 = .ok (.invokevirtual 159, 3) := by decide +kernel
theorem dX9_finished_8 : decode cX9_finished 8 = .ok (.ifCond .eq 13, 3) := by decide +kernel
theorem dX9_finished_11 : decode cX9_finished 11 = .ok (.aload_n 0, 1) := by decide +kernel
theorem dX9_finished_12 : decode cX9_finished 12 = .ok (.iload_n 1, 1) := by decide +kernel
theorem dX9_finished_13 : decode cX9_finished 13 = .ok (.bipush 11, 2) := by decide +kernel
theorem dX9_finished_15 : decode cX9_finished 15 = .ok (.invokevirtual 57, 3) := by decide +kernel
theorem dX9_finished_18 : decode cX9_finished 18 = .ok (.goto 4, 3) := by decide +kernel
theorem dX9_finished_21 : decode cX9_finished 21 = .ok (.iconst 0, 1) := by decide +kernel
theorem dX9_finished_22 : decode cX9_finished 22 = .ok (.ireturn, 1) := by decide +kernel
theorem dX9_leftIn_0 : decode cX9_leftIn 0 = .ok (.aload_n 0, 1) := by decide +kernel
theorem dX9_leftIn_1 : decode cX9_leftIn 1 = .ok (.iload_n 1, 1) := by decide +kernel
theorem dX9_leftIn_2 : decode cX9_leftIn 2 = .ok (.invokestatic 318, 3) := by decide +kernel
theorem dX9_leftIn_5 : decode cX9_leftIn 5 = .ok (.iload_n 2, 1) := by decide +kernel
theorem dX9_leftIn_6 : decode cX9_leftIn 6 = .ok (.i2l, 1) := by decide +kernel
theorem dX9_leftIn_7 : decode cX9_leftIn 7 = .ok (.lconst 0, 1) := by decide +kernel
theorem dX9_leftIn_8 : decode cX9_leftIn 8 = .ok (.ldc2_w 349, 3) := by decide +kernel
theorem dX9_leftIn_11 : decode cX9_leftIn 11 = .ok (.invokestatic 64, 3) := by decide +kernel
theorem dX9_leftIn_14 : decode cX9_leftIn 14 = .ok (.invokevirtual 314, 3) := by decide +kernel
theorem dX9_leftIn_17 : decode cX9_leftIn 17 = .ok (.ifCond .ne 5, 3) := by decide +kernel
theorem dX9_leftIn_20 : decode cX9_leftIn 20 = .ok (.iconst 0, 1) := by decide +kernel
theorem dX9_leftIn_21 : decode cX9_leftIn 21 = .ok (.ireturn, 1) := by decide +kernel
theorem dX9_leftIn_22 : decode cX9_leftIn 22 = .ok (.aload_n 0, 1) := by decide +kernel
theorem dX9_leftIn_23 : decode cX9_leftIn 23 = .ok (.invokevirtual 354, 3) := by decide +kernel
theorem dX9_leftIn_26 : decode cX9_leftIn 26 = .ok (.aload_n 0, 1) := by decide +kernel
theorem dX9_leftIn_27 : decode cX9_leftIn 27 = .ok (.iload_n 2, 1) := by decide +kernel
theorem dX9_leftIn_28 : decode cX9_leftIn 28 = .ok (.invokevirtual 150, 3) := by decide +kernel
theorem dX9_leftIn_31 : decode cX9_leftIn 31 = .ok (.aload_n 0, 1) := by decide +kernel
theorem dX9_leftIn_32 : decode cX9_leftIn 32 = .ok (.aload_n 0, 1) := by decide +kernel
theorem dX9_leftIn_33 : decode cX9_leftIn 33 = .ok (.iload_n 1, 1) := by decide +kernel
theorem dX9_leftIn_34 : decode cX9_leftIn 34 = .ok (.iconst 0, 1) := by decide +kernel
theorem dX9_leftIn_35 : decode cX9_leftIn 35 = .ok (.invokevirtual 57, 3) := by decide +kernel
theorem dX9_leftIn_38 : decode cX9_leftIn 38 = .ok (.invokevirtual 357, 3) := by decide +kernel
theorem dX9_leftIn_41 : decode cX9_leftIn 41 = .ok (.ireturn, 1) := by decide +kernel
theorem dX9_overIn_0 : decode cX9_overIn 0 = .ok (.aload_n 0, 1) := by decide +kernel
theorem dX9_overIn_1 : decode cX9_overIn 1 = .ok (.iconst 0, 1) := by decide +kernel
theorem dX9_overIn_2 : decode cX9_overIn 2 = .ok (.putfield 3, 3) := by decide +kernel
theorem dX9_overIn_5 : decode cX9_overIn 5 = .ok (.aload_n 0, 1) := by decide +kernel
theorem dX9_overIn_6 : decode cX9_overIn 6 = .ok (.iconst 1, 1) := by decide +kernel
theorem dX9_overIn_7 : decode cX9_overIn 7 = .ok (.invokevirtual 76, 3) := by decide +kernel
theorem dX9_overIn_10 : decode cX9_overIn 10 = .ok (.ifCond .eq 28, 3) := by decide +kernel
theorem dX9_overIn_13 : decode cX9_overIn 13 = .ok (.aload_n 0, 1) := by decide +kernel
theorem dX9_overIn_14 : decode cX9_overIn 14 = .ok (.getfield 17, 3) := by decide +kernel
theorem dX9_overIn_17 : decode cX9_overIn 17 = .ok (.bipush 10, 2) := by decide +kernel
theorem dX9_overIn_19 : decode cX9_overIn 19 = .ok (.iaload, 1) := by decide +kernel
theorem dX9_overIn_20 : decode cX9_overIn 20 = .ok (.ifCond .ne 18, 3) := by decide +kernel
theorem dX9_overIn_23 : decode cX9_overIn 23 = .ok (.aload_n 0, 1) := by decide +kernel
theorem dX9_overIn_24 : decode cX9_overIn 24 = .ok (.aload_n 0, 1) := by decide +kernel
theorem dX9_overIn_25 : decode cX9_overIn 25 = .ok (.invokevirtual 80, 3) := by decide +kernel
theorem dX9_overIn_28 : decode cX9_overIn 28 = .ok (.invokevirtual 96, 3) := by decide +kernel
theorem dX9_overIn_31 : decode cX9_overIn 31 = .ok (.ifCond .ne 7, 3) := by decide +kernel
theorem dX9_overIn_34 : decode cX9_overIn 34 = .ok (.iconst 1, 1) := by decide +kernel
theorem dX9_overIn_35 : decode cX9_overIn 35 = .ok (.goto 4, 3) := by decide +kernel
theorem dX9_overIn_38 : decode cX9_overIn 38 = .ok (.iconst 0, 1) := by decide +kernel
theorem dX9_overIn_39 : decode cX9_overIn 39 = .ok (.istore_n 1, 1) := by decide +kernel
theorem dX9_overIn_40 : decode cX9_overIn 40 = .ok (.iload_n 1, 1) := by decide +kernel
theorem dX9_overIn_41 : decode cX9_overIn 41 = .ok (.ifCond .eq 14, 3) := by decide +kernel
theorem dX9_overIn_44 : decode cX9_overIn 44 = .ok (.aload_n 0, 1) := by decide +kernel
theorem dX9_overIn_45 : decode cX9_overIn 45 = .ok (.aload_n 0, 1) := by decide +kernel
theorem dX9_overIn_46 : decode cX9_overIn 46 = .ok (.invokevirtual 80, 3) := by decide +kernel
theorem dX9_overIn_49 : decode cX9_overIn 49 = .ok (.invokevirtual 332, 3) := by decide +kernel
theorem dX9_overIn_52 : decode cX9_overIn 52 = .ok (.goto 4, 3) := by decide +kernel
theorem dX9_overIn_55 : decode cX9_overIn 55 = .ok (.iconst (-1), 1) := by decide +kernel
theorem dX9_overIn_56 : decode cX9_overIn 56 = .ok (.ireturn, 1) := by decide +kernel
theorem dX9_canSeal_0 : decode cX9_canSeal 0 = .ok (.aload_n 0, 1) := by decide +kernel
theorem dX9_canSeal_1 : decode cX9_canSeal 1 = .ok (.iconst 0, 1) := by decide +kernel
theorem dX9_canSeal_2 : decode cX9_canSeal 2 = .ok (.putfield 3, 3) := by decide +kernel
theorem dX9_canSeal_5 : decode cX9_canSeal 5 = .ok (.aload_n 0, 1) := by decide +kernel
theorem dX9_canSeal_6 : decode cX9_canSeal 6 = .ok (.invokevirtual 360, 3) := by decide +kernel
theorem dX9_canSeal_9 : decode cX9_canSeal 9 = .ok (.ireturn, 1) := by decide +kernel
theorem dX9_sealIn_0 : decode cX9_sealIn 0 = .ok (.aload_n 0, 1) := by decide +kernel
theorem dX9_sealIn_1 : decode cX9_sealIn 1 = .ok (.iconst 0, 1) := by decide +kernel
theorem dX9_sealIn_2 : decode cX9_sealIn 2 = .ok (.putfield 3, 3) := by decide +kernel
theorem dX9_sealIn_5 : decode cX9_sealIn 5 = .ok (.aload_n 0, 1) := by decide +kernel
theorem dX9_sealIn_6 : decode cX9_sealIn 6 = .ok (.iconst 1, 1) := by decide +kernel
theorem dX9_sealIn_7 : decode cX9_sealIn 7 = .ok (.invokevirtual 76, 3) := by decide +kernel
theorem dX9_sealIn_10 : decode cX9_sealIn 10 = .ok (.ifCond .eq 13, 3) := by decide +kernel
theorem dX9_sealIn_13 : decode cX9_sealIn 13 = .ok (.aload_n 0, 1) := by decide +kernel
theorem dX9_sealIn_14 : decode cX9_sealIn 14 = .ok (.getfield 17, 3) := by decide +kernel
theorem dX9_sealIn_17 : decode cX9_sealIn 17 = .ok (.iconst 5, 1) := by decide +kernel
theorem dX9_sealIn_18 : decode cX9_sealIn 18 = .ok (.iaload, 1) := by decide +kernel
theorem dX9_sealIn_19 : decode cX9_sealIn 19 = .ok (.iconst (-1), 1) := by decide +kernel
theorem dX9_sealIn_20 : decode cX9_sealIn 20 = .ok (.if_icmp .ne 5, 3) := by decide +kernel
theorem dX9_sealIn_23 : decode cX9_sealIn 23 = .ok (.iconst (-1), 1) := by decide +kernel
theorem dX9_sealIn_24 : decode cX9_sealIn 24 = .ok (.ireturn, 1) := by decide +kernel
theorem dX9_sealIn_25 : decode cX9_sealIn 25 = .ok (.iconst 0, 1) := by decide +kernel
theorem dX9_sealIn_26 : decode cX9_sealIn 26 = .ok (.aload_n 0, 1) := by decide +kernel
theorem dX9_sealIn_27 : decode cX9_sealIn 27 = .ok (.getfield 17, 3) := by decide +kernel
theorem dX9_sealIn_30 : decode cX9_sealIn 30 = .ok (.iconst 5, 1) := by decide +kernel
theorem dX9_sealIn_31 : decode cX9_sealIn 31 = .ok (.iaload, 1) := by decide +kernel
theorem dX9_sealIn_32 : decode cX9_sealIn 32 = .ok (.aload_n 0, 1) := by decide +kernel
theorem dX9_sealIn_33 : decode cX9_sealIn 33 = .ok (.getfield 17, 3) := by decide +kernel
theorem dX9_sealIn_36 : decode cX9_sealIn 36 = .ok (.bipush 6, 2) := by decide +kernel
theorem dX9_sealIn_38 : decode cX9_sealIn 38 = .ok (.iaload, 1) := by decide +kernel
theorem dX9_sealIn_39 : decode cX9_sealIn 39 = .ok (.isub, 1) := by decide +kernel
theorem dX9_sealIn_40 : decode cX9_sealIn 40 = .ok (.invokestatic 114, 3) := by decide +kernel
theorem dX9_sealIn_43 : decode cX9_sealIn 43 = .ok (.ireturn, 1) := by decide +kernel
theorem dX9_arePaces_0 : decode cX9_arePaces 0 = .ok (.iload_n 0, 1) := by decide +kernel
theorem dX9_arePaces_1 : decode cX9_arePaces 1 = .ok (.invokestatic 346, 3) := by decide +kernel
theorem dX9_arePaces_4 : decode cX9_arePaces 4 = .ok (.ifCond .eq 14, 3) := by decide +kernel
theorem dX9_arePaces_7 : decode cX9_arePaces 7 = .ok (.iload_n 1, 1) := by decide +kernel
theorem dX9_arePaces_8 : decode cX9_arePaces 8 = .ok (.invokestatic 346, 3) := by decide +kernel
theorem dX9_arePaces_11 : decode cX9_arePaces 11 = .ok (.ifCond .eq 7, 3) := by decide +kernel
theorem dX9_arePaces_14 : decode cX9_arePaces 14 = .ok (.iconst 1, 1) := by decide +kernel
theorem dX9_arePaces_15 : decode cX9_arePaces 15 = .ok (.goto 4, 3) := by decide +kernel
theorem dX9_arePaces_18 : decode cX9_arePaces 18 = .ok (.iconst 0, 1) := by decide +kernel
theorem dX9_arePaces_19 : decode cX9_arePaces 19 = .ok (.ireturn, 1) := by decide +kernel
theorem dX9_ends_0 : decode cX9_ends 0 = .ok (.aload_n 0, 1) := by decide +kernel
theorem dX9_ends_1 : decode cX9_ends 1 = .ok (.iload_n 1, 1) := by decide +kernel
theorem dX9_ends_2 : decode cX9_ends 2 = .ok (.iload_n 2, 1) := by decide +kernel
theorem dX9_ends_3 : decode cX9_ends 3 = .ok (.invokestatic 363, 3) := by decide +kernel
theorem dX9_ends_6 : decode cX9_ends 6 = .ok (.invokevirtual 159, 3) := by decide +kernel
theorem dX9_ends_9 : decode cX9_ends 9 = .ok (.ifCond .ne 5, 3) := by decide +kernel
theorem dX9_ends_12 : decode cX9_ends 12 = .ok (.iconst 0, 1) := by decide +kernel
theorem dX9_ends_13 : decode cX9_ends 13 = .ok (.ireturn, 1) := by decide +kernel
theorem dX9_ends_14 : decode cX9_ends 14 = .ok (.aload_n 0, 1) := by decide +kernel
theorem dX9_ends_15 : decode cX9_ends 15 = .ok (.iconst 1, 1) := by decide +kernel
theorem dX9_ends_16 : decode cX9_ends 16 = .ok (.invokevirtual 76, 3) := by decide +kernel
theorem dX9_ends_19 : decode cX9_ends 19 = .ok (.ifCond .ne 5, 3) := by decide +kernel
theorem dX9_ends_22 : decode cX9_ends 22 = .ok (.iconst (-1), 1) := by decide +kernel
theorem dX9_ends_23 : decode cX9_ends 23 = .ok (.ireturn, 1) := by decide +kernel
theorem dX9_ends_24 : decode cX9_ends 24 = .ok (.aload_n 0, 1) := by decide +kernel
theorem dX9_ends_25 : decode cX9_ends 25 = .ok (.invokevirtual 354, 3) := by decide +kernel
theorem dX9_ends_28 : decode cX9_ends 28 = .ok (.aload_n 0, 1) := by decide +kernel
theorem dX9_ends_29 : decode cX9_ends 29 = .ok (.iload_n 1, 1) := by decide +kernel
theorem dX9_ends_30 : decode cX9_ends 30 = .ok (.iload_n 2, 1) := by decide +kernel
theorem dX9_ends_31 : decode cX9_ends 31 = .ok (.sipush 400, 3) := by decide +kernel
theorem dX9_ends_34 : decode cX9_ends 34 = .ok (.ldc_w 369, 3) := by decide +kernel
theorem dX9_ends_37 : decode cX9_ends 37 = .ok (.invokevirtual 370, 3) := by decide +kernel
theorem dX9_ends_40 : decode cX9_ends 40 = .ok (.aload_n 0, 1) := by decide +kernel
theorem dX9_ends_41 : decode cX9_ends 41 = .ok (.aload_n 0, 1) := by decide +kernel
theorem dX9_ends_42 : decode cX9_ends 42 = .ok (.getfield 24, 3) := by decide +kernel
theorem dX9_ends_45 : decode cX9_ends 45 = .ok (.bipush 11, 2) := by decide +kernel
theorem dX9_ends_47 : decode cX9_ends 47 = .ok (.iaload, 1) := by decide +kernel
theorem dX9_ends_48 : decode cX9_ends 48 = .ok (.invokevirtual 357, 3) := by decide +kernel
theorem dX9_ends_51 : decode cX9_ends 51 = .ok (.ireturn, 1) := by decide +kernel
theorem dX9_endsAfter_0 : decode cX9_endsAfter 0 = .ok (.aload_n 0, 1) := by decide +kernel
theorem dX9_endsAfter_1 : decode cX9_endsAfter 1 = .ok (.iload_n 1, 1) := by decide +kernel
theorem dX9_endsAfter_2 : decode cX9_endsAfter 2 = .ok (.iload_n 2, 1) := by decide +kernel
theorem dX9_endsAfter_3 : decode cX9_endsAfter 3 = .ok (.invokestatic 363, 3) := by decide +kernel
theorem dX9_endsAfter_6 : decode cX9_endsAfter 6 = .ok (.invokevirtual 159, 3) := by decide +kernel
theorem dX9_endsAfter_9 : decode cX9_endsAfter 9 = .ok (.ifCond .ne 5, 3) := by decide +kernel
theorem dX9_endsAfter_12 : decode cX9_endsAfter 12 = .ok (.iconst 0, 1) := by decide +kernel
theorem dX9_endsAfter_13 : decode cX9_endsAfter 13 = .ok (.ireturn, 1) := by decide +kernel
theorem dX9_endsAfter_14 : decode cX9_endsAfter 14 = .ok (.aload_n 0, 1) := by decide +kernel
theorem dX9_endsAfter_15 : decode cX9_endsAfter 15 = .ok (.iconst 1, 1) := by decide +kernel
theorem dX9_endsAfter_16 : decode cX9_endsAfter 16 = .ok (.invokevirtual 76, 3) := by decide +kernel
theorem dX9_endsAfter_19 : decode cX9_endsAfter 19 = .ok (.ifCond .ne 5, 3) := by decide +kernel
theorem dX9_endsAfter_22 : decode cX9_endsAfter 22 = .ok (.iconst (-1), 1) := by decide +kernel
theorem dX9_endsAfter_23 : decode cX9_endsAfter 23 = .ok (.ireturn, 1) := by decide +kernel
theorem dX9_endsAfter_24 : decode cX9_endsAfter 24 = .ok (.aload_n 0, 1) := by decide +kernel
theorem dX9_endsAfter_25 : decode cX9_endsAfter 25 = .ok (.invokevirtual 354, 3) := by decide +kernel
theorem dX9_endsAfter_28 : decode cX9_endsAfter 28 = .ok (.aload_n 0, 1) := by decide +kernel
theorem dX9_endsAfter_29 : decode cX9_endsAfter 29 = .ok (.iload_n 1, 1) := by decide +kernel
theorem dX9_endsAfter_30 : decode cX9_endsAfter 30 = .ok (.iload_n 2, 1) := by decide +kernel
theorem dX9_endsAfter_31 : decode cX9_endsAfter 31 = .ok (.sipush 400, 3) := by decide +kernel
theorem dX9_endsAfter_34 : decode cX9_endsAfter 34 = .ok (.ldc_w 369, 3) := by decide +kernel
theorem dX9_endsAfter_37 : decode cX9_endsAfter 37 = .ok (.invokevirtual 370, 3) := by decide +kernel
theorem dX9_endsAfter_40 : decode cX9_endsAfter 40 = .ok (.aload_n 0, 1) := by decide +kernel
theorem dX9_endsAfter_41 : decode cX9_endsAfter 41 = .ok (.aload_n 0, 1) := by decide +kernel
theorem dX9_endsAfter_42 : decode cX9_endsAfter 42 = .ok (.getfield 143, 3) := by decide +kernel
theorem dX9_endsAfter_45 : decode cX9_endsAfter 45 = .ok (.invokevirtual 357, 3) := by decide +kernel
theorem dX9_endsAfter_48 : decode cX9_endsAfter 48 = .ok (.ireturn, 1) := by decide +kernel
theorem dX9_movesIn_0 : decode cX9_movesIn 0 = .ok (.aload_n 0, 1) := by decide +kernel
theorem dX9_movesIn_1 : decode cX9_movesIn 1 = .ok (.iload_n 1, 1) := by decide +kernel
theorem dX9_movesIn_2 : decode cX9_movesIn 2 = .ok (.iload_n 2, 1) := by decide +kernel
theorem dX9_movesIn_3 : decode cX9_movesIn 3 = .ok (.invokestatic 363, 3) := by decide +kernel
theorem dX9_movesIn_6 : decode cX9_movesIn 6 = .ok (.ifCond .eq 19, 3) := by decide +kernel
theorem dX9_movesIn_9 : decode cX9_movesIn 9 = .ok (.iload_n 3, 1) := by decide +kernel
theorem dX9_movesIn_10 : decode cX9_movesIn 10 = .ok (.i2l, 1) := by decide +kernel
theorem dX9_movesIn_11 : decode cX9_movesIn 11 = .ok (.lconst 1, 1) := by decide +kernel
theorem dX9_movesIn_12 : decode cX9_movesIn 12 = .ok (.ldc2_w 349, 3) := by decide +kernel
theorem dX9_movesIn_15 : decode cX9_movesIn 15 = .ok (.invokestatic 64, 3) := by decide +kernel
theorem dX9_movesIn_18 : decode cX9_movesIn 18 = .ok (.ifCond .eq 7, 3) := by decide +kernel
theorem dX9_movesIn_21 : decode cX9_movesIn 21 = .ok (.iconst 1, 1) := by decide +kernel
theorem dX9_movesIn_22 : decode cX9_movesIn 22 = .ok (.goto 4, 3) := by decide +kernel
theorem dX9_movesIn_25 : decode cX9_movesIn 25 = .ok (.iconst 0, 1) := by decide +kernel
theorem dX9_movesIn_26 : decode cX9_movesIn 26 = .ok (.invokevirtual 159, 3) := by decide +kernel
theorem dX9_movesIn_29 : decode cX9_movesIn 29 = .ok (.ifCond .ne 5, 3) := by decide +kernel
theorem dX9_movesIn_32 : decode cX9_movesIn 32 = .ok (.iconst 0, 1) := by decide +kernel
theorem dX9_movesIn_33 : decode cX9_movesIn 33 = .ok (.ireturn, 1) := by decide +kernel
theorem dX9_movesIn_34 : decode cX9_movesIn 34 = .ok (.aload_n 0, 1) := by decide +kernel
theorem dX9_movesIn_35 : decode cX9_movesIn 35 = .ok (.iconst 1, 1) := by decide +kernel
theorem dX9_movesIn_36 : decode cX9_movesIn 36 = .ok (.invokevirtual 76, 3) := by decide +kernel
theorem dX9_movesIn_39 : decode cX9_movesIn 39 = .ok (.ifCond .ne 5, 3) := by decide +kernel
theorem dX9_movesIn_42 : decode cX9_movesIn 42 = .ok (.iconst (-1), 1) := by decide +kernel
theorem dX9_movesIn_43 : decode cX9_movesIn 43 = .ok (.ireturn, 1) := by decide +kernel
theorem dX9_movesIn_44 : decode cX9_movesIn 44 = .ok (.aload_n 0, 1) := by decide +kernel
theorem dX9_movesIn_45 : decode cX9_movesIn 45 = .ok (.invokevirtual 354, 3) := by decide +kernel
theorem dX9_movesIn_48 : decode cX9_movesIn 48 = .ok (.aload_n 0, 1) := by decide +kernel
theorem dX9_movesIn_49 : decode cX9_movesIn 49 = .ok (.iload_n 1, 1) := by decide +kernel
theorem dX9_movesIn_50 : decode cX9_movesIn 50 = .ok (.iload_n 2, 1) := by decide +kernel
theorem dX9_movesIn_51 : decode cX9_movesIn 51 = .ok (.ldc_w 369, 3) := by decide +kernel
theorem dX9_movesIn_54 : decode cX9_movesIn 54 = .ok (.iload_n 3, 1) := by decide +kernel
theorem dX9_movesIn_55 : decode cX9_movesIn 55 = .ok (.invokevirtual 370, 3) := by decide +kernel
theorem dX9_movesIn_58 : decode cX9_movesIn 58 = .ok (.aload_n 0, 1) := by decide +kernel
theorem dX9_movesIn_59 : decode cX9_movesIn 59 = .ok (.aload_n 0, 1) := by decide +kernel
theorem dX9_movesIn_60 : decode cX9_movesIn 60 = .ok (.getfield 143, 3) := by decide +kernel
theorem dX9_movesIn_63 : decode cX9_movesIn 63 = .ok (.invokevirtual 357, 3) := by decide +kernel
theorem dX9_movesIn_66 : decode cX9_movesIn 66 = .ok (.ireturn, 1) := by decide +kernel
theorem dX9_aheadAfter_0 : decode cX9_aheadAfter 0 = .ok (.aload_n 0, 1) := by decide +kernel
theorem dX9_aheadAfter_1 : decode cX9_aheadAfter 1 = .ok (.iload_n 1, 1) := by decide +kernel
theorem dX9_aheadAfter_2 : decode cX9_aheadAfter 2 = .ok (.iload_n 2, 1) := by decide +kernel
theorem dX9_aheadAfter_3 : decode cX9_aheadAfter 3 = .ok (.invokestatic 363, 3) := by decide +kernel
theorem dX9_aheadAfter_6 : decode cX9_aheadAfter 6 = .ok (.ifCond .eq 19, 3) := by decide +kernel
theorem dX9_aheadAfter_9 : decode cX9_aheadAfter 9 = .ok (.iload_n 3, 1) := by decide +kernel
theorem dX9_aheadAfter_10 : decode cX9_aheadAfter 10 = .ok (.i2l, 1) := by decide +kernel
theorem dX9_aheadAfter_11 : decode cX9_aheadAfter 11 = .ok (.lconst 0, 1) := by decide +kernel
theorem dX9_aheadAfter_12 : decode cX9_aheadAfter 12 = .ok (.ldc2_w 373, 3) := by decide +kernel
theorem dX9_aheadAfter_15 : decode cX9_aheadAfter 15 = .ok (.invokestatic 64, 3) := by decide +kernel
theorem dX9_aheadAfter_18 : decode cX9_aheadAfter 18 = .ok (.ifCond .eq 7, 3) := by decide +kernel
theorem dX9_aheadAfter_21 : decode cX9_aheadAfter 21 = .ok (.iconst 1, 1) := by decide +kernel
theorem dX9_aheadAfter_22 : decode cX9_aheadAfter 22 = .ok (.goto 4, 3) := by decide +kernel
theorem dX9_aheadAfter_25 : decode cX9_aheadAfter 25 = .ok (.iconst 0, 1) := by decide +kernel
theorem dX9_aheadAfter_26 : decode cX9_aheadAfter 26 = .ok (.invokevirtual 159, 3) := by decide +kernel
theorem dX9_aheadAfter_29 : decode cX9_aheadAfter 29 = .ok (.ifCond .ne 5, 3) := by decide +kernel
theorem dX9_aheadAfter_32 : decode cX9_aheadAfter 32 = .ok (.iconst 0, 1) := by decide +kernel
theorem dX9_aheadAfter_33 : decode cX9_aheadAfter 33 = .ok (.ireturn, 1) := by decide +kernel
theorem dX9_aheadAfter_34 : decode cX9_aheadAfter 34 = .ok (.aload_n 0, 1) := by decide +kernel
theorem dX9_aheadAfter_35 : decode cX9_aheadAfter 35 = .ok (.iconst 1, 1) := by decide +kernel
theorem dX9_aheadAfter_36 : decode cX9_aheadAfter 36 = .ok (.invokevirtual 76, 3) := by decide +kernel
theorem dX9_aheadAfter_39 : decode cX9_aheadAfter 39 = .ok (.ifCond .ne 5, 3) := by decide +kernel
theorem dX9_aheadAfter_42 : decode cX9_aheadAfter 42 = .ok (.iconst (-1), 1) := by decide +kernel
theorem dX9_aheadAfter_43 : decode cX9_aheadAfter 43 = .ok (.ireturn, 1) := by decide +kernel
theorem dX9_aheadAfter_44 : decode cX9_aheadAfter 44 = .ok (.aload_n 0, 1) := by decide +kernel
theorem dX9_aheadAfter_45 : decode cX9_aheadAfter 45 = .ok (.invokevirtual 354, 3) := by decide +kernel
theorem dX9_aheadAfter_48 : decode cX9_aheadAfter 48 = .ok (.aload_n 0, 1) := by decide +kernel
theorem dX9_aheadAfter_49 : decode cX9_aheadAfter 49 = .ok (.iload_n 1, 1) := by decide +kernel
theorem dX9_aheadAfter_50 : decode cX9_aheadAfter 50 = .ok (.iload_n 2, 1) := by decide +kernel
theorem dX9_aheadAfter_51 : decode cX9_aheadAfter 51 = .ok (.iload_n 3, 1) := by decide +kernel
theorem dX9_aheadAfter_52 : decode cX9_aheadAfter 52 = .ok (.ldc_w 369, 3) := by decide +kernel
theorem dX9_aheadAfter_55 : decode cX9_aheadAfter 55 = .ok (.invokevirtual 370, 3) := by decide +kernel
theorem dX9_aheadAfter_58 : decode cX9_aheadAfter 58 = .ok (.aload_n 0, 1) := by decide +kernel
theorem dX9_aheadAfter_59 : decode cX9_aheadAfter 59 = .ok (.aload_n 0, 1) := by decide +kernel
theorem dX9_aheadAfter_60 : decode cX9_aheadAfter 60 = .ok (.iconst 0, 1) := by decide +kernel
theorem dX9_aheadAfter_61 : decode cX9_aheadAfter 61 = .ok (.iconst 0, 1) := by decide +kernel
theorem dX9_aheadAfter_62 : decode cX9_aheadAfter 62 = .ok (.invokevirtual 57, 3) := by decide +kernel
theorem dX9_aheadAfter_65 : decode cX9_aheadAfter 65 = .ok (.aload_n 0, 1) := by decide +kernel
theorem dX9_aheadAfter_66 : decode cX9_aheadAfter 66 = .ok (.iconst 1, 1) := by decide +kernel
theorem dX9_aheadAfter_67 : decode cX9_aheadAfter 67 = .ok (.iconst 0, 1) := by decide +kernel
theorem dX9_aheadAfter_68 : decode cX9_aheadAfter 68 = .ok (.invokevirtual 57, 3) := by decide +kernel
theorem dX9_aheadAfter_71 : decode cX9_aheadAfter 71 = .ok (.isub, 1) := by decide +kernel
theorem dX9_aheadAfter_72 : decode cX9_aheadAfter 72 = .ok (.invokevirtual 357, 3) := by decide +kernel
theorem dX9_aheadAfter_75 : decode cX9_aheadAfter 75 = .ok (.ireturn, 1) := by decide +kernel
theorem dX9_becomes_0 : decode cX9_becomes 0 = .ok (.aload_n 0, 1) := by decide +kernel
theorem dX9_becomes_1 : decode cX9_becomes 1 = .ok (.invokevirtual 304, 3) := by decide +kernel
theorem dX9_becomes_4 : decode cX9_becomes 4 = .ok (.aload_n 0, 1) := by decide +kernel
theorem dX9_becomes_5 : decode cX9_becomes 5 = .ok (.getfield 17, 3) := by decide +kernel
theorem dX9_becomes_8 : decode cX9_becomes 8 = .ok (.iconst 0, 1) := by decide +kernel
theorem dX9_becomes_9 : decode cX9_becomes 9 = .ok (.iload_n 1, 1) := by decide +kernel
theorem dX9_becomes_10 : decode cX9_becomes 10 = .ok (.iastore, 1) := by decide +kernel
theorem dX9_becomes_11 : decode cX9_becomes 11 = .ok (.aload_n 0, 1) := by decide +kernel
theorem dX9_becomes_12 : decode cX9_becomes 12 = .ok (.invokevirtual 80, 3) := by decide +kernel
theorem dX9_becomes_15 : decode cX9_becomes 15 = .ok (.ireturn, 1) := by decide +kernel
theorem dX9_start_0 : decode cX9_start 0 = .ok (.aload_n 0, 1) := by decide +kernel
theorem dX9_start_1 : decode cX9_start 1 = .ok (.aload_n 0, 1) := by decide +kernel
theorem dX9_start_2 : decode cX9_start 2 = .ok (.iconst 0, 1) := by decide +kernel
theorem dX9_start_3 : decode cX9_start 3 = .ok (.invokevirtual 76, 3) := by decide +kernel
theorem dX9_start_6 : decode cX9_start 6 = .ok (.invokevirtual 159, 3) := by decide +kernel
theorem dX9_start_9 : decode cX9_start 9 = .ok (.ifCond .eq 11, 3) := by decide +kernel
theorem dX9_start_12 : decode cX9_start 12 = .ok (.aload_n 0, 1) := by decide +kernel
theorem dX9_start_13 : decode cX9_start 13 = .ok (.iconst 1, 1) := by decide +kernel
theorem dX9_start_14 : decode cX9_start 14 = .ok (.invokevirtual 375, 3) := by decide +kernel
theorem dX9_start_17 : decode cX9_start 17 = .ok (.goto 4, 3) := by decide +kernel
theorem dX9_start_20 : decode cX9_start 20 = .ok (.iconst 0, 1) := by decide +kernel
theorem dX9_start_21 : decode cX9_start 21 = .ok (.ireturn, 1) := by decide +kernel
theorem dX9_tick_0 : decode cX9_tick 0 = .ok (.aload_n 0, 1) := by decide +kernel
theorem dX9_tick_1 : decode cX9_tick 1 = .ok (.iload_n 1, 1) := by decide +kernel
theorem dX9_tick_2 : decode cX9_tick 2 = .ok (.i2l, 1) := by decide +kernel
theorem dX9_tick_3 : decode cX9_tick 3 = .ok (.lconst 1, 1) := by decide +kernel
theorem dX9_tick_4 : decode cX9_tick 4 = .ok (.ldc2_w 349, 3) := by decide +kernel
theorem dX9_tick_7 : decode cX9_tick 7 = .ok (.invokestatic 64, 3) := by decide +kernel
theorem dX9_tick_10 : decode cX9_tick 10 = .ok (.invokevirtual 159, 3) := by decide +kernel
theorem dX9_tick_13 : decode cX9_tick 13 = .ok (.ifCond .ne 5, 3) := by decide +kernel
theorem dX9_tick_16 : decode cX9_tick 16 = .ok (.iconst 0, 1) := by decide +kernel
theorem dX9_tick_17 : decode cX9_tick 17 = .ok (.ireturn, 1) := by decide +kernel
theorem dX9_tick_18 : decode cX9_tick 18 = .ok (.aload_n 0, 1) := by decide +kernel
theorem dX9_tick_19 : decode cX9_tick 19 = .ok (.invokevirtual 304, 3) := by decide +kernel
theorem dX9_tick_22 : decode cX9_tick 22 = .ok (.aload_n 0, 1) := by decide +kernel
theorem dX9_tick_23 : decode cX9_tick 23 = .ok (.iload_n 1, 1) := by decide +kernel
theorem dX9_tick_24 : decode cX9_tick 24 = .ok (.invokevirtual 150, 3) := by decide +kernel
theorem dX9_tick_27 : decode cX9_tick 27 = .ok (.aload_n 0, 1) := by decide +kernel
theorem dX9_tick_28 : decode cX9_tick 28 = .ok (.aload_n 0, 1) := by decide +kernel
theorem dX9_tick_29 : decode cX9_tick 29 = .ok (.invokevirtual 80, 3) := by decide +kernel
theorem dX9_tick_32 : decode cX9_tick 32 = .ok (.iconst 0, 1) := by decide +kernel
theorem dX9_tick_33 : decode cX9_tick 33 = .ok (.invokevirtual 57, 3) := by decide +kernel
theorem dX9_tick_36 : decode cX9_tick 36 = .ok (.ireturn, 1) := by decide +kernel
theorem dX9_move_0 : decode cX9_move 0 = .ok (.aload_n 0, 1) := by decide +kernel
theorem dX9_move_1 : decode cX9_move 1 = .ok (.aload_n 0, 1) := by decide +kernel
theorem dX9_move_2 : decode cX9_move 2 = .ok (.iconst 1, 1) := by decide +kernel
theorem dX9_move_3 : decode cX9_move 3 = .ok (.invokevirtual 76, 3) := by decide +kernel
theorem dX9_move_6 : decode cX9_move 6 = .ok (.invokevirtual 159, 3) := by decide +kernel
theorem dX9_move_9 : decode cX9_move 9 = .ok (.ifCond .ne 5, 3) := by decide +kernel
theorem dX9_move_12 : decode cX9_move 12 = .ok (.iconst 0, 1) := by decide +kernel
theorem dX9_move_13 : decode cX9_move 13 = .ok (.ireturn, 1) := by decide +kernel
theorem dX9_move_14 : decode cX9_move 14 = .ok (.aload_n 0, 1) := by decide +kernel
theorem dX9_move_15 : decode cX9_move 15 = .ok (.invokevirtual 304, 3) := by decide +kernel
theorem dX9_move_18 : decode cX9_move 18 = .ok (.aload_n 0, 1) := by decide +kernel
theorem dX9_move_19 : decode cX9_move 19 = .ok (.invokevirtual 153, 3) := by decide +kernel
theorem dX9_move_22 : decode cX9_move 22 = .ok (.ireturn, 1) := by decide +kernel
theorem dX9_pause_0 : decode cX9_pause 0 = .ok (.aload_n 0, 1) := by decide +kernel
theorem dX9_pause_1 : decode cX9_pause 1 = .ok (.aload_n 0, 1) := by decide +kernel
theorem dX9_pause_2 : decode cX9_pause 2 = .ok (.iconst 1, 1) := by decide +kernel
theorem dX9_pause_3 : decode cX9_pause 3 = .ok (.invokevirtual 76, 3) := by decide +kernel
theorem dX9_pause_6 : decode cX9_pause 6 = .ok (.invokevirtual 159, 3) := by decide +kernel
theorem dX9_pause_9 : decode cX9_pause 9 = .ok (.ifCond .eq 11, 3) := by decide +kernel
theorem dX9_pause_12 : decode cX9_pause 12 = .ok (.aload_n 0, 1) := by decide +kernel
theorem dX9_pause_13 : decode cX9_pause 13 = .ok (.iconst 2, 1) := by decide +kernel
theorem dX9_pause_14 : decode cX9_pause 14 = .ok (.invokevirtual 375, 3) := by decide +kernel
theorem dX9_pause_17 : decode cX9_pause 17 = .ok (.goto 4, 3) := by decide +kernel
theorem dX9_pause_20 : decode cX9_pause 20 = .ok (.iconst 0, 1) := by decide +kernel
theorem dX9_pause_21 : decode cX9_pause 21 = .ok (.ireturn, 1) := by decide +kernel
theorem dX9_proceed_0 : decode cX9_proceed 0 = .ok (.aload_n 0, 1) := by decide +kernel
theorem dX9_proceed_1 : decode cX9_proceed 1 = .ok (.aload_n 0, 1) := by decide +kernel
theorem dX9_proceed_2 : decode cX9_proceed 2 = .ok (.iconst 2, 1) := by decide +kernel
theorem dX9_proceed_3 : decode cX9_proceed 3 = .ok (.invokevirtual 76, 3) := by decide +kernel
theorem dX9_proceed_6 : decode cX9_proceed 6 = .ok (.invokevirtual 159, 3) := by decide +kernel
theorem dX9_proceed_9 : decode cX9_proceed 9 = .ok (.ifCond .eq 11, 3) := by decide +kernel
theorem dX9_proceed_12 : decode cX9_proceed 12 = .ok (.aload_n 0, 1) := by decide +kernel
theorem dX9_proceed_13 : decode cX9_proceed 13 = .ok (.iconst 1, 1) := by decide +kernel
theorem dX9_proceed_14 : decode cX9_proceed 14 = .ok (.invokevirtual 375, 3) := by decide +kernel
theorem dX9_proceed_17 : decode cX9_proceed 17 = .ok (.goto 4, 3) := by decide +kernel
theorem dX9_proceed_20 : decode cX9_proceed 20 = .ok (.iconst 0, 1) := by decide +kernel
theorem dX9_proceed_21 : decode cX9_proceed 21 = .ok (.ireturn, 1) := by decide +kernel
theorem dX9_seal_0 : decode cX9_seal 0 = .ok (.aload_n 0, 1) := by decide +kernel
theorem dX9_seal_1 : decode cX9_seal 1 = .ok (.aload_n 0, 1) := by decide +kernel
theorem dX9_seal_2 : decode cX9_seal 2 = .ok (.invokevirtual 360, 3) := by decide +kernel
theorem dX9_seal_5 : decode cX9_seal 5 = .ok (.invokevirtual 159, 3) := by decide +kernel
theorem dX9_seal_8 : decode cX9_seal 8 = .ok (.ifCond .eq 11, 3) := by decide +kernel
theorem dX9_seal_11 : decode cX9_seal 11 = .ok (.aload_n 0, 1) := by decide +kernel
theorem dX9_seal_12 : decode cX9_seal 12 = .ok (.iconst 3, 1) := by decide +kernel
theorem dX9_seal_13 : decode cX9_seal 13 = .ok (.invokevirtual 375, 3) := by decide +kernel
theorem dX9_seal_16 : decode cX9_seal 16 = .ok (.goto 4, 3) := by decide +kernel
theorem dX9_seal_19 : decode cX9_seal 19 = .ok (.iconst 0, 1) := by decide +kernel
theorem dX9_seal_20 : decode cX9_seal 20 = .ok (.ireturn, 1) := by decide +kernel
theorem dX9_open_0 : decode cX9_open 0 = .ok (.aload_n 0, 1) := by decide +kernel
theorem dX9_open_1 : decode cX9_open 1 = .ok (.aload_n 0, 1) := by decide +kernel
theorem dX9_open_2 : decode cX9_open 2 = .ok (.iconst 3, 1) := by decide +kernel
theorem dX9_open_3 : decode cX9_open 3 = .ok (.invokevirtual 76, 3) := by decide +kernel
theorem dX9_open_6 : decode cX9_open 6 = .ok (.invokevirtual 159, 3) := by decide +kernel
theorem dX9_open_9 : decode cX9_open 9 = .ok (.ifCond .ne 5, 3) := by decide +kernel
theorem dX9_open_12 : decode cX9_open 12 = .ok (.iconst 0, 1) := by decide +kernel
theorem dX9_open_13 : decode cX9_open 13 = .ok (.ireturn, 1) := by decide +kernel
theorem dX9_open_14 : decode cX9_open 14 = .ok (.aload_n 0, 1) := by decide +kernel
theorem dX9_open_15 : decode cX9_open 15 = .ok (.iconst 1, 1) := by decide +kernel
theorem dX9_open_16 : decode cX9_open 16 = .ok (.invokevirtual 375, 3) := by decide +kernel
theorem dX9_open_19 : decode cX9_open 19 = .ok (.istore_n 1, 1) := by decide +kernel
theorem dX9_open_20 : decode cX9_open 20 = .ok (.aload_n 0, 1) := by decide +kernel
theorem dX9_open_21 : decode cX9_open 21 = .ok (.getfield 17, 3) := by decide +kernel
theorem dX9_open_24 : decode cX9_open 24 = .ok (.bipush 6, 2) := by decide +kernel
theorem dX9_open_26 : decode cX9_open 26 = .ok (.iconst 0, 1) := by decide +kernel
theorem dX9_open_27 : decode cX9_open 27 = .ok (.iastore, 1) := by decide +kernel
theorem dX9_open_28 : decode cX9_open 28 = .ok (.aload_n 0, 1) := by decide +kernel
theorem dX9_open_29 : decode cX9_open 29 = .ok (.invokevirtual 153, 3) := by decide +kernel
theorem dX9_open_32 : decode cX9_open 32 = .ok (.ireturn, 1) := by decide +kernel
theorem dX9_swap_0 : decode cX9_swap 0 = .ok (.aload_n 0, 1) := by decide +kernel
theorem dX9_swap_1 : decode cX9_swap 1 = .ok (.aload_n 0, 1) := by decide +kernel
theorem dX9_swap_2 : decode cX9_swap 2 = .ok (.iconst 0, 1) := by decide +kernel
theorem dX9_swap_3 : decode cX9_swap 3 = .ok (.invokevirtual 76, 3) := by decide +kernel
theorem dX9_swap_6 : decode cX9_swap 6 = .ok (.ifCond .ne 11, 3) := by decide +kernel
theorem dX9_swap_9 : decode cX9_swap 9 = .ok (.aload_n 0, 1) := by decide +kernel
theorem dX9_swap_10 : decode cX9_swap 10 = .ok (.iconst 2, 1) := by decide +kernel
theorem dX9_swap_11 : decode cX9_swap 11 = .ok (.invokevirtual 76, 3) := by decide +kernel
theorem dX9_swap_14 : decode cX9_swap 14 = .ok (.ifCond .eq 7, 3) := by decide +kernel
theorem dX9_swap_17 : decode cX9_swap 17 = .ok (.iconst 1, 1) := by decide +kernel
theorem dX9_swap_18 : decode cX9_swap 18 = .ok (.goto 4, 3) := by decide +kernel
theorem dX9_swap_21 : decode cX9_swap 21 = .ok (.iconst 0, 1) := by decide +kernel
theorem dX9_swap_22 : decode cX9_swap 22 = .ok (.invokevirtual 159, 3) := by decide +kernel
theorem dX9_swap_25 : decode cX9_swap 25 = .ok (.ifCond .ne 5, 3) := by decide +kernel
theorem dX9_swap_28 : decode cX9_swap 28 = .ok (.iconst 0, 1) := by decide +kernel
theorem dX9_swap_29 : decode cX9_swap 29 = .ok (.ireturn, 1) := by decide +kernel
theorem dX9_swap_30 : decode cX9_swap 30 = .ok (.aload_n 0, 1) := by decide +kernel
theorem dX9_swap_31 : decode cX9_swap 31 = .ok (.invokevirtual 304, 3) := by decide +kernel
theorem dX9_swap_34 : decode cX9_swap 34 = .ok (.iconst 0, 1) := by decide +kernel
theorem dX9_swap_35 : decode cX9_swap 35 = .ok (.istore_n 1, 1) := by decide +kernel
theorem dX9_swap_36 : decode cX9_swap 36 = .ok (.iload_n 1, 1) := by decide +kernel
theorem dX9_swap_37 : decode cX9_swap 37 = .ok (.bipush 17, 2) := by decide +kernel
theorem dX9_swap_39 : decode cX9_swap 39 = .ok (.if_icmp .ge 35, 3) := by decide +kernel
theorem dX9_swap_42 : decode cX9_swap 42 = .ok (.aload_n 0, 1) := by decide +kernel
theorem dX9_swap_43 : decode cX9_swap 43 = .ok (.iconst 0, 1) := by decide +kernel
theorem dX9_swap_44 : decode cX9_swap 44 = .ok (.iload_n 1, 1) := by decide +kernel
theorem dX9_swap_45 : decode cX9_swap 45 = .ok (.invokevirtual 57, 3) := by decide +kernel
theorem dX9_swap_48 : decode cX9_swap 48 = .ok (.istore_n 2, 1) := by decide +kernel
theorem dX9_swap_49 : decode cX9_swap 49 = .ok (.aload_n 0, 1) := by decide +kernel
theorem dX9_swap_50 : decode cX9_swap 50 = .ok (.iconst 0, 1) := by decide +kernel
theorem dX9_swap_51 : decode cX9_swap 51 = .ok (.iload_n 1, 1) := by decide +kernel
theorem dX9_swap_52 : decode cX9_swap 52 = .ok (.aload_n 0, 1) := by decide +kernel
theorem dX9_swap_53 : decode cX9_swap 53 = .ok (.iconst 1, 1) := by decide +kernel
theorem dX9_swap_54 : decode cX9_swap 54 = .ok (.iload_n 1, 1) := by decide +kernel
theorem dX9_swap_55 : decode cX9_swap 55 = .ok (.invokevirtual 57, 3) := by decide +kernel
theorem dX9_swap_58 : decode cX9_swap 58 = .ok (.invokevirtual 53, 3) := by decide +kernel
theorem dX9_swap_61 : decode cX9_swap 61 = .ok (.aload_n 0, 1) := by decide +kernel
theorem dX9_swap_62 : decode cX9_swap 62 = .ok (.iconst 1, 1) := by decide +kernel
theorem dX9_swap_63 : decode cX9_swap 63 = .ok (.iload_n 1, 1) := by decide +kernel
theorem dX9_swap_64 : decode cX9_swap 64 = .ok (.iload_n 2, 1) := by decide +kernel
theorem dX9_swap_65 : decode cX9_swap 65 = .ok (.invokevirtual 53, 3) := by decide +kernel
theorem dX9_swap_68 : decode cX9_swap 68 = .ok (.iinc 1 1, 3) := by decide +kernel
theorem dX9_swap_71 : decode cX9_swap 71 = .ok (.goto (-35), 3) := by decide +kernel
theorem dX9_swap_74 : decode cX9_swap 74 = .ok (.aload_n 0, 1) := by decide +kernel
theorem dX9_swap_75 : decode cX9_swap 75 = .ok (.invokevirtual 378, 3) := by decide +kernel
theorem dX9_swap_78 : decode cX9_swap 78 = .ok (.ireturn, 1) := by decide +kernel
theorem dX9_claim_0 : decode cX9_claim 0 = .ok (.aload_n 0, 1) := by decide +kernel
theorem dX9_claim_1 : decode cX9_claim 1 = .ok (.iload_n 1, 1) := by decide +kernel
theorem dX9_claim_2 : decode cX9_claim 2 = .ok (.invokestatic 318, 3) := by decide +kernel
theorem dX9_claim_5 : decode cX9_claim 5 = .ok (.aload_n 0, 1) := by decide +kernel
theorem dX9_claim_6 : decode cX9_claim 6 = .ok (.iconst 4, 1) := by decide +kernel
theorem dX9_claim_7 : decode cX9_claim 7 = .ok (.invokevirtual 76, 3) := by decide +kernel
theorem dX9_claim_10 : decode cX9_claim 10 = .ok (.ifCond .ne 24, 3) := by decide +kernel
theorem dX9_claim_13 : decode cX9_claim 13 = .ok (.iload_n 1, 1) := by decide +kernel
theorem dX9_claim_14 : decode cX9_claim 14 = .ok (.invokestatic 318, 3) := by decide +kernel
theorem dX9_claim_17 : decode cX9_claim 17 = .ok (.ifCond .eq 17, 3) := by decide +kernel
theorem dX9_claim_20 : decode cX9_claim 20 = .ok (.aload_n 0, 1) := by decide +kernel
theorem dX9_claim_21 : decode cX9_claim 21 = .ok (.iconst 1, 1) := by decide +kernel
theorem dX9_claim_22 : decode cX9_claim 22 = .ok (.iload_n 1, 1) := by decide +kernel
theorem dX9_claim_23 : decode cX9_claim 23 = .ok (.isub, 1) := by decide +kernel
theorem dX9_claim_24 : decode cX9_claim 24 = .ok (.invokevirtual 96, 3) := by decide +kernel
theorem dX9_claim_27 : decode cX9_claim 27 = .ok (.ifCond .eq 7, 3) := by decide +kernel
theorem dX9_claim_30 : decode cX9_claim 30 = .ok (.iconst 1, 1) := by decide +kernel
theorem dX9_claim_31 : decode cX9_claim 31 = .ok (.goto 4, 3) := by decide +kernel
theorem dX9_claim_34 : decode cX9_claim 34 = .ok (.iconst 0, 1) := by decide +kernel
theorem dX9_claim_35 : decode cX9_claim 35 = .ok (.invokevirtual 314, 3) := by decide +kernel
theorem dX9_claim_38 : decode cX9_claim 38 = .ok (.ifCond .ne 5, 3) := by decide +kernel
theorem dX9_claim_41 : decode cX9_claim 41 = .ok (.iconst 0, 1) := by decide +kernel
theorem dX9_claim_42 : decode cX9_claim 42 = .ok (.ireturn, 1) := by decide +kernel
theorem dX9_claim_43 : decode cX9_claim 43 = .ok (.aload_n 0, 1) := by decide +kernel
theorem dX9_claim_44 : decode cX9_claim 44 = .ok (.invokevirtual 304, 3) := by decide +kernel
theorem dX9_claim_47 : decode cX9_claim 47 = .ok (.aload_n 0, 1) := by decide +kernel
theorem dX9_claim_48 : decode cX9_claim 48 = .ok (.aload_n 0, 1) := by decide +kernel
theorem dX9_claim_49 : decode cX9_claim 49 = .ok (.iload_n 1, 1) := by decide +kernel
theorem dX9_claim_50 : decode cX9_claim 50 = .ok (.invokevirtual 96, 3) := by decide +kernel
theorem dX9_claim_53 : decode cX9_claim 53 = .ok (.ifCond .eq 7, 3) := by decide +kernel
theorem dX9_claim_56 : decode cX9_claim 56 = .ok (.iconst 2, 1) := by decide +kernel
theorem dX9_claim_57 : decode cX9_claim 57 = .ok (.goto 8, 3) := by decide +kernel
theorem dX9_claim_60 : decode cX9_claim 60 = .ok (.aload_n 0, 1) := by decide +kernel
theorem dX9_claim_61 : decode cX9_claim 61 = .ok (.iload_n 1, 1) := by decide +kernel
theorem dX9_claim_62 : decode cX9_claim 62 = .ok (.invokevirtual 68, 3) := by decide +kernel
theorem dX9_claim_65 : decode cX9_claim 65 = .ok (.invokevirtual 72, 3) := by decide +kernel
theorem dX9_claim_68 : decode cX9_claim 68 = .ok (.aload_n 0, 1) := by decide +kernel
theorem dX9_claim_69 : decode cX9_claim 69 = .ok (.getfield 17, 3) := by decide +kernel
theorem dX9_claim_72 : decode cX9_claim 72 = .ok (.bipush 11, 2) := by decide +kernel
theorem dX9_claim_74 : decode cX9_claim 74 = .ok (.iaload, 1) := by decide +kernel
theorem dX9_claim_75 : decode cX9_claim 75 = .ok (.ireturn, 1) := by decide +kernel
theorem dX9_resign_0 : decode cX9_resign 0 = .ok (.aload_n 0, 1) := by decide +kernel
theorem dX9_resign_1 : decode cX9_resign 1 = .ok (.iload_n 1, 1) := by decide +kernel
theorem dX9_resign_2 : decode cX9_resign 2 = .ok (.invokestatic 318, 3) := by decide +kernel
theorem dX9_resign_5 : decode cX9_resign 5 = .ok (.aload_n 0, 1) := by decide +kernel
theorem dX9_resign_6 : decode cX9_resign 6 = .ok (.iconst 4, 1) := by decide +kernel
theorem dX9_resign_7 : decode cX9_resign 7 = .ok (.invokevirtual 76, 3) := by decide +kernel
theorem dX9_resign_10 : decode cX9_resign 10 = .ok (.ifCond .ne 7, 3) := by decide +kernel
theorem dX9_resign_13 : decode cX9_resign 13 = .ok (.iconst 1, 1) := by decide +kernel
theorem dX9_resign_14 : decode cX9_resign 14 = .ok (.goto 4, 3) := by decide +kernel
theorem dX9_resign_17 : decode cX9_resign 17 = .ok (.iconst 0, 1) := by decide +kernel
theorem dX9_resign_18 : decode cX9_resign 18 = .ok (.invokevirtual 314, 3) := by decide +kernel
theorem dX9_resign_21 : decode cX9_resign 21 = .ok (.ifCond .ne 5, 3) := by decide +kernel
theorem dX9_resign_24 : decode cX9_resign 24 = .ok (.iconst 0, 1) := by decide +kernel
theorem dX9_resign_25 : decode cX9_resign 25 = .ok (.ireturn, 1) := by decide +kernel
theorem dX9_resign_26 : decode cX9_resign 26 = .ok (.aload_n 0, 1) := by decide +kernel
theorem dX9_resign_27 : decode cX9_resign 27 = .ok (.invokevirtual 304, 3) := by decide +kernel
theorem dX9_resign_30 : decode cX9_resign 30 = .ok (.aload_n 0, 1) := by decide +kernel
theorem dX9_resign_31 : decode cX9_resign 31 = .ok (.iconst 1, 1) := by decide +kernel
theorem dX9_resign_32 : decode cX9_resign 32 = .ok (.iload_n 1, 1) := by decide +kernel
theorem dX9_resign_33 : decode cX9_resign 33 = .ok (.isub, 1) := by decide +kernel
theorem dX9_resign_34 : decode cX9_resign 34 = .ok (.invokevirtual 72, 3) := by decide +kernel
theorem dX9_resign_37 : decode cX9_resign 37 = .ok (.aload_n 0, 1) := by decide +kernel
theorem dX9_resign_38 : decode cX9_resign 38 = .ok (.getfield 17, 3) := by decide +kernel
theorem dX9_resign_41 : decode cX9_resign 41 = .ok (.bipush 11, 2) := by decide +kernel
theorem dX9_resign_43 : decode cX9_resign 43 = .ok (.iaload, 1) := by decide +kernel
theorem dX9_resign_44 : decode cX9_resign 44 = .ok (.ireturn, 1) := by decide +kernel
theorem dX9_give_0 : decode cX9_give 0 = .ok (.iload_n 1, 1) := by decide +kernel
theorem dX9_give_1 : decode cX9_give 1 = .ok (.invokestatic 318, 3) := by decide +kernel
theorem dX9_give_4 : decode cX9_give 4 = .ok (.istore_n 3, 1) := by decide +kernel
theorem dX9_give_5 : decode cX9_give 5 = .ok (.aload_n 0, 1) := by decide +kernel
theorem dX9_give_6 : decode cX9_give 6 = .ok (.iload_n 3, 1) := by decide +kernel
theorem dX9_give_7 : decode cX9_give 7 = .ok (.iload_n 2, 1) := by decide +kernel
theorem dX9_give_8 : decode cX9_give 8 = .ok (.i2l, 1) := by decide +kernel
theorem dX9_give_9 : decode cX9_give 9 = .ok (.ldc2_w 381, 3) := by decide +kernel
theorem dX9_give_12 : decode cX9_give 12 = .ok (.ldc2_w 349, 3) := by decide +kernel
theorem dX9_give_15 : decode cX9_give 15 = .ok (.invokestatic 64, 3) := by decide +kernel
theorem dX9_give_18 : decode cX9_give 18 = .ok (.iload_n 3, 1) := by decide +kernel
theorem dX9_give_19 : decode cX9_give 19 = .ok (.ifCond .eq 35, 3) := by decide +kernel
theorem dX9_give_22 : decode cX9_give 22 = .ok (.aload_n 0, 1) := by decide +kernel
theorem dX9_give_23 : decode cX9_give 23 = .ok (.iconst 4, 1) := by decide +kernel
theorem dX9_give_24 : decode cX9_give 24 = .ok (.invokevirtual 76, 3) := by decide +kernel
theorem dX9_give_27 : decode cX9_give 27 = .ok (.ifCond .ne 27, 3) := by decide +kernel
theorem dX9_give_30 : decode cX9_give 30 = .ok (.aload_n 0, 1) := by decide +kernel
theorem dX9_give_31 : decode cX9_give 31 = .ok (.iload_n 1, 1) := by decide +kernel
theorem dX9_give_32 : decode cX9_give 32 = .ok (.invokevirtual 96, 3) := by decide +kernel
theorem dX9_give_35 : decode cX9_give 35 = .ok (.ifCond .ne 19, 3) := by decide +kernel
theorem dX9_give_38 : decode cX9_give 38 = .ok (.aload_n 0, 1) := by decide +kernel
theorem dX9_give_39 : decode cX9_give 39 = .ok (.iload_n 1, 1) := by decide +kernel
theorem dX9_give_40 : decode cX9_give 40 = .ok (.iconst 0, 1) := by decide +kernel
theorem dX9_give_41 : decode cX9_give 41 = .ok (.invokevirtual 57, 3) := by decide +kernel
theorem dX9_give_44 : decode cX9_give 44 = .ok (.iload_n 2, 1) := by decide +kernel
theorem dX9_give_45 : decode cX9_give 45 = .ok (.iadd, 1) := by decide +kernel
theorem dX9_give_46 : decode cX9_give 46 = .ok (.iconst 1, 1) := by decide +kernel
theorem dX9_give_47 : decode cX9_give 47 = .ok (.if_icmp .lt 7, 3) := by decide +kernel
theorem dX9_give_50 : decode cX9_give 50 = .ok (.iconst 1, 1) := by decide +kernel
theorem dX9_give_51 : decode cX9_give 51 = .ok (.goto 4, 3) := by decide +kernel
theorem dX9_give_54 : decode cX9_give 54 = .ok (.iconst 0, 1) := by decide +kernel
theorem dX9_give_55 : decode cX9_give 55 = .ok (.invokevirtual 7, 3) := by decide +kernel
theorem dX9_give_58 : decode cX9_give 58 = .ok (.ifCond .ne 5, 3) := by decide +kernel
theorem dX9_give_61 : decode cX9_give 61 = .ok (.iconst 0, 1) := by decide +kernel
theorem dX9_give_62 : decode cX9_give 62 = .ok (.ireturn, 1) := by decide +kernel
theorem dX9_give_63 : decode cX9_give 63 = .ok (.aload_n 0, 1) := by decide +kernel
theorem dX9_give_64 : decode cX9_give 64 = .ok (.invokevirtual 304, 3) := by decide +kernel
theorem dX9_give_67 : decode cX9_give 67 = .ok (.aload_n 0, 1) := by decide +kernel
theorem dX9_give_68 : decode cX9_give 68 = .ok (.iload_n 1, 1) := by decide +kernel
theorem dX9_give_69 : decode cX9_give 69 = .ok (.iconst 0, 1) := by decide +kernel
theorem dX9_give_70 : decode cX9_give 70 = .ok (.iload_n 2, 1) := by decide +kernel
theorem dX9_give_71 : decode cX9_give 71 = .ok (.invokevirtual 84, 3) := by decide +kernel
theorem dX9_give_74 : decode cX9_give 74 = .ok (.aload_n 0, 1) := by decide +kernel
theorem dX9_give_75 : decode cX9_give 75 = .ok (.iload_n 1, 1) := by decide +kernel
theorem dX9_give_76 : decode cX9_give 76 = .ok (.iconst 0, 1) := by decide +kernel
theorem dX9_give_77 : decode cX9_give 77 = .ok (.invokevirtual 57, 3) := by decide +kernel
theorem dX9_give_80 : decode cX9_give 80 = .ok (.ireturn, 1) := by decide +kernel
theorem dX9_setBare_0 : decode cX9_setBare 0 = .ok (.aload_n 0, 1) := by decide +kernel
theorem dX9_setBare_1 : decode cX9_setBare 1 = .ok (.iload_n 1, 1) := by decide +kernel
theorem dX9_setBare_2 : decode cX9_setBare 2 = .ok (.invokestatic 318, 3) := by decide +kernel
theorem dX9_setBare_5 : decode cX9_setBare 5 = .ok (.invokevirtual 159, 3) := by decide +kernel
theorem dX9_setBare_8 : decode cX9_setBare 8 = .ok (.ifCond .ne 5, 3) := by decide +kernel
theorem dX9_setBare_11 : decode cX9_setBare 11 = .ok (.iconst 0, 1) := by decide +kernel
theorem dX9_setBare_12 : decode cX9_setBare 12 = .ok (.ireturn, 1) := by decide +kernel
theorem dX9_setBare_13 : decode cX9_setBare 13 = .ok (.aload_n 0, 1) := by decide +kernel
theorem dX9_setBare_14 : decode cX9_setBare 14 = .ok (.invokevirtual 304, 3) := by decide +kernel
theorem dX9_setBare_17 : decode cX9_setBare 17 = .ok (.aload_n 0, 1) := by decide +kernel
theorem dX9_setBare_18 : decode cX9_setBare 18 = .ok (.iload_n 1, 1) := by decide +kernel
theorem dX9_setBare_19 : decode cX9_setBare 19 = .ok (.bipush 9, 2) := by decide +kernel
theorem dX9_setBare_21 : decode cX9_setBare 21 = .ok (.invokevirtual 57, 3) := by decide +kernel
theorem dX9_setBare_24 : decode cX9_setBare 24 = .ok (.iconst 1, 1) := by decide +kernel
theorem dX9_setBare_25 : decode cX9_setBare 25 = .ok (.if_icmp .ne 7, 3) := by decide +kernel
theorem dX9_setBare_28 : decode cX9_setBare 28 = .ok (.iconst 1, 1) := by decide +kernel
theorem dX9_setBare_29 : decode cX9_setBare 29 = .ok (.goto 4, 3) := by decide +kernel
theorem dX9_setBare_32 : decode cX9_setBare 32 = .ok (.iconst 0, 1) := by decide +kernel
theorem dX9_setBare_33 : decode cX9_setBare 33 = .ok (.istore_n 3, 1) := by decide +kernel
theorem dX9_setBare_34 : decode cX9_setBare 34 = .ok (.aload_n 0, 1) := by decide +kernel
theorem dX9_setBare_35 : decode cX9_setBare 35 = .ok (.iload_n 1, 1) := by decide +kernel
theorem dX9_setBare_36 : decode cX9_setBare 36 = .ok (.bipush 9, 2) := by decide +kernel
theorem dX9_setBare_38 : decode cX9_setBare 38 = .ok (.iload_n 2, 1) := by decide +kernel
theorem dX9_setBare_39 : decode cX9_setBare 39 = .ok (.ifCond .eq 7, 3) := by decide +kernel
theorem dX9_setBare_42 : decode cX9_setBare 42 = .ok (.iconst 1, 1) := by decide +kernel
theorem dX9_setBare_43 : decode cX9_setBare 43 = .ok (.goto 4, 3) := by decide +kernel
theorem dX9_setBare_46 : decode cX9_setBare 46 = .ok (.iconst 0, 1) := by decide +kernel
theorem dX9_setBare_47 : decode cX9_setBare 47 = .ok (.invokevirtual 53, 3) := by decide +kernel
theorem dX9_setBare_50 : decode cX9_setBare 50 = .ok (.iload_n 3, 1) := by decide +kernel
theorem dX9_setBare_51 : decode cX9_setBare 51 = .ok (.ireturn, 1) := by decide +kernel
theorem dX9_setClaims_0 : decode cX9_setClaims 0 = .ok (.aload_n 0, 1) := by decide +kernel
theorem dX9_setClaims_1 : decode cX9_setClaims 1 = .ok (.iconst 0, 1) := by decide +kernel
theorem dX9_setClaims_2 : decode cX9_setClaims 2 = .ok (.putfield 3, 3) := by decide +kernel
theorem dX9_setClaims_5 : decode cX9_setClaims 5 = .ok (.aload_n 0, 1) := by decide +kernel
theorem dX9_setClaims_6 : decode cX9_setClaims 6 = .ok (.invokevirtual 304, 3) := by decide +kernel
theorem dX9_setClaims_9 : decode cX9_setClaims 9 = .ok (.aload_n 0, 1) := by decide +kernel
theorem dX9_setClaims_10 : decode cX9_setClaims 10 = .ok (.getfield 17, 3) := by decide +kernel
theorem dX9_setClaims_13 : decode cX9_setClaims 13 = .ok (.bipush 10, 2) := by decide +kernel
theorem dX9_setClaims_15 : decode cX9_setClaims 15 = .ok (.iaload, 1) := by decide +kernel
theorem dX9_setClaims_16 : decode cX9_setClaims 16 = .ok (.iconst 1, 1) := by decide +kernel
theorem dX9_setClaims_17 : decode cX9_setClaims 17 = .ok (.if_icmp .ne 7, 3) := by decide +kernel
theorem dX9_setClaims_20 : decode cX9_setClaims 20 = .ok (.iconst 1, 1) := by decide +kernel
theorem dX9_setClaims_21 : decode cX9_setClaims 21 = .ok (.goto 4, 3) := by decide +kernel
theorem dX9_setClaims_24 : decode cX9_setClaims 24 = .ok (.iconst 0, 1) := by decide +kernel
theorem dX9_setClaims_25 : decode cX9_setClaims 25 = .ok (.istore_n 2, 1) := by decide +kernel
theorem dX9_setClaims_26 : decode cX9_setClaims 26 = .ok (.aload_n 0, 1) := by decide +kernel
theorem dX9_setClaims_27 : decode cX9_setClaims 27 = .ok (.getfield 17, 3) := by decide +kernel
theorem dX9_setClaims_30 : decode cX9_setClaims 30 = .ok (.bipush 10, 2) := by decide +kernel
theorem dX9_setClaims_32 : decode cX9_setClaims 32 = .ok (.iload_n 1, 1) := by decide +kernel
theorem dX9_setClaims_33 : decode cX9_setClaims 33 = .ok (.ifCond .eq 7, 3) := by decide +kernel
theorem dX9_setClaims_36 : decode cX9_setClaims 36 = .ok (.iconst 1, 1) := by decide +kernel
theorem dX9_setClaims_37 : decode cX9_setClaims 37 = .ok (.goto 4, 3) := by decide +kernel
theorem dX9_setClaims_40 : decode cX9_setClaims 40 = .ok (.iconst 0, 1) := by decide +kernel
theorem dX9_setClaims_41 : decode cX9_setClaims 41 = .ok (.iastore, 1) := by decide +kernel
theorem dX9_setClaims_42 : decode cX9_setClaims 42 = .ok (.iload_n 2, 1) := by decide +kernel
theorem dX9_setClaims_43 : decode cX9_setClaims 43 = .ok (.ireturn, 1) := by decide +kernel
theorem dX9_setPeriod_0 : decode cX9_setPeriod 0 = .ok (.aload_n 0, 1) := by decide +kernel
theorem dX9_setPeriod_1 : decode cX9_setPeriod 1 = .ok (.aload_n 0, 1) := by decide +kernel
theorem dX9_setPeriod_2 : decode cX9_setPeriod 2 = .ok (.iload_n 1, 1) := by decide +kernel
theorem dX9_setPeriod_3 : decode cX9_setPeriod 3 = .ok (.invokevirtual 309, 3) := by decide +kernel
theorem dX9_setPeriod_6 : decode cX9_setPeriod 6 = .ok (.iload_n 2, 1) := by decide +kernel
theorem dX9_setPeriod_7 : decode cX9_setPeriod 7 = .ok (.i2l, 1) := by decide +kernel
theorem dX9_setPeriod_8 : decode cX9_setPeriod 8 = .ok (.ldc2_w 383, 3) := by decide +kernel
theorem dX9_setPeriod_11 : decode cX9_setPeriod 11 = .ok (.ldc2_w 312, 3) := by decide +kernel
theorem dX9_setPeriod_14 : decode cX9_setPeriod 14 = .ok (.invokestatic 64, 3) := by decide +kernel
theorem dX9_setPeriod_17 : decode cX9_setPeriod 17 = .ok (.ifCond .eq 19, 3) := by decide +kernel
theorem dX9_setPeriod_20 : decode cX9_setPeriod 20 = .ok (.iload_n 3, 1) := by decide +kernel
theorem dX9_setPeriod_21 : decode cX9_setPeriod 21 = .ok (.i2l, 1) := by decide +kernel
theorem dX9_setPeriod_22 : decode cX9_setPeriod 22 = .ok (.lconst 0, 1) := by decide +kernel
theorem dX9_setPeriod_23 : decode cX9_setPeriod 23 = .ok (.ldc2_w 385, 3) := by decide +kernel
theorem dX9_setPeriod_26 : decode cX9_setPeriod 26 = .ok (.invokestatic 64, 3) := by decide +kernel
theorem dX9_setPeriod_29 : decode cX9_setPeriod 29 = .ok (.ifCond .eq 7, 3) := by decide +kernel
theorem dX9_setPeriod_32 : decode cX9_setPeriod 32 = .ok (.iconst 1, 1) := by decide +kernel
theorem dX9_setPeriod_33 : decode cX9_setPeriod 33 = .ok (.goto 4, 3) := by decide +kernel
theorem dX9_setPeriod_36 : decode cX9_setPeriod 36 = .ok (.iconst 0, 1) := by decide +kernel
theorem dX9_setPeriod_37 : decode cX9_setPeriod 37 = .ok (.invokevirtual 314, 3) := by decide +kernel
theorem dX9_setPeriod_40 : decode cX9_setPeriod 40 = .ok (.ifCond .ne 5, 3) := by decide +kernel
theorem dX9_setPeriod_43 : decode cX9_setPeriod 43 = .ok (.iconst 0, 1) := by decide +kernel
theorem dX9_setPeriod_44 : decode cX9_setPeriod 44 = .ok (.ireturn, 1) := by decide +kernel
theorem dX9_setPeriod_45 : decode cX9_setPeriod 45 = .ok (.aload_n 0, 1) := by decide +kernel
theorem dX9_setPeriod_46 : decode cX9_setPeriod 46 = .ok (.invokevirtual 304, 3) := by decide +kernel
theorem dX9_setPeriod_49 : decode cX9_setPeriod 49 = .ok (.aload_n 0, 1) := by decide +kernel
theorem dX9_setPeriod_50 : decode cX9_setPeriod 50 = .ok (.iload_n 1, 1) := by decide +kernel
theorem dX9_setPeriod_51 : decode cX9_setPeriod 51 = .ok (.iload_n 2, 1) := by decide +kernel
theorem dX9_setPeriod_52 : decode cX9_setPeriod 52 = .ok (.invokevirtual 61, 3) := by decide +kernel
theorem dX9_setPeriod_55 : decode cX9_setPeriod 55 = .ok (.istore 4, 2) := by decide +kernel
theorem dX9_setPeriod_57 : decode cX9_setPeriod 57 = .ok (.aload_n 0, 1) := by decide +kernel
theorem dX9_setPeriod_58 : decode cX9_setPeriod 58 = .ok (.getfield 17, 3) := by decide +kernel
theorem dX9_setPeriod_61 : decode cX9_setPeriod 61 = .ok (.bipush 12, 2) := by decide +kernel
theorem dX9_setPeriod_63 : decode cX9_setPeriod 63 = .ok (.iconst 5, 1) := by decide +kernel
theorem dX9_setPeriod_64 : decode cX9_setPeriod 64 = .ok (.iload_n 1, 1) := by decide +kernel
theorem dX9_setPeriod_65 : decode cX9_setPeriod 65 = .ok (.imul, 1) := by decide +kernel
theorem dX9_setPeriod_66 : decode cX9_setPeriod 66 = .ok (.iadd, 1) := by decide +kernel
theorem dX9_setPeriod_67 : decode cX9_setPeriod 67 = .ok (.iload_n 2, 1) := by decide +kernel
theorem dX9_setPeriod_68 : decode cX9_setPeriod 68 = .ok (.iadd, 1) := by decide +kernel
theorem dX9_setPeriod_69 : decode cX9_setPeriod 69 = .ok (.iload_n 3, 1) := by decide +kernel
theorem dX9_setPeriod_70 : decode cX9_setPeriod 70 = .ok (.iastore, 1) := by decide +kernel
theorem dX9_setPeriod_71 : decode cX9_setPeriod 71 = .ok (.iload 4, 2) := by decide +kernel
theorem dX9_setPeriod_73 : decode cX9_setPeriod 73 = .ok (.ireturn, 1) := by decide +kernel
theorem dX9_isKeep_0 : decode cX9_isKeep 0 = .ok (.iload_n 0, 1) := by decide +kernel
theorem dX9_isKeep_1 : decode cX9_isKeep 1 = .ok (.i2l, 1) := by decide +kernel
theorem dX9_isKeep_2 : decode cX9_isKeep 2 = .ok (.lconst 0, 1) := by decide +kernel
theorem dX9_isKeep_3 : decode cX9_isKeep 3 = .ok (.lconst 1, 1) := by decide +kernel
theorem dX9_isKeep_4 : decode cX9_isKeep 4 = .ok (.invokestatic 64, 3) := by decide +kernel
theorem dX9_isKeep_7 : decode cX9_isKeep 7 = .ok (.ireturn, 1) := by decide +kernel
theorem dX9_keep_0 : decode cX9_keep 0 = .ok (.aload_n 0, 1) := by decide +kernel
theorem dX9_keep_1 : decode cX9_keep 1 = .ok (.iload_n 1, 1) := by decide +kernel
theorem dX9_keep_2 : decode cX9_keep 2 = .ok (.invokestatic 387, 3) := by decide +kernel
theorem dX9_keep_5 : decode cX9_keep 5 = .ok (.invokevirtual 159, 3) := by decide +kernel
theorem dX9_keep_8 : decode cX9_keep 8 = .ok (.ifCond .ne 5, 3) := by decide +kernel
theorem dX9_keep_11 : decode cX9_keep 11 = .ok (.iconst 0, 1) := by decide +kernel
theorem dX9_keep_12 : decode cX9_keep 12 = .ok (.ireturn, 1) := by decide +kernel
theorem dX9_keep_13 : decode cX9_keep 13 = .ok (.iconst 0, 1) := by decide +kernel
theorem dX9_keep_14 : decode cX9_keep 14 = .ok (.istore_n 2, 1) := by decide +kernel
theorem dX9_keep_15 : decode cX9_keep 15 = .ok (.iload_n 2, 1) := by decide +kernel
theorem dX9_keep_16 : decode cX9_keep 16 = .ok (.sipush 311, 3) := by decide +kernel
theorem dX9_keep_19 : decode cX9_keep 19 = .ok (.if_icmp .ge 27, 3) := by decide +kernel
theorem dX9_keep_22 : decode cX9_keep 22 = .ok (.aload_n 0, 1) := by decide +kernel
theorem dX9_keep_23 : decode cX9_keep 23 = .ok (.getfield 37, 3) := by decide +kernel
theorem dX9_keep_26 : decode cX9_keep 26 = .ok (.sipush 311, 3) := by decide +kernel
theorem dX9_keep_29 : decode cX9_keep 29 = .ok (.iload_n 1, 1) := by decide +kernel
theorem dX9_keep_30 : decode cX9_keep 30 = .ok (.imul, 1) := by decide +kernel
theorem dX9_keep_31 : decode cX9_keep 31 = .ok (.iload_n 2, 1) := by decide +kernel
theorem dX9_keep_32 : decode cX9_keep 32 = .ok (.iadd, 1) := by decide +kernel
theorem dX9_keep_33 : decode cX9_keep 33 = .ok (.aload_n 0, 1) := by decide +kernel
theorem dX9_keep_34 : decode cX9_keep 34 = .ok (.getfield 17, 3) := by decide +kernel
theorem dX9_keep_37 : decode cX9_keep 37 = .ok (.iload_n 2, 1) := by decide +kernel
theorem dX9_keep_38 : decode cX9_keep 38 = .ok (.iaload, 1) := by decide +kernel
theorem dX9_keep_39 : decode cX9_keep 39 = .ok (.iastore, 1) := by decide +kernel
theorem dX9_keep_40 : decode cX9_keep 40 = .ok (.iinc 2 1, 3) := by decide +kernel
theorem dX9_keep_43 : decode cX9_keep 43 = .ok (.goto (-28), 3) := by decide +kernel
theorem dX9_keep_46 : decode cX9_keep 46 = .ok (.aload_n 0, 1) := by decide +kernel
theorem dX9_keep_47 : decode cX9_keep 47 = .ok (.getfield 40, 3) := by decide +kernel
theorem dX9_keep_50 : decode cX9_keep 50 = .ok (.iload_n 1, 1) := by decide +kernel
theorem dX9_keep_51 : decode cX9_keep 51 = .ok (.iconst 1, 1) := by decide +kernel
theorem dX9_keep_52 : decode cX9_keep 52 = .ok (.bastore, 1) := by decide +kernel
theorem dX9_keep_53 : decode cX9_keep 53 = .ok (.aload_n 0, 1) := by decide +kernel
theorem dX9_keep_54 : decode cX9_keep 54 = .ok (.getfield 17, 3) := by decide +kernel
theorem dX9_keep_57 : decode cX9_keep 57 = .ok (.bipush 7, 2) := by decide +kernel
theorem dX9_keep_59 : decode cX9_keep 59 = .ok (.iaload, 1) := by decide +kernel
theorem dX9_keep_60 : decode cX9_keep 60 = .ok (.ireturn, 1) := by decide +kernel
theorem dX9_restore_0 : decode cX9_restore 0 = .ok (.aload_n 0, 1) := by decide +kernel
theorem dX9_restore_1 : decode cX9_restore 1 = .ok (.iload_n 1, 1) := by decide +kernel
theorem dX9_restore_2 : decode cX9_restore 2 = .ok (.invokestatic 387, 3) := by decide +kernel
theorem dX9_restore_5 : decode cX9_restore 5 = .ok (.iload_n 1, 1) := by decide +kernel
theorem dX9_restore_6 : decode cX9_restore 6 = .ok (.invokestatic 387, 3) := by decide +kernel
theorem dX9_restore_9 : decode cX9_restore 9 = .ok (.ifCond .eq 12, 3) := by decide +kernel
theorem dX9_restore_12 : decode cX9_restore 12 = .ok (.aload_n 0, 1) := by decide +kernel
theorem dX9_restore_13 : decode cX9_restore 13 = .ok (.getfield 40, 3) := by decide +kernel
theorem dX9_restore_16 : decode cX9_restore 16 = .ok (.iload_n 1, 1) := by decide +kernel
theorem dX9_restore_17 : decode cX9_restore 17 = .ok (.baload, 1) := by decide +kernel
theorem dX9_restore_18 : decode cX9_restore 18 = .ok (.ifCond .eq 7, 3) := by decide +kernel
theorem dX9_restore_21 : decode cX9_restore 21 = .ok (.iconst 1, 1) := by decide +kernel
theorem dX9_restore_22 : decode cX9_restore 22 = .ok (.goto 4, 3) := by decide +kernel
theorem dX9_restore_25 : decode cX9_restore 25 = .ok (.iconst 0, 1) := by decide +kernel
theorem dX9_restore_26 : decode cX9_restore 26 = .ok (.invokevirtual 314, 3) := by decide +kernel
theorem dX9_restore_29 : decode cX9_restore 29 = .ok (.ifCond .ne 5, 3) := by decide +kernel
theorem dX9_restore_32 : decode cX9_restore 32 = .ok (.iconst 0, 1) := by decide +kernel
theorem dX9_restore_33 : decode cX9_restore 33 = .ok (.ireturn, 1) := by decide +kernel
theorem dX9_restore_34 : decode cX9_restore 34 = .ok (.aload_n 0, 1) := by decide +kernel
theorem dX9_restore_35 : decode cX9_restore 35 = .ok (.invokevirtual 304, 3) := by decide +kernel
theorem dX9_restore_38 : decode cX9_restore 38 = .ok (.iconst 0, 1) := by decide +kernel
theorem dX9_restore_39 : decode cX9_restore 39 = .ok (.istore_n 2, 1) := by decide +kernel
theorem dX9_restore_40 : decode cX9_restore 40 = .ok (.iload_n 2, 1) := by decide +kernel
theorem dX9_restore_41 : decode cX9_restore 41 = .ok (.sipush 311, 3) := by decide +kernel
theorem dX9_restore_44 : decode cX9_restore 44 = .ok (.if_icmp .ge 27, 3) := by decide +kernel
theorem dX9_restore_47 : decode cX9_restore 47 = .ok (.aload_n 0, 1) := by decide +kernel
theorem dX9_restore_48 : decode cX9_restore 48 = .ok (.getfield 17, 3) := by decide +kernel
theorem dX9_restore_51 : decode cX9_restore 51 = .ok (.iload_n 2, 1) := by decide +kernel
theorem dX9_restore_52 : decode cX9_restore 52 = .ok (.aload_n 0, 1) := by decide +kernel
theorem dX9_restore_53 : decode cX9_restore 53 = .ok (.getfield 37, 3) := by decide +kernel
theorem dX9_restore_56 : decode cX9_restore 56 = .ok (.sipush 311, 3) := by decide +kernel
theorem dX9_restore_59 : decode cX9_restore 59 = .ok (.iload_n 1, 1) := by decide +kernel
theorem dX9_restore_60 : decode cX9_restore 60 = .ok (.imul, 1) := by decide +kernel
theorem dX9_restore_61 : decode cX9_restore 61 = .ok (.iload_n 2, 1) := by decide +kernel
theorem dX9_restore_62 : decode cX9_restore 62 = .ok (.iadd, 1) := by decide +kernel
theorem dX9_restore_63 : decode cX9_restore 63 = .ok (.iaload, 1) := by decide +kernel
theorem dX9_restore_64 : decode cX9_restore 64 = .ok (.iastore, 1) := by decide +kernel
theorem dX9_restore_65 : decode cX9_restore 65 = .ok (.iinc 2 1, 3) := by decide +kernel
theorem dX9_restore_68 : decode cX9_restore 68 = .ok (.goto (-28), 3) := by decide +kernel
theorem dX9_restore_71 : decode cX9_restore 71 = .ok (.aload_n 0, 1) := by decide +kernel
theorem dX9_restore_72 : decode cX9_restore 72 = .ok (.getfield 17, 3) := by decide +kernel
theorem dX9_restore_75 : decode cX9_restore 75 = .ok (.bipush 7, 2) := by decide +kernel
theorem dX9_restore_77 : decode cX9_restore 77 = .ok (.iaload, 1) := by decide +kernel
theorem dX9_restore_78 : decode cX9_restore 78 = .ok (.ireturn, 1) := by decide +kernel
theorem dX9_remember_0 : decode cX9_remember 0 = .ok (.aload_n 0, 1) := by decide +kernel
theorem dX9_remember_1 : decode cX9_remember 1 = .ok (.getfield 390, 3) := by decide +kernel
theorem dX9_remember_4 : decode cX9_remember 4 = .ok (.bipush 6, 2) := by decide +kernel
theorem dX9_remember_6 : decode cX9_remember 6 = .ok (.if_icmp .ne 46, 3) := by decide +kernel
theorem dX9_remember_9 : decode cX9_remember 9 = .ok (.sipush 311, 3) := by decide +kernel
theorem dX9_remember_12 : decode cX9_remember 12 = .ok (.istore_n 1, 1) := by decide +kernel
theorem dX9_remember_13 : decode cX9_remember 13 = .ok (.iload_n 1, 1) := by decide +kernel
theorem dX9_remember_14 : decode cX9_remember 14 = .ok (.sipush 1866, 3) := by decide +kernel
theorem dX9_remember_17 : decode cX9_remember 17 = .ok (.if_icmp .ge 25, 3) := by decide +kernel
theorem dX9_remember_20 : decode cX9_remember 20 = .ok (.aload_n 0, 1) := by decide +kernel
theorem dX9_remember_21 : decode cX9_remember 21 = .ok (.getfield 44, 3) := by decide +kernel
theorem dX9_remember_24 : decode cX9_remember 24 = .ok (.iload_n 1, 1) := by decide +kernel
theorem dX9_remember_25 : decode cX9_remember 25 = .ok (.sipush 311, 3) := by decide +kernel
theorem dX9_remember_28 : decode cX9_remember 28 = .ok (.isub, 1) := by decide +kernel
theorem dX9_remember_29 : decode cX9_remember 29 = .ok (.aload_n 0, 1) := by decide +kernel
theorem dX9_remember_30 : decode cX9_remember 30 = .ok (.getfield 44, 3) := by decide +kernel
theorem dX9_remember_33 : decode cX9_remember 33 = .ok (.iload_n 1, 1) := by decide +kernel
theorem dX9_remember_34 : decode cX9_remember 34 = .ok (.iaload, 1) := by decide +kernel
theorem dX9_remember_35 : decode cX9_remember 35 = .ok (.iastore, 1) := by decide +kernel
theorem dX9_remember_36 : decode cX9_remember 36 = .ok (.iinc 1 1, 3) := by decide +kernel
theorem dX9_remember_39 : decode cX9_remember 39 = .ok (.goto (-26), 3) := by decide +kernel
theorem dX9_remember_42 : decode cX9_remember 42 = .ok (.aload_n 0, 1) := by decide +kernel
theorem dX9_remember_43 : decode cX9_remember 43 = .ok (.dup, 1) := by decide +kernel
theorem dX9_remember_44 : decode cX9_remember 44 = .ok (.getfield 390, 3) := by decide +kernel
theorem dX9_remember_47 : decode cX9_remember 47 = .ok (.iconst 1, 1) := by decide +kernel
theorem dX9_remember_48 : decode cX9_remember 48 = .ok (.isub, 1) := by decide +kernel
theorem dX9_remember_49 : decode cX9_remember 49 = .ok (.putfield 390, 3) := by decide +kernel
theorem dX9_remember_52 : decode cX9_remember 52 = .ok (.iconst 0, 1) := by decide +kernel
theorem dX9_remember_53 : decode cX9_remember 53 = .ok (.istore_n 1, 1) := by decide +kernel
theorem dX9_remember_54 : decode cX9_remember 54 = .ok (.iload_n 1, 1) := by decide +kernel
theorem dX9_remember_55 : decode cX9_remember 55 = .ok (.sipush 311, 3) := by decide +kernel
theorem dX9_remember_58 : decode cX9_remember 58 = .ok (.if_icmp .ge 30, 3) := by decide +kernel
theorem dX9_remember_61 : decode cX9_remember 61 = .ok (.aload_n 0, 1) := by decide +kernel
theorem dX9_remember_62 : decode cX9_remember 62 = .ok (.getfield 44, 3) := by decide +kernel
theorem dX9_remember_65 : decode cX9_remember 65 = .ok (.sipush 311, 3) := by decide +kernel
theorem dX9_remember_68 : decode cX9_remember 68 = .ok (.aload_n 0, 1) := by decide +kernel
theorem dX9_remember_69 : decode cX9_remember 69 = .ok (.getfield 390, 3) := by decide +kernel
theorem dX9_remember_72 : decode cX9_remember 72 = .ok (.imul, 1) := by decide +kernel
theorem dX9_remember_73 : decode cX9_remember 73 = .ok (.iload_n 1, 1) := by decide +kernel
theorem dX9_remember_74 : decode cX9_remember 74 = .ok (.iadd, 1) := by decide +kernel
theorem dX9_remember_75 : decode cX9_remember 75 = .ok (.aload_n 0, 1) := by decide +kernel
theorem dX9_remember_76 : decode cX9_remember 76 = .ok (.getfield 17, 3) := by decide +kernel
theorem dX9_remember_79 : decode cX9_remember 79 = .ok (.iload_n 1, 1) := by decide +kernel
theorem dX9_remember_80 : decode cX9_remember 80 = .ok (.iaload, 1) := by decide +kernel
theorem dX9_remember_81 : decode cX9_remember 81 = .ok (.iastore, 1) := by decide +kernel
theorem dX9_remember_82 : decode cX9_remember 82 = .ok (.iinc 1 1, 3) := by decide +kernel
theorem dX9_remember_85 : decode cX9_remember 85 = .ok (.goto (-31), 3) := by decide +kernel
theorem dX9_remember_88 : decode cX9_remember 88 = .ok (.aload_n 0, 1) := by decide +kernel
theorem dX9_remember_89 : decode cX9_remember 89 = .ok (.dup, 1) := by decide +kernel
theorem dX9_remember_90 : decode cX9_remember 90 = .ok (.getfield 390, 3) := by decide +kernel
theorem dX9_remember_93 : decode cX9_remember 93 = .ok (.iconst 1, 1) := by decide +kernel
theorem dX9_remember_94 : decode cX9_remember 94 = .ok (.iadd, 1) := by decide +kernel
theorem dX9_remember_95 : decode cX9_remember 95 = .ok (.putfield 390, 3) := by decide +kernel
theorem dX9_remember_98 : decode cX9_remember 98 = .ok (.return_, 1) := by decide +kernel
theorem dX9_undo_0 : decode cX9_undo 0 = .ok (.aload_n 0, 1) := by decide +kernel
theorem dX9_undo_1 : decode cX9_undo 1 = .ok (.aload_n 0, 1) := by decide +kernel
theorem dX9_undo_2 : decode cX9_undo 2 = .ok (.getfield 390, 3) := by decide +kernel
theorem dX9_undo_5 : decode cX9_undo 5 = .ok (.ifCond .le 7, 3) := by decide +kernel
theorem dX9_undo_8 : decode cX9_undo 8 = .ok (.iconst 1, 1) := by decide +kernel
theorem dX9_undo_9 : decode cX9_undo 9 = .ok (.goto 4, 3) := by decide +kernel
theorem dX9_undo_12 : decode cX9_undo 12 = .ok (.iconst 0, 1) := by decide +kernel
theorem dX9_undo_13 : decode cX9_undo 13 = .ok (.invokevirtual 159, 3) := by decide +kernel
theorem dX9_undo_16 : decode cX9_undo 16 = .ok (.ifCond .ne 5, 3) := by decide +kernel
theorem dX9_undo_19 : decode cX9_undo 19 = .ok (.iconst 0, 1) := by decide +kernel
theorem dX9_undo_20 : decode cX9_undo 20 = .ok (.ireturn, 1) := by decide +kernel
theorem dX9_undo_21 : decode cX9_undo 21 = .ok (.aload_n 0, 1) := by decide +kernel
theorem dX9_undo_22 : decode cX9_undo 22 = .ok (.dup, 1) := by decide +kernel
theorem dX9_undo_23 : decode cX9_undo 23 = .ok (.getfield 390, 3) := by decide +kernel
theorem dX9_undo_26 : decode cX9_undo 26 = .ok (.iconst 1, 1) := by decide +kernel
theorem dX9_undo_27 : decode cX9_undo 27 = .ok (.isub, 1) := by decide +kernel
theorem dX9_undo_28 : decode cX9_undo 28 = .ok (.putfield 390, 3) := by decide +kernel
theorem dX9_undo_31 : decode cX9_undo 31 = .ok (.iconst 0, 1) := by decide +kernel
theorem dX9_undo_32 : decode cX9_undo 32 = .ok (.istore_n 1, 1) := by decide +kernel
theorem dX9_undo_33 : decode cX9_undo 33 = .ok (.iload_n 1, 1) := by decide +kernel
theorem dX9_undo_34 : decode cX9_undo 34 = .ok (.sipush 311, 3) := by decide +kernel
theorem dX9_undo_37 : decode cX9_undo 37 = .ok (.if_icmp .ge 30, 3) := by decide +kernel
theorem dX9_undo_40 : decode cX9_undo 40 = .ok (.aload_n 0, 1) := by decide +kernel
theorem dX9_undo_41 : decode cX9_undo 41 = .ok (.getfield 17, 3) := by decide +kernel
theorem dX9_undo_44 : decode cX9_undo 44 = .ok (.iload_n 1, 1) := by decide +kernel
theorem dX9_undo_45 : decode cX9_undo 45 = .ok (.aload_n 0, 1) := by decide +kernel
theorem dX9_undo_46 : decode cX9_undo 46 = .ok (.getfield 44, 3) := by decide +kernel
theorem dX9_undo_49 : decode cX9_undo 49 = .ok (.sipush 311, 3) := by decide +kernel
theorem dX9_undo_52 : decode cX9_undo 52 = .ok (.aload_n 0, 1) := by decide +kernel
theorem dX9_undo_53 : decode cX9_undo 53 = .ok (.getfield 390, 3) := by decide +kernel
theorem dX9_undo_56 : decode cX9_undo 56 = .ok (.imul, 1) := by decide +kernel
theorem dX9_undo_57 : decode cX9_undo 57 = .ok (.iload_n 1, 1) := by decide +kernel
theorem dX9_undo_58 : decode cX9_undo 58 = .ok (.iadd, 1) := by decide +kernel
theorem dX9_undo_59 : decode cX9_undo 59 = .ok (.iaload, 1) := by decide +kernel
theorem dX9_undo_60 : decode cX9_undo 60 = .ok (.iastore, 1) := by decide +kernel
theorem dX9_undo_61 : decode cX9_undo 61 = .ok (.iinc 1 1, 3) := by decide +kernel
theorem dX9_undo_64 : decode cX9_undo 64 = .ok (.goto (-31), 3) := by decide +kernel
theorem dX9_undo_67 : decode cX9_undo 67 = .ok (.aload_n 0, 1) := by decide +kernel
theorem dX9_undo_68 : decode cX9_undo 68 = .ok (.getfield 390, 3) := by decide +kernel
theorem dX9_undo_71 : decode cX9_undo 71 = .ok (.ireturn, 1) := by decide +kernel
theorem dX9_undoCount_0 : decode cX9_undoCount 0 = .ok (.aload_n 0, 1) := by decide +kernel
theorem dX9_undoCount_1 : decode cX9_undoCount 1 = .ok (.iconst 0, 1) := by decide +kernel
theorem dX9_undoCount_2 : decode cX9_undoCount 2 = .ok (.putfield 3, 3) := by decide +kernel
theorem dX9_undoCount_5 : decode cX9_undoCount 5 = .ok (.aload_n 0, 1) := by decide +kernel
theorem dX9_undoCount_6 : decode cX9_undoCount 6 = .ok (.getfield 390, 3) := by decide +kernel
theorem dX9_undoCount_9 : decode cX9_undoCount 9 = .ok (.ireturn, 1) := by decide +kernel
theorem dX9_write_0 : decode cX9_write 0 = .ok (.aload_n 0, 1) := by decide +kernel
theorem dX9_write_1 : decode cX9_write 1 = .ok (.getfield 47, 3) := by decide +kernel
theorem dX9_write_4 : decode cX9_write 4 = .ok (.aload_n 0, 1) := by decide +kernel
theorem dX9_write_5 : decode cX9_write 5 = .ok (.getfield 393, 3) := by decide +kernel
theorem dX9_write_8 : decode cX9_write 8 = .ok (.iload_n 1, 1) := by decide +kernel
theorem dX9_write_9 : decode cX9_write 9 = .ok (.i2b, 1) := by decide +kernel
theorem dX9_write_10 : decode cX9_write 10 = .ok (.bastore, 1) := by decide +kernel
theorem dX9_write_11 : decode cX9_write 11 = .ok (.aload_n 0, 1) := by decide +kernel
theorem dX9_write_12 : decode cX9_write 12 = .ok (.dup, 1) := by decide +kernel
theorem dX9_write_13 : decode cX9_write 13 = .ok (.getfield 393, 3) := by decide +kernel
theorem dX9_write_16 : decode cX9_write 16 = .ok (.iconst 1, 1) := by decide +kernel
theorem dX9_write_17 : decode cX9_write 17 = .ok (.iadd, 1) := by decide +kernel
theorem dX9_write_18 : decode cX9_write 18 = .ok (.putfield 393, 3) := by decide +kernel
theorem dX9_write_21 : decode cX9_write 21 = .ok (.return_, 1) := by decide +kernel
theorem dX9_writeInt_0 : decode cX9_writeInt 0 = .ok (.iload_n 1, 1) := by decide +kernel
theorem dX9_writeInt_1 : decode cX9_writeInt 1 = .ok (.ifCond .ge 9, 3) := by decide +kernel
theorem dX9_writeInt_4 : decode cX9_writeInt 4 = .ok (.aload_n 0, 1) := by decide +kernel
theorem dX9_writeInt_5 : decode cX9_writeInt 5 = .ok (.bipush 45, 2) := by decide +kernel
theorem dX9_writeInt_7 : decode cX9_writeInt 7 = .ok (.invokevirtual 396, 3) := by decide +kernel
theorem dX9_writeInt_10 : decode cX9_writeInt 10 = .ok (.iload_n 1, 1) := by decide +kernel
theorem dX9_writeInt_11 : decode cX9_writeInt 11 = .ok (.invokestatic 399, 3) := by decide +kernel
theorem dX9_writeInt_14 : decode cX9_writeInt 14 = .ok (.istore_n 2, 1) := by decide +kernel
theorem dX9_writeInt_15 : decode cX9_writeInt 15 = .ok (.iconst 1, 1) := by decide +kernel
theorem dX9_writeInt_16 : decode cX9_writeInt 16 = .ok (.istore_n 3, 1) := by decide +kernel
theorem dX9_writeInt_17 : decode cX9_writeInt 17 = .ok (.iload_n 2, 1) := by decide +kernel
theorem dX9_writeInt_18 : decode cX9_writeInt 18 = .ok (.iload_n 3, 1) := by decide +kernel
theorem dX9_writeInt_19 : decode cX9_writeInt 19 = .ok (.idiv, 1) := by decide +kernel
theorem dX9_writeInt_20 : decode cX9_writeInt 20 = .ok (.bipush 10, 2) := by decide +kernel
theorem dX9_writeInt_22 : decode cX9_writeInt 22 = .ok (.if_icmp .lt 11, 3) := by decide +kernel
theorem dX9_writeInt_25 : decode cX9_writeInt 25 = .ok (.iload_n 3, 1) := by decide +kernel
theorem dX9_writeInt_26 : decode cX9_writeInt 26 = .ok (.bipush 10, 2) := by decide +kernel
theorem dX9_writeInt_28 : decode cX9_writeInt 28 = .ok (.imul, 1) := by decide +kernel
theorem dX9_writeInt_29 : decode cX9_writeInt 29 = .ok (.istore_n 3, 1) := by decide +kernel
theorem dX9_writeInt_30 : decode cX9_writeInt 30 = .ok (.goto (-13), 3) := by decide +kernel
theorem dX9_writeInt_33 : decode cX9_writeInt 33 = .ok (.iload_n 3, 1) := by decide +kernel
theorem dX9_writeInt_34 : decode cX9_writeInt 34 = .ok (.istore 4, 2) := by decide +kernel
theorem dX9_writeInt_36 : decode cX9_writeInt 36 = .ok (.iload 4, 2) := by decide +kernel
theorem dX9_writeInt_38 : decode cX9_writeInt 38 = .ok (.ifCond .le 27, 3) := by decide +kernel
theorem dX9_writeInt_41 : decode cX9_writeInt 41 = .ok (.aload_n 0, 1) := by decide +kernel
theorem dX9_writeInt_42 : decode cX9_writeInt 42 = .ok (.bipush 48, 2) := by decide +kernel
theorem dX9_writeInt_44 : decode cX9_writeInt 44 = .ok (.iload_n 2, 1) := by decide +kernel
theorem dX9_writeInt_45 : decode cX9_writeInt 45 = .ok (.iload 4, 2) := by decide +kernel
theorem dX9_writeInt_47 : decode cX9_writeInt 47 = .ok (.idiv, 1) := by decide +kernel
theorem dX9_writeInt_48 : decode cX9_writeInt 48 = .ok (.bipush 10, 2) := by decide +kernel
theorem dX9_writeInt_50 : decode cX9_writeInt 50 = .ok (.irem, 1) := by decide +kernel
theorem dX9_writeInt_51 : decode cX9_writeInt 51 = .ok (.iadd, 1) := by decide +kernel
theorem dX9_writeInt_52 : decode cX9_writeInt 52 = .ok (.invokevirtual 396, 3) := by decide +kernel
theorem dX9_writeInt_55 : decode cX9_writeInt 55 = .ok (.iload 4, 2) := by decide +kernel
theorem dX9_writeInt_57 : decode cX9_writeInt 57 = .ok (.bipush 10, 2) := by decide +kernel
theorem dX9_writeInt_59 : decode cX9_writeInt 59 = .ok (.idiv, 1) := by decide +kernel
theorem dX9_writeInt_60 : decode cX9_writeInt 60 = .ok (.istore 4, 2) := by decide +kernel
theorem dX9_writeInt_62 : decode cX9_writeInt 62 = .ok (.goto (-26), 3) := by decide +kernel
theorem dX9_writeInt_65 : decode cX9_writeInt 65 = .ok (.return_, 1) := by decide +kernel
theorem dX9_writeTwo_0 : decode cX9_writeTwo 0 = .ok (.aload_n 0, 1) := by decide +kernel
theorem dX9_writeTwo_1 : decode cX9_writeTwo 1 = .ok (.bipush 58, 2) := by decide +kernel
theorem dX9_writeTwo_3 : decode cX9_writeTwo 3 = .ok (.invokevirtual 396, 3) := by decide +kernel
theorem dX9_writeTwo_6 : decode cX9_writeTwo 6 = .ok (.aload_n 0, 1) := by decide +kernel
theorem dX9_writeTwo_7 : decode cX9_writeTwo 7 = .ok (.bipush 48, 2) := by decide +kernel
theorem dX9_writeTwo_9 : decode cX9_writeTwo 9 = .ok (.iload_n 1, 1) := by decide +kernel
theorem dX9_writeTwo_10 : decode cX9_writeTwo 10 = .ok (.bipush 10, 2) := by decide +kernel
theorem dX9_writeTwo_12 : decode cX9_writeTwo 12 = .ok (.idiv, 1) := by decide +kernel
theorem dX9_writeTwo_13 : decode cX9_writeTwo 13 = .ok (.iadd, 1) := by decide +kernel
theorem dX9_writeTwo_14 : decode cX9_writeTwo 14 = .ok (.invokevirtual 396, 3) := by decide +kernel
theorem dX9_writeTwo_17 : decode cX9_writeTwo 17 = .ok (.aload_n 0, 1) := by decide +kernel
theorem dX9_writeTwo_18 : decode cX9_writeTwo 18 = .ok (.bipush 48, 2) := by decide +kernel
theorem dX9_writeTwo_20 : decode cX9_writeTwo 20 = .ok (.iload_n 1, 1) := by decide +kernel
theorem dX9_writeTwo_21 : decode cX9_writeTwo 21 = .ok (.bipush 10, 2) := by decide +kernel
theorem dX9_writeTwo_23 : decode cX9_writeTwo 23 = .ok (.irem, 1) := by decide +kernel
theorem dX9_writeTwo_24 : decode cX9_writeTwo 24 = .ok (.iadd, 1) := by decide +kernel
theorem dX9_writeTwo_25 : decode cX9_writeTwo 25 = .ok (.invokevirtual 396, 3) := by decide +kernel
theorem dX9_writeTwo_28 : decode cX9_writeTwo 28 = .ok (.return_, 1) := by decide +kernel
theorem dX9_space_0 : decode cX9_space 0 = .ok (.aload_n 0, 1) := by decide +kernel
theorem dX9_space_1 : decode cX9_space 1 = .ok (.getfield 393, 3) := by decide +kernel
theorem dX9_space_4 : decode cX9_space 4 = .ok (.ifCond .le 9, 3) := by decide +kernel
theorem dX9_space_7 : decode cX9_space 7 = .ok (.aload_n 0, 1) := by decide +kernel
theorem dX9_space_8 : decode cX9_space 8 = .ok (.bipush 32, 2) := by decide +kernel
theorem dX9_space_10 : decode cX9_space 10 = .ok (.invokevirtual 396, 3) := by decide +kernel
theorem dX9_space_13 : decode cX9_space 13 = .ok (.return_, 1) := by decide +kernel
theorem dX9_writeClock_0 : decode cX9_writeClock 0 = .ok (.aload_n 0, 1) := by decide +kernel
theorem dX9_writeClock_1 : decode cX9_writeClock 1 = .ok (.iconst 0, 1) := by decide +kernel
theorem dX9_writeClock_2 : decode cX9_writeClock 2 = .ok (.putfield 3, 3) := by decide +kernel
theorem dX9_writeClock_5 : decode cX9_writeClock 5 = .ok (.aload_n 0, 1) := by decide +kernel
theorem dX9_writeClock_6 : decode cX9_writeClock 6 = .ok (.iconst 0, 1) := by decide +kernel
theorem dX9_writeClock_7 : decode cX9_writeClock 7 = .ok (.putfield 393, 3) := by decide +kernel
theorem dX9_writeClock_10 : decode cX9_writeClock 10 = .ok (.iconst 0, 1) := by decide +kernel
theorem dX9_writeClock_11 : decode cX9_writeClock 11 = .ok (.istore_n 1, 1) := by decide +kernel
theorem dX9_writeClock_12 : decode cX9_writeClock 12 = .ok (.iload_n 1, 1) := by decide +kernel
theorem dX9_writeClock_13 : decode cX9_writeClock 13 = .ok (.iconst 2, 1) := by decide +kernel
theorem dX9_writeClock_14 : decode cX9_writeClock 14 = .ok (.if_icmp .ge 99, 3) := by decide +kernel
theorem dX9_writeClock_17 : decode cX9_writeClock 17 = .ok (.aload_n 0, 1) := by decide +kernel
theorem dX9_writeClock_18 : decode cX9_writeClock 18 = .ok (.invokevirtual 402, 3) := by decide +kernel
theorem dX9_writeClock_21 : decode cX9_writeClock 21 = .ok (.aload_n 0, 1) := by decide +kernel
theorem dX9_writeClock_22 : decode cX9_writeClock 22 = .ok (.iload_n 1, 1) := by decide +kernel
theorem dX9_writeClock_23 : decode cX9_writeClock 23 = .ok (.invokevirtual 335, 3) := by decide +kernel
theorem dX9_writeClock_26 : decode cX9_writeClock 26 = .ok (.istore_n 2, 1) := by decide +kernel
theorem dX9_writeClock_27 : decode cX9_writeClock 27 = .ok (.aload_n 0, 1) := by decide +kernel
theorem dX9_writeClock_28 : decode cX9_writeClock 28 = .ok (.iload_n 2, 1) := by decide +kernel
theorem dX9_writeClock_29 : decode cX9_writeClock 29 = .ok (.sipush 3600, 3) := by decide +kernel
theorem dX9_writeClock_32 : decode cX9_writeClock 32 = .ok (.idiv, 1) := by decide +kernel
theorem dX9_writeClock_33 : decode cX9_writeClock 33 = .ok (.invokevirtual 405, 3) := by decide +kernel
theorem dX9_writeClock_36 : decode cX9_writeClock 36 = .ok (.aload_n 0, 1) := by decide +kernel
theorem dX9_writeClock_37 : decode cX9_writeClock 37 = .ok (.iload_n 2, 1) := by decide +kernel
theorem dX9_writeClock_38 : decode cX9_writeClock 38 = .ok (.bipush 60, 2) := by decide +kernel
theorem dX9_writeClock_40 : decode cX9_writeClock 40 = .ok (.idiv, 1) := by decide +kernel
theorem dX9_writeClock_41 : decode cX9_writeClock 41 = .ok (.bipush 60, 2) := by decide +kernel
theorem dX9_writeClock_43 : decode cX9_writeClock 43 = .ok (.irem, 1) := by decide +kernel
theorem dX9_writeClock_44 : decode cX9_writeClock 44 = .ok (.invokevirtual 408, 3) := by decide +kernel
theorem dX9_writeClock_47 : decode cX9_writeClock 47 = .ok (.aload_n 0, 1) := by decide +kernel
theorem dX9_writeClock_48 : decode cX9_writeClock 48 = .ok (.iload_n 2, 1) := by decide +kernel
theorem dX9_writeClock_49 : decode cX9_writeClock 49 = .ok (.bipush 60, 2) := by decide +kernel
theorem dX9_writeClock_51 : decode cX9_writeClock 51 = .ok (.irem, 1) := by decide +kernel
theorem dX9_writeClock_52 : decode cX9_writeClock 52 = .ok (.invokevirtual 408, 3) := by decide +kernel
theorem dX9_writeClock_55 : decode cX9_writeClock 55 = .ok (.aload_n 0, 1) := by decide +kernel
theorem dX9_writeClock_56 : decode cX9_writeClock 56 = .ok (.iload_n 1, 1) := by decide +kernel
theorem dX9_writeClock_57 : decode cX9_writeClock 57 = .ok (.invokevirtual 96, 3) := by decide +kernel
theorem dX9_writeClock_60 : decode cX9_writeClock 60 = .ok (.ifCond .eq 9, 3) := by decide +kernel
theorem dX9_writeClock_63 : decode cX9_writeClock 63 = .ok (.aload_n 0, 1) := by decide +kernel
theorem dX9_writeClock_64 : decode cX9_writeClock 64 = .ok (.bipush 33, 2) := by decide +kernel
theorem dX9_writeClock_66 : decode cX9_writeClock 66 = .ok (.invokevirtual 396, 3) := by decide +kernel
theorem dX9_writeClock_69 : decode cX9_writeClock 69 = .ok (.iconst 0, 1) := by decide +kernel
theorem dX9_writeClock_70 : decode cX9_writeClock 70 = .ok (.istore_n 3, 1) := by decide +kernel
theorem dX9_writeClock_71 : decode cX9_writeClock 71 = .ok (.iload_n 3, 1) := by decide +kernel
theorem dX9_writeClock_72 : decode cX9_writeClock 72 = .ok (.aload_n 0, 1) := by decide +kernel
theorem dX9_writeClock_73 : decode cX9_writeClock 73 = .ok (.iload_n 1, 1) := by decide +kernel
theorem dX9_writeClock_74 : decode cX9_writeClock 74 = .ok (.iconst 4, 1) := by decide +kernel
theorem dX9_writeClock_75 : decode cX9_writeClock 75 = .ok (.invokevirtual 57, 3) := by decide +kernel
theorem dX9_writeClock_78 : decode cX9_writeClock 78 = .ok (.if_icmp .ge 15, 3) := by decide +kernel
theorem dX9_writeClock_81 : decode cX9_writeClock 81 = .ok (.aload_n 0, 1) := by decide +kernel
theorem dX9_writeClock_82 : decode cX9_writeClock 82 = .ok (.bipush 43, 2) := by decide +kernel
theorem dX9_writeClock_84 : decode cX9_writeClock 84 = .ok (.invokevirtual 396, 3) := by decide +kernel
theorem dX9_writeClock_87 : decode cX9_writeClock 87 = .ok (.iinc 3 1, 3) := by decide +kernel
theorem dX9_writeClock_90 : decode cX9_writeClock 90 = .ok (.goto (-19), 3) := by decide +kernel
theorem dX9_writeClock_93 : decode cX9_writeClock 93 = .ok (.aload_n 0, 1) := by decide +kernel
theorem dX9_writeClock_94 : decode cX9_writeClock 94 = .ok (.invokevirtual 80, 3) := by decide +kernel
theorem dX9_writeClock_97 : decode cX9_writeClock 97 = .ok (.iload_n 1, 1) := by decide +kernel
theorem dX9_writeClock_98 : decode cX9_writeClock 98 = .ok (.if_icmp .ne 9, 3) := by decide +kernel
theorem dX9_writeClock_101 : decode cX9_writeClock 101 = .ok (.aload_n 0, 1) := by decide +kernel
theorem dX9_writeClock_102 : decode cX9_writeClock 102 = .ok (.bipush 42, 2) := by decide +kernel
theorem dX9_writeClock_104 : decode cX9_writeClock 104 = .ok (.invokevirtual 396, 3) := by decide +kernel
theorem dX9_writeClock_107 : decode cX9_writeClock 107 = .ok (.iinc 1 1, 3) := by decide +kernel
theorem dX9_writeClock_110 : decode cX9_writeClock 110 = .ok (.goto (-98), 3) := by decide +kernel
theorem dX9_writeClock_113 : decode cX9_writeClock 113 = .ok (.aload_n 0, 1) := by decide +kernel
theorem dX9_writeClock_114 : decode cX9_writeClock 114 = .ok (.getfield 393, 3) := by decide +kernel
theorem dX9_writeClock_117 : decode cX9_writeClock 117 = .ok (.ireturn, 1) := by decide +kernel
theorem dX9_writeLog_0 : decode cX9_writeLog 0 = .ok (.aload_n 0, 1) := by decide +kernel
theorem dX9_writeLog_1 : decode cX9_writeLog 1 = .ok (.iconst 0, 1) := by decide +kernel
theorem dX9_writeLog_2 : decode cX9_writeLog 2 = .ok (.putfield 3, 3) := by decide +kernel
theorem dX9_writeLog_5 : decode cX9_writeLog 5 = .ok (.aload_n 0, 1) := by decide +kernel
theorem dX9_writeLog_6 : decode cX9_writeLog 6 = .ok (.iconst 0, 1) := by decide +kernel
theorem dX9_writeLog_7 : decode cX9_writeLog 7 = .ok (.putfield 393, 3) := by decide +kernel
theorem dX9_writeLog_10 : decode cX9_writeLog 10 = .ok (.bipush 12, 2) := by decide +kernel
theorem dX9_writeLog_12 : decode cX9_writeLog 12 = .ok (.aload_n 0, 1) := by decide +kernel
theorem dX9_writeLog_13 : decode cX9_writeLog 13 = .ok (.invokevirtual 324, 3) := by decide +kernel
theorem dX9_writeLog_16 : decode cX9_writeLog 16 = .ok (.invokestatic 99, 3) := by decide +kernel
theorem dX9_writeLog_19 : decode cX9_writeLog 19 = .ok (.iconst 1, 1) := by decide +kernel
theorem dX9_writeLog_20 : decode cX9_writeLog 20 = .ok (.isub, 1) := by decide +kernel
theorem dX9_writeLog_21 : decode cX9_writeLog 21 = .ok (.istore_n 1, 1) := by decide +kernel
theorem dX9_writeLog_22 : decode cX9_writeLog 22 = .ok (.iload_n 1, 1) := by decide +kernel
theorem dX9_writeLog_23 : decode cX9_writeLog 23 = .ok (.ifCond .lt 68, 3) := by decide +kernel
theorem dX9_writeLog_26 : decode cX9_writeLog 26 = .ok (.aload_n 0, 1) := by decide +kernel
theorem dX9_writeLog_27 : decode cX9_writeLog 27 = .ok (.invokevirtual 402, 3) := by decide +kernel
theorem dX9_writeLog_30 : decode cX9_writeLog 30 = .ok (.aload_n 0, 1) := by decide +kernel
theorem dX9_writeLog_31 : decode cX9_writeLog 31 = .ok (.aload_n 0, 1) := by decide +kernel
theorem dX9_writeLog_32 : decode cX9_writeLog 32 = .ok (.iload_n 1, 1) := by decide +kernel
theorem dX9_writeLog_33 : decode cX9_writeLog 33 = .ok (.iconst 0, 1) := by decide +kernel
theorem dX9_writeLog_34 : decode cX9_writeLog 34 = .ok (.invokevirtual 329, 3) := by decide +kernel
theorem dX9_writeLog_37 : decode cX9_writeLog 37 = .ok (.ifCond .ne 8, 3) := by decide +kernel
theorem dX9_writeLog_40 : decode cX9_writeLog 40 = .ok (.bipush 119, 2) := by decide +kernel
theorem dX9_writeLog_42 : decode cX9_writeLog 42 = .ok (.goto 5, 3) := by decide +kernel
theorem dX9_writeLog_45 : decode cX9_writeLog 45 = .ok (.bipush 98, 2) := by decide +kernel
theorem dX9_writeLog_47 : decode cX9_writeLog 47 = .ok (.invokevirtual 396, 3) := by decide +kernel
theorem dX9_writeLog_50 : decode cX9_writeLog 50 = .ok (.aload_n 0, 1) := by decide +kernel
theorem dX9_writeLog_51 : decode cX9_writeLog 51 = .ok (.aload_n 0, 1) := by decide +kernel
theorem dX9_writeLog_52 : decode cX9_writeLog 52 = .ok (.iload_n 1, 1) := by decide +kernel
theorem dX9_writeLog_53 : decode cX9_writeLog 53 = .ok (.iconst 1, 1) := by decide +kernel
theorem dX9_writeLog_54 : decode cX9_writeLog 54 = .ok (.invokevirtual 329, 3) := by decide +kernel
theorem dX9_writeLog_57 : decode cX9_writeLog 57 = .ok (.invokevirtual 405, 3) := by decide +kernel
theorem dX9_writeLog_60 : decode cX9_writeLog 60 = .ok (.aload_n 0, 1) := by decide +kernel
theorem dX9_writeLog_61 : decode cX9_writeLog 61 = .ok (.iload_n 1, 1) := by decide +kernel
theorem dX9_writeLog_62 : decode cX9_writeLog 62 = .ok (.iconst 3, 1) := by decide +kernel
theorem dX9_writeLog_63 : decode cX9_writeLog 63 = .ok (.invokevirtual 329, 3) := by decide +kernel
theorem dX9_writeLog_66 : decode cX9_writeLog 66 = .ok (.ifCond .eq 19, 3) := by decide +kernel
theorem dX9_writeLog_69 : decode cX9_writeLog 69 = .ok (.aload_n 0, 1) := by decide +kernel
theorem dX9_writeLog_70 : decode cX9_writeLog 70 = .ok (.bipush 43, 2) := by decide +kernel
theorem dX9_writeLog_72 : decode cX9_writeLog 72 = .ok (.invokevirtual 396, 3) := by decide +kernel
theorem dX9_writeLog_75 : decode cX9_writeLog 75 = .ok (.aload_n 0, 1) := by decide +kernel
theorem dX9_writeLog_76 : decode cX9_writeLog 76 = .ok (.aload_n 0, 1) := by decide +kernel
theorem dX9_writeLog_77 : decode cX9_writeLog 77 = .ok (.iload_n 1, 1) := by decide +kernel
theorem dX9_writeLog_78 : decode cX9_writeLog 78 = .ok (.iconst 3, 1) := by decide +kernel
theorem dX9_writeLog_79 : decode cX9_writeLog 79 = .ok (.invokevirtual 329, 3) := by decide +kernel
theorem dX9_writeLog_82 : decode cX9_writeLog 82 = .ok (.invokevirtual 405, 3) := by decide +kernel
theorem dX9_writeLog_85 : decode cX9_writeLog 85 = .ok (.iinc 1 (-1), 3) := by decide +kernel
theorem dX9_writeLog_88 : decode cX9_writeLog 88 = .ok (.goto (-66), 3) := by decide +kernel
theorem dX9_writeLog_91 : decode cX9_writeLog 91 = .ok (.aload_n 0, 1) := by decide +kernel
theorem dX9_writeLog_92 : decode cX9_writeLog 92 = .ok (.getfield 393, 3) := by decide +kernel
theorem dX9_writeLog_95 : decode cX9_writeLog 95 = .ok (.ireturn, 1) := by decide +kernel
theorem dX9_writeIf_0 : decode cX9_writeIf 0 = .ok (.iload_n 2, 1) := by decide +kernel
theorem dX9_writeIf_1 : decode cX9_writeIf 1 = .ok (.ifCond .eq 13, 3) := by decide +kernel
theorem dX9_writeIf_4 : decode cX9_writeIf 4 = .ok (.aload_n 0, 1) := by decide +kernel
theorem dX9_writeIf_5 : decode cX9_writeIf 5 = .ok (.iload_n 1, 1) := by decide +kernel
theorem dX9_writeIf_6 : decode cX9_writeIf 6 = .ok (.invokevirtual 396, 3) := by decide +kernel
theorem dX9_writeIf_9 : decode cX9_writeIf 9 = .ok (.aload_n 0, 1) := by decide +kernel
theorem dX9_writeIf_10 : decode cX9_writeIf 10 = .ok (.iload_n 2, 1) := by decide +kernel
theorem dX9_writeIf_11 : decode cX9_writeIf 11 = .ok (.invokevirtual 405, 3) := by decide +kernel
theorem dX9_writeIf_14 : decode cX9_writeIf 14 = .ok (.return_, 1) := by decide +kernel
theorem dX9_writePeriods_0 : decode cX9_writePeriods 0 = .ok (.aload_n 0, 1) := by decide +kernel
theorem dX9_writePeriods_1 : decode cX9_writePeriods 1 = .ok (.iconst 0, 1) := by decide +kernel
theorem dX9_writePeriods_2 : decode cX9_writePeriods 2 = .ok (.putfield 3, 3) := by decide +kernel
theorem dX9_writePeriods_5 : decode cX9_writePeriods 5 = .ok (.aload_n 0, 1) := by decide +kernel
theorem dX9_writePeriods_6 : decode cX9_writePeriods 6 = .ok (.iconst 0, 1) := by decide +kernel
theorem dX9_writePeriods_7 : decode cX9_writePeriods 7 = .ok (.putfield 393, 3) := by decide +kernel
theorem dX9_writePeriods_10 : decode cX9_writePeriods 10 = .ok (.iconst 0, 1) := by decide +kernel
theorem dX9_writePeriods_11 : decode cX9_writePeriods 11 = .ok (.istore_n 1, 1) := by decide +kernel
theorem dX9_writePeriods_12 : decode cX9_writePeriods 12 = .ok (.iload_n 1, 1) := by decide +kernel
theorem dX9_writePeriods_13 : decode cX9_writePeriods 13 = .ok (.aload_n 0, 1) := by decide +kernel
theorem dX9_writePeriods_14 : decode cX9_writePeriods 14 = .ok (.getfield 17, 3) := by decide +kernel
theorem dX9_writePeriods_17 : decode cX9_writePeriods 17 = .ok (.iconst 2, 1) := by decide +kernel
theorem dX9_writePeriods_18 : decode cX9_writePeriods 18 = .ok (.iaload, 1) := by decide +kernel
theorem dX9_writePeriods_19 : decode cX9_writePeriods 19 = .ok (.if_icmp .ge 93, 3) := by decide +kernel
theorem dX9_writePeriods_22 : decode cX9_writePeriods 22 = .ok (.aload_n 0, 1) := by decide +kernel
theorem dX9_writePeriods_23 : decode cX9_writePeriods 23 = .ok (.invokevirtual 402, 3) := by decide +kernel
theorem dX9_writePeriods_26 : decode cX9_writePeriods 26 = .ok (.aload_n 0, 1) := by decide +kernel
theorem dX9_writePeriods_27 : decode cX9_writePeriods 27 = .ok (.iload_n 1, 1) := by decide +kernel
theorem dX9_writePeriods_28 : decode cX9_writePeriods 28 = .ok (.iconst 0, 1) := by decide +kernel
theorem dX9_writePeriods_29 : decode cX9_writePeriods 29 = .ok (.invokevirtual 61, 3) := by decide +kernel
theorem dX9_writePeriods_32 : decode cX9_writePeriods 32 = .ok (.ifCond .ne 12, 3) := by decide +kernel
theorem dX9_writePeriods_35 : decode cX9_writePeriods 35 = .ok (.aload_n 0, 1) := by decide +kernel
theorem dX9_writePeriods_36 : decode cX9_writePeriods 36 = .ok (.bipush 114, 2) := by decide +kernel
theorem dX9_writePeriods_38 : decode cX9_writePeriods 38 = .ok (.invokevirtual 396, 3) := by decide +kernel
theorem dX9_writePeriods_41 : decode cX9_writePeriods 41 = .ok (.goto 13, 3) := by decide +kernel
theorem dX9_writePeriods_44 : decode cX9_writePeriods 44 = .ok (.aload_n 0, 1) := by decide +kernel
theorem dX9_writePeriods_45 : decode cX9_writePeriods 45 = .ok (.aload_n 0, 1) := by decide +kernel
theorem dX9_writePeriods_46 : decode cX9_writePeriods 46 = .ok (.iload_n 1, 1) := by decide +kernel
theorem dX9_writePeriods_47 : decode cX9_writePeriods 47 = .ok (.iconst 0, 1) := by decide +kernel
theorem dX9_writePeriods_48 : decode cX9_writePeriods 48 = .ok (.invokevirtual 61, 3) := by decide +kernel
theorem dX9_writePeriods_51 : decode cX9_writePeriods 51 = .ok (.invokevirtual 405, 3) := by decide +kernel
theorem dX9_writePeriods_54 : decode cX9_writePeriods 54 = .ok (.aload_n 0, 1) := by decide +kernel
theorem dX9_writePeriods_55 : decode cX9_writePeriods 55 = .ok (.bipush 47, 2) := by decide +kernel
theorem dX9_writePeriods_57 : decode cX9_writePeriods 57 = .ok (.invokevirtual 396, 3) := by decide +kernel
theorem dX9_writePeriods_60 : decode cX9_writePeriods 60 = .ok (.aload_n 0, 1) := by decide +kernel
theorem dX9_writePeriods_61 : decode cX9_writePeriods 61 = .ok (.aload_n 0, 1) := by decide +kernel
theorem dX9_writePeriods_62 : decode cX9_writePeriods 62 = .ok (.iload_n 1, 1) := by decide +kernel
theorem dX9_writePeriods_63 : decode cX9_writePeriods 63 = .ok (.iconst 1, 1) := by decide +kernel
theorem dX9_writePeriods_64 : decode cX9_writePeriods 64 = .ok (.invokevirtual 61, 3) := by decide +kernel
theorem dX9_writePeriods_67 : decode cX9_writePeriods 67 = .ok (.invokevirtual 405, 3) := by decide +kernel
theorem dX9_writePeriods_70 : decode cX9_writePeriods 70 = .ok (.aload_n 0, 1) := by decide +kernel
theorem dX9_writePeriods_71 : decode cX9_writePeriods 71 = .ok (.bipush 43, 2) := by decide +kernel
theorem dX9_writePeriods_73 : decode cX9_writePeriods 73 = .ok (.aload_n 0, 1) := by decide +kernel
theorem dX9_writePeriods_74 : decode cX9_writePeriods 74 = .ok (.iload_n 1, 1) := by decide +kernel
theorem dX9_writePeriods_75 : decode cX9_writePeriods 75 = .ok (.iconst 2, 1) := by decide +kernel
theorem dX9_writePeriods_76 : decode cX9_writePeriods 76 = .ok (.invokevirtual 61, 3) := by decide +kernel
theorem dX9_writePeriods_79 : decode cX9_writePeriods 79 = .ok (.invokevirtual 411, 3) := by decide +kernel
theorem dX9_writePeriods_82 : decode cX9_writePeriods 82 = .ok (.aload_n 0, 1) := by decide +kernel
theorem dX9_writePeriods_83 : decode cX9_writePeriods 83 = .ok (.bipush 100, 2) := by decide +kernel
theorem dX9_writePeriods_85 : decode cX9_writePeriods 85 = .ok (.aload_n 0, 1) := by decide +kernel
theorem dX9_writePeriods_86 : decode cX9_writePeriods 86 = .ok (.iload_n 1, 1) := by decide +kernel
theorem dX9_writePeriods_87 : decode cX9_writePeriods 87 = .ok (.iconst 3, 1) := by decide +kernel
theorem dX9_writePeriods_88 : decode cX9_writePeriods 88 = .ok (.invokevirtual 61, 3) := by decide +kernel
theorem dX9_writePeriods_91 : decode cX9_writePeriods 91 = .ok (.invokevirtual 411, 3) := by decide +kernel
theorem dX9_writePeriods_94 : decode cX9_writePeriods 94 = .ok (.aload_n 0, 1) := by decide +kernel
theorem dX9_writePeriods_95 : decode cX9_writePeriods 95 = .ok (.bipush 98, 2) := by decide +kernel
theorem dX9_writePeriods_97 : decode cX9_writePeriods 97 = .ok (.aload_n 0, 1) := by decide +kernel
theorem dX9_writePeriods_98 : decode cX9_writePeriods 98 = .ok (.iload_n 1, 1) := by decide +kernel
theorem dX9_writePeriods_99 : decode cX9_writePeriods 99 = .ok (.iconst 4, 1) := by decide +kernel
theorem dX9_writePeriods_100 : decode cX9_writePeriods 100 = .ok (.invokevirtual 61, 3) := by decide +kernel
theorem dX9_writePeriods_103 : decode cX9_writePeriods 103 = .ok (.invokevirtual 411, 3) := by decide +kernel
theorem dX9_writePeriods_106 : decode cX9_writePeriods 106 = .ok (.iinc 1 1, 3) := by decide +kernel
theorem dX9_writePeriods_109 : decode cX9_writePeriods 109 = .ok (.goto (-97), 3) := by decide +kernel
theorem dX9_writePeriods_112 : decode cX9_writePeriods 112 = .ok (.aload_n 0, 1) := by decide +kernel
theorem dX9_writePeriods_113 : decode cX9_writePeriods 113 = .ok (.getfield 393, 3) := by decide +kernel
theorem dX9_writePeriods_116 : decode cX9_writePeriods 116 = .ok (.ireturn, 1) := by decide +kernel
theorem dX9_outputByte_0 : decode cX9_outputByte 0 = .ok (.aload_n 0, 1) := by decide +kernel
theorem dX9_outputByte_1 : decode cX9_outputByte 1 = .ok (.iload_n 1, 1) := by decide +kernel
theorem dX9_outputByte_2 : decode cX9_outputByte 2 = .ok (.i2l, 1) := by decide +kernel
theorem dX9_outputByte_3 : decode cX9_outputByte 3 = .ok (.lconst 0, 1) := by decide +kernel
theorem dX9_outputByte_4 : decode cX9_outputByte 4 = .ok (.aload_n 0, 1) := by decide +kernel
theorem dX9_outputByte_5 : decode cX9_outputByte 5 = .ok (.getfield 393, 3) := by decide +kernel
theorem dX9_outputByte_8 : decode cX9_outputByte 8 = .ok (.iconst 1, 1) := by decide +kernel
theorem dX9_outputByte_9 : decode cX9_outputByte 9 = .ok (.isub, 1) := by decide +kernel
theorem dX9_outputByte_10 : decode cX9_outputByte 10 = .ok (.i2l, 1) := by decide +kernel
theorem dX9_outputByte_11 : decode cX9_outputByte 11 = .ok (.invokestatic 64, 3) := by decide +kernel
theorem dX9_outputByte_14 : decode cX9_outputByte 14 = .ok (.invokevirtual 159, 3) := by decide +kernel
theorem dX9_outputByte_17 : decode cX9_outputByte 17 = .ok (.ifCond .eq 12, 3) := by decide +kernel
theorem dX9_outputByte_20 : decode cX9_outputByte 20 = .ok (.aload_n 0, 1) := by decide +kernel
theorem dX9_outputByte_21 : decode cX9_outputByte 21 = .ok (.getfield 47, 3) := by decide +kernel
theorem dX9_outputByte_24 : decode cX9_outputByte 24 = .ok (.iload_n 1, 1) := by decide +kernel
theorem dX9_outputByte_25 : decode cX9_outputByte 25 = .ok (.baload, 1) := by decide +kernel
theorem dX9_outputByte_26 : decode cX9_outputByte 26 = .ok (.goto 4, 3) := by decide +kernel
theorem dX9_outputByte_29 : decode cX9_outputByte 29 = .ok (.iconst 0, 1) := by decide +kernel
theorem dX9_outputByte_30 : decode cX9_outputByte 30 = .ok (.ireturn, 1) := by decide +kernel
theorem dJ9_abs_0f7a4_0 : decode cJ9_abs_0f7a4 0 = .ok (.iload_n 0, 1) := by decide +kernel
theorem dJ9_abs_0f7a4_1 : decode cJ9_abs_0f7a4 1 = .ok (.ifCond .ge 8, 3) := by decide +kernel
theorem dJ9_abs_0f7a4_4 : decode cJ9_abs_0f7a4 4 = .ok (.iload_n 0, 1) := by decide +kernel
theorem dJ9_abs_0f7a4_5 : decode cJ9_abs_0f7a4 5 = .ok (.ineg, 1) := by decide +kernel
theorem dJ9_abs_0f7a4_6 : decode cJ9_abs_0f7a4 6 = .ok (.goto 4, 3) := by decide +kernel
theorem dJ9_abs_0f7a4_9 : decode cJ9_abs_0f7a4 9 = .ok (.iload_n 0, 1) := by decide +kernel
theorem dJ9_abs_0f7a4_10 : decode cJ9_abs_0f7a4 10 = .ok (.ireturn, 1) := by decide +kernel
theorem dJ9_max_7cf53_0 : decode cJ9_max_7cf53 0 = .ok (.iload_n 0, 1) := by decide +kernel
theorem dJ9_max_7cf53_1 : decode cJ9_max_7cf53 1 = .ok (.iload_n 1, 1) := by decide +kernel
theorem dJ9_max_7cf53_2 : decode cJ9_max_7cf53 2 = .ok (.if_icmp .lt 7, 3) := by decide +kernel
theorem dJ9_max_7cf53_5 : decode cJ9_max_7cf53 5 = .ok (.iload_n 0, 1) := by decide +kernel
theorem dJ9_max_7cf53_6 : decode cJ9_max_7cf53 6 = .ok (.goto 4, 3) := by decide +kernel
theorem dJ9_max_7cf53_9 : decode cJ9_max_7cf53 9 = .ok (.iload_n 1, 1) := by decide +kernel
theorem dJ9_max_7cf53_10 : decode cJ9_max_7cf53 10 = .ok (.ireturn, 1) := by decide +kernel
theorem dJ9_min_7cf53_0 : decode cJ9_min_7cf53 0 = .ok (.iload_n 0, 1) := by decide +kernel
theorem dJ9_min_7cf53_1 : decode cJ9_min_7cf53 1 = .ok (.iload_n 1, 1) := by decide +kernel
theorem dJ9_min_7cf53_2 : decode cJ9_min_7cf53 2 = .ok (.if_icmp .gt 7, 3) := by decide +kernel
theorem dJ9_min_7cf53_5 : decode cJ9_min_7cf53 5 = .ok (.iload_n 0, 1) := by decide +kernel
theorem dJ9_min_7cf53_6 : decode cJ9_min_7cf53 6 = .ok (.goto 4, 3) := by decide +kernel
theorem dJ9_min_7cf53_9 : decode cJ9_min_7cf53 9 = .ok (.iload_n 1, 1) := by decide +kernel
theorem dJ9_min_7cf53_10 : decode cJ9_min_7cf53 10 = .ok (.ireturn, 1) := by decide +kernel
theorem dJ0_length_8abf5_0 : decode cJ0_length_8abf5 0 = .ok (.aload_n 0, 1) := by decide +kernel
theorem dJ0_length_8abf5_1 : decode cJ0_length_8abf5 1 = .ok (.getfield 9, 3) := by decide +kernel
theorem dJ0_length_8abf5_4 : decode cJ0_length_8abf5 4 = .ok (.arraylength, 1) := by decide +kernel
theorem dJ0_length_8abf5_5 : decode cJ0_length_8abf5 5 = .ok (.aload_n 0, 1) := by decide +kernel
theorem dJ0_length_8abf5_6 : decode cJ0_length_8abf5 6 = .ok (.invokevirtual 335, 3) := by decide +kernel
theorem dJ0_length_8abf5_9 : decode cJ0_length_8abf5 9 = .ok (.ishr, 1) := by decide +kernel
theorem dJ0_length_8abf5_10 : decode cJ0_length_8abf5 10 = .ok (.ireturn, 1) := by decide +kernel
theorem dJ0_charAt_5068e_0 : decode cJ0_charAt_5068e 0 = .ok (.aload_n 0, 1) := by decide +kernel
theorem dJ0_charAt_5068e_1 : decode cJ0_charAt_5068e 1 = .ok (.invokevirtual 492, 3) := by decide +kernel
theorem dJ0_charAt_5068e_4 : decode cJ0_charAt_5068e 4 = .ok (.ifCond .eq 12, 3) := by decide +kernel
theorem dJ0_charAt_5068e_7 : decode cJ0_charAt_5068e 7 = .ok (.aload_n 0, 1) := by decide +kernel
theorem dJ0_charAt_5068e_8 : decode cJ0_charAt_5068e 8 = .ok (.getfield 9, 3) := by decide +kernel
theorem dJ0_charAt_5068e_11 : decode cJ0_charAt_5068e 11 = .ok (.iload_n 1, 1) := by decide +kernel
theorem dJ0_charAt_5068e_12 : decode cJ0_charAt_5068e 12 = .ok (.invokestatic 495, 3) := by decide +kernel
theorem dJ0_charAt_5068e_15 : decode cJ0_charAt_5068e 15 = .ok (.ireturn, 1) := by decide +kernel
theorem dJ0_charAt_5068e_16 : decode cJ0_charAt_5068e 16 = .ok (.aload_n 0, 1) := by decide +kernel
theorem dJ0_charAt_5068e_17 : decode cJ0_charAt_5068e 17 = .ok (.getfield 9, 3) := by decide +kernel
theorem dJ0_charAt_5068e_20 : decode cJ0_charAt_5068e 20 = .ok (.iload_n 1, 1) := by decide +kernel
theorem dJ0_charAt_5068e_21 : decode cJ0_charAt_5068e 21 = .ok (.invokestatic 498, 3) := by decide +kernel
theorem dJ0_charAt_5068e_24 : decode cJ0_charAt_5068e 24 = .ok (.ireturn, 1) := by decide +kernel
theorem dJ0_coder_7d493_0 : decode cJ0_coder_7d493 0 = .ok (.getstatic 38, 3) := by decide +kernel
theorem dJ0_coder_7d493_3 : decode cJ0_coder_7d493 3 = .ok (.ifCond .eq 10, 3) := by decide +kernel
theorem dJ0_coder_7d493_6 : decode cJ0_coder_7d493 6 = .ok (.aload_n 0, 1) := by decide +kernel
theorem dJ0_coder_7d493_7 : decode cJ0_coder_7d493 7 = .ok (.getfield 15, 3) := by decide +kernel
theorem dJ0_coder_7d493_10 : decode cJ0_coder_7d493 10 = .ok (.goto 4, 3) := by decide +kernel
theorem dJ0_coder_7d493_13 : decode cJ0_coder_7d493 13 = .ok (.iconst 1, 1) := by decide +kernel
theorem dJ0_coder_7d493_14 : decode cJ0_coder_7d493 14 = .ok (.ireturn, 1) := by decide +kernel
theorem dJ0_isLatin1_aae02_0 : decode cJ0_isLatin1_aae02 0 = .ok (.getstatic 38, 3) := by decide +kernel
theorem dJ0_isLatin1_aae02_3 : decode cJ0_isLatin1_aae02 3 = .ok (.ifCond .eq 14, 3) := by decide +kernel
theorem dJ0_isLatin1_aae02_6 : decode cJ0_isLatin1_aae02 6 = .ok (.aload_n 0, 1) := by decide +kernel
theorem dJ0_isLatin1_aae02_7 : decode cJ0_isLatin1_aae02 7 = .ok (.getfield 15, 3) := by decide +kernel
theorem dJ0_isLatin1_aae02_10 : decode cJ0_isLatin1_aae02 10 = .ok (.ifCond .ne 7, 3) := by decide +kernel
theorem dJ0_isLatin1_aae02_13 : decode cJ0_isLatin1_aae02 13 = .ok (.iconst 1, 1) := by decide +kernel
theorem dJ0_isLatin1_aae02_14 : decode cJ0_isLatin1_aae02 14 = .ok (.goto 4, 3) := by decide +kernel
theorem dJ0_isLatin1_aae02_17 : decode cJ0_isLatin1_aae02 17 = .ok (.iconst 0, 1) := by decide +kernel
theorem dJ0_isLatin1_aae02_18 : decode cJ0_isLatin1_aae02 18 = .ok (.ireturn, 1) := by decide +kernel
theorem dJ0_checkIndex_df160_0 : decode cJ0_checkIndex_df160 0 = .ok (.iload_n 0, 1) := by decide +kernel
theorem dJ0_checkIndex_df160_1 : decode cJ0_checkIndex_df160 1 = .ok (.iload_n 1, 1) := by decide +kernel
theorem dJ0_checkIndex_df160_2 : decode cJ0_checkIndex_df160 2 = .ok (.getstatic 1053, 3) := by decide +kernel
theorem dJ0_checkIndex_df160_5 : decode cJ0_checkIndex_df160 5 = .ok (.invokestatic 1059, 3) := by decide +kernel
theorem dJ0_checkIndex_df160_8 : decode cJ0_checkIndex_df160 8 = .ok (.pop, 1) := by decide +kernel
theorem dJ0_checkIndex_df160_9 : decode cJ0_checkIndex_df160 9 = .ok (.return_, 1) := by decide +kernel
theorem dJ1_charAt_3b067_0 : decode cJ1_charAt_3b067 0 = .ok (.iload_n 1, 1) := by decide +kernel
theorem dJ1_charAt_3b067_1 : decode cJ1_charAt_3b067 1 = .ok (.aload_n 0, 1) := by decide +kernel
theorem dJ1_charAt_3b067_2 : decode cJ1_charAt_3b067 2 = .ok (.arraylength, 1) := by decide +kernel
theorem dJ1_charAt_3b067_3 : decode cJ1_charAt_3b067 3 = .ok (.invokestatic 9, 3) := by decide +kernel
theorem dJ1_charAt_3b067_6 : decode cJ1_charAt_3b067 6 = .ok (.aload_n 0, 1) := by decide +kernel
theorem dJ1_charAt_3b067_7 : decode cJ1_charAt_3b067 7 = .ok (.iload_n 1, 1) := by decide +kernel
theorem dJ1_charAt_3b067_8 : decode cJ1_charAt_3b067 8 = .ok (.baload, 1) := by decide +kernel
theorem dJ1_charAt_3b067_9 : decode cJ1_charAt_3b067 9 = .ok (.sipush 255, 3) := by decide +kernel
theorem dJ1_charAt_3b067_12 : decode cJ1_charAt_3b067 12 = .ok (.iand, 1) := by decide +kernel
theorem dJ1_charAt_3b067_13 : decode cJ1_charAt_3b067 13 = .ok (.i2c, 1) := by decide +kernel
theorem dJ1_charAt_3b067_14 : decode cJ1_charAt_3b067 14 = .ok (.ireturn, 1) := by decide +kernel
theorem dJ2_getChar_3b067_0 : decode cJ2_getChar_3b067 0 = .ok (.getstatic 44, 3) := by decide +kernel
theorem dJ2_getChar_3b067_3 : decode cJ2_getChar_3b067 3 = .ok (.ifCond .ne 25, 3) := by decide +kernel
theorem dJ2_getChar_3b067_6 : decode cJ2_getChar_3b067 6 = .ok (.iload_n 1, 1) := by decide +kernel
theorem dJ2_getChar_3b067_7 : decode cJ2_getChar_3b067 7 = .ok (.ifCond .lt 11, 3) := by decide +kernel
theorem dJ2_getChar_3b067_10 : decode cJ2_getChar_3b067 10 = .ok (.iload_n 1, 1) := by decide +kernel
theorem dJ2_getChar_3b067_11 : decode cJ2_getChar_3b067 11 = .ok (.aload_n 0, 1) := by decide +kernel
theorem dJ2_getChar_3b067_12 : decode cJ2_getChar_3b067 12 = .ok (.invokestatic 48, 3) := by decide +kernel
theorem dJ2_getChar_3b067_15 : decode cJ2_getChar_3b067 15 = .ok (.if_icmp .lt 13, 3) := by decide +kernel
theorem dJ2_getChar_3b067_18 : decode cJ2_getChar_3b067 18 = .ok (.new 52, 3) := by decide +kernel
theorem dJ2_getChar_3b067_21 : decode cJ2_getChar_3b067 21 = .ok (.dup, 1) := by decide +kernel
theorem dJ2_getChar_3b067_22 : decode cJ2_getChar_3b067 22 = .ok (.ldc 54, 2) := by decide +kernel
theorem dJ2_getChar_3b067_24 : decode cJ2_getChar_3b067 24 = .ok (.invokespecial 56, 3) := by decide +kernel
theorem dJ2_getChar_3b067_27 : decode cJ2_getChar_3b067 27 = .ok (.athrow, 1) := by decide +kernel
theorem dJ2_getChar_3b067_28 : decode cJ2_getChar_3b067 28 = .ok (.iload_n 1, 1) := by decide +kernel
theorem dJ2_getChar_3b067_29 : decode cJ2_getChar_3b067 29 = .ok (.iconst 1, 1) := by decide +kernel
theorem dJ2_getChar_3b067_30 : decode cJ2_getChar_3b067 30 = .ok (.ishl, 1) := by decide +kernel
theorem dJ2_getChar_3b067_31 : decode cJ2_getChar_3b067 31 = .ok (.istore_n 1, 1) := by decide +kernel
theorem dJ2_getChar_3b067_32 : decode cJ2_getChar_3b067 32 = .ok (.aload_n 0, 1) := by decide +kernel
theorem dJ2_getChar_3b067_33 : decode cJ2_getChar_3b067 33 = .ok (.iload_n 1, 1) := by decide +kernel
theorem dJ2_getChar_3b067_34 : decode cJ2_getChar_3b067 34 = .ok (.iinc 1 1, 3) := by decide +kernel
theorem dJ2_getChar_3b067_37 : decode cJ2_getChar_3b067 37 = .ok (.baload, 1) := by decide +kernel
theorem dJ2_getChar_3b067_38 : decode cJ2_getChar_3b067 38 = .ok (.sipush 255, 3) := by decide +kernel
theorem dJ2_getChar_3b067_41 : decode cJ2_getChar_3b067 41 = .ok (.iand, 1) := by decide +kernel
theorem dJ2_getChar_3b067_42 : decode cJ2_getChar_3b067 42 = .ok (.getstatic 59, 3) := by decide +kernel
theorem dJ2_getChar_3b067_45 : decode cJ2_getChar_3b067 45 = .ok (.ishl, 1) := by decide +kernel
theorem dJ2_getChar_3b067_46 : decode cJ2_getChar_3b067 46 = .ok (.aload_n 0, 1) := by decide +kernel
theorem dJ2_getChar_3b067_47 : decode cJ2_getChar_3b067 47 = .ok (.iload_n 1, 1) := by decide +kernel
theorem dJ2_getChar_3b067_48 : decode cJ2_getChar_3b067 48 = .ok (.baload, 1) := by decide +kernel
theorem dJ2_getChar_3b067_49 : decode cJ2_getChar_3b067 49 = .ok (.sipush 255, 3) := by decide +kernel
theorem dJ2_getChar_3b067_52 : decode cJ2_getChar_3b067 52 = .ok (.iand, 1) := by decide +kernel
theorem dJ2_getChar_3b067_53 : decode cJ2_getChar_3b067 53 = .ok (.getstatic 63, 3) := by decide +kernel
theorem dJ2_getChar_3b067_56 : decode cJ2_getChar_3b067 56 = .ok (.ishl, 1) := by decide +kernel
theorem dJ2_getChar_3b067_57 : decode cJ2_getChar_3b067 57 = .ok (.ior, 1) := by decide +kernel
theorem dJ2_getChar_3b067_58 : decode cJ2_getChar_3b067 58 = .ok (.i2c, 1) := by decide +kernel
theorem dJ2_getChar_3b067_59 : decode cJ2_getChar_3b067 59 = .ok (.ireturn, 1) := by decide +kernel
theorem dJ2_length_9d52b_0 : decode cJ2_length_9d52b 0 = .ok (.aload_n 0, 1) := by decide +kernel
theorem dJ2_length_9d52b_1 : decode cJ2_length_9d52b 1 = .ok (.arraylength, 1) := by decide +kernel
theorem dJ2_length_9d52b_2 : decode cJ2_length_9d52b 2 = .ok (.iconst 1, 1) := by decide +kernel
theorem dJ2_length_9d52b_3 : decode cJ2_length_9d52b 3 = .ok (.ishr, 1) := by decide +kernel
theorem dJ2_length_9d52b_4 : decode cJ2_length_9d52b 4 = .ok (.ireturn, 1) := by decide +kernel
theorem dJ2_charAt_3b067_0 : decode cJ2_charAt_3b067 0 = .ok (.iload_n 1, 1) := by decide +kernel
