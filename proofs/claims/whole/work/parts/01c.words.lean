theorem in_L : Cond.initialized RL ∈ BIG := bw (bt_1 _ (List.mem_of_getElem? (i := 0) (by decide +kernel))) (by decide +kernel)
theorem in_X8 : Cond.initialized RX8 ∈ BIG := bw (bt_1 _ (List.mem_of_getElem? (i := 1) (by decide +kernel))) (by decide +kernel)
theorem in_X3 : Cond.initialized RX3 ∈ BIG := bw (bt_1 _ (List.mem_of_getElem? (i := 2) (by decide +kernel))) (by decide +kernel)
theorem in_X0 : Cond.initialized RX0 ∈ BIG := bw (bt_1 _ (List.mem_of_getElem? (i := 3) (by decide +kernel))) (by decide +kernel)
theorem in_X4 : Cond.initialized RX4 ∈ BIG := bw (bt_1 _ (List.mem_of_getElem? (i := 4) (by decide +kernel))) (by decide +kernel)
theorem in_X2 : Cond.initialized RX2 ∈ BIG := bw (bt_1 _ (List.mem_of_getElem? (i := 5) (by decide +kernel))) (by decide +kernel)
theorem in_X6 : Cond.initialized RX6 ∈ BIG := bw (bt_1 _ (List.mem_of_getElem? (i := 6) (by decide +kernel))) (by decide +kernel)
theorem in_X1 : Cond.initialized RX1 ∈ BIG := bw (bt_1 _ (List.mem_of_getElem? (i := 7) (by decide +kernel))) (by decide +kernel)
theorem in_X5 : Cond.initialized RX5 ∈ BIG := bw (bt_1 _ (List.mem_of_getElem? (i := 8) (by decide +kernel))) (by decide +kernel)
theorem in_J7 : Cond.initialized RJ7 ∈ BIG := bw (bt_1 _ (List.mem_of_getElem? (i := 9) (by decide +kernel))) (by decide +kernel)
theorem in_X7 : Cond.initialized RX7 ∈ BIG := bw (bt_1 _ (List.mem_of_getElem? (i := 10) (by decide +kernel))) (by decide +kernel)
theorem in_X9 : Cond.initialized RX9 ∈ BIG := bw (bt_1 _ (List.mem_of_getElem? (i := 11) (by decide +kernel))) (by decide +kernel)
theorem in_java_lang_Throwable : Cond.initialized "java/lang/Throwable" ∈ BIG := bw (bt_1 _ (List.mem_of_getElem? (i := 12) (by decide +kernel))) (by decide +kernel)
theorem in_java_lang_Exception : Cond.initialized "java/lang/Exception" ∈ BIG := bw (bt_1 _ (List.mem_of_getElem? (i := 13) (by decide +kernel))) (by decide +kernel)
theorem in_java_lang_RuntimeException : Cond.initialized "java/lang/RuntimeException" ∈ BIG := bw (bt_1 _ (List.mem_of_getElem? (i := 14) (by decide +kernel))) (by decide +kernel)
theorem in_java_lang_IllegalStateException : Cond.initialized "java/lang/IllegalStateException" ∈ BIG := bw (bt_1 _ (List.mem_of_getElem? (i := 15) (by decide +kernel))) (by decide +kernel)
theorem in_java_lang_IllegalArgumentException : Cond.initialized "java/lang/IllegalArgumentException" ∈ BIG := bw (bt_1 _ (List.mem_of_getElem? (i := 16) (by decide +kernel))) (by decide +kernel)
theorem in_J9 : Cond.initialized RJ9 ∈ BIG := bw (bt_1 _ (List.mem_of_getElem? (i := 17) (by decide +kernel))) (by decide +kernel)
theorem in_J0 : Cond.initialized RJ0 ∈ BIG := bw (bt_1 _ (List.mem_of_getElem? (i := 18) (by decide +kernel))) (by decide +kernel)
theorem in_J1 : Cond.initialized RJ1 ∈ BIG := bw (bt_1 _ (List.mem_of_getElem? (i := 19) (by decide +kernel))) (by decide +kernel)
theorem in_J3 : Cond.initialized RJ3 ∈ BIG := bw (bt_1 _ (List.mem_of_getElem? (i := 20) (by decide +kernel))) (by decide +kernel)
theorem in_J2 : Cond.initialized RJ2 ∈ BIG := bw (bt_1 _ (List.mem_of_getElem? (i := 21) (by decide +kernel))) (by decide +kernel)
theorem in_J10 : Cond.initialized RJ10 ∈ BIG := bw (bt_1 _ (List.mem_of_getElem? (i := 22) (by decide +kernel))) (by decide +kernel)
theorem in_java_lang_IndexOutOfBoundsException : Cond.initialized "java/lang/IndexOutOfBoundsException" ∈ BIG := bw (bt_1 _ (List.mem_of_getElem? (i := 23) (by decide +kernel))) (by decide +kernel)
theorem in_java_util_NoSuchElementException : Cond.initialized "java/util/NoSuchElementException" ∈ BIG := bw (bt_1 _ (List.mem_of_getElem? (i := 24) (by decide +kernel))) (by decide +kernel)
theorem cl_L_8 : Cond.classLink RL 8 RX8 ∈ BIG := bw (bt_1 _ (List.mem_of_getElem? (i := 25) (by decide +kernel))) (by decide +kernel)
theorem is_X8 : Cond.instantiable RX8 9 ∈ BIG := bw (bt_1 _ (List.mem_of_getElem? (i := 26) (by decide +kernel))) (by decide +kernel)
theorem ml_L_152 : Cond.methodLink RL 152 yX8_init ∈ BIG := bw (bt_1 _ (List.mem_of_getElem? (i := 27) (by decide +kernel))) (by decide +kernel)
theorem im_yX8_init : Cond.instanceMethod yX8_init ∈ BIG := bw (bt_1 _ (List.mem_of_getElem? (i := 28) (by decide +kernel))) (by decide +kernel)
theorem cd_yX8_init : Cond.code yX8_init cX8_init 2 none ∈ BIG := bw (bt_1 _ (List.mem_of_getElem? (i := 29) rfl)) rfl
theorem ml_X8_1 : Cond.methodLink RX8 1 Lib.objectInit ∈ BIG := bw (bt_1 _ (List.mem_of_getElem? (i := 30) (by decide +kernel))) (by decide +kernel)
theorem im_Lib_objectInit : Cond.instanceMethod Lib.objectInit ∈ BIG := bw (bt_1 _ (List.mem_of_getElem? (i := 31) (by decide +kernel))) (by decide +kernel)
theorem cd_objectInit : Cond.code Lib.objectInit ⟨#[0xb1]⟩ 1 none ∈ BIG := bw (bt_1 _ (List.mem_of_getElem? (i := 32) (by decide +kernel))) (by decide +kernel)
theorem cl_X8_7 : Cond.classLink RX8 7 RX3 ∈ BIG := bw (bt_1 _ (List.mem_of_getElem? (i := 33) (by decide +kernel))) (by decide +kernel)
theorem is_X3 : Cond.instantiable RX3 11 ∈ BIG := bw (bt_1 _ (List.mem_of_getElem? (i := 34) (by decide +kernel))) (by decide +kernel)
theorem im_yX3_init : Cond.instanceMethod yX3_init ∈ BIG := bw (bt_1 _ (List.mem_of_getElem? (i := 36) (by decide +kernel))) (by decide +kernel)
theorem cd_yX3_init : Cond.code yX3_init cX3_init 1 none ∈ BIG := bw (bt_1 _ (List.mem_of_getElem? (i := 37) rfl)) rfl
theorem ml_X3_3 : Cond.methodLink RX3 3 Lib.objectInit ∈ BIG := bw (bt_1 _ (List.mem_of_getElem? (i := 38) (by decide +kernel))) (by decide +kernel)
theorem cl_X3_9 : Cond.classLink RX3 9 RX0 ∈ BIG := bw (bt_1 _ (List.mem_of_getElem? (i := 39) (by decide +kernel))) (by decide +kernel)
theorem is_X0 : Cond.instantiable RX0 2 ∈ BIG := bw (bt_1 _ (List.mem_of_getElem? (i := 40) (by decide +kernel))) (by decide +kernel)
theorem im_yX0_init : Cond.instanceMethod yX0_init ∈ BIG := bw (bt_1 _ (List.mem_of_getElem? (i := 42) (by decide +kernel))) (by decide +kernel)
theorem cd_yX0_init : Cond.code yX0_init cX0_init 1 none ∈ BIG := bw (bt_1 _ (List.mem_of_getElem? (i := 43) rfl)) rfl
theorem ml_X0_3 : Cond.methodLink RX0 3 Lib.objectInit ∈ BIG := bw (bt_1 _ (List.mem_of_getElem? (i := 44) (by decide +kernel))) (by decide +kernel)
theorem fl_X0_9 : Cond.fieldLink RX0 9 (TX0 0).1 (TX0 0).2.1 (TX0 0).2.2.1 ∈ BIG := bw (bt_1 _ (List.mem_of_getElem? (i := 45) (by decide +kernel))) (by decide +kernel)
theorem fl_X8_49 : Cond.fieldLink RX8 49 (TX0 1).1 (TX0 1).2.1 (TX0 1).2.2.1 ∈ BIG := bw (bt_1 _ (List.mem_of_getElem? (i := 46) (by decide +kernel))) (by decide +kernel)
theorem fl_X0_15 : Cond.fieldLink RX0 15 (TX0 1).1 (TX0 1).2.1 (TX0 1).2.2.1 ∈ BIG := bw (bt_1 _ (List.mem_of_getElem? (i := 47) (by decide +kernel))) (by decide +kernel)
theorem fl_X3_161 : Cond.fieldLink RX3 161 (TX0 1).1 (TX0 1).2.1 (TX0 1).2.2.1 ∈ BIG := bw (bt_1 _ (List.mem_of_getElem? (i := 48) (by decide +kernel))) (by decide +kernel)
theorem lay_X0_0 : u_lay RX0 TX0 0 ∈ BIG := bw (bt_1 _ (List.mem_of_getElem? (i := 49) (by decide +kernel))) (by decide +kernel)
theorem lay_X0_1 : u_lay RX0 TX0 1 ∈ BIG := bw (bt_1 _ (List.mem_of_getElem? (i := 51) (by decide +kernel))) (by decide +kernel)
theorem ac_byte : Cond.arrayClass .byte ∈ BIG := bw (bt_1 _ (List.mem_of_getElem? (i := 54) (by decide +kernel))) (by decide +kernel)
theorem cl_X3_18 : Cond.classLink RX3 18 RX4 ∈ BIG := bw (bt_1 _ (List.mem_of_getElem? (i := 55) (by decide +kernel))) (by decide +kernel)
theorem is_X4 : Cond.instantiable RX4 5 ∈ BIG := bw (bt_1 _ (List.mem_of_getElem? (i := 56) (by decide +kernel))) (by decide +kernel)
theorem im_yX4_init : Cond.instanceMethod yX4_init ∈ BIG := bw (bt_1 _ (List.mem_of_getElem? (i := 58) (by decide +kernel))) (by decide +kernel)
theorem cd_yX4_init : Cond.code yX4_init cX4_init 1 none ∈ BIG := bw (bt_1 _ (List.mem_of_getElem? (i := 59) rfl)) rfl
theorem ml_X4_3 : Cond.methodLink RX4 3 Lib.objectInit ∈ BIG := bw (bt_1 _ (List.mem_of_getElem? (i := 60) (by decide +kernel))) (by decide +kernel)
theorem fl_X4_9 : Cond.fieldLink RX4 9 (TX4 0).1 (TX4 0).2.1 (TX4 0).2.2.1 ∈ BIG := bw (bt_1 _ (List.mem_of_getElem? (i := 61) (by decide +kernel))) (by decide +kernel)
theorem fl_X6_42 : Cond.fieldLink RX6 42 (TX4 1).1 (TX4 1).2.1 (TX4 1).2.2.1 ∈ BIG := bw (bt_1 _ (List.mem_of_getElem? (i := 62) (by decide +kernel))) (by decide +kernel)
theorem fl_X4_25 : Cond.fieldLink RX4 25 (TX4 1).1 (TX4 1).2.1 (TX4 1).2.2.1 ∈ BIG := bw (bt_1 _ (List.mem_of_getElem? (i := 63) (by decide +kernel))) (by decide +kernel)
theorem fl_X3_87 : Cond.fieldLink RX3 87 (TX4 1).1 (TX4 1).2.1 (TX4 1).2.2.1 ∈ BIG := bw (bt_1 _ (List.mem_of_getElem? (i := 64) (by decide +kernel))) (by decide +kernel)
theorem fl_X8_106 : Cond.fieldLink RX8 106 (TX4 1).1 (TX4 1).2.1 (TX4 1).2.2.1 ∈ BIG := bw (bt_1 _ (List.mem_of_getElem? (i := 65) (by decide +kernel))) (by decide +kernel)
theorem fl_X5_113 : Cond.fieldLink RX5 113 (TX4 1).1 (TX4 1).2.1 (TX4 1).2.2.1 ∈ BIG := bw (bt_1 _ (List.mem_of_getElem? (i := 66) (by decide +kernel))) (by decide +kernel)
theorem fl_X4_28 : Cond.fieldLink RX4 28 (TX4 2).1 (TX4 2).2.1 (TX4 2).2.2.1 ∈ BIG := bw (bt_1 _ (List.mem_of_getElem? (i := 67) (by decide +kernel))) (by decide +kernel)
theorem fl_X5_40 : Cond.fieldLink RX5 40 (TX4 2).1 (TX4 2).2.1 (TX4 2).2.2.1 ∈ BIG := bw (bt_1 _ (List.mem_of_getElem? (i := 68) (by decide +kernel))) (by decide +kernel)
theorem fl_X3_124 : Cond.fieldLink RX3 124 (TX4 2).1 (TX4 2).2.1 (TX4 2).2.2.1 ∈ BIG := bw (bt_1 _ (List.mem_of_getElem? (i := 69) (by decide +kernel))) (by decide +kernel)
theorem fl_X8_123 : Cond.fieldLink RX8 123 (TX4 2).1 (TX4 2).2.1 (TX4 2).2.2.1 ∈ BIG := bw (bt_1 _ (List.mem_of_getElem? (i := 70) (by decide +kernel))) (by decide +kernel)
theorem fl_X4_31 : Cond.fieldLink RX4 31 (TX4 3).1 (TX4 3).2.1 (TX4 3).2.2.1 ∈ BIG := bw (bt_1 _ (List.mem_of_getElem? (i := 71) (by decide +kernel))) (by decide +kernel)
theorem fl_X3_131 : Cond.fieldLink RX3 131 (TX4 3).1 (TX4 3).2.1 (TX4 3).2.2.1 ∈ BIG := bw (bt_1 _ (List.mem_of_getElem? (i := 72) (by decide +kernel))) (by decide +kernel)
theorem fl_X5_79 : Cond.fieldLink RX5 79 (TX4 3).1 (TX4 3).2.1 (TX4 3).2.2.1 ∈ BIG := bw (bt_1 _ (List.mem_of_getElem? (i := 73) (by decide +kernel))) (by decide +kernel)
theorem fl_X8_126 : Cond.fieldLink RX8 126 (TX4 3).1 (TX4 3).2.1 (TX4 3).2.2.1 ∈ BIG := bw (bt_1 _ (List.mem_of_getElem? (i := 74) (by decide +kernel))) (by decide +kernel)
theorem fl_X4_15 : Cond.fieldLink RX4 15 (TX4 4).1 (TX4 4).2.1 (TX4 4).2.2.1 ∈ BIG := bw (bt_1 _ (List.mem_of_getElem? (i := 75) (by decide +kernel))) (by decide +kernel)
theorem fl_X3_134 : Cond.fieldLink RX3 134 (TX4 4).1 (TX4 4).2.1 (TX4 4).2.2.1 ∈ BIG := bw (bt_1 _ (List.mem_of_getElem? (i := 76) (by decide +kernel))) (by decide +kernel)
theorem fl_X8_129 : Cond.fieldLink RX8 129 (TX4 4).1 (TX4 4).2.1 (TX4 4).2.2.1 ∈ BIG := bw (bt_1 _ (List.mem_of_getElem? (i := 77) (by decide +kernel))) (by decide +kernel)
theorem fl_X6_95 : Cond.fieldLink RX6 95 (TX4 4).1 (TX4 4).2.1 (TX4 4).2.2.1 ∈ BIG := bw (bt_1 _ (List.mem_of_getElem? (i := 78) (by decide +kernel))) (by decide +kernel)
theorem lay_X4_0 : u_lay RX4 TX4 0 ∈ BIG := bw (bt_1 _ (List.mem_of_getElem? (i := 79) (by decide +kernel))) (by decide +kernel)
theorem lay_X4_1 : u_lay RX4 TX4 1 ∈ BIG := bw (bt_1 _ (List.mem_of_getElem? (i := 81) (by decide +kernel))) (by decide +kernel)
theorem lay_X4_2 : u_lay RX4 TX4 2 ∈ BIG := bw (bt_1 _ (List.mem_of_getElem? (i := 83) (by decide +kernel))) (by decide +kernel)
theorem lay_X4_3 : u_lay RX4 TX4 3 ∈ BIG := bw (bt_1 _ (List.mem_of_getElem? (i := 85) (by decide +kernel))) (by decide +kernel)
theorem lay_X4_4 : u_lay RX4 TX4 4 ∈ BIG := bw (bt_1 _ (List.mem_of_getElem? (i := 87) (by decide +kernel))) (by decide +kernel)
theorem ac_int : Cond.arrayClass .int ∈ BIG := bw (bt_1 _ (List.mem_of_getElem? (i := 90) (by decide +kernel))) (by decide +kernel)
theorem fl_X3_12 : Cond.fieldLink RX3 12 (TX3 0).1 (TX3 0).2.1 (TX3 0).2.2.1 ∈ BIG := bw (bt_1 _ (List.mem_of_getElem? (i := 91) (by decide +kernel))) (by decide +kernel)
theorem fl_X8_16 : Cond.fieldLink RX8 16 (TX3 0).1 (TX3 0).2.1 (TX3 0).2.2.1 ∈ BIG := bw (bt_1 _ (List.mem_of_getElem? (i := 92) (by decide +kernel))) (by decide +kernel)
theorem fl_X3_21 : Cond.fieldLink RX3 21 (TX3 1).1 (TX3 1).2.1 (TX3 1).2.2.1 ∈ BIG := bw (bt_1 _ (List.mem_of_getElem? (i := 93) (by decide +kernel))) (by decide +kernel)
theorem fl_X8_78 : Cond.fieldLink RX8 78 (TX3 1).1 (TX3 1).2.1 (TX3 1).2.2.1 ∈ BIG := bw (bt_1 _ (List.mem_of_getElem? (i := 94) (by decide +kernel))) (by decide +kernel)
theorem fl_X3_78 : Cond.fieldLink RX3 78 (TX3 2).1 (TX3 2).2.1 (TX3 2).2.2.1 ∈ BIG := bw (bt_1 _ (List.mem_of_getElem? (i := 95) (by decide +kernel))) (by decide +kernel)
theorem fl_X8_82 : Cond.fieldLink RX8 82 (TX3 2).1 (TX3 2).2.1 (TX3 2).2.2.1 ∈ BIG := bw (bt_1 _ (List.mem_of_getElem? (i := 96) (by decide +kernel))) (by decide +kernel)
theorem fl_X3_25 : Cond.fieldLink RX3 25 (TX3 3).1 (TX3 3).2.1 (TX3 3).2.2.1 ∈ BIG := bw (bt_1 _ (List.mem_of_getElem? (i := 97) (by decide +kernel))) (by decide +kernel)
theorem fl_X8_90 : Cond.fieldLink RX8 90 (TX3 3).1 (TX3 3).2.1 (TX3 3).2.2.1 ∈ BIG := bw (bt_1 _ (List.mem_of_getElem? (i := 98) (by decide +kernel))) (by decide +kernel)
theorem fl_X3_81 : Cond.fieldLink RX3 81 (TX3 4).1 (TX3 4).2.1 (TX3 4).2.2.1 ∈ BIG := bw (bt_1 _ (List.mem_of_getElem? (i := 99) (by decide +kernel))) (by decide +kernel)
theorem fl_X8_102 : Cond.fieldLink RX8 102 (TX3 4).1 (TX3 4).2.1 (TX3 4).2.2.1 ∈ BIG := bw (bt_1 _ (List.mem_of_getElem? (i := 100) (by decide +kernel))) (by decide +kernel)
theorem fl_X3_48 : Cond.fieldLink RX3 48 (TX3 5).1 (TX3 5).2.1 (TX3 5).2.2.1 ∈ BIG := bw (bt_1 _ (List.mem_of_getElem? (i := 101) (by decide +kernel))) (by decide +kernel)
theorem fl_X8_111 : Cond.fieldLink RX8 111 (TX3 5).1 (TX3 5).2.1 (TX3 5).2.2.1 ∈ BIG := bw (bt_1 _ (List.mem_of_getElem? (i := 102) (by decide +kernel))) (by decide +kernel)
theorem fl_X3_29 : Cond.fieldLink RX3 29 (TX3 6).1 (TX3 6).2.1 (TX3 6).2.2.1 ∈ BIG := bw (bt_1 _ (List.mem_of_getElem? (i := 103) (by decide +kernel))) (by decide +kernel)
theorem fl_X8_114 : Cond.fieldLink RX8 114 (TX3 6).1 (TX3 6).2.1 (TX3 6).2.2.1 ∈ BIG := bw (bt_1 _ (List.mem_of_getElem? (i := 104) (by decide +kernel))) (by decide +kernel)
theorem fl_X3_51 : Cond.fieldLink RX3 51 (TX3 7).1 (TX3 7).2.1 (TX3 7).2.2.1 ∈ BIG := bw (bt_1 _ (List.mem_of_getElem? (i := 105) (by decide +kernel))) (by decide +kernel)
theorem fl_X3_141 : Cond.fieldLink RX3 141 (TX3 8).1 (TX3 8).2.1 (TX3 8).2.2.1 ∈ BIG := bw (bt_1 _ (List.mem_of_getElem? (i := 106) (by decide +kernel))) (by decide +kernel)
theorem fl_X3_84 : Cond.fieldLink RX3 84 (TX3 9).1 (TX3 9).2.1 (TX3 9).2.2.1 ∈ BIG := bw (bt_1 _ (List.mem_of_getElem? (i := 107) (by decide +kernel))) (by decide +kernel)
theorem fl_X3_144 : Cond.fieldLink RX3 144 (TX3 10).1 (TX3 10).2.1 (TX3 10).2.2.1 ∈ BIG := bw (bt_1 _ (List.mem_of_getElem? (i := 108) (by decide +kernel))) (by decide +kernel)
theorem lay_X3_0 : u_lay RX3 TX3 0 ∈ BIG := bw (bt_1 _ (List.mem_of_getElem? (i := 109) (by decide +kernel))) (by decide +kernel)
theorem lay_X3_1 : u_lay RX3 TX3 1 ∈ BIG := bw (bt_1 _ (List.mem_of_getElem? (i := 111) (by decide +kernel))) (by decide +kernel)
theorem lay_X3_2 : u_lay RX3 TX3 2 ∈ BIG := bw (bt_1 _ (List.mem_of_getElem? (i := 113) (by decide +kernel))) (by decide +kernel)
theorem lay_X3_3 : u_lay RX3 TX3 3 ∈ BIG := bw (bt_1 _ (List.mem_of_getElem? (i := 115) (by decide +kernel))) (by decide +kernel)
theorem lay_X3_4 : u_lay RX3 TX3 4 ∈ BIG := bw (bt_1 _ (List.mem_of_getElem? (i := 117) (by decide +kernel))) (by decide +kernel)
theorem lay_X3_5 : u_lay RX3 TX3 5 ∈ BIG := bw (bt_1 _ (List.mem_of_getElem? (i := 119) (by decide +kernel))) (by decide +kernel)
theorem lay_X3_6 : u_lay RX3 TX3 6 ∈ BIG := bw (bt_1 _ (List.mem_of_getElem? (i := 121) (by decide +kernel))) (by decide +kernel)
theorem lay_X3_7 : u_lay RX3 TX3 7 ∈ BIG := bw (bt_1 _ (List.mem_of_getElem? (i := 123) (by decide +kernel))) (by decide +kernel)
theorem lay_X3_8 : u_lay RX3 TX3 8 ∈ BIG := bw (bt_1 _ (List.mem_of_getElem? (i := 125) (by decide +kernel))) (by decide +kernel)
theorem lay_X3_9 : u_lay RX3 TX3 9 ∈ BIG := bw (bt_1 _ (List.mem_of_getElem? (i := 127) (by decide +kernel))) (by decide +kernel)
theorem lay_X3_10 : u_lay RX3 TX3 10 ∈ BIG := bw (bt_1 _ (List.mem_of_getElem? (i := 129) (by decide +kernel))) (by decide +kernel)
theorem cl_X8_21 : Cond.classLink RX8 21 RX2 ∈ BIG := bw (bt_1 _ (List.mem_of_getElem? (i := 132) (by decide +kernel))) (by decide +kernel)
theorem is_X2 : Cond.instantiable RX2 2 ∈ BIG := bw (bt_1 _ (List.mem_of_getElem? (i := 133) (by decide +kernel))) (by decide +kernel)
theorem im_yX2_init : Cond.instanceMethod yX2_init ∈ BIG := bw (bt_1 _ (List.mem_of_getElem? (i := 135) (by decide +kernel))) (by decide +kernel)
theorem cd_yX2_init : Cond.code yX2_init cX2_init 1 none ∈ BIG := bw (bt_1 _ (List.mem_of_getElem? (i := 136) rfl)) rfl
theorem ml_X2_3 : Cond.methodLink RX2 3 Lib.objectInit ∈ BIG := bw (bt_1 _ (List.mem_of_getElem? (i := 137) (by decide +kernel))) (by decide +kernel)
theorem fl_X2_9 : Cond.fieldLink RX2 9 (TX2 0).1 (TX2 0).2.1 (TX2 0).2.2.1 ∈ BIG := bw (bt_1 _ (List.mem_of_getElem? (i := 138) (by decide +kernel))) (by decide +kernel)
theorem fl_X8_390 : Cond.fieldLink RX8 390 (TX2 0).1 (TX2 0).2.1 (TX2 0).2.2.1 ∈ BIG := bw (bt_1 _ (List.mem_of_getElem? (i := 139) (by decide +kernel))) (by decide +kernel)
theorem fl_X2_15 : Cond.fieldLink RX2 15 (TX2 1).1 (TX2 1).2.1 (TX2 1).2.2.1 ∈ BIG := bw (bt_1 _ (List.mem_of_getElem? (i := 140) (by decide +kernel))) (by decide +kernel)
theorem fl_X8_367 : Cond.fieldLink RX8 367 (TX2 1).1 (TX2 1).2.1 (TX2 1).2.2.1 ∈ BIG := bw (bt_1 _ (List.mem_of_getElem? (i := 141) (by decide +kernel))) (by decide +kernel)
theorem lay_X2_0 : u_lay RX2 TX2 0 ∈ BIG := bw (bt_1 _ (List.mem_of_getElem? (i := 142) (by decide +kernel))) (by decide +kernel)
theorem lay_X2_1 : u_lay RX2 TX2 1 ∈ BIG := bw (bt_1 _ (List.mem_of_getElem? (i := 144) (by decide +kernel))) (by decide +kernel)
theorem cl_X8_28 : Cond.classLink RX8 28 RX6 ∈ BIG := bw (bt_1 _ (List.mem_of_getElem? (i := 147) (by decide +kernel))) (by decide +kernel)
theorem is_X6 : Cond.instantiable RX6 12 ∈ BIG := bw (bt_1 _ (List.mem_of_getElem? (i := 148) (by decide +kernel))) (by decide +kernel)
theorem ml_X8_30 : Cond.methodLink RX8 30 yX6_init ∈ BIG := bw (bt_1 _ (List.mem_of_getElem? (i := 149) (by decide +kernel))) (by decide +kernel)
theorem im_yX6_init : Cond.instanceMethod yX6_init ∈ BIG := bw (bt_1 _ (List.mem_of_getElem? (i := 150) (by decide +kernel))) (by decide +kernel)
theorem cd_yX6_init : Cond.code yX6_init cX6_init 1 none ∈ BIG := bw (bt_1 _ (List.mem_of_getElem? (i := 151) rfl)) rfl
theorem ml_X6_3 : Cond.methodLink RX6 3 Lib.objectInit ∈ BIG := bw (bt_1 _ (List.mem_of_getElem? (i := 152) (by decide +kernel))) (by decide +kernel)
theorem cl_X6_9 : Cond.classLink RX6 9 RX4 ∈ BIG := bw (bt_1 _ (List.mem_of_getElem? (i := 153) (by decide +kernel))) (by decide +kernel)
theorem cl_X6_18 : Cond.classLink RX6 18 RX1 ∈ BIG := bw (bt_1 _ (List.mem_of_getElem? (i := 155) (by decide +kernel))) (by decide +kernel)
theorem is_X1 : Cond.instantiable RX1 3 ∈ BIG := bw (bt_1 _ (List.mem_of_getElem? (i := 156) (by decide +kernel))) (by decide +kernel)
theorem im_yX1_init : Cond.instanceMethod yX1_init ∈ BIG := bw (bt_1 _ (List.mem_of_getElem? (i := 158) (by decide +kernel))) (by decide +kernel)
theorem cd_yX1_init : Cond.code yX1_init cX1_init 1 none ∈ BIG := bw (bt_1 _ (List.mem_of_getElem? (i := 159) rfl)) rfl
theorem ml_X1_3 : Cond.methodLink RX1 3 Lib.objectInit ∈ BIG := bw (bt_1 _ (List.mem_of_getElem? (i := 160) (by decide +kernel))) (by decide +kernel)
theorem fl_X1_9 : Cond.fieldLink RX1 9 (TX1 0).1 (TX1 0).2.1 (TX1 0).2.2.1 ∈ BIG := bw (bt_1 _ (List.mem_of_getElem? (i := 161) (by decide +kernel))) (by decide +kernel)
theorem fl_X1_15 : Cond.fieldLink RX1 15 (TX1 1).1 (TX1 1).2.1 (TX1 1).2.2.1 ∈ BIG := bw (bt_1 _ (List.mem_of_getElem? (i := 162) (by decide +kernel))) (by decide +kernel)
theorem fl_X8_200 : Cond.fieldLink RX8 200 (TX1 1).1 (TX1 1).2.1 (TX1 1).2.2.1 ∈ BIG := bw (bt_1 _ (List.mem_of_getElem? (i := 163) (by decide +kernel))) (by decide +kernel)
theorem fl_X1_19 : Cond.fieldLink RX1 19 (TX1 2).1 (TX1 2).2.1 (TX1 2).2.2.1 ∈ BIG := bw (bt_1 _ (List.mem_of_getElem? (i := 164) (by decide +kernel))) (by decide +kernel)
theorem lay_X1_0 : u_lay RX1 TX1 0 ∈ BIG := bw (bt_1 _ (List.mem_of_getElem? (i := 165) (by decide +kernel))) (by decide +kernel)
theorem lay_X1_1 : u_lay RX1 TX1 1 ∈ BIG := bw (bt_1 _ (List.mem_of_getElem? (i := 167) (by decide +kernel))) (by decide +kernel)
theorem lay_X1_2 : u_lay RX1 TX1 2 ∈ BIG := bw (bt_1 _ (List.mem_of_getElem? (i := 169) (by decide +kernel))) (by decide +kernel)
theorem cl_X6_25 : Cond.classLink RX6 25 RX5 ∈ BIG := bw (bt_1 _ (List.mem_of_getElem? (i := 172) (by decide +kernel))) (by decide +kernel)
theorem is_X5 : Cond.instantiable RX5 13 ∈ BIG := bw (bt_1 _ (List.mem_of_getElem? (i := 173) (by decide +kernel))) (by decide +kernel)
theorem im_yX5_init : Cond.instanceMethod yX5_init ∈ BIG := bw (bt_1 _ (List.mem_of_getElem? (i := 175) (by decide +kernel))) (by decide +kernel)
theorem cd_yX5_init : Cond.code yX5_init cX5_init 1 none ∈ BIG := bw (bt_1 _ (List.mem_of_getElem? (i := 176) rfl)) rfl
theorem ml_X5_3 : Cond.methodLink RX5 3 Lib.objectInit ∈ BIG := bw (bt_1 _ (List.mem_of_getElem? (i := 177) (by decide +kernel))) (by decide +kernel)
theorem fl_X5_9 : Cond.fieldLink RX5 9 (TX5 0).1 (TX5 0).2.1 (TX5 0).2.2.1 ∈ BIG := bw (bt_1 _ (List.mem_of_getElem? (i := 178) (by decide +kernel))) (by decide +kernel)
theorem fl_X8_227 : Cond.fieldLink RX8 227 (TX5 0).1 (TX5 0).2.1 (TX5 0).2.2.1 ∈ BIG := bw (bt_1 _ (List.mem_of_getElem? (i := 179) (by decide +kernel))) (by decide +kernel)
theorem fl_X5_27 : Cond.fieldLink RX5 27 (TX5 1).1 (TX5 1).2.1 (TX5 1).2.2.1 ∈ BIG := bw (bt_1 _ (List.mem_of_getElem? (i := 180) (by decide +kernel))) (by decide +kernel)
theorem fl_X7_29 : Cond.fieldLink RX7 29 (TX5 1).1 (TX5 1).2.1 (TX5 1).2.2.1 ∈ BIG := bw (bt_1 _ (List.mem_of_getElem? (i := 181) (by decide +kernel))) (by decide +kernel)
theorem fl_X8_97 : Cond.fieldLink RX8 97 (TX5 1).1 (TX5 1).2.1 (TX5 1).2.2.1 ∈ BIG := bw (bt_1 _ (List.mem_of_getElem? (i := 182) (by decide +kernel))) (by decide +kernel)
theorem fl_X6_85 : Cond.fieldLink RX6 85 (TX5 1).1 (TX5 1).2.1 (TX5 1).2.2.1 ∈ BIG := bw (bt_1 _ (List.mem_of_getElem? (i := 183) (by decide +kernel))) (by decide +kernel)
theorem fl_X5_31 : Cond.fieldLink RX5 31 (TX5 2).1 (TX5 2).2.1 (TX5 2).2.2.1 ∈ BIG := bw (bt_1 _ (List.mem_of_getElem? (i := 184) (by decide +kernel))) (by decide +kernel)
theorem fl_X8_167 : Cond.fieldLink RX8 167 (TX5 2).1 (TX5 2).2.1 (TX5 2).2.2.1 ∈ BIG := bw (bt_1 _ (List.mem_of_getElem? (i := 185) (by decide +kernel))) (by decide +kernel)
theorem fl_X5_34 : Cond.fieldLink RX5 34 (TX5 3).1 (TX5 3).2.1 (TX5 3).2.2.1 ∈ BIG := bw (bt_1 _ (List.mem_of_getElem? (i := 186) (by decide +kernel))) (by decide +kernel)
theorem fl_X8_142 : Cond.fieldLink RX8 142 (TX5 3).1 (TX5 3).2.1 (TX5 3).2.2.1 ∈ BIG := bw (bt_1 _ (List.mem_of_getElem? (i := 187) (by decide +kernel))) (by decide +kernel)
theorem fl_X5_37 : Cond.fieldLink RX5 37 (TX5 4).1 (TX5 4).2.1 (TX5 4).2.2.1 ∈ BIG := bw (bt_1 _ (List.mem_of_getElem? (i := 188) (by decide +kernel))) (by decide +kernel)
theorem fl_X8_170 : Cond.fieldLink RX8 170 (TX5 4).1 (TX5 4).2.1 (TX5 4).2.2.1 ∈ BIG := bw (bt_1 _ (List.mem_of_getElem? (i := 189) (by decide +kernel))) (by decide +kernel)
theorem fl_X5_43 : Cond.fieldLink RX5 43 (TX5 5).1 (TX5 5).2.1 (TX5 5).2.2.1 ∈ BIG := bw (bt_1 _ (List.mem_of_getElem? (i := 190) (by decide +kernel))) (by decide +kernel)
theorem fl_X8_173 : Cond.fieldLink RX8 173 (TX5 5).1 (TX5 5).2.1 (TX5 5).2.2.1 ∈ BIG := bw (bt_1 _ (List.mem_of_getElem? (i := 191) (by decide +kernel))) (by decide +kernel)
theorem fl_X5_44 : Cond.fieldLink RX5 44 (TX5 6).1 (TX5 6).2.1 (TX5 6).2.2.1 ∈ BIG := bw (bt_1 _ (List.mem_of_getElem? (i := 192) (by decide +kernel))) (by decide +kernel)
theorem fl_X8_174 : Cond.fieldLink RX8 174 (TX5 6).1 (TX5 6).2.1 (TX5 6).2.2.1 ∈ BIG := bw (bt_1 _ (List.mem_of_getElem? (i := 193) (by decide +kernel))) (by decide +kernel)
theorem fl_X5_48 : Cond.fieldLink RX5 48 (TX5 7).1 (TX5 7).2.1 (TX5 7).2.2.1 ∈ BIG := bw (bt_1 _ (List.mem_of_getElem? (i := 194) (by decide +kernel))) (by decide +kernel)
theorem fl_X7_83 : Cond.fieldLink RX7 83 (TX5 7).1 (TX5 7).2.1 (TX5 7).2.2.1 ∈ BIG := bw (bt_1 _ (List.mem_of_getElem? (i := 195) (by decide +kernel))) (by decide +kernel)
theorem fl_X8_177 : Cond.fieldLink RX8 177 (TX5 7).1 (TX5 7).2.1 (TX5 7).2.2.1 ∈ BIG := bw (bt_1 _ (List.mem_of_getElem? (i := 196) (by decide +kernel))) (by decide +kernel)
theorem fl_X6_132 : Cond.fieldLink RX6 132 (TX5 7).1 (TX5 7).2.1 (TX5 7).2.2.1 ∈ BIG := bw (bt_1 _ (List.mem_of_getElem? (i := 197) (by decide +kernel))) (by decide +kernel)
theorem fl_X5_51 : Cond.fieldLink RX5 51 (TX5 8).1 (TX5 8).2.1 (TX5 8).2.2.1 ∈ BIG := bw (bt_1 _ (List.mem_of_getElem? (i := 198) (by decide +kernel))) (by decide +kernel)
theorem fl_X8_180 : Cond.fieldLink RX8 180 (TX5 8).1 (TX5 8).2.1 (TX5 8).2.2.1 ∈ BIG := bw (bt_1 _ (List.mem_of_getElem? (i := 199) (by decide +kernel))) (by decide +kernel)
theorem fl_X6_135 : Cond.fieldLink RX6 135 (TX5 8).1 (TX5 8).2.1 (TX5 8).2.2.1 ∈ BIG := bw (bt_1 _ (List.mem_of_getElem? (i := 200) (by decide +kernel))) (by decide +kernel)
theorem fl_X5_54 : Cond.fieldLink RX5 54 (TX5 9).1 (TX5 9).2.1 (TX5 9).2.2.1 ∈ BIG := bw (bt_1 _ (List.mem_of_getElem? (i := 201) (by decide +kernel))) (by decide +kernel)
theorem fl_X7_33 : Cond.fieldLink RX7 33 (TX5 9).1 (TX5 9).2.1 (TX5 9).2.2.1 ∈ BIG := bw (bt_1 _ (List.mem_of_getElem? (i := 202) (by decide +kernel))) (by decide +kernel)
theorem fl_X8_183 : Cond.fieldLink RX8 183 (TX5 9).1 (TX5 9).2.1 (TX5 9).2.2.1 ∈ BIG := bw (bt_1 _ (List.mem_of_getElem? (i := 203) (by decide +kernel))) (by decide +kernel)
theorem fl_X6_108 : Cond.fieldLink RX6 108 (TX5 9).1 (TX5 9).2.1 (TX5 9).2.2.1 ∈ BIG := bw (bt_1 _ (List.mem_of_getElem? (i := 204) (by decide +kernel))) (by decide +kernel)
theorem fl_X5_57 : Cond.fieldLink RX5 57 (TX5 10).1 (TX5 10).2.1 (TX5 10).2.2.1 ∈ BIG := bw (bt_1 _ (List.mem_of_getElem? (i := 205) (by decide +kernel))) (by decide +kernel)
theorem fl_X6_92 : Cond.fieldLink RX6 92 (TX5 10).1 (TX5 10).2.1 (TX5 10).2.2.1 ∈ BIG := bw (bt_1 _ (List.mem_of_getElem? (i := 206) (by decide +kernel))) (by decide +kernel)
theorem fl_X8_186 : Cond.fieldLink RX8 186 (TX5 10).1 (TX5 10).2.1 (TX5 10).2.2.1 ∈ BIG := bw (bt_1 _ (List.mem_of_getElem? (i := 207) (by decide +kernel))) (by decide +kernel)
theorem fl_X5_60 : Cond.fieldLink RX5 60 (TX5 11).1 (TX5 11).2.1 (TX5 11).2.2.1 ∈ BIG := bw (bt_1 _ (List.mem_of_getElem? (i := 208) (by decide +kernel))) (by decide +kernel)
theorem fl_X8_189 : Cond.fieldLink RX8 189 (TX5 11).1 (TX5 11).2.1 (TX5 11).2.2.1 ∈ BIG := bw (bt_1 _ (List.mem_of_getElem? (i := 209) (by decide +kernel))) (by decide +kernel)
theorem fl_X5_63 : Cond.fieldLink RX5 63 (TX5 12).1 (TX5 12).2.1 (TX5 12).2.2.1 ∈ BIG := bw (bt_1 _ (List.mem_of_getElem? (i := 210) (by decide +kernel))) (by decide +kernel)
theorem fl_X8_224 : Cond.fieldLink RX8 224 (TX5 12).1 (TX5 12).2.1 (TX5 12).2.2.1 ∈ BIG := bw (bt_1 _ (List.mem_of_getElem? (i := 211) (by decide +kernel))) (by decide +kernel)
theorem lay_X5_0 : u_lay RX5 TX5 0 ∈ BIG := bw (bt_1 _ (List.mem_of_getElem? (i := 212) (by decide +kernel))) (by decide +kernel)
theorem lay_X5_1 : u_lay RX5 TX5 1 ∈ BIG := bw (bt_1 _ (List.mem_of_getElem? (i := 214) (by decide +kernel))) (by decide +kernel)
theorem lay_X5_2 : u_lay RX5 TX5 2 ∈ BIG := bw (bt_1 _ (List.mem_of_getElem? (i := 216) (by decide +kernel))) (by decide +kernel)
theorem lay_X5_3 : u_lay RX5 TX5 3 ∈ BIG := bw (bt_1 _ (List.mem_of_getElem? (i := 218) (by decide +kernel))) (by decide +kernel)
theorem lay_X5_4 : u_lay RX5 TX5 4 ∈ BIG := bw (bt_1 _ (List.mem_of_getElem? (i := 220) (by decide +kernel))) (by decide +kernel)
theorem lay_X5_5 : u_lay RX5 TX5 5 ∈ BIG := bw (bt_1 _ (List.mem_of_getElem? (i := 222) (by decide +kernel))) (by decide +kernel)
theorem lay_X5_6 : u_lay RX5 TX5 6 ∈ BIG := bw (bt_1 _ (List.mem_of_getElem? (i := 224) (by decide +kernel))) (by decide +kernel)
theorem lay_X5_7 : u_lay RX5 TX5 7 ∈ BIG := bw (bt_1 _ (List.mem_of_getElem? (i := 226) (by decide +kernel))) (by decide +kernel)
theorem lay_X5_8 : u_lay RX5 TX5 8 ∈ BIG := bw (bt_1 _ (List.mem_of_getElem? (i := 228) (by decide +kernel))) (by decide +kernel)
theorem lay_X5_9 : u_lay RX5 TX5 9 ∈ BIG := bw (bt_1 _ (List.mem_of_getElem? (i := 230) (by decide +kernel))) (by decide +kernel)
theorem lay_X5_10 : u_lay RX5 TX5 10 ∈ BIG := bw (bt_1 _ (List.mem_of_getElem? (i := 232) (by decide +kernel))) (by decide +kernel)
theorem lay_X5_11 : u_lay RX5 TX5 11 ∈ BIG := bw (bt_1 _ (List.mem_of_getElem? (i := 234) (by decide +kernel))) (by decide +kernel)
theorem lay_X5_12 : u_lay RX5 TX5 12 ∈ BIG := bw (bt_1 _ (List.mem_of_getElem? (i := 236) (by decide +kernel))) (by decide +kernel)
theorem ml_X6_45 : Cond.methodLink RX6 45 yX4_setNumber ∈ BIG := bw (bt_1 _ (List.mem_of_getElem? (i := 239) (by decide +kernel))) (by decide +kernel)
theorem im_yX4_setNumber : Cond.instanceMethod yX4_setNumber ∈ BIG := bw (bt_2 _ (List.mem_of_getElem? (i := 0) (by decide +kernel))) (by decide +kernel)
theorem se_yX4_setNumber : Cond.selects RX4 yX4_setNumber yX4_setNumber ∈ BIG := bw (bt_2 _ (List.mem_of_getElem? (i := 1) (by decide +kernel))) (by decide +kernel)
theorem cd_yX4_setNumber : Cond.code yX4_setNumber cX4_setNumber 4 none ∈ BIG := bw (bt_2 _ (List.mem_of_getElem? (i := 2) rfl)) rfl
theorem st_yX8_setNumberAt : Cond.static yX8_setNumberAt ∈ BIG := bw (bt_2 _ (List.mem_of_getElem? (i := 4) (by decide +kernel))) (by decide +kernel)
theorem cd_yX8_setNumberAt : Cond.code yX8_setNumberAt cX8_setNumberAt 3 none ∈ BIG := bw (bt_2 _ (List.mem_of_getElem? (i := 5) rfl)) rfl
theorem ml_X6_49 : Cond.methodLink RX6 49 yX5_setUp ∈ BIG := bw (bt_2 _ (List.mem_of_getElem? (i := 6) (by decide +kernel))) (by decide +kernel)
theorem im_yX5_setUp : Cond.instanceMethod yX5_setUp ∈ BIG := bw (bt_2 _ (List.mem_of_getElem? (i := 7) (by decide +kernel))) (by decide +kernel)
theorem se_yX5_setUp : Cond.selects RX5 yX5_setUp yX5_setUp ∈ BIG := bw (bt_2 _ (List.mem_of_getElem? (i := 8) (by decide +kernel))) (by decide +kernel)
theorem cd_yX5_setUp : Cond.code yX5_setUp cX5_setUp 2 none ∈ BIG := bw (bt_2 _ (List.mem_of_getElem? (i := 9) rfl)) rfl
theorem ml_X5_15 : Cond.methodLink RX5 15 yJ7_fill_53178 ∈ BIG := bw (bt_2 _ (List.mem_of_getElem? (i := 10) (by decide +kernel))) (by decide +kernel)
theorem st_yJ7_fill_53178 : Cond.static yJ7_fill_53178 ∈ BIG := bw (bt_2 _ (List.mem_of_getElem? (i := 11) (by decide +kernel))) (by decide +kernel)
theorem cd_yJ7_fill_53178 : Cond.code yJ7_fill_53178 cJ7_fill_53178 4 none ∈ BIG := bw (bt_2 _ (List.mem_of_getElem? (i := 12) rfl)) rfl
theorem ml_X5_21 : Cond.methodLink RX5 21 yX4_number ∈ BIG := bw (bt_2 _ (List.mem_of_getElem? (i := 13) (by decide +kernel))) (by decide +kernel)
theorem im_yX4_number : Cond.instanceMethod yX4_number ∈ BIG := bw (bt_2 _ (List.mem_of_getElem? (i := 14) (by decide +kernel))) (by decide +kernel)
theorem se_yX4_number : Cond.selects RX4 yX4_number yX4_number ∈ BIG := bw (bt_2 _ (List.mem_of_getElem? (i := 15) (by decide +kernel))) (by decide +kernel)
theorem cd_yX4_number : Cond.code yX4_number cX4_number 4 (some Jvm.ClassFile.FieldType.int) ∈ BIG := bw (bt_2 _ (List.mem_of_getElem? (i := 16) rfl)) rfl
theorem fl_X6_12 : Cond.fieldLink RX6 12 (TX6 0).1 (TX6 0).2.1 (TX6 0).2.2.1 ∈ BIG := bw (bt_2 _ (List.mem_of_getElem? (i := 17) (by decide +kernel))) (by decide +kernel)
theorem fl_X8_105 : Cond.fieldLink RX8 105 (TX6 0).1 (TX6 0).2.1 (TX6 0).2.2.1 ∈ BIG := bw (bt_2 _ (List.mem_of_getElem? (i := 18) (by decide +kernel))) (by decide +kernel)
theorem fl_X7_55 : Cond.fieldLink RX7 55 (TX6 0).1 (TX6 0).2.1 (TX6 0).2.2.1 ∈ BIG := bw (bt_2 _ (List.mem_of_getElem? (i := 19) (by decide +kernel))) (by decide +kernel)
theorem fl_X6_21 : Cond.fieldLink RX6 21 (TX6 1).1 (TX6 1).2.1 (TX6 1).2.2.1 ∈ BIG := bw (bt_2 _ (List.mem_of_getElem? (i := 20) (by decide +kernel))) (by decide +kernel)
theorem fl_X8_196 : Cond.fieldLink RX8 196 (TX6 1).1 (TX6 1).2.1 (TX6 1).2.2.1 ∈ BIG := bw (bt_2 _ (List.mem_of_getElem? (i := 21) (by decide +kernel))) (by decide +kernel)
theorem fl_X6_28 : Cond.fieldLink RX6 28 (TX6 2).1 (TX6 2).2.1 (TX6 2).2.2.1 ∈ BIG := bw (bt_2 _ (List.mem_of_getElem? (i := 22) (by decide +kernel))) (by decide +kernel)
theorem fl_X8_138 : Cond.fieldLink RX8 138 (TX6 2).1 (TX6 2).2.1 (TX6 2).2.2.1 ∈ BIG := bw (bt_2 _ (List.mem_of_getElem? (i := 23) (by decide +kernel))) (by decide +kernel)
theorem fl_X7_68 : Cond.fieldLink RX7 68 (TX6 2).1 (TX6 2).2.1 (TX6 2).2.2.1 ∈ BIG := bw (bt_2 _ (List.mem_of_getElem? (i := 24) (by decide +kernel))) (by decide +kernel)
theorem fl_X6_32 : Cond.fieldLink RX6 32 (TX6 3).1 (TX6 3).2.1 (TX6 3).2.2.1 ∈ BIG := bw (bt_2 _ (List.mem_of_getElem? (i := 25) (by decide +kernel))) (by decide +kernel)
theorem fl_X8_145 : Cond.fieldLink RX8 145 (TX6 3).1 (TX6 3).2.1 (TX6 3).2.2.1 ∈ BIG := bw (bt_2 _ (List.mem_of_getElem? (i := 26) (by decide +kernel))) (by decide +kernel)
theorem fl_X7_69 : Cond.fieldLink RX7 69 (TX6 3).1 (TX6 3).2.1 (TX6 3).2.2.1 ∈ BIG := bw (bt_2 _ (List.mem_of_getElem? (i := 27) (by decide +kernel))) (by decide +kernel)
theorem fl_X6_59 : Cond.fieldLink RX6 59 (TX6 4).1 (TX6 4).2.1 (TX6 4).2.2.1 ∈ BIG := bw (bt_2 _ (List.mem_of_getElem? (i := 28) (by decide +kernel))) (by decide +kernel)
theorem fl_X8_151 : Cond.fieldLink RX8 151 (TX6 4).1 (TX6 4).2.1 (TX6 4).2.2.1 ∈ BIG := bw (bt_2 _ (List.mem_of_getElem? (i := 29) (by decide +kernel))) (by decide +kernel)
theorem fl_X6_63 : Cond.fieldLink RX6 63 (TX6 5).1 (TX6 5).2.1 (TX6 5).2.2.1 ∈ BIG := bw (bt_2 _ (List.mem_of_getElem? (i := 30) (by decide +kernel))) (by decide +kernel)
theorem fl_X8_117 : Cond.fieldLink RX8 117 (TX6 5).1 (TX6 5).2.1 (TX6 5).2.2.1 ∈ BIG := bw (bt_2 _ (List.mem_of_getElem? (i := 31) (by decide +kernel))) (by decide +kernel)
theorem fl_X6_66 : Cond.fieldLink RX6 66 (TX6 6).1 (TX6 6).2.1 (TX6 6).2.2.1 ∈ BIG := bw (bt_2 _ (List.mem_of_getElem? (i := 32) (by decide +kernel))) (by decide +kernel)
theorem fl_X8_120 : Cond.fieldLink RX8 120 (TX6 6).1 (TX6 6).2.1 (TX6 6).2.2.1 ∈ BIG := bw (bt_2 _ (List.mem_of_getElem? (i := 33) (by decide +kernel))) (by decide +kernel)
theorem fl_X7_70 : Cond.fieldLink RX7 70 (TX6 6).1 (TX6 6).2.1 (TX6 6).2.2.1 ∈ BIG := bw (bt_2 _ (List.mem_of_getElem? (i := 34) (by decide +kernel))) (by decide +kernel)
theorem fl_X6_35 : Cond.fieldLink RX6 35 (TX6 7).1 (TX6 7).2.1 (TX6 7).2.2.1 ∈ BIG := bw (bt_2 _ (List.mem_of_getElem? (i := 35) (by decide +kernel))) (by decide +kernel)
theorem fl_X8_152 : Cond.fieldLink RX8 152 (TX6 7).1 (TX6 7).2.1 (TX6 7).2.2.1 ∈ BIG := bw (bt_2 _ (List.mem_of_getElem? (i := 36) (by decide +kernel))) (by decide +kernel)
theorem fl_X6_39 : Cond.fieldLink RX6 39 (TX6 8).1 (TX6 8).2.1 (TX6 8).2.2.1 ∈ BIG := bw (bt_2 _ (List.mem_of_getElem? (i := 37) (by decide +kernel))) (by decide +kernel)
theorem fl_X8_148 : Cond.fieldLink RX8 148 (TX6 8).1 (TX6 8).2.1 (TX6 8).2.2.1 ∈ BIG := bw (bt_2 _ (List.mem_of_getElem? (i := 38) (by decide +kernel))) (by decide +kernel)
theorem fl_X6_69 : Cond.fieldLink RX6 69 (TX6 9).1 (TX6 9).2.1 (TX6 9).2.2.1 ∈ BIG := bw (bt_2 _ (List.mem_of_getElem? (i := 39) (by decide +kernel))) (by decide +kernel)
theorem fl_X8_135 : Cond.fieldLink RX8 135 (TX6 9).1 (TX6 9).2.1 (TX6 9).2.2.1 ∈ BIG := bw (bt_2 _ (List.mem_of_getElem? (i := 40) (by decide +kernel))) (by decide +kernel)
theorem fl_X6_72 : Cond.fieldLink RX6 72 (TX6 10).1 (TX6 10).2.1 (TX6 10).2.2.1 ∈ BIG := bw (bt_2 _ (List.mem_of_getElem? (i := 41) (by decide +kernel))) (by decide +kernel)
theorem fl_X8_132 : Cond.fieldLink RX8 132 (TX6 10).1 (TX6 10).2.1 (TX6 10).2.2.1 ∈ BIG := bw (bt_2 _ (List.mem_of_getElem? (i := 42) (by decide +kernel))) (by decide +kernel)
theorem fl_X8_354 : Cond.fieldLink RX8 354 (TX6 11).1 (TX6 11).2.1 (TX6 11).2.2.1 ∈ BIG := bw (bt_2 _ (List.mem_of_getElem? (i := 43) (by decide +kernel))) (by decide +kernel)
theorem lay_X6_0 : u_lay RX6 TX6 0 ∈ BIG := bw (bt_2 _ (List.mem_of_getElem? (i := 44) (by decide +kernel))) (by decide +kernel)
theorem lay_X6_1 : u_lay RX6 TX6 1 ∈ BIG := bw (bt_2 _ (List.mem_of_getElem? (i := 46) (by decide +kernel))) (by decide +kernel)
theorem lay_X6_2 : u_lay RX6 TX6 2 ∈ BIG := bw (bt_2 _ (List.mem_of_getElem? (i := 48) (by decide +kernel))) (by decide +kernel)
theorem lay_X6_3 : u_lay RX6 TX6 3 ∈ BIG := bw (bt_2 _ (List.mem_of_getElem? (i := 50) (by decide +kernel))) (by decide +kernel)
theorem lay_X6_4 : u_lay RX6 TX6 4 ∈ BIG := bw (bt_2 _ (List.mem_of_getElem? (i := 52) (by decide +kernel))) (by decide +kernel)
theorem lay_X6_5 : u_lay RX6 TX6 5 ∈ BIG := bw (bt_2 _ (List.mem_of_getElem? (i := 54) (by decide +kernel))) (by decide +kernel)
theorem lay_X6_6 : u_lay RX6 TX6 6 ∈ BIG := bw (bt_2 _ (List.mem_of_getElem? (i := 56) (by decide +kernel))) (by decide +kernel)
theorem lay_X6_7 : u_lay RX6 TX6 7 ∈ BIG := bw (bt_2 _ (List.mem_of_getElem? (i := 58) (by decide +kernel))) (by decide +kernel)
theorem lay_X6_8 : u_lay RX6 TX6 8 ∈ BIG := bw (bt_2 _ (List.mem_of_getElem? (i := 60) (by decide +kernel))) (by decide +kernel)
theorem lay_X6_9 : u_lay RX6 TX6 9 ∈ BIG := bw (bt_2 _ (List.mem_of_getElem? (i := 62) (by decide +kernel))) (by decide +kernel)
theorem lay_X6_10 : u_lay RX6 TX6 10 ∈ BIG := bw (bt_2 _ (List.mem_of_getElem? (i := 64) (by decide +kernel))) (by decide +kernel)
theorem lay_X6_11 : u_lay RX6 TX6 11 ∈ BIG := bw (bt_2 _ (List.mem_of_getElem? (i := 66) (by decide +kernel))) (by decide +kernel)
theorem cl_X8_35 : Cond.classLink RX8 35 RX7 ∈ BIG := bw (bt_2 _ (List.mem_of_getElem? (i := 69) (by decide +kernel))) (by decide +kernel)
theorem is_X7 : Cond.instantiable RX7 6 ∈ BIG := bw (bt_2 _ (List.mem_of_getElem? (i := 70) (by decide +kernel))) (by decide +kernel)
theorem im_yX7_init : Cond.instanceMethod yX7_init ∈ BIG := bw (bt_2 _ (List.mem_of_getElem? (i := 72) (by decide +kernel))) (by decide +kernel)
theorem cd_yX7_init : Cond.code yX7_init cX7_init 1 none ∈ BIG := bw (bt_2 _ (List.mem_of_getElem? (i := 73) rfl)) rfl
theorem ml_X7_3 : Cond.methodLink RX7 3 Lib.objectInit ∈ BIG := bw (bt_2 _ (List.mem_of_getElem? (i := 74) (by decide +kernel))) (by decide +kernel)
theorem cl_X7_9 : Cond.classLink RX7 9 RX5 ∈ BIG := bw (bt_2 _ (List.mem_of_getElem? (i := 75) (by decide +kernel))) (by decide +kernel)
theorem fl_X7_12 : Cond.fieldLink RX7 12 (TX7 0).1 (TX7 0).2.1 (TX7 0).2.2.1 ∈ BIG := bw (bt_2 _ (List.mem_of_getElem? (i := 77) (by decide +kernel))) (by decide +kernel)
theorem fl_X8_302 : Cond.fieldLink RX8 302 (TX7 0).1 (TX7 0).2.1 (TX7 0).2.2.1 ∈ BIG := bw (bt_2 _ (List.mem_of_getElem? (i := 78) (by decide +kernel))) (by decide +kernel)
theorem fl_X7_18 : Cond.fieldLink RX7 18 (TX7 1).1 (TX7 1).2.1 (TX7 1).2.2.1 ∈ BIG := bw (bt_2 _ (List.mem_of_getElem? (i := 79) (by decide +kernel))) (by decide +kernel)
theorem fl_X8_303 : Cond.fieldLink RX8 303 (TX7 1).1 (TX7 1).2.1 (TX7 1).2.2.1 ∈ BIG := bw (bt_2 _ (List.mem_of_getElem? (i := 80) (by decide +kernel))) (by decide +kernel)
theorem fl_X7_73 : Cond.fieldLink RX7 73 (TX7 2).1 (TX7 2).2.1 (TX7 2).2.2.1 ∈ BIG := bw (bt_2 _ (List.mem_of_getElem? (i := 81) (by decide +kernel))) (by decide +kernel)
theorem fl_X7_74 : Cond.fieldLink RX7 74 (TX7 3).1 (TX7 3).2.1 (TX7 3).2.2.1 ∈ BIG := bw (bt_2 _ (List.mem_of_getElem? (i := 82) (by decide +kernel))) (by decide +kernel)
theorem fl_X8_292 : Cond.fieldLink RX8 292 (TX7 3).1 (TX7 3).2.1 (TX7 3).2.2.1 ∈ BIG := bw (bt_2 _ (List.mem_of_getElem? (i := 83) (by decide +kernel))) (by decide +kernel)
theorem fl_X7_77 : Cond.fieldLink RX7 77 (TX7 4).1 (TX7 4).2.1 (TX7 4).2.2.1 ∈ BIG := bw (bt_2 _ (List.mem_of_getElem? (i := 84) (by decide +kernel))) (by decide +kernel)
theorem fl_X7_80 : Cond.fieldLink RX7 80 (TX7 5).1 (TX7 5).2.1 (TX7 5).2.2.1 ∈ BIG := bw (bt_2 _ (List.mem_of_getElem? (i := 85) (by decide +kernel))) (by decide +kernel)
theorem fl_X8_286 : Cond.fieldLink RX8 286 (TX7 5).1 (TX7 5).2.1 (TX7 5).2.2.1 ∈ BIG := bw (bt_2 _ (List.mem_of_getElem? (i := 86) (by decide +kernel))) (by decide +kernel)
theorem lay_X7_0 : u_lay RX7 TX7 0 ∈ BIG := bw (bt_2 _ (List.mem_of_getElem? (i := 87) (by decide +kernel))) (by decide +kernel)
theorem lay_X7_1 : u_lay RX7 TX7 1 ∈ BIG := bw (bt_2 _ (List.mem_of_getElem? (i := 89) (by decide +kernel))) (by decide +kernel)
theorem lay_X7_2 : u_lay RX7 TX7 2 ∈ BIG := bw (bt_2 _ (List.mem_of_getElem? (i := 91) (by decide +kernel))) (by decide +kernel)
theorem lay_X7_3 : u_lay RX7 TX7 3 ∈ BIG := bw (bt_2 _ (List.mem_of_getElem? (i := 93) (by decide +kernel))) (by decide +kernel)
theorem lay_X7_4 : u_lay RX7 TX7 4 ∈ BIG := bw (bt_2 _ (List.mem_of_getElem? (i := 95) (by decide +kernel))) (by decide +kernel)
theorem lay_X7_5 : u_lay RX7 TX7 5 ∈ BIG := bw (bt_2 _ (List.mem_of_getElem? (i := 97) (by decide +kernel))) (by decide +kernel)
theorem fl_X8_10 : Cond.fieldLink RX8 10 (TX8 0).1 (TX8 0).2.1 (TX8 0).2.2.1 ∈ BIG := bw (bt_2 _ (List.mem_of_getElem? (i := 101) (by decide +kernel))) (by decide +kernel)
theorem fl_X8_20 : Cond.fieldLink RX8 20 (TX8 1).1 (TX8 1).2.1 (TX8 1).2.2.1 ∈ BIG := bw (bt_2 _ (List.mem_of_getElem? (i := 102) (by decide +kernel))) (by decide +kernel)
theorem fl_X8_24 : Cond.fieldLink RX8 24 (TX8 2).1 (TX8 2).2.1 (TX8 2).2.2.1 ∈ BIG := bw (bt_2 _ (List.mem_of_getElem? (i := 103) (by decide +kernel))) (by decide +kernel)
theorem fl_X8_31 : Cond.fieldLink RX8 31 (TX8 3).1 (TX8 3).2.1 (TX8 3).2.2.1 ∈ BIG := bw (bt_2 _ (List.mem_of_getElem? (i := 104) (by decide +kernel))) (by decide +kernel)
theorem fl_X8_38 : Cond.fieldLink RX8 38 (TX8 4).1 (TX8 4).2.1 (TX8 4).2.2.1 ∈ BIG := bw (bt_2 _ (List.mem_of_getElem? (i := 105) (by decide +kernel))) (by decide +kernel)
theorem fl_X8_42 : Cond.fieldLink RX8 42 (TX8 5).1 (TX8 5).2.1 (TX8 5).2.2.1 ∈ BIG := bw (bt_2 _ (List.mem_of_getElem? (i := 106) (by decide +kernel))) (by decide +kernel)
theorem fl_X8_359 : Cond.fieldLink RX8 359 (TX8 6).1 (TX8 6).2.1 (TX8 6).2.2.1 ∈ BIG := bw (bt_2 _ (List.mem_of_getElem? (i := 107) (by decide +kernel))) (by decide +kernel)
theorem fl_X8_364 : Cond.fieldLink RX8 364 (TX8 7).1 (TX8 7).2.1 (TX8 7).2.2.1 ∈ BIG := bw (bt_2 _ (List.mem_of_getElem? (i := 108) (by decide +kernel))) (by decide +kernel)
theorem fl_X8_46 : Cond.fieldLink RX8 46 (TX8 8).1 (TX8 8).2.1 (TX8 8).2.2.1 ∈ BIG := bw (bt_2 _ (List.mem_of_getElem? (i := 109) (by decide +kernel))) (by decide +kernel)
theorem lay_X8_0 : u_lay RX8 TX8 0 ∈ BIG := bw (bt_2 _ (List.mem_of_getElem? (i := 110) (by decide +kernel))) (by decide +kernel)
theorem lay_X8_1 : u_lay RX8 TX8 1 ∈ BIG := bw (bt_2 _ (List.mem_of_getElem? (i := 112) (by decide +kernel))) (by decide +kernel)
theorem lay_X8_2 : u_lay RX8 TX8 2 ∈ BIG := bw (bt_2 _ (List.mem_of_getElem? (i := 114) (by decide +kernel))) (by decide +kernel)
theorem lay_X8_3 : u_lay RX8 TX8 3 ∈ BIG := bw (bt_2 _ (List.mem_of_getElem? (i := 116) (by decide +kernel))) (by decide +kernel)
theorem lay_X8_4 : u_lay RX8 TX8 4 ∈ BIG := bw (bt_2 _ (List.mem_of_getElem? (i := 118) (by decide +kernel))) (by decide +kernel)
theorem lay_X8_5 : u_lay RX8 TX8 5 ∈ BIG := bw (bt_2 _ (List.mem_of_getElem? (i := 120) (by decide +kernel))) (by decide +kernel)
theorem lay_X8_6 : u_lay RX8 TX8 6 ∈ BIG := bw (bt_2 _ (List.mem_of_getElem? (i := 122) (by decide +kernel))) (by decide +kernel)
theorem lay_X8_7 : u_lay RX8 TX8 7 ∈ BIG := bw (bt_2 _ (List.mem_of_getElem? (i := 124) (by decide +kernel))) (by decide +kernel)
theorem lay_X8_8 : u_lay RX8 TX8 8 ∈ BIG := bw (bt_2 _ (List.mem_of_getElem? (i := 126) (by decide +kernel))) (by decide +kernel)
theorem ml_L_169 : Cond.methodLink RL 169 yX8_load ∈ BIG := bw (bt_2 _ (List.mem_of_getElem? (i := 129) (by decide +kernel))) (by decide +kernel)
theorem im_yX8_load : Cond.instanceMethod yX8_load ∈ BIG := bw (bt_2 _ (List.mem_of_getElem? (i := 130) (by decide +kernel))) (by decide +kernel)
theorem se_yX8_load : Cond.selects RX8 yX8_load yX8_load ∈ BIG := bw (bt_2 _ (List.mem_of_getElem? (i := 131) (by decide +kernel))) (by decide +kernel)
theorem cd_yX8_load : Cond.code yX8_load cX8_load 2 (some Jvm.ClassFile.FieldType.int) ∈ BIG := bw (bt_2 _ (List.mem_of_getElem? (i := 132) rfl)) rfl
theorem ml_X8_71 : Cond.methodLink RX8 71 yX3_readText ∈ BIG := bw (bt_2 _ (List.mem_of_getElem? (i := 133) (by decide +kernel))) (by decide +kernel)
theorem im_yX3_readText : Cond.instanceMethod yX3_readText ∈ BIG := bw (bt_2 _ (List.mem_of_getElem? (i := 134) (by decide +kernel))) (by decide +kernel)
theorem se_yX3_readText : Cond.selects RX3 yX3_readText yX3_readText ∈ BIG := bw (bt_2 _ (List.mem_of_getElem? (i := 135) (by decide +kernel))) (by decide +kernel)
theorem cd_yX3_readText : Cond.code yX3_readText cX3_readText 2 (some Jvm.ClassFile.FieldType.boolean) ∈ BIG := bw (bt_2 _ (List.mem_of_getElem? (i := 136) rfl)) rfl
theorem ml_X3_32 : Cond.methodLink RX3 32 yX3_clear ∈ BIG := bw (bt_2 _ (List.mem_of_getElem? (i := 137) (by decide +kernel))) (by decide +kernel)
theorem im_yX3_clear : Cond.instanceMethod yX3_clear ∈ BIG := bw (bt_2 _ (List.mem_of_getElem? (i := 139) (by decide +kernel))) (by decide +kernel)
theorem cd_yX3_clear : Cond.code yX3_clear cX3_clear 1 none ∈ BIG := bw (bt_2 _ (List.mem_of_getElem? (i := 140) rfl)) rfl
theorem ml_X3_77 : Cond.methodLink RX3 77 yX4_clear ∈ BIG := bw (bt_2 _ (List.mem_of_getElem? (i := 141) (by decide +kernel))) (by decide +kernel)
theorem im_yX4_clear : Cond.instanceMethod yX4_clear ∈ BIG := bw (bt_2 _ (List.mem_of_getElem? (i := 142) (by decide +kernel))) (by decide +kernel)
theorem se_yX4_clear : Cond.selects RX4 yX4_clear yX4_clear ∈ BIG := bw (bt_2 _ (List.mem_of_getElem? (i := 143) (by decide +kernel))) (by decide +kernel)
theorem cd_yX4_clear : Cond.code yX4_clear cX4_clear 1 none ∈ BIG := bw (bt_2 _ (List.mem_of_getElem? (i := 144) rfl)) rfl
theorem ml_X4_19 : Cond.methodLink RX4 19 yJ7_fill_53178 ∈ BIG := bw (bt_2 _ (List.mem_of_getElem? (i := 145) (by decide +kernel))) (by decide +kernel)
theorem ml_X3_35 : Cond.methodLink RX3 35 yX3_readToken ∈ BIG := bw (bt_2 _ (List.mem_of_getElem? (i := 146) (by decide +kernel))) (by decide +kernel)
theorem im_yX3_readToken : Cond.instanceMethod yX3_readToken ∈ BIG := bw (bt_2 _ (List.mem_of_getElem? (i := 148) (by decide +kernel))) (by decide +kernel)
theorem cd_yX3_readToken : Cond.code yX3_readToken cX3_readToken 1 none ∈ BIG := bw (bt_2 _ (List.mem_of_getElem? (i := 149) rfl)) rfl
theorem ml_X3_153 : Cond.methodLink RX3 153 yX0_byteAt ∈ BIG := bw (bt_2 _ (List.mem_of_getElem? (i := 150) (by decide +kernel))) (by decide +kernel)
theorem im_yX0_byteAt : Cond.instanceMethod yX0_byteAt ∈ BIG := bw (bt_2 _ (List.mem_of_getElem? (i := 151) (by decide +kernel))) (by decide +kernel)
theorem se_yX0_byteAt : Cond.selects RX0 yX0_byteAt yX0_byteAt ∈ BIG := bw (bt_2 _ (List.mem_of_getElem? (i := 152) (by decide +kernel))) (by decide +kernel)
theorem cd_yX0_byteAt : Cond.code yX0_byteAt cX0_byteAt 2 (some Jvm.ClassFile.FieldType.int) ∈ BIG := bw (bt_2 _ (List.mem_of_getElem? (i := 153) rfl)) rfl
theorem ml_X3_163 : Cond.methodLink RX3 163 yX3_kindOf ∈ BIG := bw (bt_2 _ (List.mem_of_getElem? (i := 154) (by decide +kernel))) (by decide +kernel)
theorem st_yX3_kindOf : Cond.static yX3_kindOf ∈ BIG := bw (bt_2 _ (List.mem_of_getElem? (i := 155) (by decide +kernel))) (by decide +kernel)
theorem cd_yX3_kindOf : Cond.code yX3_kindOf cX3_kindOf 1 (some Jvm.ClassFile.FieldType.int) ∈ BIG := bw (bt_2 _ (List.mem_of_getElem? (i := 156) rfl)) rfl
theorem co_X3_166 : Cond.constant RX3 166 (1000000) ∈ BIG := bw (bt_2 _ (List.mem_of_getElem? (i := 157) (by decide +kernel))) (by decide +kernel)
theorem ml_X3_167 : Cond.methodLink RX3 167 Lib.Math.min.name ∈ BIG := bw (bt_2 _ (List.mem_of_getElem? (i := 158) (by decide +kernel))) (by decide +kernel)
theorem st_Lib_Math_min_name : Cond.static Lib.Math.min.name ∈ BIG := bw (bt_2 _ (List.mem_of_getElem? (i := 159) (by decide +kernel))) (by decide +kernel)
theorem ml_X3_40 : Cond.methodLink RX3 40 yX3_isWord ∈ BIG := bw (bt_2 _ (List.mem_of_getElem? (i := 162) (by decide +kernel))) (by decide +kernel)
theorem im_yX3_isWord : Cond.instanceMethod yX3_isWord ∈ BIG := bw (bt_2 _ (List.mem_of_getElem? (i := 164) (by decide +kernel))) (by decide +kernel)
theorem cd_yX3_isWord : Cond.code yX3_isWord cX3_isWord 3 (some Jvm.ClassFile.FieldType.boolean) ∈ BIG := bw (bt_2 _ (List.mem_of_getElem? (i := 165) rfl)) rfl
theorem ml_X3_147 : Cond.methodLink RX3 147 yJ0_length_8abf5 ∈ BIG := bw (bt_2 _ (List.mem_of_getElem? (i := 166) (by decide +kernel))) (by decide +kernel)
theorem im_yJ0_length_8abf5 : Cond.instanceMethod yJ0_length_8abf5 ∈ BIG := bw (bt_2 _ (List.mem_of_getElem? (i := 167) (by decide +kernel))) (by decide +kernel)
theorem se_yJ0_length_8abf5 : Cond.selects RJ0 yJ0_length_8abf5 yJ0_length_8abf5 ∈ BIG := bw (bt_2 _ (List.mem_of_getElem? (i := 168) (by decide +kernel))) (by decide +kernel)
theorem cd_yJ0_length_8abf5 : Cond.code yJ0_length_8abf5 cJ0_length_8abf5 1 (some Jvm.ClassFile.FieldType.int) ∈ BIG := bw (bt_2 _ (List.mem_of_getElem? (i := 169) rfl)) rfl
theorem ml_J0_335 : Cond.methodLink RJ0 335 yJ0_coder_7d493 ∈ BIG := bw (bt_2 _ (List.mem_of_getElem? (i := 170) (by decide +kernel))) (by decide +kernel)
theorem im_yJ0_coder_7d493 : Cond.instanceMethod yJ0_coder_7d493 ∈ BIG := bw (bt_2 _ (List.mem_of_getElem? (i := 171) (by decide +kernel))) (by decide +kernel)
theorem se_yJ0_coder_7d493 : Cond.selects RJ0 yJ0_coder_7d493 yJ0_coder_7d493 ∈ BIG := bw (bt_2 _ (List.mem_of_getElem? (i := 172) (by decide +kernel))) (by decide +kernel)
theorem cd_yJ0_coder_7d493 : Cond.code yJ0_coder_7d493 cJ0_coder_7d493 1 (some Jvm.ClassFile.FieldType.byte) ∈ BIG := bw (bt_2 _ (List.mem_of_getElem? (i := 173) rfl)) rfl
theorem fl_J0_38 : Cond.fieldLink "java/lang/String" (38 : Nat) "java/lang/String" "COMPACT_STRINGS" "Z" ∈ BIG := bw (bt_2 _ (List.mem_of_getElem? (i := 174) (by decide +kernel))) (by decide +kernel)
theorem ml_X3_157 : Cond.methodLink RX3 157 yJ0_charAt_5068e ∈ BIG := bw (bt_2 _ (List.mem_of_getElem? (i := 176) (by decide +kernel))) (by decide +kernel)
theorem im_yJ0_charAt_5068e : Cond.instanceMethod yJ0_charAt_5068e ∈ BIG := bw (bt_2 _ (List.mem_of_getElem? (i := 177) (by decide +kernel))) (by decide +kernel)
theorem se_yJ0_charAt_5068e : Cond.selects RJ0 yJ0_charAt_5068e yJ0_charAt_5068e ∈ BIG := bw (bt_2 _ (List.mem_of_getElem? (i := 178) (by decide +kernel))) (by decide +kernel)
theorem cd_yJ0_charAt_5068e : Cond.code yJ0_charAt_5068e cJ0_charAt_5068e 2 (some Jvm.ClassFile.FieldType.char) ∈ BIG := bw (bt_2 _ (List.mem_of_getElem? (i := 179) rfl)) rfl
theorem ml_J0_492 : Cond.methodLink RJ0 492 yJ0_isLatin1_aae02 ∈ BIG := bw (bt_2 _ (List.mem_of_getElem? (i := 180) (by decide +kernel))) (by decide +kernel)
theorem im_yJ0_isLatin1_aae02 : Cond.instanceMethod yJ0_isLatin1_aae02 ∈ BIG := bw (bt_2 _ (List.mem_of_getElem? (i := 181) (by decide +kernel))) (by decide +kernel)
theorem se_yJ0_isLatin1_aae02 : Cond.selects RJ0 yJ0_isLatin1_aae02 yJ0_isLatin1_aae02 ∈ BIG := bw (bt_2 _ (List.mem_of_getElem? (i := 182) (by decide +kernel))) (by decide +kernel)
theorem cd_yJ0_isLatin1_aae02 : Cond.code yJ0_isLatin1_aae02 cJ0_isLatin1_aae02 1 (some Jvm.ClassFile.FieldType.boolean) ∈ BIG := bw (bt_2 _ (List.mem_of_getElem? (i := 183) rfl)) rfl
theorem ml_J0_495 : Cond.methodLink RJ0 495 yJ1_charAt_3b067 ∈ BIG := bw (bt_2 _ (List.mem_of_getElem? (i := 184) (by decide +kernel))) (by decide +kernel)
theorem st_yJ1_charAt_3b067 : Cond.static yJ1_charAt_3b067 ∈ BIG := bw (bt_2 _ (List.mem_of_getElem? (i := 185) (by decide +kernel))) (by decide +kernel)
theorem cd_yJ1_charAt_3b067 : Cond.code yJ1_charAt_3b067 cJ1_charAt_3b067 2 (some Jvm.ClassFile.FieldType.char) ∈ BIG := bw (bt_2 _ (List.mem_of_getElem? (i := 186) rfl)) rfl
theorem ml_J1_9 : Cond.methodLink RJ1 9 yJ0_checkIndex_df160 ∈ BIG := bw (bt_2 _ (List.mem_of_getElem? (i := 187) (by decide +kernel))) (by decide +kernel)
theorem st_yJ0_checkIndex_df160 : Cond.static yJ0_checkIndex_df160 ∈ BIG := bw (bt_2 _ (List.mem_of_getElem? (i := 188) (by decide +kernel))) (by decide +kernel)
theorem cd_yJ0_checkIndex_df160 : Cond.code yJ0_checkIndex_df160 cJ0_checkIndex_df160 2 none ∈ BIG := bw (bt_2 _ (List.mem_of_getElem? (i := 189) rfl)) rfl
theorem fl_J0_1053 : Cond.fieldLink "java/lang/String" (1053 : Nat) "jdk/internal/util/Preconditions" "SIOOBE_FORMATTER" "Ljava/util/function/BiFunction;" ∈ BIG := bw (bt_2 _ (List.mem_of_getElem? (i := 190) (by decide +kernel))) (by decide +kernel)
theorem ml_J0_1059 : Cond.methodLink RJ0 1059 yJ3_checkIndex_8e157 ∈ BIG := bw (bt_2 _ (List.mem_of_getElem? (i := 192) (by decide +kernel))) (by decide +kernel)
theorem st_yJ3_checkIndex_8e157 : Cond.static yJ3_checkIndex_8e157 ∈ BIG := bw (bt_2 _ (List.mem_of_getElem? (i := 193) (by decide +kernel))) (by decide +kernel)
theorem cd_yJ3_checkIndex_8e157 : Cond.code yJ3_checkIndex_8e157 cJ3_checkIndex_8e157 3 (some Jvm.ClassFile.FieldType.int) ∈ BIG := bw (bt_2 _ (List.mem_of_getElem? (i := 194) rfl)) rfl
theorem ml_J0_498 : Cond.methodLink RJ0 498 yJ2_charAt_3b067 ∈ BIG := bw (bt_2 _ (List.mem_of_getElem? (i := 195) (by decide +kernel))) (by decide +kernel)
theorem st_yJ2_charAt_3b067 : Cond.static yJ2_charAt_3b067 ∈ BIG := bw (bt_2 _ (List.mem_of_getElem? (i := 196) (by decide +kernel))) (by decide +kernel)
theorem cd_yJ2_charAt_3b067 : Cond.code yJ2_charAt_3b067 cJ2_charAt_3b067 2 (some Jvm.ClassFile.FieldType.char) ∈ BIG := bw (bt_2 _ (List.mem_of_getElem? (i := 197) rfl)) rfl
theorem ml_J2_67 : Cond.methodLink RJ2 67 yJ2_checkIndex_2214a ∈ BIG := bw (bt_2 _ (List.mem_of_getElem? (i := 198) (by decide +kernel))) (by decide +kernel)
theorem st_yJ2_checkIndex_2214a : Cond.static yJ2_checkIndex_2214a ∈ BIG := bw (bt_2 _ (List.mem_of_getElem? (i := 199) (by decide +kernel))) (by decide +kernel)
theorem cd_yJ2_checkIndex_2214a : Cond.code yJ2_checkIndex_2214a cJ2_checkIndex_2214a 2 none ∈ BIG := bw (bt_2 _ (List.mem_of_getElem? (i := 200) rfl)) rfl
theorem ml_J2_48 : Cond.methodLink RJ2 48 yJ2_length_9d52b ∈ BIG := bw (bt_2 _ (List.mem_of_getElem? (i := 201) (by decide +kernel))) (by decide +kernel)
theorem st_yJ2_length_9d52b : Cond.static yJ2_length_9d52b ∈ BIG := bw (bt_2 _ (List.mem_of_getElem? (i := 202) (by decide +kernel))) (by decide +kernel)
theorem cd_yJ2_length_9d52b : Cond.code yJ2_length_9d52b cJ2_length_9d52b 1 (some Jvm.ClassFile.FieldType.int) ∈ BIG := bw (bt_2 _ (List.mem_of_getElem? (i := 203) rfl)) rfl
theorem ml_J2_414 : Cond.methodLink RJ2 414 yJ0_checkIndex_df160 ∈ BIG := bw (bt_2 _ (List.mem_of_getElem? (i := 204) (by decide +kernel))) (by decide +kernel)
theorem ml_J2_71 : Cond.methodLink RJ2 71 yJ2_getChar_3b067 ∈ BIG := bw (bt_2 _ (List.mem_of_getElem? (i := 205) (by decide +kernel))) (by decide +kernel)
theorem st_yJ2_getChar_3b067 : Cond.static yJ2_getChar_3b067 ∈ BIG := bw (bt_2 _ (List.mem_of_getElem? (i := 206) (by decide +kernel))) (by decide +kernel)
theorem cd_yJ2_getChar_3b067 : Cond.code yJ2_getChar_3b067 cJ2_getChar_3b067 2 (some Jvm.ClassFile.FieldType.char) ∈ BIG := bw (bt_2 _ (List.mem_of_getElem? (i := 207) rfl)) rfl
theorem fl_J2_44 : Cond.fieldLink "java/lang/StringUTF16" (44 : Nat) "java/lang/StringUTF16" "$assertionsDisabled" "Z" ∈ BIG := bw (bt_2 _ (List.mem_of_getElem? (i := 208) (by decide +kernel))) (by decide +kernel)
theorem fl_J2_59 : Cond.fieldLink "java/lang/StringUTF16" (59 : Nat) "java/lang/StringUTF16" "HI_BYTE_SHIFT" "I" ∈ BIG := bw (bt_2 _ (List.mem_of_getElem? (i := 210) (by decide +kernel))) (by decide +kernel)
theorem fl_J2_63 : Cond.fieldLink "java/lang/StringUTF16" (63 : Nat) "java/lang/StringUTF16" "LO_BYTE_SHIFT" "I" ∈ BIG := bw (bt_2 _ (List.mem_of_getElem? (i := 212) (by decide +kernel))) (by decide +kernel)
theorem ml_X3_44 : Cond.methodLink RX3 44 yX3_fail ∈ BIG := bw (bt_2 _ (List.mem_of_getElem? (i := 214) (by decide +kernel))) (by decide +kernel)
theorem im_yX3_fail : Cond.instanceMethod yX3_fail ∈ BIG := bw (bt_2 _ (List.mem_of_getElem? (i := 216) (by decide +kernel))) (by decide +kernel)
theorem cd_yX3_fail : Cond.code yX3_fail cX3_fail 2 none ∈ BIG := bw (bt_2 _ (List.mem_of_getElem? (i := 217) rfl)) rfl
theorem ml_X3_54 : Cond.methodLink RX3 54 yX3_readPeriod ∈ BIG := bw (bt_2 _ (List.mem_of_getElem? (i := 218) (by decide +kernel))) (by decide +kernel)
theorem im_yX3_readPeriod : Cond.instanceMethod yX3_readPeriod ∈ BIG := bw (bt_2 _ (List.mem_of_getElem? (i := 220) (by decide +kernel))) (by decide +kernel)
theorem cd_yX3_readPeriod : Cond.code yX3_readPeriod cX3_readPeriod 2 none ∈ BIG := bw (bt_2 _ (List.mem_of_getElem? (i := 221) rfl)) rfl
theorem ml_X3_90 : Cond.methodLink RX3 90 yX4_isEndless ∈ BIG := bw (bt_2 _ (List.mem_of_getElem? (i := 222) (by decide +kernel))) (by decide +kernel)
theorem im_yX4_isEndless : Cond.instanceMethod yX4_isEndless ∈ BIG := bw (bt_2 _ (List.mem_of_getElem? (i := 223) (by decide +kernel))) (by decide +kernel)
theorem se_yX4_isEndless : Cond.selects RX4 yX4_isEndless yX4_isEndless ∈ BIG := bw (bt_2 _ (List.mem_of_getElem? (i := 224) (by decide +kernel))) (by decide +kernel)
theorem cd_yX4_isEndless : Cond.code yX4_isEndless cX4_isEndless 2 (some Jvm.ClassFile.FieldType.boolean) ∈ BIG := bw (bt_2 _ (List.mem_of_getElem? (i := 225) rfl)) rfl
theorem ml_X4_42 : Cond.methodLink RX4 42 yX4_number ∈ BIG := bw (bt_2 _ (List.mem_of_getElem? (i := 226) (by decide +kernel))) (by decide +kernel)
theorem ml_X3_94 : Cond.methodLink RX3 94 yX3_takeWord ∈ BIG := bw (bt_2 _ (List.mem_of_getElem? (i := 227) (by decide +kernel))) (by decide +kernel)
theorem im_yX3_takeWord : Cond.instanceMethod yX3_takeWord ∈ BIG := bw (bt_2 _ (List.mem_of_getElem? (i := 229) (by decide +kernel))) (by decide +kernel)
theorem cd_yX3_takeWord : Cond.code yX3_takeWord cX3_takeWord 2 none ∈ BIG := bw (bt_2 _ (List.mem_of_getElem? (i := 230) rfl)) rfl
theorem ml_X3_100 : Cond.methodLink RX3 100 yX3_takeNumber ∈ BIG := bw (bt_2 _ (List.mem_of_getElem? (i := 232) (by decide +kernel))) (by decide +kernel)
theorem im_yX3_takeNumber : Cond.instanceMethod yX3_takeNumber ∈ BIG := bw (bt_2 _ (List.mem_of_getElem? (i := 234) (by decide +kernel))) (by decide +kernel)
theorem cd_yX3_takeNumber : Cond.code yX3_takeNumber cX3_takeNumber 4 (some Jvm.ClassFile.FieldType.int) ∈ BIG := bw (bt_2 _ (List.mem_of_getElem? (i := 235) rfl)) rfl
theorem ml_X3_104 : Cond.methodLink RX3 104 yX4_setNumber ∈ BIG := bw (bt_2 _ (List.mem_of_getElem? (i := 236) (by decide +kernel))) (by decide +kernel)
theorem co_X3_110 : Cond.constant RX3 110 (99999) ∈ BIG := bw (bt_2 _ (List.mem_of_getElem? (i := 238) (by decide +kernel))) (by decide +kernel)
theorem ml_X3_113 : Cond.methodLink RX3 113 yX3_takeOption ∈ BIG := bw (bt_3 _ (List.mem_of_getElem? (i := 0) (by decide +kernel))) (by decide +kernel)
theorem im_yX3_takeOption : Cond.instanceMethod yX3_takeOption ∈ BIG := bw (bt_3 _ (List.mem_of_getElem? (i := 2) (by decide +kernel))) (by decide +kernel)
theorem cd_yX3_takeOption : Cond.code yX3_takeOption cX3_takeOption 2 (some Jvm.ClassFile.FieldType.int) ∈ BIG := bw (bt_3 _ (List.mem_of_getElem? (i := 3) rfl)) rfl
theorem ml_X3_121 : Cond.methodLink RX3 121 yX3_takeSemicolon ∈ BIG := bw (bt_3 _ (List.mem_of_getElem? (i := 6) (by decide +kernel))) (by decide +kernel)
theorem im_yX3_takeSemicolon : Cond.instanceMethod yX3_takeSemicolon ∈ BIG := bw (bt_3 _ (List.mem_of_getElem? (i := 8) (by decide +kernel))) (by decide +kernel)
theorem cd_yX3_takeSemicolon : Cond.code yX3_takeSemicolon cX3_takeSemicolon 1 none ∈ BIG := bw (bt_3 _ (List.mem_of_getElem? (i := 9) rfl)) rfl
theorem ml_X3_59 : Cond.methodLink RX3 59 yX3_readExtra ∈ BIG := bw (bt_3 _ (List.mem_of_getElem? (i := 11) (by decide +kernel))) (by decide +kernel)
theorem im_yX3_readExtra : Cond.instanceMethod yX3_readExtra ∈ BIG := bw (bt_3 _ (List.mem_of_getElem? (i := 13) (by decide +kernel))) (by decide +kernel)
theorem cd_yX3_readExtra : Cond.code yX3_readExtra cX3_readExtra 1 none ∈ BIG := bw (bt_3 _ (List.mem_of_getElem? (i := 14) rfl)) rfl
theorem ml_X3_127 : Cond.methodLink RX3 127 yX3_failIf ∈ BIG := bw (bt_3 _ (List.mem_of_getElem? (i := 15) (by decide +kernel))) (by decide +kernel)
theorem im_yX3_failIf : Cond.instanceMethod yX3_failIf ∈ BIG := bw (bt_3 _ (List.mem_of_getElem? (i := 17) (by decide +kernel))) (by decide +kernel)
theorem cd_yX3_failIf : Cond.code yX3_failIf cX3_failIf 2 none ∈ BIG := bw (bt_3 _ (List.mem_of_getElem? (i := 18) rfl)) rfl
theorem ml_X3_64 : Cond.methodLink RX3 64 yX3_readSession ∈ BIG := bw (bt_3 _ (List.mem_of_getElem? (i := 20) (by decide +kernel))) (by decide +kernel)
theorem im_yX3_readSession : Cond.instanceMethod yX3_readSession ∈ BIG := bw (bt_3 _ (List.mem_of_getElem? (i := 22) (by decide +kernel))) (by decide +kernel)
theorem cd_yX3_readSession : Cond.code yX3_readSession cX3_readSession 1 none ∈ BIG := bw (bt_3 _ (List.mem_of_getElem? (i := 23) rfl)) rfl
theorem ml_X3_69 : Cond.methodLink RX3 69 yX3_readHand ∈ BIG := bw (bt_3 _ (List.mem_of_getElem? (i := 25) (by decide +kernel))) (by decide +kernel)
theorem im_yX3_readHand : Cond.instanceMethod yX3_readHand ∈ BIG := bw (bt_3 _ (List.mem_of_getElem? (i := 27) (by decide +kernel))) (by decide +kernel)
theorem cd_yX3_readHand : Cond.code yX3_readHand cX3_readHand 1 none ∈ BIG := bw (bt_3 _ (List.mem_of_getElem? (i := 28) rfl)) rfl
theorem ml_X3_74 : Cond.methodLink RX3 74 yX3_readClaims ∈ BIG := bw (bt_3 _ (List.mem_of_getElem? (i := 32) (by decide +kernel))) (by decide +kernel)
theorem im_yX3_readClaims : Cond.instanceMethod yX3_readClaims ∈ BIG := bw (bt_3 _ (List.mem_of_getElem? (i := 34) (by decide +kernel))) (by decide +kernel)
theorem cd_yX3_readClaims : Cond.code yX3_readClaims cX3_readClaims 1 none ∈ BIG := bw (bt_3 _ (List.mem_of_getElem? (i := 35) rfl)) rfl
theorem ml_X8_75 : Cond.methodLink RX8 75 yX8_remember ∈ BIG := bw (bt_3 _ (List.mem_of_getElem? (i := 36) (by decide +kernel))) (by decide +kernel)
theorem im_yX8_remember : Cond.instanceMethod yX8_remember ∈ BIG := bw (bt_3 _ (List.mem_of_getElem? (i := 38) (by decide +kernel))) (by decide +kernel)
theorem cd_yX8_remember : Cond.code yX8_remember cX8_remember 2 none ∈ BIG := bw (bt_3 _ (List.mem_of_getElem? (i := 39) rfl)) rfl
theorem ml_X8_346 : Cond.methodLink RX8 346 yX8_stateAt ∈ BIG := bw (bt_3 _ (List.mem_of_getElem? (i := 40) (by decide +kernel))) (by decide +kernel)
theorem st_yX8_stateAt : Cond.static yX8_stateAt ∈ BIG := bw (bt_3 _ (List.mem_of_getElem? (i := 41) (by decide +kernel))) (by decide +kernel)
theorem cd_yX8_stateAt : Cond.code yX8_stateAt cX8_stateAt 2 (some (Jvm.ClassFile.FieldType.object "GameClock$State")) ∈ BIG := bw (bt_3 _ (List.mem_of_getElem? (i := 42) rfl)) rfl
theorem ml_X8_350 : Cond.methodLink RX8 350 yX6_copyFrom ∈ BIG := bw (bt_3 _ (List.mem_of_getElem? (i := 43) (by decide +kernel))) (by decide +kernel)
theorem im_yX6_copyFrom : Cond.instanceMethod yX6_copyFrom ∈ BIG := bw (bt_3 _ (List.mem_of_getElem? (i := 44) (by decide +kernel))) (by decide +kernel)
theorem se_yX6_copyFrom : Cond.selects RX6 yX6_copyFrom yX6_copyFrom ∈ BIG := bw (bt_3 _ (List.mem_of_getElem? (i := 45) (by decide +kernel))) (by decide +kernel)
theorem cd_yX6_copyFrom : Cond.code yX6_copyFrom cX6_copyFrom 2 none ∈ BIG := bw (bt_3 _ (List.mem_of_getElem? (i := 46) rfl)) rfl
theorem ml_X6_53 : Cond.methodLink RX6 53 yX4_copyFrom ∈ BIG := bw (bt_3 _ (List.mem_of_getElem? (i := 47) (by decide +kernel))) (by decide +kernel)
theorem im_yX4_copyFrom : Cond.instanceMethod yX4_copyFrom ∈ BIG := bw (bt_3 _ (List.mem_of_getElem? (i := 48) (by decide +kernel))) (by decide +kernel)
theorem se_yX4_copyFrom : Cond.selects RX4 yX4_copyFrom yX4_copyFrom ∈ BIG := bw (bt_3 _ (List.mem_of_getElem? (i := 49) (by decide +kernel))) (by decide +kernel)
theorem cd_yX4_copyFrom : Cond.code yX4_copyFrom cX4_copyFrom 2 none ∈ BIG := bw (bt_3 _ (List.mem_of_getElem? (i := 50) rfl)) rfl
theorem st_yX8_copyRow : Cond.static yX8_copyRow ∈ BIG := bw (bt_3 _ (List.mem_of_getElem? (i := 52) (by decide +kernel))) (by decide +kernel)
theorem cd_yX8_copyRow : Cond.code yX8_copyRow cX8_copyRow 2 none ∈ BIG := bw (bt_3 _ (List.mem_of_getElem? (i := 53) rfl)) rfl
theorem ml_X8_375 : Cond.methodLink RX8 375 Lib.Math.min.name ∈ BIG := bw (bt_3 _ (List.mem_of_getElem? (i := 54) (by decide +kernel))) (by decide +kernel)
theorem ml_X8_414 : Cond.methodLink RX8 414 arraycopyName ∈ BIG := bw (bt_3 _ (List.mem_of_getElem? (i := 55) (by decide +kernel))) (by decide +kernel)
theorem st_arraycopyName : Cond.static arraycopyName ∈ BIG := bw (bt_3 _ (List.mem_of_getElem? (i := 56) (by decide +kernel))) (by decide +kernel)
theorem nv_arraycopyName : Cond.native arraycopyName ∈ BIG := bw (bt_3 _ (List.mem_of_getElem? (i := 57) (by decide +kernel))) (by decide +kernel)
theorem ml_X6_75 : Cond.methodLink RX6 75 yX1_copyFrom ∈ BIG := bw (bt_3 _ (List.mem_of_getElem? (i := 58) (by decide +kernel))) (by decide +kernel)
theorem im_yX1_copyFrom : Cond.instanceMethod yX1_copyFrom ∈ BIG := bw (bt_3 _ (List.mem_of_getElem? (i := 59) (by decide +kernel))) (by decide +kernel)
theorem se_yX1_copyFrom : Cond.selects RX1 yX1_copyFrom yX1_copyFrom ∈ BIG := bw (bt_3 _ (List.mem_of_getElem? (i := 60) (by decide +kernel))) (by decide +kernel)
theorem cd_yX1_copyFrom : Cond.code yX1_copyFrom cX1_copyFrom 2 none ∈ BIG := bw (bt_3 _ (List.mem_of_getElem? (i := 61) rfl)) rfl
theorem ml_X6_78 : Cond.methodLink RX6 78 yX5_copyFrom ∈ BIG := bw (bt_3 _ (List.mem_of_getElem? (i := 63) (by decide +kernel))) (by decide +kernel)
theorem im_yX5_copyFrom : Cond.instanceMethod yX5_copyFrom ∈ BIG := bw (bt_3 _ (List.mem_of_getElem? (i := 64) (by decide +kernel))) (by decide +kernel)
theorem se_yX5_copyFrom : Cond.selects RX5 yX5_copyFrom yX5_copyFrom ∈ BIG := bw (bt_3 _ (List.mem_of_getElem? (i := 65) (by decide +kernel))) (by decide +kernel)
theorem cd_yX5_copyFrom : Cond.code yX5_copyFrom cX5_copyFrom 2 none ∈ BIG := bw (bt_3 _ (List.mem_of_getElem? (i := 66) rfl)) rfl
theorem ml_X8_86 : Cond.methodLink RX8 86 yX6_setUp ∈ BIG := bw (bt_3 _ (List.mem_of_getElem? (i := 68) (by decide +kernel))) (by decide +kernel)
theorem im_yX6_setUp : Cond.instanceMethod yX6_setUp ∈ BIG := bw (bt_3 _ (List.mem_of_getElem? (i := 69) (by decide +kernel))) (by decide +kernel)
theorem se_yX6_setUp : Cond.selects RX6 yX6_setUp yX6_setUp ∈ BIG := bw (bt_3 _ (List.mem_of_getElem? (i := 70) (by decide +kernel))) (by decide +kernel)
theorem cd_yX6_setUp : Cond.code yX6_setUp cX6_setUp 3 none ∈ BIG := bw (bt_3 _ (List.mem_of_getElem? (i := 71) rfl)) rfl
theorem ml_X6_56 : Cond.methodLink RX6 56 yX1_clear ∈ BIG := bw (bt_3 _ (List.mem_of_getElem? (i := 72) (by decide +kernel))) (by decide +kernel)
theorem im_yX1_clear : Cond.instanceMethod yX1_clear ∈ BIG := bw (bt_3 _ (List.mem_of_getElem? (i := 73) (by decide +kernel))) (by decide +kernel)
theorem se_yX1_clear : Cond.selects RX1 yX1_clear yX1_clear ∈ BIG := bw (bt_3 _ (List.mem_of_getElem? (i := 74) (by decide +kernel))) (by decide +kernel)
theorem cd_yX1_clear : Cond.code yX1_clear cX1_clear 1 none ∈ BIG := bw (bt_3 _ (List.mem_of_getElem? (i := 75) rfl)) rfl
theorem ml_X8_93 : Cond.methodLink RX8 93 yX6_sideOf ∈ BIG := bw (bt_3 _ (List.mem_of_getElem? (i := 76) (by decide +kernel))) (by decide +kernel)
theorem im_yX6_sideOf : Cond.instanceMethod yX6_sideOf ∈ BIG := bw (bt_3 _ (List.mem_of_getElem? (i := 77) (by decide +kernel))) (by decide +kernel)
theorem se_yX6_sideOf : Cond.selects RX6 yX6_sideOf yX6_sideOf ∈ BIG := bw (bt_3 _ (List.mem_of_getElem? (i := 78) (by decide +kernel))) (by decide +kernel)
theorem cd_yX6_sideOf : Cond.code yX6_sideOf cX6_sideOf 2 (some (Jvm.ClassFile.FieldType.object "GameClock$Side")) ∈ BIG := bw (bt_3 _ (List.mem_of_getElem? (i := 79) rfl)) rfl
theorem ml_L_173 : Cond.methodLink RL 173 yX8_errorCode ∈ BIG := bw (bt_3 _ (List.mem_of_getElem? (i := 80) (by decide +kernel))) (by decide +kernel)
theorem im_yX8_errorCode : Cond.instanceMethod yX8_errorCode ∈ BIG := bw (bt_3 _ (List.mem_of_getElem? (i := 81) (by decide +kernel))) (by decide +kernel)
theorem se_yX8_errorCode : Cond.selects RX8 yX8_errorCode yX8_errorCode ∈ BIG := bw (bt_3 _ (List.mem_of_getElem? (i := 82) (by decide +kernel))) (by decide +kernel)
theorem cd_yX8_errorCode : Cond.code yX8_errorCode cX8_errorCode 1 (some Jvm.ClassFile.FieldType.int) ∈ BIG := bw (bt_3 _ (List.mem_of_getElem? (i := 83) rfl)) rfl
theorem ml_L_177 : Cond.methodLink RL 177 yX8_errorPosition ∈ BIG := bw (bt_3 _ (List.mem_of_getElem? (i := 84) (by decide +kernel))) (by decide +kernel)
theorem im_yX8_errorPosition : Cond.instanceMethod yX8_errorPosition ∈ BIG := bw (bt_3 _ (List.mem_of_getElem? (i := 85) (by decide +kernel))) (by decide +kernel)
theorem se_yX8_errorPosition : Cond.selects RX8 yX8_errorPosition yX8_errorPosition ∈ BIG := bw (bt_3 _ (List.mem_of_getElem? (i := 86) (by decide +kernel))) (by decide +kernel)
theorem cd_yX8_errorPosition : Cond.code yX8_errorPosition cX8_errorPosition 1 (some Jvm.ClassFile.FieldType.int) ∈ BIG := bw (bt_3 _ (List.mem_of_getElem? (i := 87) rfl)) rfl
theorem ml_L_210 : Cond.methodLink RL 210 yX8_ahead ∈ BIG := bw (bt_3 _ (List.mem_of_getElem? (i := 88) (by decide +kernel))) (by decide +kernel)
theorem im_yX8_ahead : Cond.instanceMethod yX8_ahead ∈ BIG := bw (bt_3 _ (List.mem_of_getElem? (i := 89) (by decide +kernel))) (by decide +kernel)
theorem se_yX8_ahead : Cond.selects RX8 yX8_ahead yX8_ahead ∈ BIG := bw (bt_3 _ (List.mem_of_getElem? (i := 90) (by decide +kernel))) (by decide +kernel)
theorem cd_yX8_ahead : Cond.code yX8_ahead cX8_ahead 1 (some Jvm.ClassFile.FieldType.int) ∈ BIG := bw (bt_3 _ (List.mem_of_getElem? (i := 91) rfl)) rfl
theorem ml_X8_221 : Cond.methodLink RX8 221 yX6_whiteAhead ∈ BIG := bw (bt_3 _ (List.mem_of_getElem? (i := 92) (by decide +kernel))) (by decide +kernel)
theorem im_yX6_whiteAhead : Cond.instanceMethod yX6_whiteAhead ∈ BIG := bw (bt_3 _ (List.mem_of_getElem? (i := 93) (by decide +kernel))) (by decide +kernel)
theorem se_yX6_whiteAhead : Cond.selects RX6 yX6_whiteAhead yX6_whiteAhead ∈ BIG := bw (bt_3 _ (List.mem_of_getElem? (i := 94) (by decide +kernel))) (by decide +kernel)
theorem cd_yX6_whiteAhead : Cond.code yX6_whiteAhead cX6_whiteAhead 1 (some Jvm.ClassFile.FieldType.int) ∈ BIG := bw (bt_3 _ (List.mem_of_getElem? (i := 95) rfl)) rfl
theorem ml_L_259 : Cond.methodLink RL 259 yX8_slowest ∈ BIG := bw (bt_3 _ (List.mem_of_getElem? (i := 96) (by decide +kernel))) (by decide +kernel)
theorem im_yX8_slowest : Cond.instanceMethod yX8_slowest ∈ BIG := bw (bt_3 _ (List.mem_of_getElem? (i := 97) (by decide +kernel))) (by decide +kernel)
theorem se_yX8_slowest : Cond.selects RX8 yX8_slowest yX8_slowest ∈ BIG := bw (bt_3 _ (List.mem_of_getElem? (i := 98) (by decide +kernel))) (by decide +kernel)
theorem cd_yX8_slowest : Cond.code yX8_slowest cX8_slowest 1 (some Jvm.ClassFile.FieldType.int) ∈ BIG := bw (bt_3 _ (List.mem_of_getElem? (i := 99) rfl)) rfl
theorem ml_X8_245 : Cond.methodLink RX8 245 yX1_slowestIndex ∈ BIG := bw (bt_3 _ (List.mem_of_getElem? (i := 100) (by decide +kernel))) (by decide +kernel)
theorem im_yX1_slowestIndex : Cond.instanceMethod yX1_slowestIndex ∈ BIG := bw (bt_3 _ (List.mem_of_getElem? (i := 101) (by decide +kernel))) (by decide +kernel)
theorem se_yX1_slowestIndex : Cond.selects RX1 yX1_slowestIndex yX1_slowestIndex ∈ BIG := bw (bt_3 _ (List.mem_of_getElem? (i := 102) (by decide +kernel))) (by decide +kernel)
theorem cd_yX1_slowestIndex : Cond.code yX1_slowestIndex cX1_slowestIndex 3 (some Jvm.ClassFile.FieldType.int) ∈ BIG := bw (bt_3 _ (List.mem_of_getElem? (i := 103) rfl)) rfl
theorem ml_X1_40 : Cond.methodLink RX1 40 yX1_number ∈ BIG := bw (bt_3 _ (List.mem_of_getElem? (i := 104) (by decide +kernel))) (by decide +kernel)
theorem im_yX1_number : Cond.instanceMethod yX1_number ∈ BIG := bw (bt_3 _ (List.mem_of_getElem? (i := 105) (by decide +kernel))) (by decide +kernel)
theorem se_yX1_number : Cond.selects RX1 yX1_number yX1_number ∈ BIG := bw (bt_3 _ (List.mem_of_getElem? (i := 106) (by decide +kernel))) (by decide +kernel)
theorem cd_yX1_number : Cond.code yX1_number cX1_number 4 (some Jvm.ClassFile.FieldType.int) ∈ BIG := bw (bt_3 _ (List.mem_of_getElem? (i := 107) rfl)) rfl
theorem st_yX8_numberAt : Cond.static yX8_numberAt ∈ BIG := bw (bt_3 _ (List.mem_of_getElem? (i := 109) (by decide +kernel))) (by decide +kernel)
theorem cd_yX8_numberAt : Cond.code yX8_numberAt cX8_numberAt 2 (some Jvm.ClassFile.FieldType.int) ∈ BIG := bw (bt_3 _ (List.mem_of_getElem? (i := 110) rfl)) rfl
theorem ml_L_227 : Cond.methodLink RL 227 yX8_overIn ∈ BIG := bw (bt_3 _ (List.mem_of_getElem? (i := 111) (by decide +kernel))) (by decide +kernel)
theorem im_yX8_overIn : Cond.instanceMethod yX8_overIn ∈ BIG := bw (bt_3 _ (List.mem_of_getElem? (i := 112) (by decide +kernel))) (by decide +kernel)
theorem se_yX8_overIn : Cond.selects RX8 yX8_overIn yX8_overIn ∈ BIG := bw (bt_3 _ (List.mem_of_getElem? (i := 113) (by decide +kernel))) (by decide +kernel)
theorem cd_yX8_overIn : Cond.code yX8_overIn cX8_overIn 2 (some Jvm.ClassFile.FieldType.int) ∈ BIG := bw (bt_3 _ (List.mem_of_getElem? (i := 114) rfl)) rfl
theorem ml_X8_275 : Cond.methodLink RX8 275 yX6_mover ∈ BIG := bw (bt_3 _ (List.mem_of_getElem? (i := 115) (by decide +kernel))) (by decide +kernel)
theorem im_yX6_mover : Cond.instanceMethod yX6_mover ∈ BIG := bw (bt_3 _ (List.mem_of_getElem? (i := 116) (by decide +kernel))) (by decide +kernel)
theorem se_yX6_mover : Cond.selects RX6 yX6_mover yX6_mover ∈ BIG := bw (bt_3 _ (List.mem_of_getElem? (i := 117) (by decide +kernel))) (by decide +kernel)
theorem cd_yX6_mover : Cond.code yX6_mover cX6_mover 1 (some (Jvm.ClassFile.FieldType.object "GameClock$Side")) ∈ BIG := bw (bt_3 _ (List.mem_of_getElem? (i := 118) rfl)) rfl
theorem ml_X6_81 : Cond.methodLink RX6 81 yX6_sideOf ∈ BIG := bw (bt_3 _ (List.mem_of_getElem? (i := 119) (by decide +kernel))) (by decide +kernel)
theorem ml_X8_211 : Cond.methodLink RX8 211 yX5_ticksToFall ∈ BIG := bw (bt_3 _ (List.mem_of_getElem? (i := 120) (by decide +kernel))) (by decide +kernel)
theorem im_yX5_ticksToFall : Cond.instanceMethod yX5_ticksToFall ∈ BIG := bw (bt_3 _ (List.mem_of_getElem? (i := 121) (by decide +kernel))) (by decide +kernel)
theorem se_yX5_ticksToFall : Cond.selects RX5 yX5_ticksToFall yX5_ticksToFall ∈ BIG := bw (bt_3 _ (List.mem_of_getElem? (i := 122) (by decide +kernel))) (by decide +kernel)
theorem cd_yX5_ticksToFall : Cond.code yX5_ticksToFall cX5_ticksToFall 3 (some Jvm.ClassFile.FieldType.int) ∈ BIG := bw (bt_3 _ (List.mem_of_getElem? (i := 123) rfl)) rfl
theorem ml_X5_70 : Cond.methodLink RX5 70 yX4_isEndless ∈ BIG := bw (bt_3 _ (List.mem_of_getElem? (i := 124) (by decide +kernel))) (by decide +kernel)
theorem ml_X5_82 : Cond.methodLink RX5 82 yX5_freeTicks ∈ BIG := bw (bt_3 _ (List.mem_of_getElem? (i := 125) (by decide +kernel))) (by decide +kernel)
theorem im_yX5_freeTicks : Cond.instanceMethod yX5_freeTicks ∈ BIG := bw (bt_3 _ (List.mem_of_getElem? (i := 126) (by decide +kernel))) (by decide +kernel)
theorem se_yX5_freeTicks : Cond.selects RX5 yX5_freeTicks yX5_freeTicks ∈ BIG := bw (bt_3 _ (List.mem_of_getElem? (i := 127) (by decide +kernel))) (by decide +kernel)
theorem cd_yX5_freeTicks : Cond.code yX5_freeTicks cX5_freeTicks 2 (some Jvm.ClassFile.FieldType.int) ∈ BIG := bw (bt_3 _ (List.mem_of_getElem? (i := 128) rfl)) rfl
theorem ml_X5_74 : Cond.methodLink RX5 74 Lib.Math.max.name ∈ BIG := bw (bt_3 _ (List.mem_of_getElem? (i := 129) (by decide +kernel))) (by decide +kernel)
theorem st_Lib_Math_max_name : Cond.static Lib.Math.max.name ∈ BIG := bw (bt_3 _ (List.mem_of_getElem? (i := 130) (by decide +kernel))) (by decide +kernel)
theorem ml_L_231 : Cond.methodLink RL 231 yX8_canSeal ∈ BIG := bw (bt_3 _ (List.mem_of_getElem? (i := 132) (by decide +kernel))) (by decide +kernel)
theorem im_yX8_canSeal : Cond.instanceMethod yX8_canSeal ∈ BIG := bw (bt_3 _ (List.mem_of_getElem? (i := 133) (by decide +kernel))) (by decide +kernel)
theorem se_yX8_canSeal : Cond.selects RX8 yX8_canSeal yX8_canSeal ∈ BIG := bw (bt_3 _ (List.mem_of_getElem? (i := 134) (by decide +kernel))) (by decide +kernel)
theorem cd_yX8_canSeal : Cond.code yX8_canSeal cX8_canSeal 1 (some Jvm.ClassFile.FieldType.boolean) ∈ BIG := bw (bt_3 _ (List.mem_of_getElem? (i := 135) rfl)) rfl
theorem ml_X8_279 : Cond.methodLink RX8 279 yX6_ticksToSealing ∈ BIG := bw (bt_3 _ (List.mem_of_getElem? (i := 136) (by decide +kernel))) (by decide +kernel)
theorem im_yX6_ticksToSealing : Cond.instanceMethod yX6_ticksToSealing ∈ BIG := bw (bt_3 _ (List.mem_of_getElem? (i := 137) (by decide +kernel))) (by decide +kernel)
theorem se_yX6_ticksToSealing : Cond.selects RX6 yX6_ticksToSealing yX6_ticksToSealing ∈ BIG := bw (bt_3 _ (List.mem_of_getElem? (i := 138) (by decide +kernel))) (by decide +kernel)
theorem cd_yX6_ticksToSealing : Cond.code yX6_ticksToSealing cX6_ticksToSealing 1 (some Jvm.ClassFile.FieldType.int) ∈ BIG := bw (bt_3 _ (List.mem_of_getElem? (i := 139) rfl)) rfl
theorem ml_X6_98 : Cond.methodLink RX6 98 Lib.Math.max.name ∈ BIG := bw (bt_3 _ (List.mem_of_getElem? (i := 140) (by decide +kernel))) (by decide +kernel)
theorem ml_L_236 : Cond.methodLink RL 236 yX8_sealIn ∈ BIG := bw (bt_3 _ (List.mem_of_getElem? (i := 141) (by decide +kernel))) (by decide +kernel)
theorem im_yX8_sealIn : Cond.instanceMethod yX8_sealIn ∈ BIG := bw (bt_3 _ (List.mem_of_getElem? (i := 142) (by decide +kernel))) (by decide +kernel)
theorem se_yX8_sealIn : Cond.selects RX8 yX8_sealIn yX8_sealIn ∈ BIG := bw (bt_3 _ (List.mem_of_getElem? (i := 143) (by decide +kernel))) (by decide +kernel)
theorem cd_yX8_sealIn : Cond.code yX8_sealIn cX8_sealIn 1 (some Jvm.ClassFile.FieldType.int) ∈ BIG := bw (bt_3 _ (List.mem_of_getElem? (i := 144) rfl)) rfl
theorem ml_L_310 : Cond.methodLink RL 310 yX8_setClaims ∈ BIG := bw (bt_3 _ (List.mem_of_getElem? (i := 145) (by decide +kernel))) (by decide +kernel)
theorem im_yX8_setClaims : Cond.instanceMethod yX8_setClaims ∈ BIG := bw (bt_3 _ (List.mem_of_getElem? (i := 146) (by decide +kernel))) (by decide +kernel)
theorem se_yX8_setClaims : Cond.selects RX8 yX8_setClaims yX8_setClaims ∈ BIG := bw (bt_3 _ (List.mem_of_getElem? (i := 147) (by decide +kernel))) (by decide +kernel)
theorem cd_yX8_setClaims : Cond.code yX8_setClaims cX8_setClaims 3 (some Jvm.ClassFile.FieldType.boolean) ∈ BIG := bw (bt_3 _ (List.mem_of_getElem? (i := 148) rfl)) rfl
theorem ml_L_330 : Cond.methodLink RL 330 yX8_undoCount ∈ BIG := bw (bt_3 _ (List.mem_of_getElem? (i := 149) (by decide +kernel))) (by decide +kernel)
theorem im_yX8_undoCount : Cond.instanceMethod yX8_undoCount ∈ BIG := bw (bt_3 _ (List.mem_of_getElem? (i := 150) (by decide +kernel))) (by decide +kernel)
theorem se_yX8_undoCount : Cond.selects RX8 yX8_undoCount yX8_undoCount ∈ BIG := bw (bt_3 _ (List.mem_of_getElem? (i := 151) (by decide +kernel))) (by decide +kernel)
theorem cd_yX8_undoCount : Cond.code yX8_undoCount cX8_undoCount 1 (some Jvm.ClassFile.FieldType.int) ∈ BIG := bw (bt_3 _ (List.mem_of_getElem? (i := 152) rfl)) rfl
theorem ml_L_334 : Cond.methodLink RL 334 yX8_writeClock ∈ BIG := bw (bt_3 _ (List.mem_of_getElem? (i := 153) (by decide +kernel))) (by decide +kernel)
theorem im_yX8_writeClock : Cond.instanceMethod yX8_writeClock ∈ BIG := bw (bt_3 _ (List.mem_of_getElem? (i := 154) (by decide +kernel))) (by decide +kernel)
theorem se_yX8_writeClock : Cond.selects RX8 yX8_writeClock yX8_writeClock ∈ BIG := bw (bt_3 _ (List.mem_of_getElem? (i := 155) (by decide +kernel))) (by decide +kernel)
theorem cd_yX8_writeClock : Cond.code yX8_writeClock cX8_writeClock 1 (some Jvm.ClassFile.FieldType.int) ∈ BIG := bw (bt_3 _ (List.mem_of_getElem? (i := 156) rfl)) rfl
theorem ml_X8_368 : Cond.methodLink RX8 368 yX8_writeSide ∈ BIG := bw (bt_3 _ (List.mem_of_getElem? (i := 157) (by decide +kernel))) (by decide +kernel)
theorem im_yX8_writeSide : Cond.instanceMethod yX8_writeSide ∈ BIG := bw (bt_3 _ (List.mem_of_getElem? (i := 159) (by decide +kernel))) (by decide +kernel)
theorem cd_yX8_writeSide : Cond.code yX8_writeSide cX8_writeSide 5 none ∈ BIG := bw (bt_3 _ (List.mem_of_getElem? (i := 160) rfl)) rfl
theorem ml_X8_217 : Cond.methodLink RX8 217 yX5_secondsLeft ∈ BIG := bw (bt_3 _ (List.mem_of_getElem? (i := 161) (by decide +kernel))) (by decide +kernel)
theorem im_yX5_secondsLeft : Cond.instanceMethod yX5_secondsLeft ∈ BIG := bw (bt_3 _ (List.mem_of_getElem? (i := 162) (by decide +kernel))) (by decide +kernel)
theorem se_yX5_secondsLeft : Cond.selects RX5 yX5_secondsLeft yX5_secondsLeft ∈ BIG := bw (bt_3 _ (List.mem_of_getElem? (i := 163) (by decide +kernel))) (by decide +kernel)
theorem cd_yX5_secondsLeft : Cond.code yX5_secondsLeft cX5_secondsLeft 1 (some Jvm.ClassFile.FieldType.int) ∈ BIG := bw (bt_3 _ (List.mem_of_getElem? (i := 164) rfl)) rfl
theorem ml_X8_380 : Cond.methodLink RX8 380 yX2_addNumber ∈ BIG := bw (bt_3 _ (List.mem_of_getElem? (i := 165) (by decide +kernel))) (by decide +kernel)
theorem im_yX2_addNumber : Cond.instanceMethod yX2_addNumber ∈ BIG := bw (bt_3 _ (List.mem_of_getElem? (i := 166) (by decide +kernel))) (by decide +kernel)
theorem se_yX2_addNumber : Cond.selects RX2 yX2_addNumber yX2_addNumber ∈ BIG := bw (bt_3 _ (List.mem_of_getElem? (i := 167) (by decide +kernel))) (by decide +kernel)
theorem cd_yX2_addNumber : Cond.code yX2_addNumber cX2_addNumber 7 none ∈ BIG := bw (bt_3 _ (List.mem_of_getElem? (i := 168) rfl)) rfl
theorem ml_X2_19 : Cond.methodLink RX2 19 yX2_add ∈ BIG := bw (bt_3 _ (List.mem_of_getElem? (i := 169) (by decide +kernel))) (by decide +kernel)
theorem im_yX2_add : Cond.instanceMethod yX2_add ∈ BIG := bw (bt_3 _ (List.mem_of_getElem? (i := 170) (by decide +kernel))) (by decide +kernel)
theorem se_yX2_add : Cond.selects RX2 yX2_add yX2_add ∈ BIG := bw (bt_3 _ (List.mem_of_getElem? (i := 171) (by decide +kernel))) (by decide +kernel)
theorem cd_yX2_add : Cond.code yX2_add cX2_add 2 none ∈ BIG := bw (bt_3 _ (List.mem_of_getElem? (i := 172) rfl)) rfl
theorem cj_X2_23 : Cond.constantLong RX2 23 (10) ∈ BIG := bw (bt_3 _ (List.mem_of_getElem? (i := 173) (by decide +kernel))) (by decide +kernel)
theorem cj_X2_25 : Cond.constantLong RX2 25 (48) ∈ BIG := bw (bt_3 _ (List.mem_of_getElem? (i := 174) (by decide +kernel))) (by decide +kernel)
theorem ml_X8_371 : Cond.methodLink RX8 371 yX2_add ∈ BIG := bw (bt_3 _ (List.mem_of_getElem? (i := 175) (by decide +kernel))) (by decide +kernel)
theorem ml_X8_399 : Cond.methodLink RX8 399 yX2_addTwoDigits ∈ BIG := bw (bt_3 _ (List.mem_of_getElem? (i := 176) (by decide +kernel))) (by decide +kernel)
theorem im_yX2_addTwoDigits : Cond.instanceMethod yX2_addTwoDigits ∈ BIG := bw (bt_3 _ (List.mem_of_getElem? (i := 177) (by decide +kernel))) (by decide +kernel)
theorem se_yX2_addTwoDigits : Cond.selects RX2 yX2_addTwoDigits yX2_addTwoDigits ∈ BIG := bw (bt_3 _ (List.mem_of_getElem? (i := 178) (by decide +kernel))) (by decide +kernel)
theorem cd_yX2_addTwoDigits : Cond.code yX2_addTwoDigits cX2_addTwoDigits 2 none ∈ BIG := bw (bt_3 _ (List.mem_of_getElem? (i := 179) rfl)) rfl
theorem ml_X2_27 : Cond.methodLink RX2 27 yX2_addNumber ∈ BIG := bw (bt_3 _ (List.mem_of_getElem? (i := 180) (by decide +kernel))) (by decide +kernel)
theorem ml_L_338 : Cond.methodLink RL 338 yX8_writeLog ∈ BIG := bw (bt_3 _ (List.mem_of_getElem? (i := 181) (by decide +kernel))) (by decide +kernel)
theorem im_yX8_writeLog : Cond.instanceMethod yX8_writeLog ∈ BIG := bw (bt_3 _ (List.mem_of_getElem? (i := 182) (by decide +kernel))) (by decide +kernel)
theorem se_yX8_writeLog : Cond.selects RX8 yX8_writeLog yX8_writeLog ∈ BIG := bw (bt_3 _ (List.mem_of_getElem? (i := 183) (by decide +kernel))) (by decide +kernel)
theorem cd_yX8_writeLog : Cond.code yX8_writeLog cX8_writeLog 3 (some Jvm.ClassFile.FieldType.int) ∈ BIG := bw (bt_3 _ (List.mem_of_getElem? (i := 184) rfl)) rfl
theorem ml_X8_210 : Cond.methodLink RX8 210 yX1_number ∈ BIG := bw (bt_3 _ (List.mem_of_getElem? (i := 185) (by decide +kernel))) (by decide +kernel)
theorem ml_X8_383 : Cond.methodLink RX8 383 yX2_addUnlessZero ∈ BIG := bw (bt_3 _ (List.mem_of_getElem? (i := 186) (by decide +kernel))) (by decide +kernel)
theorem im_yX2_addUnlessZero : Cond.instanceMethod yX2_addUnlessZero ∈ BIG := bw (bt_3 _ (List.mem_of_getElem? (i := 187) (by decide +kernel))) (by decide +kernel)
theorem se_yX2_addUnlessZero : Cond.selects RX2 yX2_addUnlessZero yX2_addUnlessZero ∈ BIG := bw (bt_3 _ (List.mem_of_getElem? (i := 188) (by decide +kernel))) (by decide +kernel)
theorem cd_yX2_addUnlessZero : Cond.code yX2_addUnlessZero cX2_addUnlessZero 3 none ∈ BIG := bw (bt_3 _ (List.mem_of_getElem? (i := 189) rfl)) rfl
theorem ml_L_342 : Cond.methodLink RL 342 yX8_writePeriods ∈ BIG := bw (bt_3 _ (List.mem_of_getElem? (i := 190) (by decide +kernel))) (by decide +kernel)
theorem im_yX8_writePeriods : Cond.instanceMethod yX8_writePeriods ∈ BIG := bw (bt_3 _ (List.mem_of_getElem? (i := 191) (by decide +kernel))) (by decide +kernel)
theorem se_yX8_writePeriods : Cond.selects RX8 yX8_writePeriods yX8_writePeriods ∈ BIG := bw (bt_3 _ (List.mem_of_getElem? (i := 192) (by decide +kernel))) (by decide +kernel)
theorem cd_yX8_writePeriods : Cond.code yX8_writePeriods cX8_writePeriods 2 (some Jvm.ClassFile.FieldType.int) ∈ BIG := bw (bt_3 _ (List.mem_of_getElem? (i := 193) rfl)) rfl
theorem ml_X8_387 : Cond.methodLink RX8 387 yX8_writeMovesOf ∈ BIG := bw (bt_3 _ (List.mem_of_getElem? (i := 194) (by decide +kernel))) (by decide +kernel)
theorem im_yX8_writeMovesOf : Cond.instanceMethod yX8_writeMovesOf ∈ BIG := bw (bt_3 _ (List.mem_of_getElem? (i := 196) (by decide +kernel))) (by decide +kernel)
theorem cd_yX8_writeMovesOf : Cond.code yX8_writeMovesOf cX8_writeMovesOf 2 none ∈ BIG := bw (bt_3 _ (List.mem_of_getElem? (i := 197) rfl)) rfl
theorem ml_X8_402 : Cond.methodLink RX8 402 yX4_isEndless ∈ BIG := bw (bt_3 _ (List.mem_of_getElem? (i := 198) (by decide +kernel))) (by decide +kernel)
theorem ml_X8_160 : Cond.methodLink RX8 160 yX4_number ∈ BIG := bw (bt_3 _ (List.mem_of_getElem? (i := 199) (by decide +kernel))) (by decide +kernel)
theorem ml_L_156 : Cond.methodLink RL 156 yL_append ∈ BIG := bw (bt_3 _ (List.mem_of_getElem? (i := 200) (by decide +kernel))) (by decide +kernel)
theorem st_yL_append : Cond.static yL_append ∈ BIG := bw (bt_3 _ (List.mem_of_getElem? (i := 201) (by decide +kernel))) (by decide +kernel)
theorem cd_yL_append : Cond.codeWith yL_append cL_append 8 (some Jvm.ClassFile.FieldType.int) [((0 : Nat), (16 : Nat), (19 : Nat), (13 : Nat))] ∈ BIG := bw (bt_3 _ (List.mem_of_getElem? (i := 202) rfl)) rfl
theorem cl_L_13 : Cond.classLink RL 13 "java/lang/IllegalStateException" ∈ BIG := bw (bt_3 _ (List.mem_of_getElem? (i := 203) (by decide +kernel))) (by decide +kernel)
theorem ml_L_7 : Cond.methodLink RL 7 yX8_append ∈ BIG := bw (bt_3 _ (List.mem_of_getElem? (i := 204) (by decide +kernel))) (by decide +kernel)
theorem im_yX8_append : Cond.instanceMethod yX8_append ∈ BIG := bw (bt_3 _ (List.mem_of_getElem? (i := 205) (by decide +kernel))) (by decide +kernel)
theorem se_yX8_append : Cond.selects RX8 yX8_append yX8_append ∈ BIG := bw (bt_3 _ (List.mem_of_getElem? (i := 206) (by decide +kernel))) (by decide +kernel)
theorem cd_yX8_append : Cond.code yX8_append cX8_append 6 (some Jvm.ClassFile.FieldType.int) ∈ BIG := bw (bt_3 _ (List.mem_of_getElem? (i := 207) rfl)) rfl
theorem cl_X8_55 : Cond.classLink RX8 55 "java/lang/IllegalStateException" ∈ BIG := bw (bt_3 _ (List.mem_of_getElem? (i := 208) (by decide +kernel))) (by decide +kernel)
theorem is_java_lang_IllegalStateException : Cond.instantiable "java/lang/IllegalStateException" 6 ∈ BIG := bw (bt_3 _ (List.mem_of_getElem? (i := 209) (by decide +kernel))) (by decide +kernel)
theorem is_java_lang_Throwable : Cond.instantiable "java/lang/Throwable" 6 ∈ BIG := bw (bt_4 _ (List.mem_of_getElem? (i := 8) (by decide +kernel))) (by decide +kernel)
theorem ml_X8_62 : Cond.methodLink RX8 62 yX0_addFour ∈ BIG := bw (bt_4 _ (List.mem_of_getElem? (i := 36) (by decide +kernel))) (by decide +kernel)
theorem im_yX0_addFour : Cond.instanceMethod yX0_addFour ∈ BIG := bw (bt_4 _ (List.mem_of_getElem? (i := 37) (by decide +kernel))) (by decide +kernel)
theorem se_yX0_addFour : Cond.selects RX0 yX0_addFour yX0_addFour ∈ BIG := bw (bt_4 _ (List.mem_of_getElem? (i := 38) (by decide +kernel))) (by decide +kernel)
theorem cd_yX0_addFour : Cond.code yX0_addFour cX0_addFour 3 none ∈ BIG := bw (bt_4 _ (List.mem_of_getElem? (i := 39) rfl)) rfl
theorem ml_L_165 : Cond.methodLink RL 165 yL_truncate ∈ BIG := bw (bt_4 _ (List.mem_of_getElem? (i := 40) (by decide +kernel))) (by decide +kernel)
theorem st_yL_truncate : Cond.static yL_truncate ∈ BIG := bw (bt_4 _ (List.mem_of_getElem? (i := 41) (by decide +kernel))) (by decide +kernel)
theorem cd_yL_truncate : Cond.codeWith yL_truncate cL_truncate 3 (some Jvm.ClassFile.FieldType.int) [((0 : Nat), (5 : Nat), (8 : Nat), (19 : Nat))] ∈ BIG := bw (bt_4 _ (List.mem_of_getElem? (i := 42) rfl)) rfl
theorem cl_L_19 : Cond.classLink RL 19 "java/lang/IllegalArgumentException" ∈ BIG := bw (bt_4 _ (List.mem_of_getElem? (i := 43) (by decide +kernel))) (by decide +kernel)
theorem ml_L_15 : Cond.methodLink RL 15 yX8_truncate ∈ BIG := bw (bt_4 _ (List.mem_of_getElem? (i := 44) (by decide +kernel))) (by decide +kernel)
theorem im_yX8_truncate : Cond.instanceMethod yX8_truncate ∈ BIG := bw (bt_4 _ (List.mem_of_getElem? (i := 45) (by decide +kernel))) (by decide +kernel)
theorem se_yX8_truncate : Cond.selects RX8 yX8_truncate yX8_truncate ∈ BIG := bw (bt_4 _ (List.mem_of_getElem? (i := 46) (by decide +kernel))) (by decide +kernel)
theorem cd_yX8_truncate : Cond.code yX8_truncate cX8_truncate 2 none ∈ BIG := bw (bt_4 _ (List.mem_of_getElem? (i := 47) rfl)) rfl
theorem cl_X8_66 : Cond.classLink RX8 66 "java/lang/IllegalArgumentException" ∈ BIG := bw (bt_4 _ (List.mem_of_getElem? (i := 48) (by decide +kernel))) (by decide +kernel)
theorem is_java_lang_IllegalArgumentException : Cond.instantiable "java/lang/IllegalArgumentException" 6 ∈ BIG := bw (bt_4 _ (List.mem_of_getElem? (i := 49) (by decide +kernel))) (by decide +kernel)
theorem ml_L_181 : Cond.methodLink RL 181 yL_property ∈ BIG := bw (bt_4 _ (List.mem_of_getElem? (i := 64) (by decide +kernel))) (by decide +kernel)
theorem st_yL_property : Cond.static yL_property ∈ BIG := bw (bt_4 _ (List.mem_of_getElem? (i := 65) (by decide +kernel))) (by decide +kernel)
theorem cd_yL_property : Cond.codeWith yL_property cL_property 4 (some Jvm.ClassFile.FieldType.int) [((0 : Nat), (9 : Nat), (12 : Nat), (19 : Nat))] ∈ BIG := bw (bt_4 _ (List.mem_of_getElem? (i := 66) rfl)) rfl
theorem ml_L_21 : Cond.methodLink RL 21 yX8_property ∈ BIG := bw (bt_4 _ (List.mem_of_getElem? (i := 67) (by decide +kernel))) (by decide +kernel)
theorem im_yX8_property : Cond.instanceMethod yX8_property ∈ BIG := bw (bt_4 _ (List.mem_of_getElem? (i := 68) (by decide +kernel))) (by decide +kernel)
theorem se_yX8_property : Cond.selects RX8 yX8_property yX8_property ∈ BIG := bw (bt_4 _ (List.mem_of_getElem? (i := 69) (by decide +kernel))) (by decide +kernel)
theorem cd_yX8_property : Cond.code yX8_property cX8_property 2 (some Jvm.ClassFile.FieldType.int) ∈ BIG := bw (bt_4 _ (List.mem_of_getElem? (i := 70) rfl)) rfl
theorem ml_L_185 : Cond.methodLink RL 185 yL_period ∈ BIG := bw (bt_4 _ (List.mem_of_getElem? (i := 72) (by decide +kernel))) (by decide +kernel)
theorem st_yL_period : Cond.static yL_period ∈ BIG := bw (bt_4 _ (List.mem_of_getElem? (i := 73) (by decide +kernel))) (by decide +kernel)
theorem cd_yL_period : Cond.codeWith yL_period cL_period 5 (some Jvm.ClassFile.FieldType.int) [((0 : Nat), (10 : Nat), (13 : Nat), (29 : Nat)), ((0 : Nat), (10 : Nat), (17 : Nat), (19 : Nat))] ∈ BIG := bw (bt_4 _ (List.mem_of_getElem? (i := 74) rfl)) rfl
theorem cl_L_29 : Cond.classLink RL 29 "java/lang/IndexOutOfBoundsException" ∈ BIG := bw (bt_4 _ (List.mem_of_getElem? (i := 75) (by decide +kernel))) (by decide +kernel)
theorem ml_L_25 : Cond.methodLink RL 25 yX8_period ∈ BIG := bw (bt_4 _ (List.mem_of_getElem? (i := 76) (by decide +kernel))) (by decide +kernel)
theorem im_yX8_period : Cond.instanceMethod yX8_period ∈ BIG := bw (bt_4 _ (List.mem_of_getElem? (i := 77) (by decide +kernel))) (by decide +kernel)
theorem se_yX8_period : Cond.selects RX8 yX8_period yX8_period ∈ BIG := bw (bt_4 _ (List.mem_of_getElem? (i := 78) (by decide +kernel))) (by decide +kernel)
theorem cd_yX8_period : Cond.code yX8_period cX8_period 3 (some Jvm.ClassFile.FieldType.int) ∈ BIG := bw (bt_4 _ (List.mem_of_getElem? (i := 79) rfl)) rfl
theorem ml_X8_157 : Cond.methodLink RX8 157 yX8_requirePeriod ∈ BIG := bw (bt_4 _ (List.mem_of_getElem? (i := 80) (by decide +kernel))) (by decide +kernel)
theorem im_yX8_requirePeriod : Cond.instanceMethod yX8_requirePeriod ∈ BIG := bw (bt_4 _ (List.mem_of_getElem? (i := 82) (by decide +kernel))) (by decide +kernel)
theorem cd_yX8_requirePeriod : Cond.code yX8_requirePeriod cX8_requirePeriod 2 none ∈ BIG := bw (bt_4 _ (List.mem_of_getElem? (i := 83) rfl)) rfl
theorem cl_X8_205 : Cond.classLink RX8 205 "java/lang/IndexOutOfBoundsException" ∈ BIG := bw (bt_4 _ (List.mem_of_getElem? (i := 84) (by decide +kernel))) (by decide +kernel)
theorem is_java_lang_IndexOutOfBoundsException : Cond.instantiable "java/lang/IndexOutOfBoundsException" 6 ∈ BIG := bw (bt_4 _ (List.mem_of_getElem? (i := 85) (by decide +kernel))) (by decide +kernel)
theorem ml_L_189 : Cond.methodLink RL 189 yL_side ∈ BIG := bw (bt_4 _ (List.mem_of_getElem? (i := 100) (by decide +kernel))) (by decide +kernel)
theorem st_yL_side : Cond.static yL_side ∈ BIG := bw (bt_4 _ (List.mem_of_getElem? (i := 101) (by decide +kernel))) (by decide +kernel)
theorem cd_yL_side : Cond.codeWith yL_side cL_side 5 (some Jvm.ClassFile.FieldType.int) [((0 : Nat), (10 : Nat), (13 : Nat), (29 : Nat)), ((0 : Nat), (10 : Nat), (17 : Nat), (19 : Nat))] ∈ BIG := bw (bt_4 _ (List.mem_of_getElem? (i := 102) rfl)) rfl
theorem ml_L_31 : Cond.methodLink RL 31 yX8_side ∈ BIG := bw (bt_4 _ (List.mem_of_getElem? (i := 103) (by decide +kernel))) (by decide +kernel)
theorem im_yX8_side : Cond.instanceMethod yX8_side ∈ BIG := bw (bt_4 _ (List.mem_of_getElem? (i := 104) (by decide +kernel))) (by decide +kernel)
theorem se_yX8_side : Cond.selects RX8 yX8_side yX8_side ∈ BIG := bw (bt_4 _ (List.mem_of_getElem? (i := 105) (by decide +kernel))) (by decide +kernel)
theorem cd_yX8_side : Cond.code yX8_side cX8_side 4 (some Jvm.ClassFile.FieldType.int) ∈ BIG := bw (bt_4 _ (List.mem_of_getElem? (i := 106) rfl)) rfl
theorem ml_X8_164 : Cond.methodLink RX8 164 yX8_requireSide ∈ BIG := bw (bt_4 _ (List.mem_of_getElem? (i := 107) (by decide +kernel))) (by decide +kernel)
theorem im_yX8_requireSide : Cond.instanceMethod yX8_requireSide ∈ BIG := bw (bt_4 _ (List.mem_of_getElem? (i := 109) (by decide +kernel))) (by decide +kernel)
theorem cd_yX8_requireSide : Cond.code yX8_requireSide cX8_requireSide 2 none ∈ BIG := bw (bt_4 _ (List.mem_of_getElem? (i := 110) rfl)) rfl
theorem ml_X8_192 : Cond.methodLink RX8 192 yX5_movesToPeriodEnd ∈ BIG := bw (bt_4 _ (List.mem_of_getElem? (i := 112) (by decide +kernel))) (by decide +kernel)
theorem im_yX5_movesToPeriodEnd : Cond.instanceMethod yX5_movesToPeriodEnd ∈ BIG := bw (bt_4 _ (List.mem_of_getElem? (i := 113) (by decide +kernel))) (by decide +kernel)
theorem se_yX5_movesToPeriodEnd : Cond.selects RX5 yX5_movesToPeriodEnd yX5_movesToPeriodEnd ∈ BIG := bw (bt_4 _ (List.mem_of_getElem? (i := 114) (by decide +kernel))) (by decide +kernel)
theorem cd_yX5_movesToPeriodEnd : Cond.code yX5_movesToPeriodEnd cX5_movesToPeriodEnd 2 (some Jvm.ClassFile.FieldType.int) ∈ BIG := bw (bt_4 _ (List.mem_of_getElem? (i := 115) rfl)) rfl
theorem ml_L_192 : Cond.methodLink RL 192 yL_logged ∈ BIG := bw (bt_4 _ (List.mem_of_getElem? (i := 116) (by decide +kernel))) (by decide +kernel)
theorem st_yL_logged : Cond.static yL_logged ∈ BIG := bw (bt_4 _ (List.mem_of_getElem? (i := 117) (by decide +kernel))) (by decide +kernel)
theorem cd_yL_logged : Cond.codeWith yL_logged cL_logged 5 (some Jvm.ClassFile.FieldType.int) [((0 : Nat), (10 : Nat), (13 : Nat), (29 : Nat)), ((0 : Nat), (10 : Nat), (17 : Nat), (19 : Nat))] ∈ BIG := bw (bt_4 _ (List.mem_of_getElem? (i := 118) rfl)) rfl
theorem ml_L_34 : Cond.methodLink RL 34 yX8_logged ∈ BIG := bw (bt_4 _ (List.mem_of_getElem? (i := 119) (by decide +kernel))) (by decide +kernel)
theorem im_yX8_logged : Cond.instanceMethod yX8_logged ∈ BIG := bw (bt_4 _ (List.mem_of_getElem? (i := 120) (by decide +kernel))) (by decide +kernel)
theorem se_yX8_logged : Cond.selects RX8 yX8_logged yX8_logged ∈ BIG := bw (bt_4 _ (List.mem_of_getElem? (i := 121) (by decide +kernel))) (by decide +kernel)
theorem cd_yX8_logged : Cond.code yX8_logged cX8_logged 3 (some Jvm.ClassFile.FieldType.int) ∈ BIG := bw (bt_4 _ (List.mem_of_getElem? (i := 122) rfl)) rfl
theorem ml_L_195 : Cond.methodLink RL 195 yL_flagIn ∈ BIG := bw (bt_4 _ (List.mem_of_getElem? (i := 124) (by decide +kernel))) (by decide +kernel)
theorem st_yL_flagIn : Cond.static yL_flagIn ∈ BIG := bw (bt_4 _ (List.mem_of_getElem? (i := 125) (by decide +kernel))) (by decide +kernel)
theorem cd_yL_flagIn : Cond.codeWith yL_flagIn cL_flagIn 4 (some Jvm.ClassFile.FieldType.int) [((0 : Nat), (9 : Nat), (12 : Nat), (29 : Nat))] ∈ BIG := bw (bt_4 _ (List.mem_of_getElem? (i := 126) rfl)) rfl
theorem ml_L_37 : Cond.methodLink RL 37 yX8_flagIn ∈ BIG := bw (bt_4 _ (List.mem_of_getElem? (i := 127) (by decide +kernel))) (by decide +kernel)
theorem im_yX8_flagIn : Cond.instanceMethod yX8_flagIn ∈ BIG := bw (bt_4 _ (List.mem_of_getElem? (i := 128) (by decide +kernel))) (by decide +kernel)
theorem se_yX8_flagIn : Cond.selects RX8 yX8_flagIn yX8_flagIn ∈ BIG := bw (bt_4 _ (List.mem_of_getElem? (i := 129) (by decide +kernel))) (by decide +kernel)
theorem cd_yX8_flagIn : Cond.code yX8_flagIn cX8_flagIn 2 (some Jvm.ClassFile.FieldType.int) ∈ BIG := bw (bt_4 _ (List.mem_of_getElem? (i := 130) rfl)) rfl
theorem ml_L_198 : Cond.methodLink RL 198 yL_delayLeft ∈ BIG := bw (bt_4 _ (List.mem_of_getElem? (i := 131) (by decide +kernel))) (by decide +kernel)
theorem st_yL_delayLeft : Cond.static yL_delayLeft ∈ BIG := bw (bt_4 _ (List.mem_of_getElem? (i := 132) (by decide +kernel))) (by decide +kernel)
theorem cd_yL_delayLeft : Cond.codeWith yL_delayLeft cL_delayLeft 4 (some Jvm.ClassFile.FieldType.int) [((0 : Nat), (9 : Nat), (12 : Nat), (29 : Nat))] ∈ BIG := bw (bt_4 _ (List.mem_of_getElem? (i := 133) rfl)) rfl
theorem ml_L_40 : Cond.methodLink RL 40 yX8_delayLeft ∈ BIG := bw (bt_4 _ (List.mem_of_getElem? (i := 134) (by decide +kernel))) (by decide +kernel)
theorem im_yX8_delayLeft : Cond.instanceMethod yX8_delayLeft ∈ BIG := bw (bt_4 _ (List.mem_of_getElem? (i := 135) (by decide +kernel))) (by decide +kernel)
theorem se_yX8_delayLeft : Cond.selects RX8 yX8_delayLeft yX8_delayLeft ∈ BIG := bw (bt_4 _ (List.mem_of_getElem? (i := 136) (by decide +kernel))) (by decide +kernel)
theorem cd_yX8_delayLeft : Cond.code yX8_delayLeft cX8_delayLeft 2 (some Jvm.ClassFile.FieldType.int) ∈ BIG := bw (bt_4 _ (List.mem_of_getElem? (i := 137) rfl)) rfl
theorem ml_X8_214 : Cond.methodLink RX8 214 yX5_freeTicks ∈ BIG := bw (bt_4 _ (List.mem_of_getElem? (i := 138) (by decide +kernel))) (by decide +kernel)
theorem ml_L_201 : Cond.methodLink RL 201 yL_shown ∈ BIG := bw (bt_4 _ (List.mem_of_getElem? (i := 139) (by decide +kernel))) (by decide +kernel)
theorem st_yL_shown : Cond.static yL_shown ∈ BIG := bw (bt_4 _ (List.mem_of_getElem? (i := 140) (by decide +kernel))) (by decide +kernel)
theorem cd_yL_shown : Cond.codeWith yL_shown cL_shown 4 (some Jvm.ClassFile.FieldType.int) [((0 : Nat), (9 : Nat), (12 : Nat), (29 : Nat))] ∈ BIG := bw (bt_4 _ (List.mem_of_getElem? (i := 141) rfl)) rfl
theorem ml_L_43 : Cond.methodLink RL 43 yX8_shown ∈ BIG := bw (bt_4 _ (List.mem_of_getElem? (i := 142) (by decide +kernel))) (by decide +kernel)
theorem im_yX8_shown : Cond.instanceMethod yX8_shown ∈ BIG := bw (bt_4 _ (List.mem_of_getElem? (i := 143) (by decide +kernel))) (by decide +kernel)
theorem se_yX8_shown : Cond.selects RX8 yX8_shown yX8_shown ∈ BIG := bw (bt_4 _ (List.mem_of_getElem? (i := 144) (by decide +kernel))) (by decide +kernel)
theorem cd_yX8_shown : Cond.code yX8_shown cX8_shown 3 (some Jvm.ClassFile.FieldType.int) ∈ BIG := bw (bt_4 _ (List.mem_of_getElem? (i := 145) rfl)) rfl
theorem ml_L_204 : Cond.methodLink RL 204 yL_pace ∈ BIG := bw (bt_4 _ (List.mem_of_getElem? (i := 146) (by decide +kernel))) (by decide +kernel)
theorem st_yL_pace : Cond.static yL_pace ∈ BIG := bw (bt_4 _ (List.mem_of_getElem? (i := 147) (by decide +kernel))) (by decide +kernel)
theorem cd_yL_pace : Cond.codeWith yL_pace cL_pace 4 (some Jvm.ClassFile.FieldType.int) [((0 : Nat), (9 : Nat), (12 : Nat), (29 : Nat))] ∈ BIG := bw (bt_4 _ (List.mem_of_getElem? (i := 148) rfl)) rfl
theorem ml_L_46 : Cond.methodLink RL 46 yX8_pace ∈ BIG := bw (bt_4 _ (List.mem_of_getElem? (i := 149) (by decide +kernel))) (by decide +kernel)
theorem im_yX8_pace : Cond.instanceMethod yX8_pace ∈ BIG := bw (bt_4 _ (List.mem_of_getElem? (i := 150) (by decide +kernel))) (by decide +kernel)
theorem se_yX8_pace : Cond.selects RX8 yX8_pace yX8_pace ∈ BIG := bw (bt_4 _ (List.mem_of_getElem? (i := 151) (by decide +kernel))) (by decide +kernel)
theorem cd_yX8_pace : Cond.code yX8_pace cX8_pace 4 (some Jvm.ClassFile.FieldType.int) ∈ BIG := bw (bt_4 _ (List.mem_of_getElem? (i := 152) rfl)) rfl
theorem ml_X8_254 : Cond.methodLink RX8 254 yX7_greatestPace ∈ BIG := bw (bt_4 _ (List.mem_of_getElem? (i := 153) (by decide +kernel))) (by decide +kernel)
theorem im_yX7_greatestPace : Cond.instanceMethod yX7_greatestPace ∈ BIG := bw (bt_4 _ (List.mem_of_getElem? (i := 154) (by decide +kernel))) (by decide +kernel)
theorem se_yX7_greatestPace : Cond.selects RX7 yX7_greatestPace yX7_greatestPace ∈ BIG := bw (bt_4 _ (List.mem_of_getElem? (i := 155) (by decide +kernel))) (by decide +kernel)
theorem cd_yX7_greatestPace : Cond.code yX7_greatestPace cX7_greatestPace 8 (some Jvm.ClassFile.FieldType.int) ∈ BIG := bw (bt_4 _ (List.mem_of_getElem? (i := 156) rfl)) rfl
theorem ml_X7_44 : Cond.methodLink RX7 44 yX7_movesAt ∈ BIG := bw (bt_4 _ (List.mem_of_getElem? (i := 157) (by decide +kernel))) (by decide +kernel)
theorem im_yX7_movesAt : Cond.instanceMethod yX7_movesAt ∈ BIG := bw (bt_4 _ (List.mem_of_getElem? (i := 158) (by decide +kernel))) (by decide +kernel)
theorem se_yX7_movesAt : Cond.selects RX7 yX7_movesAt yX7_movesAt ∈ BIG := bw (bt_4 _ (List.mem_of_getElem? (i := 159) (by decide +kernel))) (by decide +kernel)
theorem cd_yX7_movesAt : Cond.code yX7_movesAt cX7_movesAt 7 (some Jvm.ClassFile.FieldType.int) ∈ BIG := bw (bt_4 _ (List.mem_of_getElem? (i := 160) rfl)) rfl
theorem ml_X7_21 : Cond.methodLink RX7 21 yX5_copyFrom ∈ BIG := bw (bt_4 _ (List.mem_of_getElem? (i := 161) (by decide +kernel))) (by decide +kernel)
theorem ml_X7_37 : Cond.methodLink RX7 37 yX5_dropMove ∈ BIG := bw (bt_4 _ (List.mem_of_getElem? (i := 162) (by decide +kernel))) (by decide +kernel)
theorem im_yX5_dropMove : Cond.instanceMethod yX5_dropMove ∈ BIG := bw (bt_4 _ (List.mem_of_getElem? (i := 163) (by decide +kernel))) (by decide +kernel)
theorem se_yX5_dropMove : Cond.selects RX5 yX5_dropMove yX5_dropMove ∈ BIG := bw (bt_4 _ (List.mem_of_getElem? (i := 164) (by decide +kernel))) (by decide +kernel)
theorem cd_yX5_dropMove : Cond.code yX5_dropMove cX5_dropMove 1 none ∈ BIG := bw (bt_4 _ (List.mem_of_getElem? (i := 165) rfl)) rfl
theorem ml_X7_25 : Cond.methodLink RX7 25 yX5_run ∈ BIG := bw (bt_4 _ (List.mem_of_getElem? (i := 166) (by decide +kernel))) (by decide +kernel)
theorem im_yX5_run : Cond.instanceMethod yX5_run ∈ BIG := bw (bt_4 _ (List.mem_of_getElem? (i := 167) (by decide +kernel))) (by decide +kernel)
theorem se_yX5_run : Cond.selects RX5 yX5_run yX5_run ∈ BIG := bw (bt_4 _ (List.mem_of_getElem? (i := 168) (by decide +kernel))) (by decide +kernel)
theorem cd_yX5_run : Cond.code yX5_run cX5_run 6 none ∈ BIG := bw (bt_4 _ (List.mem_of_getElem? (i := 169) rfl)) rfl
theorem ml_X5_86 : Cond.methodLink RX5 86 Lib.Math.min.name ∈ BIG := bw (bt_4 _ (List.mem_of_getElem? (i := 170) (by decide +kernel))) (by decide +kernel)
theorem ml_X5_97 : Cond.methodLink RX5 97 yX5_runOut ∈ BIG := bw (bt_4 _ (List.mem_of_getElem? (i := 173) (by decide +kernel))) (by decide +kernel)
theorem im_yX5_runOut : Cond.instanceMethod yX5_runOut ∈ BIG := bw (bt_4 _ (List.mem_of_getElem? (i := 175) (by decide +kernel))) (by decide +kernel)
theorem cd_yX5_runOut : Cond.code yX5_runOut cX5_runOut 2 none ∈ BIG := bw (bt_4 _ (List.mem_of_getElem? (i := 176) rfl)) rfl
theorem ml_X7_40 : Cond.methodLink RX7 40 yX5_finishMove ∈ BIG := bw (bt_4 _ (List.mem_of_getElem? (i := 177) (by decide +kernel))) (by decide +kernel)
theorem im_yX5_finishMove : Cond.instanceMethod yX5_finishMove ∈ BIG := bw (bt_4 _ (List.mem_of_getElem? (i := 178) (by decide +kernel))) (by decide +kernel)
theorem se_yX5_finishMove : Cond.selects RX5 yX5_finishMove yX5_finishMove ∈ BIG := bw (bt_4 _ (List.mem_of_getElem? (i := 179) (by decide +kernel))) (by decide +kernel)
theorem cd_yX5_finishMove : Cond.code yX5_finishMove cX5_finishMove 3 (some Jvm.ClassFile.FieldType.int) ∈ BIG := bw (bt_4 _ (List.mem_of_getElem? (i := 180) rfl)) rfl
theorem ml_X5_101 : Cond.methodLink RX5 101 yX5_gains ∈ BIG := bw (bt_4 _ (List.mem_of_getElem? (i := 181) (by decide +kernel))) (by decide +kernel)
theorem im_yX5_gains : Cond.instanceMethod yX5_gains ∈ BIG := bw (bt_4 _ (List.mem_of_getElem? (i := 183) (by decide +kernel))) (by decide +kernel)
theorem cd_yX5_gains : Cond.code yX5_gains cX5_gains 2 (some Jvm.ClassFile.FieldType.int) ∈ BIG := bw (bt_4 _ (List.mem_of_getElem? (i := 184) rfl)) rfl
theorem ml_X5_104 : Cond.methodLink RX5 104 yX5_movesToPeriodEnd ∈ BIG := bw (bt_4 _ (List.mem_of_getElem? (i := 185) (by decide +kernel))) (by decide +kernel)
theorem ml_X5_107 : Cond.methodLink RX5 107 yX5_beginNextPeriod ∈ BIG := bw (bt_4 _ (List.mem_of_getElem? (i := 186) (by decide +kernel))) (by decide +kernel)
theorem im_yX5_beginNextPeriod : Cond.instanceMethod yX5_beginNextPeriod ∈ BIG := bw (bt_4 _ (List.mem_of_getElem? (i := 188) (by decide +kernel))) (by decide +kernel)
theorem cd_yX5_beginNextPeriod : Cond.code yX5_beginNextPeriod cX5_beginNextPeriod 2 none ∈ BIG := bw (bt_4 _ (List.mem_of_getElem? (i := 189) rfl)) rfl
theorem ml_X5_110 : Cond.methodLink RX5 110 yX5_dropMove ∈ BIG := bw (bt_4 _ (List.mem_of_getElem? (i := 190) (by decide +kernel))) (by decide +kernel)
theorem ml_L_207 : Cond.methodLink RL 207 yL_lasts ∈ BIG := bw (bt_4 _ (List.mem_of_getElem? (i := 191) (by decide +kernel))) (by decide +kernel)
theorem st_yL_lasts : Cond.static yL_lasts ∈ BIG := bw (bt_4 _ (List.mem_of_getElem? (i := 192) (by decide +kernel))) (by decide +kernel)
theorem cd_yL_lasts : Cond.codeWith yL_lasts cL_lasts 5 (some Jvm.ClassFile.FieldType.int) [((0 : Nat), (10 : Nat), (13 : Nat), (29 : Nat)), ((0 : Nat), (10 : Nat), (17 : Nat), (19 : Nat))] ∈ BIG := bw (bt_4 _ (List.mem_of_getElem? (i := 193) rfl)) rfl
theorem ml_L_49 : Cond.methodLink RL 49 yX8_lasts ∈ BIG := bw (bt_4 _ (List.mem_of_getElem? (i := 194) (by decide +kernel))) (by decide +kernel)
theorem im_yX8_lasts : Cond.instanceMethod yX8_lasts ∈ BIG := bw (bt_4 _ (List.mem_of_getElem? (i := 195) (by decide +kernel))) (by decide +kernel)
theorem se_yX8_lasts : Cond.selects RX8 yX8_lasts yX8_lasts ∈ BIG := bw (bt_4 _ (List.mem_of_getElem? (i := 196) (by decide +kernel))) (by decide +kernel)
theorem cd_yX8_lasts : Cond.code yX8_lasts cX8_lasts 3 (some Jvm.ClassFile.FieldType.int) ∈ BIG := bw (bt_4 _ (List.mem_of_getElem? (i := 197) rfl)) rfl
theorem ml_X8_258 : Cond.methodLink RX8 258 yX8_requirePace ∈ BIG := bw (bt_4 _ (List.mem_of_getElem? (i := 198) (by decide +kernel))) (by decide +kernel)
theorem im_yX8_requirePace : Cond.instanceMethod yX8_requirePace ∈ BIG := bw (bt_4 _ (List.mem_of_getElem? (i := 200) (by decide +kernel))) (by decide +kernel)
theorem cd_yX8_requirePace : Cond.code yX8_requirePace cX8_requirePace 2 none ∈ BIG := bw (bt_4 _ (List.mem_of_getElem? (i := 201) rfl)) rfl
theorem ml_X8_261 : Cond.methodLink RX8 261 yX7_movesAt ∈ BIG := bw (bt_4 _ (List.mem_of_getElem? (i := 203) (by decide +kernel))) (by decide +kernel)
theorem ml_L_214 : Cond.methodLink RL 214 yL_longest ∈ BIG := bw (bt_4 _ (List.mem_of_getElem? (i := 204) (by decide +kernel))) (by decide +kernel)
theorem st_yL_longest : Cond.static yL_longest ∈ BIG := bw (bt_4 _ (List.mem_of_getElem? (i := 205) (by decide +kernel))) (by decide +kernel)
theorem cd_yL_longest : Cond.codeWith yL_longest cL_longest 4 (some Jvm.ClassFile.FieldType.int) [((0 : Nat), (9 : Nat), (12 : Nat), (29 : Nat))] ∈ BIG := bw (bt_4 _ (List.mem_of_getElem? (i := 206) rfl)) rfl
theorem ml_L_52 : Cond.methodLink RL 52 yX8_longest ∈ BIG := bw (bt_4 _ (List.mem_of_getElem? (i := 207) (by decide +kernel))) (by decide +kernel)
theorem im_yX8_longest : Cond.instanceMethod yX8_longest ∈ BIG := bw (bt_4 _ (List.mem_of_getElem? (i := 208) (by decide +kernel))) (by decide +kernel)
theorem se_yX8_longest : Cond.selects RX8 yX8_longest yX8_longest ∈ BIG := bw (bt_4 _ (List.mem_of_getElem? (i := 209) (by decide +kernel))) (by decide +kernel)
theorem cd_yX8_longest : Cond.code yX8_longest cX8_longest 2 (some Jvm.ClassFile.FieldType.int) ∈ BIG := bw (bt_4 _ (List.mem_of_getElem? (i := 210) rfl)) rfl
theorem ml_X8_235 : Cond.methodLink RX8 235 yX1_greatestThink ∈ BIG := bw (bt_4 _ (List.mem_of_getElem? (i := 211) (by decide +kernel))) (by decide +kernel)
theorem im_yX1_greatestThink : Cond.instanceMethod yX1_greatestThink ∈ BIG := bw (bt_4 _ (List.mem_of_getElem? (i := 212) (by decide +kernel))) (by decide +kernel)
theorem se_yX1_greatestThink : Cond.selects RX1 yX1_greatestThink yX1_greatestThink ∈ BIG := bw (bt_4 _ (List.mem_of_getElem? (i := 213) (by decide +kernel))) (by decide +kernel)
theorem cd_yX1_greatestThink : Cond.code yX1_greatestThink cX1_greatestThink 4 (some Jvm.ClassFile.FieldType.int) ∈ BIG := bw (bt_4 _ (List.mem_of_getElem? (i := 214) rfl)) rfl
theorem ml_X1_43 : Cond.methodLink RX1 43 Lib.Math.max.name ∈ BIG := bw (bt_4 _ (List.mem_of_getElem? (i := 215) (by decide +kernel))) (by decide +kernel)
theorem ml_L_217 : Cond.methodLink RL 217 yL_meanThink ∈ BIG := bw (bt_4 _ (List.mem_of_getElem? (i := 216) (by decide +kernel))) (by decide +kernel)
theorem st_yL_meanThink : Cond.static yL_meanThink ∈ BIG := bw (bt_4 _ (List.mem_of_getElem? (i := 217) (by decide +kernel))) (by decide +kernel)
theorem cd_yL_meanThink : Cond.codeWith yL_meanThink cL_meanThink 4 (some Jvm.ClassFile.FieldType.int) [((0 : Nat), (8 : Nat), (11 : Nat), (29 : Nat))] ∈ BIG := bw (bt_4 _ (List.mem_of_getElem? (i := 218) rfl)) rfl
theorem ml_L_55 : Cond.methodLink RL 55 yX8_meanThink ∈ BIG := bw (bt_4 _ (List.mem_of_getElem? (i := 219) (by decide +kernel))) (by decide +kernel)
theorem im_yX8_meanThink : Cond.instanceMethod yX8_meanThink ∈ BIG := bw (bt_4 _ (List.mem_of_getElem? (i := 220) (by decide +kernel))) (by decide +kernel)
theorem se_yX8_meanThink : Cond.selects RX8 yX8_meanThink yX8_meanThink ∈ BIG := bw (bt_4 _ (List.mem_of_getElem? (i := 221) (by decide +kernel))) (by decide +kernel)
theorem cd_yX8_meanThink : Cond.code yX8_meanThink cX8_meanThink 3 (some Jvm.ClassFile.FieldType.double) ∈ BIG := bw (bt_4 _ (List.mem_of_getElem? (i := 222) rfl)) rfl
theorem ml_X8_239 : Cond.methodLink RX8 239 yX1_movesOf ∈ BIG := bw (bt_4 _ (List.mem_of_getElem? (i := 223) (by decide +kernel))) (by decide +kernel)
theorem im_yX1_movesOf : Cond.instanceMethod yX1_movesOf ∈ BIG := bw (bt_4 _ (List.mem_of_getElem? (i := 224) (by decide +kernel))) (by decide +kernel)
theorem se_yX1_movesOf : Cond.selects RX1 yX1_movesOf yX1_movesOf ∈ BIG := bw (bt_4 _ (List.mem_of_getElem? (i := 225) (by decide +kernel))) (by decide +kernel)
theorem cd_yX1_movesOf : Cond.code yX1_movesOf cX1_movesOf 4 (some Jvm.ClassFile.FieldType.int) ∈ BIG := bw (bt_4 _ (List.mem_of_getElem? (i := 226) rfl)) rfl
theorem ml_X8_242 : Cond.methodLink RX8 242 yX1_sumOf ∈ BIG := bw (bt_4 _ (List.mem_of_getElem? (i := 227) (by decide +kernel))) (by decide +kernel)
theorem im_yX1_sumOf : Cond.instanceMethod yX1_sumOf ∈ BIG := bw (bt_4 _ (List.mem_of_getElem? (i := 228) (by decide +kernel))) (by decide +kernel)
theorem se_yX1_sumOf : Cond.selects RX1 yX1_sumOf yX1_sumOf ∈ BIG := bw (bt_4 _ (List.mem_of_getElem? (i := 229) (by decide +kernel))) (by decide +kernel)
theorem cd_yX1_sumOf : Cond.code yX1_sumOf cX1_sumOf 5 (some Jvm.ClassFile.FieldType.int) ∈ BIG := bw (bt_4 _ (List.mem_of_getElem? (i := 230) rfl)) rfl
theorem ml_L_221 : Cond.methodLink RL 221 yL_share ∈ BIG := bw (bt_4 _ (List.mem_of_getElem? (i := 231) (by decide +kernel))) (by decide +kernel)
theorem st_yL_share : Cond.static yL_share ∈ BIG := bw (bt_4 _ (List.mem_of_getElem? (i := 232) (by decide +kernel))) (by decide +kernel)
theorem cd_yL_share : Cond.codeWith yL_share cL_share 4 (some Jvm.ClassFile.FieldType.int) [((0 : Nat), (9 : Nat), (12 : Nat), (29 : Nat))] ∈ BIG := bw (bt_4 _ (List.mem_of_getElem? (i := 233) rfl)) rfl
theorem ml_L_59 : Cond.methodLink RL 59 yX8_share ∈ BIG := bw (bt_4 _ (List.mem_of_getElem? (i := 234) (by decide +kernel))) (by decide +kernel)
theorem im_yX8_share : Cond.instanceMethod yX8_share ∈ BIG := bw (bt_4 _ (List.mem_of_getElem? (i := 235) (by decide +kernel))) (by decide +kernel)
theorem se_yX8_share : Cond.selects RX8 yX8_share yX8_share ∈ BIG := bw (bt_4 _ (List.mem_of_getElem? (i := 236) (by decide +kernel))) (by decide +kernel)
theorem cd_yX8_share : Cond.code yX8_share cX8_share 2 (some Jvm.ClassFile.FieldType.float) ∈ BIG := bw (bt_4 _ (List.mem_of_getElem? (i := 237) rfl)) rfl
theorem ml_L_224 : Cond.methodLink RL 224 yL_leftIn ∈ BIG := bw (bt_4 _ (List.mem_of_getElem? (i := 238) (by decide +kernel))) (by decide +kernel)
theorem st_yL_leftIn : Cond.static yL_leftIn ∈ BIG := bw (bt_4 _ (List.mem_of_getElem? (i := 239) (by decide +kernel))) (by decide +kernel)
theorem cd_yL_leftIn : Cond.codeWith yL_leftIn cL_leftIn 5 (some Jvm.ClassFile.FieldType.int) [((0 : Nat), (10 : Nat), (13 : Nat), (29 : Nat)), ((0 : Nat), (10 : Nat), (17 : Nat), (19 : Nat))] ∈ BIG := bw (bt_5 _ (List.mem_of_getElem? (i := 0) rfl)) rfl
theorem ml_L_63 : Cond.methodLink RL 63 yX8_leftIn ∈ BIG := bw (bt_5 _ (List.mem_of_getElem? (i := 1) (by decide +kernel))) (by decide +kernel)
theorem im_yX8_leftIn : Cond.instanceMethod yX8_leftIn ∈ BIG := bw (bt_5 _ (List.mem_of_getElem? (i := 2) (by decide +kernel))) (by decide +kernel)
theorem se_yX8_leftIn : Cond.selects RX8 yX8_leftIn yX8_leftIn ∈ BIG := bw (bt_5 _ (List.mem_of_getElem? (i := 3) (by decide +kernel))) (by decide +kernel)
theorem cd_yX8_leftIn : Cond.code yX8_leftIn cX8_leftIn 4 (some Jvm.ClassFile.FieldType.int) ∈ BIG := bw (bt_5 _ (List.mem_of_getElem? (i := 4) rfl)) rfl
theorem ml_X8_248 : Cond.methodLink RX8 248 yX8_requireTicks ∈ BIG := bw (bt_5 _ (List.mem_of_getElem? (i := 5) (by decide +kernel))) (by decide +kernel)
theorem im_yX8_requireTicks : Cond.instanceMethod yX8_requireTicks ∈ BIG := bw (bt_5 _ (List.mem_of_getElem? (i := 7) (by decide +kernel))) (by decide +kernel)
theorem cd_yX8_requireTicks : Cond.code yX8_requireTicks cX8_requireTicks 2 none ∈ BIG := bw (bt_5 _ (List.mem_of_getElem? (i := 8) rfl)) rfl
theorem ml_X8_272 : Cond.methodLink RX8 272 yX7_leftBehind ∈ BIG := bw (bt_5 _ (List.mem_of_getElem? (i := 10) (by decide +kernel))) (by decide +kernel)
theorem im_yX7_leftBehind : Cond.instanceMethod yX7_leftBehind ∈ BIG := bw (bt_5 _ (List.mem_of_getElem? (i := 11) (by decide +kernel))) (by decide +kernel)
theorem se_yX7_leftBehind : Cond.selects RX7 yX7_leftBehind yX7_leftBehind ∈ BIG := bw (bt_5 _ (List.mem_of_getElem? (i := 12) (by decide +kernel))) (by decide +kernel)
theorem cd_yX7_leftBehind : Cond.code yX7_leftBehind cX7_leftBehind 4 (some Jvm.ClassFile.FieldType.int) ∈ BIG := bw (bt_5 _ (List.mem_of_getElem? (i := 13) rfl)) rfl
theorem ml_L_240 : Cond.methodLink RL 240 yL_ends ∈ BIG := bw (bt_5 _ (List.mem_of_getElem? (i := 14) (by decide +kernel))) (by decide +kernel)
theorem st_yL_ends : Cond.static yL_ends ∈ BIG := bw (bt_5 _ (List.mem_of_getElem? (i := 15) (by decide +kernel))) (by decide +kernel)
theorem cd_yL_ends : Cond.codeWith yL_ends cL_ends 5 (some Jvm.ClassFile.FieldType.int) [((0 : Nat), (10 : Nat), (13 : Nat), (19 : Nat))] ∈ BIG := bw (bt_5 _ (List.mem_of_getElem? (i := 16) rfl)) rfl
theorem ml_L_66 : Cond.methodLink RL 66 yX8_ends ∈ BIG := bw (bt_5 _ (List.mem_of_getElem? (i := 17) (by decide +kernel))) (by decide +kernel)
theorem im_yX8_ends : Cond.instanceMethod yX8_ends ∈ BIG := bw (bt_5 _ (List.mem_of_getElem? (i := 18) (by decide +kernel))) (by decide +kernel)
theorem se_yX8_ends : Cond.selects RX8 yX8_ends yX8_ends ∈ BIG := bw (bt_5 _ (List.mem_of_getElem? (i := 19) (by decide +kernel))) (by decide +kernel)
theorem cd_yX8_ends : Cond.code yX8_ends cX8_ends 3 (some Jvm.ClassFile.FieldType.int) ∈ BIG := bw (bt_5 _ (List.mem_of_getElem? (i := 20) rfl)) rfl
theorem ml_X8_282 : Cond.methodLink RX8 282 yX7_play ∈ BIG := bw (bt_5 _ (List.mem_of_getElem? (i := 21) (by decide +kernel))) (by decide +kernel)
theorem im_yX7_play : Cond.instanceMethod yX7_play ∈ BIG := bw (bt_5 _ (List.mem_of_getElem? (i := 22) (by decide +kernel))) (by decide +kernel)
theorem se_yX7_play : Cond.selects RX7 yX7_play yX7_play ∈ BIG := bw (bt_5 _ (List.mem_of_getElem? (i := 23) (by decide +kernel))) (by decide +kernel)
theorem cd_yX7_play : Cond.code yX7_play cX7_play 6 none ∈ BIG := bw (bt_5 _ (List.mem_of_getElem? (i := 24) rfl)) rfl
theorem co_X7_50 : Cond.constant RX7 50 (3999600) ∈ BIG := bw (bt_5 _ (List.mem_of_getElem? (i := 25) (by decide +kernel))) (by decide +kernel)
theorem ml_X7_51 : Cond.methodLink RX7 51 yX7_begin ∈ BIG := bw (bt_5 _ (List.mem_of_getElem? (i := 26) (by decide +kernel))) (by decide +kernel)
theorem im_yX7_begin : Cond.instanceMethod yX7_begin ∈ BIG := bw (bt_5 _ (List.mem_of_getElem? (i := 28) (by decide +kernel))) (by decide +kernel)
theorem cd_yX7_begin : Cond.code yX7_begin cX7_begin 3 none ∈ BIG := bw (bt_5 _ (List.mem_of_getElem? (i := 29) rfl)) rfl
theorem ml_X7_61 : Cond.methodLink RX7 61 yX7_canMove ∈ BIG := bw (bt_5 _ (List.mem_of_getElem? (i := 30) (by decide +kernel))) (by decide +kernel)
theorem im_yX7_canMove : Cond.instanceMethod yX7_canMove ∈ BIG := bw (bt_5 _ (List.mem_of_getElem? (i := 32) (by decide +kernel))) (by decide +kernel)
theorem cd_yX7_canMove : Cond.code yX7_canMove cX7_canMove 7 (some Jvm.ClassFile.FieldType.boolean) ∈ BIG := bw (bt_5 _ (List.mem_of_getElem? (i := 33) rfl)) rfl
theorem ml_X7_86 : Cond.methodLink RX7 86 Lib.Math.max.name ∈ BIG := bw (bt_5 _ (List.mem_of_getElem? (i := 34) (by decide +kernel))) (by decide +kernel)
theorem ml_X7_65 : Cond.methodLink RX7 65 yX7_finishMove ∈ BIG := bw (bt_5 _ (List.mem_of_getElem? (i := 35) (by decide +kernel))) (by decide +kernel)
theorem im_yX7_finishMove : Cond.instanceMethod yX7_finishMove ∈ BIG := bw (bt_5 _ (List.mem_of_getElem? (i := 37) (by decide +kernel))) (by decide +kernel)
theorem cd_yX7_finishMove : Cond.code yX7_finishMove cX7_finishMove 2 none ∈ BIG := bw (bt_5 _ (List.mem_of_getElem? (i := 38) rfl)) rfl
theorem st_yX8_other : Cond.static yX8_other ∈ BIG := bw (bt_5 _ (List.mem_of_getElem? (i := 40) (by decide +kernel))) (by decide +kernel)
theorem cd_yX8_other : Cond.code yX8_other cX8_other 1 (some Jvm.ClassFile.FieldType.int) ∈ BIG := bw (bt_5 _ (List.mem_of_getElem? (i := 41) rfl)) rfl
theorem ml_X8_289 : Cond.methodLink RX8 289 yX6_resultOfFall ∈ BIG := bw (bt_5 _ (List.mem_of_getElem? (i := 42) (by decide +kernel))) (by decide +kernel)
theorem im_yX6_resultOfFall : Cond.instanceMethod yX6_resultOfFall ∈ BIG := bw (bt_5 _ (List.mem_of_getElem? (i := 43) (by decide +kernel))) (by decide +kernel)
theorem se_yX6_resultOfFall : Cond.selects RX6 yX6_resultOfFall yX6_resultOfFall ∈ BIG := bw (bt_5 _ (List.mem_of_getElem? (i := 44) (by decide +kernel))) (by decide +kernel)
theorem cd_yX6_resultOfFall : Cond.code yX6_resultOfFall cX6_resultOfFall 2 (some Jvm.ClassFile.FieldType.int) ∈ BIG := bw (bt_5 _ (List.mem_of_getElem? (i := 45) rfl)) rfl
theorem ml_L_243 : Cond.methodLink RL 243 yL_endsAfter ∈ BIG := bw (bt_5 _ (List.mem_of_getElem? (i := 47) (by decide +kernel))) (by decide +kernel)
theorem st_yL_endsAfter : Cond.static yL_endsAfter ∈ BIG := bw (bt_5 _ (List.mem_of_getElem? (i := 48) (by decide +kernel))) (by decide +kernel)
theorem cd_yL_endsAfter : Cond.codeWith yL_endsAfter cL_endsAfter 5 (some Jvm.ClassFile.FieldType.int) [((0 : Nat), (10 : Nat), (13 : Nat), (19 : Nat))] ∈ BIG := bw (bt_5 _ (List.mem_of_getElem? (i := 49) rfl)) rfl
theorem ml_L_69 : Cond.methodLink RL 69 yX8_endsAfter ∈ BIG := bw (bt_5 _ (List.mem_of_getElem? (i := 50) (by decide +kernel))) (by decide +kernel)
theorem im_yX8_endsAfter : Cond.instanceMethod yX8_endsAfter ∈ BIG := bw (bt_5 _ (List.mem_of_getElem? (i := 51) (by decide +kernel))) (by decide +kernel)
theorem se_yX8_endsAfter : Cond.selects RX8 yX8_endsAfter yX8_endsAfter ∈ BIG := bw (bt_5 _ (List.mem_of_getElem? (i := 52) (by decide +kernel))) (by decide +kernel)
theorem cd_yX8_endsAfter : Cond.code yX8_endsAfter cX8_endsAfter 3 (some Jvm.ClassFile.FieldType.int) ∈ BIG := bw (bt_5 _ (List.mem_of_getElem? (i := 53) rfl)) rfl
theorem ml_L_246 : Cond.methodLink RL 246 yL_movesIn ∈ BIG := bw (bt_5 _ (List.mem_of_getElem? (i := 54) (by decide +kernel))) (by decide +kernel)
theorem st_yL_movesIn : Cond.static yL_movesIn ∈ BIG := bw (bt_5 _ (List.mem_of_getElem? (i := 55) (by decide +kernel))) (by decide +kernel)
theorem cd_yL_movesIn : Cond.codeWith yL_movesIn cL_movesIn 6 (some Jvm.ClassFile.FieldType.int) [((0 : Nat), (12 : Nat), (15 : Nat), (19 : Nat))] ∈ BIG := bw (bt_5 _ (List.mem_of_getElem? (i := 56) rfl)) rfl
theorem ml_L_72 : Cond.methodLink RL 72 yX8_movesIn ∈ BIG := bw (bt_5 _ (List.mem_of_getElem? (i := 57) (by decide +kernel))) (by decide +kernel)
theorem im_yX8_movesIn : Cond.instanceMethod yX8_movesIn ∈ BIG := bw (bt_5 _ (List.mem_of_getElem? (i := 58) (by decide +kernel))) (by decide +kernel)
theorem se_yX8_movesIn : Cond.selects RX8 yX8_movesIn yX8_movesIn ∈ BIG := bw (bt_5 _ (List.mem_of_getElem? (i := 59) (by decide +kernel))) (by decide +kernel)
theorem cd_yX8_movesIn : Cond.code yX8_movesIn cX8_movesIn 4 (some Jvm.ClassFile.FieldType.int) ∈ BIG := bw (bt_5 _ (List.mem_of_getElem? (i := 60) rfl)) rfl
theorem ml_X8_297 : Cond.methodLink RX8 297 yX7_playFor ∈ BIG := bw (bt_5 _ (List.mem_of_getElem? (i := 61) (by decide +kernel))) (by decide +kernel)
theorem im_yX7_playFor : Cond.instanceMethod yX7_playFor ∈ BIG := bw (bt_5 _ (List.mem_of_getElem? (i := 62) (by decide +kernel))) (by decide +kernel)
theorem se_yX7_playFor : Cond.selects RX7 yX7_playFor yX7_playFor ∈ BIG := bw (bt_5 _ (List.mem_of_getElem? (i := 63) (by decide +kernel))) (by decide +kernel)
theorem cd_yX7_playFor : Cond.code yX7_playFor cX7_playFor 6 none ∈ BIG := bw (bt_5 _ (List.mem_of_getElem? (i := 64) rfl)) rfl
theorem ml_L_250 : Cond.methodLink RL 250 yL_gained ∈ BIG := bw (bt_5 _ (List.mem_of_getElem? (i := 65) (by decide +kernel))) (by decide +kernel)
theorem st_yL_gained : Cond.static yL_gained ∈ BIG := bw (bt_5 _ (List.mem_of_getElem? (i := 66) (by decide +kernel))) (by decide +kernel)
theorem cd_yL_gained : Cond.codeWith yL_gained cL_gained 4 (some Jvm.ClassFile.FieldType.int) [((0 : Nat), (9 : Nat), (12 : Nat), (29 : Nat))] ∈ BIG := bw (bt_5 _ (List.mem_of_getElem? (i := 67) rfl)) rfl
theorem ml_L_76 : Cond.methodLink RL 76 yX8_gained ∈ BIG := bw (bt_5 _ (List.mem_of_getElem? (i := 68) (by decide +kernel))) (by decide +kernel)
theorem im_yX8_gained : Cond.instanceMethod yX8_gained ∈ BIG := bw (bt_5 _ (List.mem_of_getElem? (i := 69) (by decide +kernel))) (by decide +kernel)
theorem se_yX8_gained : Cond.selects RX8 yX8_gained yX8_gained ∈ BIG := bw (bt_5 _ (List.mem_of_getElem? (i := 70) (by decide +kernel))) (by decide +kernel)
theorem cd_yX8_gained : Cond.code yX8_gained cX8_gained 2 (some Jvm.ClassFile.FieldType.int) ∈ BIG := bw (bt_5 _ (List.mem_of_getElem? (i := 71) rfl)) rfl
theorem ml_L_253 : Cond.methodLink RL 253 yL_finished ∈ BIG := bw (bt_5 _ (List.mem_of_getElem? (i := 72) (by decide +kernel))) (by decide +kernel)
theorem st_yL_finished : Cond.static yL_finished ∈ BIG := bw (bt_5 _ (List.mem_of_getElem? (i := 73) (by decide +kernel))) (by decide +kernel)
theorem cd_yL_finished : Cond.codeWith yL_finished cL_finished 4 (some Jvm.ClassFile.FieldType.int) [((0 : Nat), (9 : Nat), (12 : Nat), (29 : Nat))] ∈ BIG := bw (bt_5 _ (List.mem_of_getElem? (i := 74) rfl)) rfl
theorem ml_L_79 : Cond.methodLink RL 79 yX8_finished ∈ BIG := bw (bt_5 _ (List.mem_of_getElem? (i := 75) (by decide +kernel))) (by decide +kernel)
theorem im_yX8_finished : Cond.instanceMethod yX8_finished ∈ BIG := bw (bt_5 _ (List.mem_of_getElem? (i := 76) (by decide +kernel))) (by decide +kernel)
theorem se_yX8_finished : Cond.selects RX8 yX8_finished yX8_finished ∈ BIG := bw (bt_5 _ (List.mem_of_getElem? (i := 77) (by decide +kernel))) (by decide +kernel)
theorem cd_yX8_finished : Cond.code yX8_finished cX8_finished 2 (some Jvm.ClassFile.FieldType.int) ∈ BIG := bw (bt_5 _ (List.mem_of_getElem? (i := 78) rfl)) rfl
theorem ml_L_256 : Cond.methodLink RL 256 yL_spent ∈ BIG := bw (bt_5 _ (List.mem_of_getElem? (i := 79) (by decide +kernel))) (by decide +kernel)
theorem st_yL_spent : Cond.static yL_spent ∈ BIG := bw (bt_5 _ (List.mem_of_getElem? (i := 80) (by decide +kernel))) (by decide +kernel)
theorem cd_yL_spent : Cond.codeWith yL_spent cL_spent 5 (some Jvm.ClassFile.FieldType.int) [((0 : Nat), (10 : Nat), (13 : Nat), (29 : Nat))] ∈ BIG := bw (bt_5 _ (List.mem_of_getElem? (i := 81) rfl)) rfl
theorem ml_L_82 : Cond.methodLink RL 82 yX8_spent ∈ BIG := bw (bt_5 _ (List.mem_of_getElem? (i := 82) (by decide +kernel))) (by decide +kernel)
theorem im_yX8_spent : Cond.instanceMethod yX8_spent ∈ BIG := bw (bt_5 _ (List.mem_of_getElem? (i := 83) (by decide +kernel))) (by decide +kernel)
theorem se_yX8_spent : Cond.selects RX8 yX8_spent yX8_spent ∈ BIG := bw (bt_5 _ (List.mem_of_getElem? (i := 84) (by decide +kernel))) (by decide +kernel)
theorem cd_yX8_spent : Cond.code yX8_spent cX8_spent 3 (some Jvm.ClassFile.FieldType.int) ∈ BIG := bw (bt_5 _ (List.mem_of_getElem? (i := 85) rfl)) rfl
theorem ml_X8_231 : Cond.methodLink RX8 231 yX8_numberAt ∈ BIG := bw (bt_5 _ (List.mem_of_getElem? (i := 86) (by decide +kernel))) (by decide +kernel)
theorem ml_L_263 : Cond.methodLink RL 263 yL_within ∈ BIG := bw (bt_5 _ (List.mem_of_getElem? (i := 87) (by decide +kernel))) (by decide +kernel)
theorem st_yL_within : Cond.static yL_within ∈ BIG := bw (bt_5 _ (List.mem_of_getElem? (i := 88) (by decide +kernel))) (by decide +kernel)
theorem cd_yL_within : Cond.codeWith yL_within cL_within 5 (some Jvm.ClassFile.FieldType.int) [((0 : Nat), (10 : Nat), (13 : Nat), (29 : Nat)), ((0 : Nat), (10 : Nat), (17 : Nat), (19 : Nat))] ∈ BIG := bw (bt_5 _ (List.mem_of_getElem? (i := 89) rfl)) rfl
theorem ml_L_85 : Cond.methodLink RL 85 yX8_within ∈ BIG := bw (bt_5 _ (List.mem_of_getElem? (i := 90) (by decide +kernel))) (by decide +kernel)
theorem im_yX8_within : Cond.instanceMethod yX8_within ∈ BIG := bw (bt_5 _ (List.mem_of_getElem? (i := 91) (by decide +kernel))) (by decide +kernel)
theorem se_yX8_within : Cond.selects RX8 yX8_within yX8_within ∈ BIG := bw (bt_5 _ (List.mem_of_getElem? (i := 92) (by decide +kernel))) (by decide +kernel)
theorem cd_yX8_within : Cond.code yX8_within cX8_within 3 (some Jvm.ClassFile.FieldType.int) ∈ BIG := bw (bt_5 _ (List.mem_of_getElem? (i := 93) rfl)) rfl
theorem ml_X8_251 : Cond.methodLink RX8 251 yX1_movesWithin ∈ BIG := bw (bt_5 _ (List.mem_of_getElem? (i := 94) (by decide +kernel))) (by decide +kernel)
theorem im_yX1_movesWithin : Cond.instanceMethod yX1_movesWithin ∈ BIG := bw (bt_5 _ (List.mem_of_getElem? (i := 95) (by decide +kernel))) (by decide +kernel)
theorem se_yX1_movesWithin : Cond.selects RX1 yX1_movesWithin yX1_movesWithin ∈ BIG := bw (bt_5 _ (List.mem_of_getElem? (i := 96) (by decide +kernel))) (by decide +kernel)
theorem cd_yX1_movesWithin : Cond.code yX1_movesWithin cX1_movesWithin 5 (some Jvm.ClassFile.FieldType.int) ∈ BIG := bw (bt_5 _ (List.mem_of_getElem? (i := 97) rfl)) rfl
theorem ml_L_266 : Cond.methodLink RL 266 yL_paceFor ∈ BIG := bw (bt_5 _ (List.mem_of_getElem? (i := 98) (by decide +kernel))) (by decide +kernel)
theorem st_yL_paceFor : Cond.static yL_paceFor ∈ BIG := bw (bt_5 _ (List.mem_of_getElem? (i := 99) (by decide +kernel))) (by decide +kernel)
theorem cd_yL_paceFor : Cond.codeWith yL_paceFor cL_paceFor 5 (some Jvm.ClassFile.FieldType.int) [((0 : Nat), (10 : Nat), (13 : Nat), (29 : Nat)), ((0 : Nat), (10 : Nat), (17 : Nat), (19 : Nat))] ∈ BIG := bw (bt_5 _ (List.mem_of_getElem? (i := 100) rfl)) rfl
theorem ml_L_88 : Cond.methodLink RL 88 yX8_paceFor ∈ BIG := bw (bt_5 _ (List.mem_of_getElem? (i := 101) (by decide +kernel))) (by decide +kernel)
theorem im_yX8_paceFor : Cond.instanceMethod yX8_paceFor ∈ BIG := bw (bt_5 _ (List.mem_of_getElem? (i := 102) (by decide +kernel))) (by decide +kernel)
theorem se_yX8_paceFor : Cond.selects RX8 yX8_paceFor yX8_paceFor ∈ BIG := bw (bt_5 _ (List.mem_of_getElem? (i := 103) (by decide +kernel))) (by decide +kernel)
theorem cd_yX8_paceFor : Cond.code yX8_paceFor cX8_paceFor 3 (some Jvm.ClassFile.FieldType.int) ∈ BIG := bw (bt_5 _ (List.mem_of_getElem? (i := 104) rfl)) rfl
theorem ml_X8_265 : Cond.methodLink RX8 265 yX8_requirePaceMoves ∈ BIG := bw (bt_5 _ (List.mem_of_getElem? (i := 105) (by decide +kernel))) (by decide +kernel)
theorem im_yX8_requirePaceMoves : Cond.instanceMethod yX8_requirePaceMoves ∈ BIG := bw (bt_5 _ (List.mem_of_getElem? (i := 107) (by decide +kernel))) (by decide +kernel)
theorem cd_yX8_requirePaceMoves : Cond.code yX8_requirePaceMoves cX8_requirePaceMoves 2 none ∈ BIG := bw (bt_5 _ (List.mem_of_getElem? (i := 108) rfl)) rfl
theorem ml_L_269 : Cond.methodLink RL 269 yL_needs ∈ BIG := bw (bt_5 _ (List.mem_of_getElem? (i := 110) (by decide +kernel))) (by decide +kernel)
theorem st_yL_needs : Cond.static yL_needs ∈ BIG := bw (bt_5 _ (List.mem_of_getElem? (i := 111) (by decide +kernel))) (by decide +kernel)
theorem cd_yL_needs : Cond.codeWith yL_needs cL_needs 6 (some Jvm.ClassFile.FieldType.int) [((0 : Nat), (12 : Nat), (15 : Nat), (29 : Nat)), ((0 : Nat), (12 : Nat), (19 : Nat), (19 : Nat))] ∈ BIG := bw (bt_5 _ (List.mem_of_getElem? (i := 112) rfl)) rfl
theorem ml_L_91 : Cond.methodLink RL 91 yX8_needs ∈ BIG := bw (bt_5 _ (List.mem_of_getElem? (i := 113) (by decide +kernel))) (by decide +kernel)
theorem im_yX8_needs : Cond.instanceMethod yX8_needs ∈ BIG := bw (bt_5 _ (List.mem_of_getElem? (i := 114) (by decide +kernel))) (by decide +kernel)
theorem se_yX8_needs : Cond.selects RX8 yX8_needs yX8_needs ∈ BIG := bw (bt_5 _ (List.mem_of_getElem? (i := 115) (by decide +kernel))) (by decide +kernel)
theorem cd_yX8_needs : Cond.code yX8_needs cX8_needs 4 (some Jvm.ClassFile.FieldType.int) ∈ BIG := bw (bt_5 _ (List.mem_of_getElem? (i := 116) rfl)) rfl
theorem ml_X8_268 : Cond.methodLink RX8 268 yX7_leastMore ∈ BIG := bw (bt_5 _ (List.mem_of_getElem? (i := 117) (by decide +kernel))) (by decide +kernel)
theorem im_yX7_leastMore : Cond.instanceMethod yX7_leastMore ∈ BIG := bw (bt_5 _ (List.mem_of_getElem? (i := 118) (by decide +kernel))) (by decide +kernel)
theorem se_yX7_leastMore : Cond.selects RX7 yX7_leastMore yX7_leastMore ∈ BIG := bw (bt_5 _ (List.mem_of_getElem? (i := 119) (by decide +kernel))) (by decide +kernel)
theorem cd_yX7_leastMore : Cond.code yX7_leastMore cX7_leastMore 9 (some Jvm.ClassFile.FieldType.int) ∈ BIG := bw (bt_5 _ (List.mem_of_getElem? (i := 120) rfl)) rfl
theorem co_X7_48 : Cond.constant RX7 48 (100000) ∈ BIG := bw (bt_5 _ (List.mem_of_getElem? (i := 121) (by decide +kernel))) (by decide +kernel)
theorem co_X7_49 : Cond.constant RX7 49 (99999) ∈ BIG := bw (bt_5 _ (List.mem_of_getElem? (i := 122) (by decide +kernel))) (by decide +kernel)
theorem ml_L_272 : Cond.methodLink RL 272 yL_aheadAfter ∈ BIG := bw (bt_5 _ (List.mem_of_getElem? (i := 123) (by decide +kernel))) (by decide +kernel)
theorem st_yL_aheadAfter : Cond.static yL_aheadAfter ∈ BIG := bw (bt_5 _ (List.mem_of_getElem? (i := 124) (by decide +kernel))) (by decide +kernel)
theorem cd_yL_aheadAfter : Cond.codeWith yL_aheadAfter cL_aheadAfter 6 (some Jvm.ClassFile.FieldType.int) [((0 : Nat), (12 : Nat), (15 : Nat), (19 : Nat))] ∈ BIG := bw (bt_5 _ (List.mem_of_getElem? (i := 125) rfl)) rfl
theorem ml_L_94 : Cond.methodLink RL 94 yX8_aheadAfter ∈ BIG := bw (bt_5 _ (List.mem_of_getElem? (i := 126) (by decide +kernel))) (by decide +kernel)
theorem im_yX8_aheadAfter : Cond.instanceMethod yX8_aheadAfter ∈ BIG := bw (bt_5 _ (List.mem_of_getElem? (i := 127) (by decide +kernel))) (by decide +kernel)
theorem se_yX8_aheadAfter : Cond.selects RX8 yX8_aheadAfter yX8_aheadAfter ∈ BIG := bw (bt_5 _ (List.mem_of_getElem? (i := 128) (by decide +kernel))) (by decide +kernel)
theorem cd_yX8_aheadAfter : Cond.code yX8_aheadAfter cX8_aheadAfter 4 (some Jvm.ClassFile.FieldType.int) ∈ BIG := bw (bt_5 _ (List.mem_of_getElem? (i := 129) rfl)) rfl
theorem ml_L_275 : Cond.methodLink RL 275 yL_start ∈ BIG := bw (bt_5 _ (List.mem_of_getElem? (i := 130) (by decide +kernel))) (by decide +kernel)
theorem st_yL_start : Cond.static yL_start ∈ BIG := bw (bt_5 _ (List.mem_of_getElem? (i := 131) (by decide +kernel))) (by decide +kernel)
theorem cd_yL_start : Cond.codeWith yL_start cL_start 3 (some Jvm.ClassFile.FieldType.int) [((0 : Nat), (8 : Nat), (11 : Nat), (13 : Nat))] ∈ BIG := bw (bt_5 _ (List.mem_of_getElem? (i := 132) rfl)) rfl
theorem ml_L_97 : Cond.methodLink RL 97 yX8_start ∈ BIG := bw (bt_5 _ (List.mem_of_getElem? (i := 133) (by decide +kernel))) (by decide +kernel)
theorem im_yX8_start : Cond.instanceMethod yX8_start ∈ BIG := bw (bt_5 _ (List.mem_of_getElem? (i := 134) (by decide +kernel))) (by decide +kernel)
theorem se_yX8_start : Cond.selects RX8 yX8_start yX8_start ∈ BIG := bw (bt_5 _ (List.mem_of_getElem? (i := 135) (by decide +kernel))) (by decide +kernel)
theorem cd_yX8_start : Cond.code yX8_start cX8_start 1 (some Jvm.ClassFile.FieldType.int) ∈ BIG := bw (bt_5 _ (List.mem_of_getElem? (i := 136) rfl)) rfl
theorem ml_L_279 : Cond.methodLink RL 279 yL_tick ∈ BIG := bw (bt_5 _ (List.mem_of_getElem? (i := 138) (by decide +kernel))) (by decide +kernel)
theorem st_yL_tick : Cond.static yL_tick ∈ BIG := bw (bt_5 _ (List.mem_of_getElem? (i := 139) (by decide +kernel))) (by decide +kernel)
theorem cd_yL_tick : Cond.codeWith yL_tick cL_tick 4 (some Jvm.ClassFile.FieldType.int) [((0 : Nat), (9 : Nat), (12 : Nat), (19 : Nat))] ∈ BIG := bw (bt_5 _ (List.mem_of_getElem? (i := 140) rfl)) rfl
theorem ml_L_101 : Cond.methodLink RL 101 yX8_tick ∈ BIG := bw (bt_5 _ (List.mem_of_getElem? (i := 141) (by decide +kernel))) (by decide +kernel)
theorem im_yX8_tick : Cond.instanceMethod yX8_tick ∈ BIG := bw (bt_5 _ (List.mem_of_getElem? (i := 142) (by decide +kernel))) (by decide +kernel)
theorem se_yX8_tick : Cond.selects RX8 yX8_tick yX8_tick ∈ BIG := bw (bt_5 _ (List.mem_of_getElem? (i := 143) (by decide +kernel))) (by decide +kernel)
theorem cd_yX8_tick : Cond.code yX8_tick cX8_tick 2 (some Jvm.ClassFile.FieldType.int) ∈ BIG := bw (bt_5 _ (List.mem_of_getElem? (i := 144) rfl)) rfl
theorem ml_X8_306 : Cond.methodLink RX8 306 yX6_letRun ∈ BIG := bw (bt_5 _ (List.mem_of_getElem? (i := 145) (by decide +kernel))) (by decide +kernel)
theorem im_yX6_letRun : Cond.instanceMethod yX6_letRun ∈ BIG := bw (bt_5 _ (List.mem_of_getElem? (i := 146) (by decide +kernel))) (by decide +kernel)
theorem se_yX6_letRun : Cond.selects RX6 yX6_letRun yX6_letRun ∈ BIG := bw (bt_5 _ (List.mem_of_getElem? (i := 147) (by decide +kernel))) (by decide +kernel)
theorem cd_yX6_letRun : Cond.code yX6_letRun cX6_letRun 5 none ∈ BIG := bw (bt_5 _ (List.mem_of_getElem? (i := 148) rfl)) rfl
theorem ml_X6_104 : Cond.methodLink RX6 104 yX6_mover ∈ BIG := bw (bt_5 _ (List.mem_of_getElem? (i := 149) (by decide +kernel))) (by decide +kernel)
theorem ml_X6_111 : Cond.methodLink RX6 111 yX5_ticksToFall ∈ BIG := bw (bt_5 _ (List.mem_of_getElem? (i := 150) (by decide +kernel))) (by decide +kernel)
theorem ml_X6_115 : Cond.methodLink RX6 115 Lib.Math.min.name ∈ BIG := bw (bt_5 _ (List.mem_of_getElem? (i := 151) (by decide +kernel))) (by decide +kernel)
theorem ml_X6_118 : Cond.methodLink RX6 118 yX5_run ∈ BIG := bw (bt_5 _ (List.mem_of_getElem? (i := 152) (by decide +kernel))) (by decide +kernel)
theorem ml_X6_122 : Cond.methodLink RX6 122 yX6_noteFall ∈ BIG := bw (bt_5 _ (List.mem_of_getElem? (i := 153) (by decide +kernel))) (by decide +kernel)
theorem im_yX6_noteFall : Cond.instanceMethod yX6_noteFall ∈ BIG := bw (bt_5 _ (List.mem_of_getElem? (i := 155) (by decide +kernel))) (by decide +kernel)
theorem cd_yX6_noteFall : Cond.code yX6_noteFall cX6_noteFall 1 none ∈ BIG := bw (bt_5 _ (List.mem_of_getElem? (i := 156) rfl)) rfl
theorem ml_X6_125 : Cond.methodLink RX6 125 yX6_resultOfFall ∈ BIG := bw (bt_5 _ (List.mem_of_getElem? (i := 157) (by decide +kernel))) (by decide +kernel)
theorem ml_X6_128 : Cond.methodLink RX6 128 yX6_endWith ∈ BIG := bw (bt_5 _ (List.mem_of_getElem? (i := 158) (by decide +kernel))) (by decide +kernel)
theorem im_yX6_endWith : Cond.instanceMethod yX6_endWith ∈ BIG := bw (bt_5 _ (List.mem_of_getElem? (i := 159) (by decide +kernel))) (by decide +kernel)
theorem se_yX6_endWith : Cond.selects RX6 yX6_endWith yX6_endWith ∈ BIG := bw (bt_5 _ (List.mem_of_getElem? (i := 160) (by decide +kernel))) (by decide +kernel)
theorem cd_yX6_endWith : Cond.code yX6_endWith cX6_endWith 2 none ∈ BIG := bw (bt_5 _ (List.mem_of_getElem? (i := 161) rfl)) rfl
theorem ml_L_282 : Cond.methodLink RL 282 yL_move ∈ BIG := bw (bt_5 _ (List.mem_of_getElem? (i := 162) (by decide +kernel))) (by decide +kernel)
theorem st_yL_move : Cond.static yL_move ∈ BIG := bw (bt_5 _ (List.mem_of_getElem? (i := 163) (by decide +kernel))) (by decide +kernel)
theorem cd_yL_move : Cond.codeWith yL_move cL_move 3 (some Jvm.ClassFile.FieldType.int) [((0 : Nat), (8 : Nat), (11 : Nat), (13 : Nat))] ∈ BIG := bw (bt_5 _ (List.mem_of_getElem? (i := 164) rfl)) rfl
theorem ml_L_104 : Cond.methodLink RL 104 yX8_move ∈ BIG := bw (bt_5 _ (List.mem_of_getElem? (i := 165) (by decide +kernel))) (by decide +kernel)
theorem im_yX8_move : Cond.instanceMethod yX8_move ∈ BIG := bw (bt_5 _ (List.mem_of_getElem? (i := 166) (by decide +kernel))) (by decide +kernel)
theorem se_yX8_move : Cond.selects RX8 yX8_move yX8_move ∈ BIG := bw (bt_5 _ (List.mem_of_getElem? (i := 167) (by decide +kernel))) (by decide +kernel)
theorem cd_yX8_move : Cond.code yX8_move cX8_move 1 (some Jvm.ClassFile.FieldType.int) ∈ BIG := bw (bt_5 _ (List.mem_of_getElem? (i := 168) rfl)) rfl
theorem ml_X8_311 : Cond.methodLink RX8 311 yX6_makeMove ∈ BIG := bw (bt_5 _ (List.mem_of_getElem? (i := 170) (by decide +kernel))) (by decide +kernel)
theorem im_yX6_makeMove : Cond.instanceMethod yX6_makeMove ∈ BIG := bw (bt_5 _ (List.mem_of_getElem? (i := 171) (by decide +kernel))) (by decide +kernel)
theorem se_yX6_makeMove : Cond.selects RX6 yX6_makeMove yX6_makeMove ∈ BIG := bw (bt_5 _ (List.mem_of_getElem? (i := 172) (by decide +kernel))) (by decide +kernel)
theorem cd_yX6_makeMove : Cond.code yX6_makeMove cX6_makeMove 5 (some Jvm.ClassFile.FieldType.int) ∈ BIG := bw (bt_5 _ (List.mem_of_getElem? (i := 173) rfl)) rfl
theorem ml_X6_138 : Cond.methodLink RX6 138 yX5_finishMove ∈ BIG := bw (bt_5 _ (List.mem_of_getElem? (i := 174) (by decide +kernel))) (by decide +kernel)
theorem ml_X6_141 : Cond.methodLink RX6 141 yX1_add ∈ BIG := bw (bt_5 _ (List.mem_of_getElem? (i := 175) (by decide +kernel))) (by decide +kernel)
theorem im_yX1_add : Cond.instanceMethod yX1_add ∈ BIG := bw (bt_5 _ (List.mem_of_getElem? (i := 176) (by decide +kernel))) (by decide +kernel)
theorem se_yX1_add : Cond.selects RX1 yX1_add yX1_add ∈ BIG := bw (bt_5 _ (List.mem_of_getElem? (i := 177) (by decide +kernel))) (by decide +kernel)
theorem cd_yX1_add : Cond.code yX1_add cX1_add 8 none ∈ BIG := bw (bt_5 _ (List.mem_of_getElem? (i := 178) rfl)) rfl
theorem ml_X1_26 : Cond.methodLink RX1 26 Lib.Math.min.name ∈ BIG := bw (bt_5 _ (List.mem_of_getElem? (i := 179) (by decide +kernel))) (by decide +kernel)
theorem ml_L_285 : Cond.methodLink RL 285 yL_pause ∈ BIG := bw (bt_5 _ (List.mem_of_getElem? (i := 181) (by decide +kernel))) (by decide +kernel)
theorem st_yL_pause : Cond.static yL_pause ∈ BIG := bw (bt_5 _ (List.mem_of_getElem? (i := 182) (by decide +kernel))) (by decide +kernel)
theorem cd_yL_pause : Cond.codeWith yL_pause cL_pause 3 (some Jvm.ClassFile.FieldType.int) [((0 : Nat), (8 : Nat), (11 : Nat), (13 : Nat))] ∈ BIG := bw (bt_5 _ (List.mem_of_getElem? (i := 183) rfl)) rfl
theorem ml_L_107 : Cond.methodLink RL 107 yX8_pause ∈ BIG := bw (bt_5 _ (List.mem_of_getElem? (i := 184) (by decide +kernel))) (by decide +kernel)
theorem im_yX8_pause : Cond.instanceMethod yX8_pause ∈ BIG := bw (bt_5 _ (List.mem_of_getElem? (i := 185) (by decide +kernel))) (by decide +kernel)
theorem se_yX8_pause : Cond.selects RX8 yX8_pause yX8_pause ∈ BIG := bw (bt_5 _ (List.mem_of_getElem? (i := 186) (by decide +kernel))) (by decide +kernel)
theorem cd_yX8_pause : Cond.code yX8_pause cX8_pause 1 (some Jvm.ClassFile.FieldType.int) ∈ BIG := bw (bt_5 _ (List.mem_of_getElem? (i := 187) rfl)) rfl
theorem ml_L_288 : Cond.methodLink RL 288 yL_proceed ∈ BIG := bw (bt_5 _ (List.mem_of_getElem? (i := 188) (by decide +kernel))) (by decide +kernel)
theorem st_yL_proceed : Cond.static yL_proceed ∈ BIG := bw (bt_5 _ (List.mem_of_getElem? (i := 189) (by decide +kernel))) (by decide +kernel)
theorem cd_yL_proceed : Cond.codeWith yL_proceed cL_proceed 3 (some Jvm.ClassFile.FieldType.int) [((0 : Nat), (8 : Nat), (11 : Nat), (13 : Nat))] ∈ BIG := bw (bt_5 _ (List.mem_of_getElem? (i := 190) rfl)) rfl
theorem ml_L_110 : Cond.methodLink RL 110 yX8_proceed ∈ BIG := bw (bt_5 _ (List.mem_of_getElem? (i := 191) (by decide +kernel))) (by decide +kernel)
theorem im_yX8_proceed : Cond.instanceMethod yX8_proceed ∈ BIG := bw (bt_5 _ (List.mem_of_getElem? (i := 192) (by decide +kernel))) (by decide +kernel)
theorem se_yX8_proceed : Cond.selects RX8 yX8_proceed yX8_proceed ∈ BIG := bw (bt_5 _ (List.mem_of_getElem? (i := 193) (by decide +kernel))) (by decide +kernel)
theorem cd_yX8_proceed : Cond.code yX8_proceed cX8_proceed 1 (some Jvm.ClassFile.FieldType.int) ∈ BIG := bw (bt_5 _ (List.mem_of_getElem? (i := 194) rfl)) rfl
theorem ml_L_291 : Cond.methodLink RL 291 yL_seal ∈ BIG := bw (bt_5 _ (List.mem_of_getElem? (i := 196) (by decide +kernel))) (by decide +kernel)
theorem st_yL_seal : Cond.static yL_seal ∈ BIG := bw (bt_5 _ (List.mem_of_getElem? (i := 197) (by decide +kernel))) (by decide +kernel)
theorem cd_yL_seal : Cond.codeWith yL_seal cL_seal 3 (some Jvm.ClassFile.FieldType.int) [((0 : Nat), (8 : Nat), (11 : Nat), (13 : Nat))] ∈ BIG := bw (bt_5 _ (List.mem_of_getElem? (i := 198) rfl)) rfl
theorem ml_L_113 : Cond.methodLink RL 113 yX8_seal ∈ BIG := bw (bt_5 _ (List.mem_of_getElem? (i := 199) (by decide +kernel))) (by decide +kernel)
theorem im_yX8_seal : Cond.instanceMethod yX8_seal ∈ BIG := bw (bt_5 _ (List.mem_of_getElem? (i := 200) (by decide +kernel))) (by decide +kernel)
theorem se_yX8_seal : Cond.selects RX8 yX8_seal yX8_seal ∈ BIG := bw (bt_5 _ (List.mem_of_getElem? (i := 201) (by decide +kernel))) (by decide +kernel)
theorem cd_yX8_seal : Cond.code yX8_seal cX8_seal 1 (some Jvm.ClassFile.FieldType.int) ∈ BIG := bw (bt_5 _ (List.mem_of_getElem? (i := 202) rfl)) rfl
theorem ml_L_294 : Cond.methodLink RL 294 yL_open ∈ BIG := bw (bt_5 _ (List.mem_of_getElem? (i := 204) (by decide +kernel))) (by decide +kernel)
theorem st_yL_open : Cond.static yL_open ∈ BIG := bw (bt_5 _ (List.mem_of_getElem? (i := 205) (by decide +kernel))) (by decide +kernel)
theorem cd_yL_open : Cond.codeWith yL_open cL_open 3 (some Jvm.ClassFile.FieldType.int) [((0 : Nat), (8 : Nat), (11 : Nat), (13 : Nat))] ∈ BIG := bw (bt_5 _ (List.mem_of_getElem? (i := 206) rfl)) rfl
theorem ml_L_116 : Cond.methodLink RL 116 yX8_open ∈ BIG := bw (bt_5 _ (List.mem_of_getElem? (i := 207) (by decide +kernel))) (by decide +kernel)
theorem im_yX8_open : Cond.instanceMethod yX8_open ∈ BIG := bw (bt_5 _ (List.mem_of_getElem? (i := 208) (by decide +kernel))) (by decide +kernel)
theorem se_yX8_open : Cond.selects RX8 yX8_open yX8_open ∈ BIG := bw (bt_5 _ (List.mem_of_getElem? (i := 209) (by decide +kernel))) (by decide +kernel)
theorem cd_yX8_open : Cond.code yX8_open cX8_open 1 (some Jvm.ClassFile.FieldType.int) ∈ BIG := bw (bt_5 _ (List.mem_of_getElem? (i := 210) rfl)) rfl
theorem ml_L_297 : Cond.methodLink RL 297 yL_claim ∈ BIG := bw (bt_5 _ (List.mem_of_getElem? (i := 212) (by decide +kernel))) (by decide +kernel)
theorem st_yL_claim : Cond.static yL_claim ∈ BIG := bw (bt_5 _ (List.mem_of_getElem? (i := 213) (by decide +kernel))) (by decide +kernel)
theorem cd_yL_claim : Cond.codeWith yL_claim cL_claim 4 (some Jvm.ClassFile.FieldType.int) [((0 : Nat), (9 : Nat), (12 : Nat), (29 : Nat)), ((0 : Nat), (9 : Nat), (15 : Nat), (13 : Nat))] ∈ BIG := bw (bt_5 _ (List.mem_of_getElem? (i := 214) rfl)) rfl
theorem ml_L_119 : Cond.methodLink RL 119 yX8_claim ∈ BIG := bw (bt_5 _ (List.mem_of_getElem? (i := 215) (by decide +kernel))) (by decide +kernel)
theorem im_yX8_claim : Cond.instanceMethod yX8_claim ∈ BIG := bw (bt_5 _ (List.mem_of_getElem? (i := 216) (by decide +kernel))) (by decide +kernel)
theorem se_yX8_claim : Cond.selects RX8 yX8_claim yX8_claim ∈ BIG := bw (bt_5 _ (List.mem_of_getElem? (i := 217) (by decide +kernel))) (by decide +kernel)
theorem cd_yX8_claim : Cond.code yX8_claim cX8_claim 2 (some Jvm.ClassFile.FieldType.int) ∈ BIG := bw (bt_5 _ (List.mem_of_getElem? (i := 218) rfl)) rfl
theorem ml_X8_320 : Cond.methodLink RX8 320 yX8_other ∈ BIG := bw (bt_5 _ (List.mem_of_getElem? (i := 219) (by decide +kernel))) (by decide +kernel)
theorem ml_X8_325 : Cond.methodLink RX8 325 yX6_endWith ∈ BIG := bw (bt_5 _ (List.mem_of_getElem? (i := 221) (by decide +kernel))) (by decide +kernel)
theorem ml_L_300 : Cond.methodLink RL 300 yL_resign ∈ BIG := bw (bt_5 _ (List.mem_of_getElem? (i := 222) (by decide +kernel))) (by decide +kernel)
theorem st_yL_resign : Cond.static yL_resign ∈ BIG := bw (bt_5 _ (List.mem_of_getElem? (i := 223) (by decide +kernel))) (by decide +kernel)
theorem cd_yL_resign : Cond.codeWith yL_resign cL_resign 4 (some Jvm.ClassFile.FieldType.int) [((0 : Nat), (9 : Nat), (12 : Nat), (29 : Nat)), ((0 : Nat), (9 : Nat), (15 : Nat), (13 : Nat))] ∈ BIG := bw (bt_5 _ (List.mem_of_getElem? (i := 224) rfl)) rfl
theorem ml_L_122 : Cond.methodLink RL 122 yX8_resign ∈ BIG := bw (bt_5 _ (List.mem_of_getElem? (i := 225) (by decide +kernel))) (by decide +kernel)
theorem im_yX8_resign : Cond.instanceMethod yX8_resign ∈ BIG := bw (bt_5 _ (List.mem_of_getElem? (i := 226) (by decide +kernel))) (by decide +kernel)
theorem se_yX8_resign : Cond.selects RX8 yX8_resign yX8_resign ∈ BIG := bw (bt_5 _ (List.mem_of_getElem? (i := 227) (by decide +kernel))) (by decide +kernel)
theorem cd_yX8_resign : Cond.code yX8_resign cX8_resign 2 (some Jvm.ClassFile.FieldType.int) ∈ BIG := bw (bt_5 _ (List.mem_of_getElem? (i := 228) rfl)) rfl
theorem ml_L_303 : Cond.methodLink RL 303 yL_give ∈ BIG := bw (bt_5 _ (List.mem_of_getElem? (i := 230) (by decide +kernel))) (by decide +kernel)
theorem st_yL_give : Cond.static yL_give ∈ BIG := bw (bt_5 _ (List.mem_of_getElem? (i := 231) (by decide +kernel))) (by decide +kernel)
theorem cd_yL_give : Cond.codeWith yL_give cL_give 5 (some Jvm.ClassFile.FieldType.int) [((0 : Nat), (10 : Nat), (13 : Nat), (29 : Nat)), ((0 : Nat), (10 : Nat), (17 : Nat), (19 : Nat)), ((0 : Nat), (10 : Nat), (21 : Nat), (13 : Nat))] ∈ BIG := bw (bt_5 _ (List.mem_of_getElem? (i := 232) rfl)) rfl
theorem ml_L_125 : Cond.methodLink RL 125 yX8_give ∈ BIG := bw (bt_5 _ (List.mem_of_getElem? (i := 233) (by decide +kernel))) (by decide +kernel)
theorem im_yX8_give : Cond.instanceMethod yX8_give ∈ BIG := bw (bt_5 _ (List.mem_of_getElem? (i := 234) (by decide +kernel))) (by decide +kernel)
theorem se_yX8_give : Cond.selects RX8 yX8_give yX8_give ∈ BIG := bw (bt_5 _ (List.mem_of_getElem? (i := 235) (by decide +kernel))) (by decide +kernel)
theorem cd_yX8_give : Cond.code yX8_give cX8_give 4 (some Jvm.ClassFile.FieldType.int) ∈ BIG := bw (bt_5 _ (List.mem_of_getElem? (i := 236) rfl)) rfl
theorem ml_L_306 : Cond.methodLink RL 306 yL_setBare ∈ BIG := bw (bt_5 _ (List.mem_of_getElem? (i := 238) (by decide +kernel))) (by decide +kernel)
theorem st_yL_setBare : Cond.static yL_setBare ∈ BIG := bw (bt_5 _ (List.mem_of_getElem? (i := 239) (by decide +kernel))) (by decide +kernel)
theorem cd_yL_setBare : Cond.codeWith yL_setBare cL_setBare 5 (some Jvm.ClassFile.FieldType.int) [((0 : Nat), (17 : Nat), (20 : Nat), (29 : Nat))] ∈ BIG := bw (bt_6 _ (List.mem_of_getElem? (i := 0) rfl)) rfl
theorem ml_L_128 : Cond.methodLink RL 128 yX8_setBare ∈ BIG := bw (bt_6 _ (List.mem_of_getElem? (i := 1) (by decide +kernel))) (by decide +kernel)
theorem im_yX8_setBare : Cond.instanceMethod yX8_setBare ∈ BIG := bw (bt_6 _ (List.mem_of_getElem? (i := 2) (by decide +kernel))) (by decide +kernel)
theorem se_yX8_setBare : Cond.selects RX8 yX8_setBare yX8_setBare ∈ BIG := bw (bt_6 _ (List.mem_of_getElem? (i := 3) (by decide +kernel))) (by decide +kernel)
theorem cd_yX8_setBare : Cond.code yX8_setBare cX8_setBare 5 (some Jvm.ClassFile.FieldType.boolean) ∈ BIG := bw (bt_6 _ (List.mem_of_getElem? (i := 4) rfl)) rfl
theorem ml_L_315 : Cond.methodLink RL 315 yL_setPeriod ∈ BIG := bw (bt_6 _ (List.mem_of_getElem? (i := 5) (by decide +kernel))) (by decide +kernel)
theorem st_yL_setPeriod : Cond.static yL_setPeriod ∈ BIG := bw (bt_6 _ (List.mem_of_getElem? (i := 6) (by decide +kernel))) (by decide +kernel)
theorem cd_yL_setPeriod : Cond.codeWith yL_setPeriod cL_setPeriod 6 (some Jvm.ClassFile.FieldType.int) [((0 : Nat), (12 : Nat), (15 : Nat), (29 : Nat)), ((0 : Nat), (12 : Nat), (19 : Nat), (19 : Nat))] ∈ BIG := bw (bt_6 _ (List.mem_of_getElem? (i := 7) rfl)) rfl
theorem ml_L_132 : Cond.methodLink RL 132 yX8_setPeriod ∈ BIG := bw (bt_6 _ (List.mem_of_getElem? (i := 8) (by decide +kernel))) (by decide +kernel)
theorem im_yX8_setPeriod : Cond.instanceMethod yX8_setPeriod ∈ BIG := bw (bt_6 _ (List.mem_of_getElem? (i := 9) (by decide +kernel))) (by decide +kernel)
theorem se_yX8_setPeriod : Cond.selects RX8 yX8_setPeriod yX8_setPeriod ∈ BIG := bw (bt_6 _ (List.mem_of_getElem? (i := 10) (by decide +kernel))) (by decide +kernel)
theorem cd_yX8_setPeriod : Cond.code yX8_setPeriod cX8_setPeriod 5 (some Jvm.ClassFile.FieldType.int) ∈ BIG := bw (bt_6 _ (List.mem_of_getElem? (i := 11) rfl)) rfl
theorem ml_X8_334 : Cond.methodLink RX8 334 yX4_setNumber ∈ BIG := bw (bt_6 _ (List.mem_of_getElem? (i := 13) (by decide +kernel))) (by decide +kernel)
theorem ml_L_318 : Cond.methodLink RL 318 yL_swap ∈ BIG := bw (bt_6 _ (List.mem_of_getElem? (i := 14) (by decide +kernel))) (by decide +kernel)
theorem st_yL_swap : Cond.static yL_swap ∈ BIG := bw (bt_6 _ (List.mem_of_getElem? (i := 15) (by decide +kernel))) (by decide +kernel)
theorem cd_yL_swap : Cond.codeWith yL_swap cL_swap 3 (some Jvm.ClassFile.FieldType.int) [((0 : Nat), (8 : Nat), (11 : Nat), (13 : Nat))] ∈ BIG := bw (bt_6 _ (List.mem_of_getElem? (i := 16) rfl)) rfl
theorem ml_L_135 : Cond.methodLink RL 135 yX8_swap ∈ BIG := bw (bt_6 _ (List.mem_of_getElem? (i := 17) (by decide +kernel))) (by decide +kernel)
theorem im_yX8_swap : Cond.instanceMethod yX8_swap ∈ BIG := bw (bt_6 _ (List.mem_of_getElem? (i := 18) (by decide +kernel))) (by decide +kernel)
theorem se_yX8_swap : Cond.selects RX8 yX8_swap yX8_swap ∈ BIG := bw (bt_6 _ (List.mem_of_getElem? (i := 19) (by decide +kernel))) (by decide +kernel)
theorem cd_yX8_swap : Cond.code yX8_swap cX8_swap 1 (some Jvm.ClassFile.FieldType.int) ∈ BIG := bw (bt_6 _ (List.mem_of_getElem? (i := 20) rfl)) rfl
theorem ml_X8_340 : Cond.methodLink RX8 340 yX6_swapSides ∈ BIG := bw (bt_6 _ (List.mem_of_getElem? (i := 22) (by decide +kernel))) (by decide +kernel)
theorem im_yX6_swapSides : Cond.instanceMethod yX6_swapSides ∈ BIG := bw (bt_6 _ (List.mem_of_getElem? (i := 23) (by decide +kernel))) (by decide +kernel)
theorem se_yX6_swapSides : Cond.selects RX6 yX6_swapSides yX6_swapSides ∈ BIG := bw (bt_6 _ (List.mem_of_getElem? (i := 24) (by decide +kernel))) (by decide +kernel)
theorem cd_yX6_swapSides : Cond.code yX6_swapSides cX6_swapSides 2 none ∈ BIG := bw (bt_6 _ (List.mem_of_getElem? (i := 25) rfl)) rfl
theorem ml_L_321 : Cond.methodLink RL 321 yL_keep ∈ BIG := bw (bt_6 _ (List.mem_of_getElem? (i := 26) (by decide +kernel))) (by decide +kernel)
theorem st_yL_keep : Cond.static yL_keep ∈ BIG := bw (bt_6 _ (List.mem_of_getElem? (i := 27) (by decide +kernel))) (by decide +kernel)
theorem cd_yL_keep : Cond.codeWith yL_keep cL_keep 4 (some Jvm.ClassFile.FieldType.int) [((0 : Nat), (9 : Nat), (12 : Nat), (29 : Nat))] ∈ BIG := bw (bt_6 _ (List.mem_of_getElem? (i := 28) rfl)) rfl
theorem ml_L_138 : Cond.methodLink RL 138 yX8_keep ∈ BIG := bw (bt_6 _ (List.mem_of_getElem? (i := 29) (by decide +kernel))) (by decide +kernel)
theorem im_yX8_keep : Cond.instanceMethod yX8_keep ∈ BIG := bw (bt_6 _ (List.mem_of_getElem? (i := 30) (by decide +kernel))) (by decide +kernel)
theorem se_yX8_keep : Cond.selects RX8 yX8_keep yX8_keep ∈ BIG := bw (bt_6 _ (List.mem_of_getElem? (i := 31) (by decide +kernel))) (by decide +kernel)
theorem cd_yX8_keep : Cond.code yX8_keep cX8_keep 3 (some Jvm.ClassFile.FieldType.int) ∈ BIG := bw (bt_6 _ (List.mem_of_getElem? (i := 32) rfl)) rfl
theorem ml_X8_343 : Cond.methodLink RX8 343 yX8_requireSlot ∈ BIG := bw (bt_6 _ (List.mem_of_getElem? (i := 33) (by decide +kernel))) (by decide +kernel)
theorem im_yX8_requireSlot : Cond.instanceMethod yX8_requireSlot ∈ BIG := bw (bt_6 _ (List.mem_of_getElem? (i := 35) (by decide +kernel))) (by decide +kernel)
theorem cd_yX8_requireSlot : Cond.code yX8_requireSlot cX8_requireSlot 2 none ∈ BIG := bw (bt_6 _ (List.mem_of_getElem? (i := 36) rfl)) rfl
theorem ml_L_324 : Cond.methodLink RL 324 yL_restore ∈ BIG := bw (bt_6 _ (List.mem_of_getElem? (i := 38) (by decide +kernel))) (by decide +kernel)
theorem st_yL_restore : Cond.static yL_restore ∈ BIG := bw (bt_6 _ (List.mem_of_getElem? (i := 39) (by decide +kernel))) (by decide +kernel)
theorem cd_yL_restore : Cond.codeWith yL_restore cL_restore 4 (some Jvm.ClassFile.FieldType.int) [((0 : Nat), (9 : Nat), (12 : Nat), (29 : Nat)), ((0 : Nat), (9 : Nat), (15 : Nat), (13 : Nat))] ∈ BIG := bw (bt_6 _ (List.mem_of_getElem? (i := 40) rfl)) rfl
theorem ml_L_141 : Cond.methodLink RL 141 yX8_restore ∈ BIG := bw (bt_6 _ (List.mem_of_getElem? (i := 41) (by decide +kernel))) (by decide +kernel)
theorem im_yX8_restore : Cond.instanceMethod yX8_restore ∈ BIG := bw (bt_6 _ (List.mem_of_getElem? (i := 42) (by decide +kernel))) (by decide +kernel)
theorem se_yX8_restore : Cond.selects RX8 yX8_restore yX8_restore ∈ BIG := bw (bt_6 _ (List.mem_of_getElem? (i := 43) (by decide +kernel))) (by decide +kernel)
theorem cd_yX8_restore : Cond.code yX8_restore cX8_restore 3 (some Jvm.ClassFile.FieldType.int) ∈ BIG := bw (bt_6 _ (List.mem_of_getElem? (i := 44) rfl)) rfl
theorem ml_L_327 : Cond.methodLink RL 327 yL_undo ∈ BIG := bw (bt_6 _ (List.mem_of_getElem? (i := 46) (by decide +kernel))) (by decide +kernel)
theorem st_yL_undo : Cond.static yL_undo ∈ BIG := bw (bt_6 _ (List.mem_of_getElem? (i := 47) (by decide +kernel))) (by decide +kernel)
theorem cd_yL_undo : Cond.codeWith yL_undo cL_undo 3 (some Jvm.ClassFile.FieldType.int) [((0 : Nat), (8 : Nat), (11 : Nat), (13 : Nat))] ∈ BIG := bw (bt_6 _ (List.mem_of_getElem? (i := 48) rfl)) rfl
theorem ml_L_144 : Cond.methodLink RL 144 yX8_undo ∈ BIG := bw (bt_6 _ (List.mem_of_getElem? (i := 49) (by decide +kernel))) (by decide +kernel)
theorem im_yX8_undo : Cond.instanceMethod yX8_undo ∈ BIG := bw (bt_6 _ (List.mem_of_getElem? (i := 50) (by decide +kernel))) (by decide +kernel)
theorem se_yX8_undo : Cond.selects RX8 yX8_undo yX8_undo ∈ BIG := bw (bt_6 _ (List.mem_of_getElem? (i := 51) (by decide +kernel))) (by decide +kernel)
theorem cd_yX8_undo : Cond.code yX8_undo cX8_undo 2 (some Jvm.ClassFile.FieldType.int) ∈ BIG := bw (bt_6 _ (List.mem_of_getElem? (i := 52) rfl)) rfl
theorem ml_L_346 : Cond.methodLink RL 346 yL_outputByte ∈ BIG := bw (bt_6 _ (List.mem_of_getElem? (i := 54) (by decide +kernel))) (by decide +kernel)
theorem st_yL_outputByte : Cond.static yL_outputByte ∈ BIG := bw (bt_6 _ (List.mem_of_getElem? (i := 55) (by decide +kernel))) (by decide +kernel)
theorem cd_yL_outputByte : Cond.codeWith yL_outputByte cL_outputByte 4 (some Jvm.ClassFile.FieldType.int) [((0 : Nat), (9 : Nat), (12 : Nat), (150 : Nat))] ∈ BIG := bw (bt_6 _ (List.mem_of_getElem? (i := 56) rfl)) rfl
theorem cl_L_150 : Cond.classLink RL 150 "java/util/NoSuchElementException" ∈ BIG := bw (bt_6 _ (List.mem_of_getElem? (i := 57) (by decide +kernel))) (by decide +kernel)
theorem ml_L_147 : Cond.methodLink RL 147 yX8_outputByte ∈ BIG := bw (bt_6 _ (List.mem_of_getElem? (i := 58) (by decide +kernel))) (by decide +kernel)
theorem im_yX8_outputByte : Cond.instanceMethod yX8_outputByte ∈ BIG := bw (bt_6 _ (List.mem_of_getElem? (i := 59) (by decide +kernel))) (by decide +kernel)
theorem se_yX8_outputByte : Cond.selects RX8 yX8_outputByte yX8_outputByte ∈ BIG := bw (bt_6 _ (List.mem_of_getElem? (i := 60) (by decide +kernel))) (by decide +kernel)
theorem cd_yX8_outputByte : Cond.code yX8_outputByte cX8_outputByte 2 (some Jvm.ClassFile.FieldType.int) ∈ BIG := bw (bt_6 _ (List.mem_of_getElem? (i := 61) rfl)) rfl
theorem cl_X8_394 : Cond.classLink RX8 394 "java/util/NoSuchElementException" ∈ BIG := bw (bt_6 _ (List.mem_of_getElem? (i := 62) (by decide +kernel))) (by decide +kernel)
theorem is_java_util_NoSuchElementException : Cond.instantiable "java/util/NoSuchElementException" 6 ∈ BIG := bw (bt_6 _ (List.mem_of_getElem? (i := 63) (by decide +kernel))) (by decide +kernel)
theorem ml_L_162 : Cond.methodLink RL 162 yX9_thrown ∈ BIG := bw (bt_6 _ (List.mem_of_getElem? (i := 78) (by decide +kernel))) (by decide +kernel)
theorem im_yX9_thrown : Cond.instanceMethod yX9_thrown ∈ BIG := bw (bt_6 _ (List.mem_of_getElem? (i := 79) (by decide +kernel))) (by decide +kernel)
theorem se_yX9_thrown : Cond.selects RX9 yX9_thrown yX9_thrown ∈ BIG := bw (bt_6 _ (List.mem_of_getElem? (i := 80) (by decide +kernel))) (by decide +kernel)
theorem cd_yX9_thrown : Cond.code yX9_thrown cX9_thrown 1 (some Jvm.ClassFile.FieldType.int) ∈ BIG := bw (bt_6 _ (List.mem_of_getElem? (i := 81) rfl)) rfl
theorem cl_L_153 : Cond.classLink RL 153 RX9 ∈ BIG := bw (bt_6 _ (List.mem_of_getElem? (i := 82) (by decide +kernel))) (by decide +kernel)
theorem is_X9 : Cond.instantiable RX9 30 ∈ BIG := bw (bt_6 _ (List.mem_of_getElem? (i := 83) (by decide +kernel))) (by decide +kernel)
theorem ml_L_155 : Cond.methodLink RL 155 yX9_init ∈ BIG := bw (bt_6 _ (List.mem_of_getElem? (i := 84) (by decide +kernel))) (by decide +kernel)
theorem im_yX9_init : Cond.instanceMethod yX9_init ∈ BIG := bw (bt_6 _ (List.mem_of_getElem? (i := 85) (by decide +kernel))) (by decide +kernel)
theorem cd_yX9_init : Cond.code yX9_init cX9_init 1 none ∈ BIG := bw (bt_6 _ (List.mem_of_getElem? (i := 86) rfl)) rfl
theorem ml_X9_11 : Cond.methodLink RX9 11 Lib.objectInit ∈ BIG := bw (bt_6 _ (List.mem_of_getElem? (i := 87) (by decide +kernel))) (by decide +kernel)
theorem ml_X9_50 : Cond.methodLink RX9 50 yX9_layPlain ∈ BIG := bw (bt_6 _ (List.mem_of_getElem? (i := 88) (by decide +kernel))) (by decide +kernel)
theorem im_yX9_layPlain : Cond.instanceMethod yX9_layPlain ∈ BIG := bw (bt_6 _ (List.mem_of_getElem? (i := 90) (by decide +kernel))) (by decide +kernel)
theorem cd_yX9_layPlain : Cond.code yX9_layPlain cX9_layPlain 2 none ∈ BIG := bw (bt_6 _ (List.mem_of_getElem? (i := 91) rfl)) rfl
theorem ml_X9_53 : Cond.methodLink RX9 53 yX9_put ∈ BIG := bw (bt_6 _ (List.mem_of_getElem? (i := 92) (by decide +kernel))) (by decide +kernel)
theorem im_yX9_put : Cond.instanceMethod yX9_put ∈ BIG := bw (bt_6 _ (List.mem_of_getElem? (i := 94) (by decide +kernel))) (by decide +kernel)
theorem cd_yX9_put : Cond.code yX9_put cX9_put 4 none ∈ BIG := bw (bt_6 _ (List.mem_of_getElem? (i := 95) rfl)) rfl
theorem fl_X9_3 : Cond.fieldLink RX9 3 (TX9 0).1 (TX9 0).2.1 (TX9 0).2.2.1 ∈ BIG := bw (bt_6 _ (List.mem_of_getElem? (i := 96) (by decide +kernel))) (by decide +kernel)
theorem fl_X9_17 : Cond.fieldLink RX9 17 (TX9 1).1 (TX9 1).2.1 (TX9 1).2.2.1 ∈ BIG := bw (bt_6 _ (List.mem_of_getElem? (i := 97) (by decide +kernel))) (by decide +kernel)
theorem fl_X9_21 : Cond.fieldLink RX9 21 (TX9 2).1 (TX9 2).2.1 (TX9 2).2.2.1 ∈ BIG := bw (bt_6 _ (List.mem_of_getElem? (i := 98) (by decide +kernel))) (by decide +kernel)
theorem fl_X9_24 : Cond.fieldLink RX9 24 (TX9 3).1 (TX9 3).2.1 (TX9 3).2.2.1 ∈ BIG := bw (bt_6 _ (List.mem_of_getElem? (i := 99) (by decide +kernel))) (by decide +kernel)
theorem fl_X9_27 : Cond.fieldLink RX9 27 (TX9 4).1 (TX9 4).2.1 (TX9 4).2.2.1 ∈ BIG := bw (bt_6 _ (List.mem_of_getElem? (i := 100) (by decide +kernel))) (by decide +kernel)
theorem fl_X9_123 : Cond.fieldLink RX9 123 (TX9 5).1 (TX9 5).2.1 (TX9 5).2.2.1 ∈ BIG := bw (bt_6 _ (List.mem_of_getElem? (i := 101) (by decide +kernel))) (by decide +kernel)
theorem fl_X9_120 : Cond.fieldLink RX9 120 (TX9 6).1 (TX9 6).2.1 (TX9 6).2.2.1 ∈ BIG := bw (bt_6 _ (List.mem_of_getElem? (i := 102) (by decide +kernel))) (by decide +kernel)
theorem fl_X9_133 : Cond.fieldLink RX9 133 (TX9 7).1 (TX9 7).2.1 (TX9 7).2.2.1 ∈ BIG := bw (bt_6 _ (List.mem_of_getElem? (i := 103) (by decide +kernel))) (by decide +kernel)
theorem fl_X9_126 : Cond.fieldLink RX9 126 (TX9 8).1 (TX9 8).2.1 (TX9 8).2.2.1 ∈ BIG := bw (bt_6 _ (List.mem_of_getElem? (i := 104) (by decide +kernel))) (by decide +kernel)
theorem fl_X9_129 : Cond.fieldLink RX9 129 (TX9 9).1 (TX9 9).2.1 (TX9 9).2.2.1 ∈ BIG := bw (bt_6 _ (List.mem_of_getElem? (i := 105) (by decide +kernel))) (by decide +kernel)
theorem fl_X9_143 : Cond.fieldLink RX9 143 (TX9 10).1 (TX9 10).2.1 (TX9 10).2.2.1 ∈ BIG := bw (bt_6 _ (List.mem_of_getElem? (i := 106) (by decide +kernel))) (by decide +kernel)
theorem fl_X9_30 : Cond.fieldLink RX9 30 (TX9 11).1 (TX9 11).2.1 (TX9 11).2.2.1 ∈ BIG := bw (bt_6 _ (List.mem_of_getElem? (i := 107) (by decide +kernel))) (by decide +kernel)
theorem fl_X9_156 : Cond.fieldLink RX9 156 (TX9 12).1 (TX9 12).2.1 (TX9 12).2.2.1 ∈ BIG := bw (bt_6 _ (List.mem_of_getElem? (i := 108) (by decide +kernel))) (by decide +kernel)
theorem fl_X9_176 : Cond.fieldLink RX9 176 (TX9 13).1 (TX9 13).2.1 (TX9 13).2.2.1 ∈ BIG := bw (bt_6 _ (List.mem_of_getElem? (i := 109) (by decide +kernel))) (by decide +kernel)
theorem fl_X9_179 : Cond.fieldLink RX9 179 (TX9 14).1 (TX9 14).2.1 (TX9 14).2.2.1 ∈ BIG := bw (bt_6 _ (List.mem_of_getElem? (i := 110) (by decide +kernel))) (by decide +kernel)
theorem fl_X9_173 : Cond.fieldLink RX9 173 (TX9 15).1 (TX9 15).2.1 (TX9 15).2.2.1 ∈ BIG := bw (bt_6 _ (List.mem_of_getElem? (i := 111) (by decide +kernel))) (by decide +kernel)
theorem fl_X9_185 : Cond.fieldLink RX9 185 (TX9 16).1 (TX9 16).2.1 (TX9 16).2.2.1 ∈ BIG := bw (bt_6 _ (List.mem_of_getElem? (i := 112) (by decide +kernel))) (by decide +kernel)
theorem fl_X9_196 : Cond.fieldLink RX9 196 (TX9 17).1 (TX9 17).2.1 (TX9 17).2.2.1 ∈ BIG := bw (bt_6 _ (List.mem_of_getElem? (i := 113) (by decide +kernel))) (by decide +kernel)
theorem fl_X9_166 : Cond.fieldLink RX9 166 (TX9 18).1 (TX9 18).2.1 (TX9 18).2.2.1 ∈ BIG := bw (bt_6 _ (List.mem_of_getElem? (i := 114) (by decide +kernel))) (by decide +kernel)
theorem fl_X9_34 : Cond.fieldLink RX9 34 (TX9 19).1 (TX9 19).2.1 (TX9 19).2.2.1 ∈ BIG := bw (bt_6 _ (List.mem_of_getElem? (i := 115) (by decide +kernel))) (by decide +kernel)
theorem fl_X9_258 : Cond.fieldLink RX9 258 (TX9 20).1 (TX9 20).2.1 (TX9 20).2.2.1 ∈ BIG := bw (bt_6 _ (List.mem_of_getElem? (i := 116) (by decide +kernel))) (by decide +kernel)
theorem fl_X9_261 : Cond.fieldLink RX9 261 (TX9 21).1 (TX9 21).2.1 (TX9 21).2.2.1 ∈ BIG := bw (bt_6 _ (List.mem_of_getElem? (i := 117) (by decide +kernel))) (by decide +kernel)
theorem fl_X9_266 : Cond.fieldLink RX9 266 (TX9 22).1 (TX9 22).2.1 (TX9 22).2.2.1 ∈ BIG := bw (bt_6 _ (List.mem_of_getElem? (i := 118) (by decide +kernel))) (by decide +kernel)
theorem fl_X9_271 : Cond.fieldLink RX9 271 (TX9 23).1 (TX9 23).2.1 (TX9 23).2.2.1 ∈ BIG := bw (bt_6 _ (List.mem_of_getElem? (i := 119) (by decide +kernel))) (by decide +kernel)
theorem fl_X9_37 : Cond.fieldLink RX9 37 (TX9 24).1 (TX9 24).2.1 (TX9 24).2.2.1 ∈ BIG := bw (bt_6 _ (List.mem_of_getElem? (i := 120) (by decide +kernel))) (by decide +kernel)
theorem fl_X9_40 : Cond.fieldLink RX9 40 (TX9 25).1 (TX9 25).2.1 (TX9 25).2.2.1 ∈ BIG := bw (bt_6 _ (List.mem_of_getElem? (i := 121) (by decide +kernel))) (by decide +kernel)
theorem fl_X9_44 : Cond.fieldLink RX9 44 (TX9 26).1 (TX9 26).2.1 (TX9 26).2.2.1 ∈ BIG := bw (bt_6 _ (List.mem_of_getElem? (i := 122) (by decide +kernel))) (by decide +kernel)
theorem fl_X9_390 : Cond.fieldLink RX9 390 (TX9 27).1 (TX9 27).2.1 (TX9 27).2.2.1 ∈ BIG := bw (bt_6 _ (List.mem_of_getElem? (i := 123) (by decide +kernel))) (by decide +kernel)
theorem fl_X9_47 : Cond.fieldLink RX9 47 (TX9 28).1 (TX9 28).2.1 (TX9 28).2.2.1 ∈ BIG := bw (bt_6 _ (List.mem_of_getElem? (i := 124) (by decide +kernel))) (by decide +kernel)
theorem fl_X9_393 : Cond.fieldLink RX9 393 (TX9 29).1 (TX9 29).2.1 (TX9 29).2.2.1 ∈ BIG := bw (bt_6 _ (List.mem_of_getElem? (i := 125) (by decide +kernel))) (by decide +kernel)
theorem lay_X9_0 : u_lay RX9 TX9 0 ∈ BIG := bw (bt_6 _ (List.mem_of_getElem? (i := 126) (by decide +kernel))) (by decide +kernel)
theorem lay_X9_1 : u_lay RX9 TX9 1 ∈ BIG := bw (bt_6 _ (List.mem_of_getElem? (i := 128) (by decide +kernel))) (by decide +kernel)
theorem lay_X9_2 : u_lay RX9 TX9 2 ∈ BIG := bw (bt_6 _ (List.mem_of_getElem? (i := 130) (by decide +kernel))) (by decide +kernel)
theorem lay_X9_3 : u_lay RX9 TX9 3 ∈ BIG := bw (bt_6 _ (List.mem_of_getElem? (i := 132) (by decide +kernel))) (by decide +kernel)
theorem lay_X9_4 : u_lay RX9 TX9 4 ∈ BIG := bw (bt_6 _ (List.mem_of_getElem? (i := 134) (by decide +kernel))) (by decide +kernel)
theorem lay_X9_5 : u_lay RX9 TX9 5 ∈ BIG := bw (bt_6 _ (List.mem_of_getElem? (i := 136) (by decide +kernel))) (by decide +kernel)
theorem lay_X9_6 : u_lay RX9 TX9 6 ∈ BIG := bw (bt_6 _ (List.mem_of_getElem? (i := 138) (by decide +kernel))) (by decide +kernel)
theorem lay_X9_7 : u_lay RX9 TX9 7 ∈ BIG := bw (bt_6 _ (List.mem_of_getElem? (i := 140) (by decide +kernel))) (by decide +kernel)
theorem lay_X9_8 : u_lay RX9 TX9 8 ∈ BIG := bw (bt_6 _ (List.mem_of_getElem? (i := 142) (by decide +kernel))) (by decide +kernel)
theorem lay_X9_9 : u_lay RX9 TX9 9 ∈ BIG := bw (bt_6 _ (List.mem_of_getElem? (i := 144) (by decide +kernel))) (by decide +kernel)
theorem lay_X9_10 : u_lay RX9 TX9 10 ∈ BIG := bw (bt_6 _ (List.mem_of_getElem? (i := 146) (by decide +kernel))) (by decide +kernel)
theorem lay_X9_11 : u_lay RX9 TX9 11 ∈ BIG := bw (bt_6 _ (List.mem_of_getElem? (i := 148) (by decide +kernel))) (by decide +kernel)
theorem lay_X9_12 : u_lay RX9 TX9 12 ∈ BIG := bw (bt_6 _ (List.mem_of_getElem? (i := 150) (by decide +kernel))) (by decide +kernel)
theorem lay_X9_13 : u_lay RX9 TX9 13 ∈ BIG := bw (bt_6 _ (List.mem_of_getElem? (i := 152) (by decide +kernel))) (by decide +kernel)
theorem lay_X9_14 : u_lay RX9 TX9 14 ∈ BIG := bw (bt_6 _ (List.mem_of_getElem? (i := 154) (by decide +kernel))) (by decide +kernel)
theorem lay_X9_15 : u_lay RX9 TX9 15 ∈ BIG := bw (bt_6 _ (List.mem_of_getElem? (i := 156) (by decide +kernel))) (by decide +kernel)
theorem lay_X9_16 : u_lay RX9 TX9 16 ∈ BIG := bw (bt_6 _ (List.mem_of_getElem? (i := 158) (by decide +kernel))) (by decide +kernel)
theorem lay_X9_17 : u_lay RX9 TX9 17 ∈ BIG := bw (bt_6 _ (List.mem_of_getElem? (i := 160) (by decide +kernel))) (by decide +kernel)
theorem lay_X9_18 : u_lay RX9 TX9 18 ∈ BIG := bw (bt_6 _ (List.mem_of_getElem? (i := 162) (by decide +kernel))) (by decide +kernel)
theorem lay_X9_19 : u_lay RX9 TX9 19 ∈ BIG := bw (bt_6 _ (List.mem_of_getElem? (i := 164) (by decide +kernel))) (by decide +kernel)
theorem lay_X9_20 : u_lay RX9 TX9 20 ∈ BIG := bw (bt_6 _ (List.mem_of_getElem? (i := 166) (by decide +kernel))) (by decide +kernel)
theorem lay_X9_21 : u_lay RX9 TX9 21 ∈ BIG := bw (bt_6 _ (List.mem_of_getElem? (i := 168) (by decide +kernel))) (by decide +kernel)
theorem lay_X9_22 : u_lay RX9 TX9 22 ∈ BIG := bw (bt_6 _ (List.mem_of_getElem? (i := 170) (by decide +kernel))) (by decide +kernel)
theorem lay_X9_23 : u_lay RX9 TX9 23 ∈ BIG := bw (bt_6 _ (List.mem_of_getElem? (i := 172) (by decide +kernel))) (by decide +kernel)
theorem lay_X9_24 : u_lay RX9 TX9 24 ∈ BIG := bw (bt_6 _ (List.mem_of_getElem? (i := 174) (by decide +kernel))) (by decide +kernel)
theorem lay_X9_25 : u_lay RX9 TX9 25 ∈ BIG := bw (bt_6 _ (List.mem_of_getElem? (i := 176) (by decide +kernel))) (by decide +kernel)
theorem lay_X9_26 : u_lay RX9 TX9 26 ∈ BIG := bw (bt_6 _ (List.mem_of_getElem? (i := 178) (by decide +kernel))) (by decide +kernel)
theorem lay_X9_27 : u_lay RX9 TX9 27 ∈ BIG := bw (bt_6 _ (List.mem_of_getElem? (i := 180) (by decide +kernel))) (by decide +kernel)
theorem lay_X9_28 : u_lay RX9 TX9 28 ∈ BIG := bw (bt_6 _ (List.mem_of_getElem? (i := 182) (by decide +kernel))) (by decide +kernel)
theorem lay_X9_29 : u_lay RX9 TX9 29 ∈ BIG := bw (bt_6 _ (List.mem_of_getElem? (i := 184) (by decide +kernel))) (by decide +kernel)
theorem ac_boolean : Cond.arrayClass .boolean ∈ BIG := bw (bt_6 _ (List.mem_of_getElem? (i := 187) (by decide +kernel))) (by decide +kernel)
theorem ml_L_161 : Cond.methodLink RL 161 yX9_append ∈ BIG := bw (bt_6 _ (List.mem_of_getElem? (i := 188) (by decide +kernel))) (by decide +kernel)
theorem im_yX9_append : Cond.instanceMethod yX9_append ∈ BIG := bw (bt_6 _ (List.mem_of_getElem? (i := 189) (by decide +kernel))) (by decide +kernel)
theorem se_yX9_append : Cond.selects RX9 yX9_append yX9_append ∈ BIG := bw (bt_6 _ (List.mem_of_getElem? (i := 190) (by decide +kernel))) (by decide +kernel)
theorem cd_yX9_append : Cond.code yX9_append cX9_append 6 (some Jvm.ClassFile.FieldType.int) ∈ BIG := bw (bt_6 _ (List.mem_of_getElem? (i := 191) rfl)) rfl
theorem ml_X9_159 : Cond.methodLink RX9 159 yX9_passes ∈ BIG := bw (bt_6 _ (List.mem_of_getElem? (i := 192) (by decide +kernel))) (by decide +kernel)
theorem im_yX9_passes : Cond.instanceMethod yX9_passes ∈ BIG := bw (bt_6 _ (List.mem_of_getElem? (i := 194) (by decide +kernel))) (by decide +kernel)
theorem cd_yX9_passes : Cond.code yX9_passes cX9_passes 2 (some Jvm.ClassFile.FieldType.boolean) ∈ BIG := bw (bt_6 _ (List.mem_of_getElem? (i := 195) rfl)) rfl
theorem ml_X9_7 : Cond.methodLink RX9 7 yX9_passes3 ∈ BIG := bw (bt_6 _ (List.mem_of_getElem? (i := 196) (by decide +kernel))) (by decide +kernel)
theorem im_yX9_passes3 : Cond.instanceMethod yX9_passes3 ∈ BIG := bw (bt_6 _ (List.mem_of_getElem? (i := 198) (by decide +kernel))) (by decide +kernel)
theorem cd_yX9_passes3 : Cond.code yX9_passes3 cX9_passes3 4 (some Jvm.ClassFile.FieldType.boolean) ∈ BIG := bw (bt_6 _ (List.mem_of_getElem? (i := 199) rfl)) rfl
theorem ml_X9_163 : Cond.methodLink RX9 163 yX9_appendFour ∈ BIG := bw (bt_6 _ (List.mem_of_getElem? (i := 200) (by decide +kernel))) (by decide +kernel)
theorem im_yX9_appendFour : Cond.instanceMethod yX9_appendFour ∈ BIG := bw (bt_6 _ (List.mem_of_getElem? (i := 202) (by decide +kernel))) (by decide +kernel)
theorem cd_yX9_appendFour : Cond.code yX9_appendFour cX9_appendFour 3 none ∈ BIG := bw (bt_6 _ (List.mem_of_getElem? (i := 203) rfl)) rfl
theorem ml_L_168 : Cond.methodLink RL 168 yX9_truncate ∈ BIG := bw (bt_6 _ (List.mem_of_getElem? (i := 204) (by decide +kernel))) (by decide +kernel)
theorem im_yX9_truncate : Cond.instanceMethod yX9_truncate ∈ BIG := bw (bt_6 _ (List.mem_of_getElem? (i := 205) (by decide +kernel))) (by decide +kernel)
theorem se_yX9_truncate : Cond.selects RX9 yX9_truncate yX9_truncate ∈ BIG := bw (bt_6 _ (List.mem_of_getElem? (i := 206) (by decide +kernel))) (by decide +kernel)
theorem cd_yX9_truncate : Cond.code yX9_truncate cX9_truncate 2 none ∈ BIG := bw (bt_6 _ (List.mem_of_getElem? (i := 207) rfl)) rfl
theorem ml_X9_64 : Cond.methodLink RX9 64 yX9_in ∈ BIG := bw (bt_6 _ (List.mem_of_getElem? (i := 208) (by decide +kernel))) (by decide +kernel)
theorem st_yX9_in : Cond.static yX9_in ∈ BIG := bw (bt_6 _ (List.mem_of_getElem? (i := 209) (by decide +kernel))) (by decide +kernel)
theorem cd_yX9_in : Cond.code yX9_in cX9_in 6 (some Jvm.ClassFile.FieldType.boolean) ∈ BIG := bw (bt_6 _ (List.mem_of_getElem? (i := 210) rfl)) rfl
theorem ml_L_172 : Cond.methodLink RL 172 yX9_load ∈ BIG := bw (bt_6 _ (List.mem_of_getElem? (i := 211) (by decide +kernel))) (by decide +kernel)
theorem im_yX9_load : Cond.instanceMethod yX9_load ∈ BIG := bw (bt_6 _ (List.mem_of_getElem? (i := 212) (by decide +kernel))) (by decide +kernel)
theorem se_yX9_load : Cond.selects RX9 yX9_load yX9_load ∈ BIG := bw (bt_6 _ (List.mem_of_getElem? (i := 213) (by decide +kernel))) (by decide +kernel)
theorem cd_yX9_load : Cond.code yX9_load cX9_load 2 (some Jvm.ClassFile.FieldType.int) ∈ BIG := bw (bt_6 _ (List.mem_of_getElem? (i := 214) rfl)) rfl
theorem ml_X9_200 : Cond.methodLink RX9 200 yX9_scan ∈ BIG := bw (bt_6 _ (List.mem_of_getElem? (i := 215) (by decide +kernel))) (by decide +kernel)
theorem im_yX9_scan : Cond.instanceMethod yX9_scan ∈ BIG := bw (bt_6 _ (List.mem_of_getElem? (i := 217) (by decide +kernel))) (by decide +kernel)
theorem cd_yX9_scan : Cond.code yX9_scan cX9_scan 2 none ∈ BIG := bw (bt_6 _ (List.mem_of_getElem? (i := 218) rfl)) rfl
theorem ml_X9_182 : Cond.methodLink RX9 182 yX9_byteAt ∈ BIG := bw (bt_6 _ (List.mem_of_getElem? (i := 219) (by decide +kernel))) (by decide +kernel)
theorem im_yX9_byteAt : Cond.instanceMethod yX9_byteAt ∈ BIG := bw (bt_6 _ (List.mem_of_getElem? (i := 221) (by decide +kernel))) (by decide +kernel)
theorem cd_yX9_byteAt : Cond.code yX9_byteAt cX9_byteAt 2 (some Jvm.ClassFile.FieldType.int) ∈ BIG := bw (bt_6 _ (List.mem_of_getElem? (i := 222) rfl)) rfl
theorem cj_X9_188 : Cond.constantLong RX9 188 (97) ∈ BIG := bw (bt_6 _ (List.mem_of_getElem? (i := 223) (by decide +kernel))) (by decide +kernel)
theorem cj_X9_190 : Cond.constantLong RX9 190 (122) ∈ BIG := bw (bt_6 _ (List.mem_of_getElem? (i := 224) (by decide +kernel))) (by decide +kernel)
theorem cj_X9_192 : Cond.constantLong RX9 192 (48) ∈ BIG := bw (bt_6 _ (List.mem_of_getElem? (i := 225) (by decide +kernel))) (by decide +kernel)
theorem cj_X9_194 : Cond.constantLong RX9 194 (57) ∈ BIG := bw (bt_6 _ (List.mem_of_getElem? (i := 226) (by decide +kernel))) (by decide +kernel)
theorem co_X9_199 : Cond.constant RX9 199 (999999) ∈ BIG := bw (bt_6 _ (List.mem_of_getElem? (i := 227) (by decide +kernel))) (by decide +kernel)
theorem ml_X9_99 : Cond.methodLink RX9 99 Lib.Math.min.name ∈ BIG := bw (bt_6 _ (List.mem_of_getElem? (i := 228) (by decide +kernel))) (by decide +kernel)
theorem ml_X9_221 : Cond.methodLink RX9 221 yX9_isWord ∈ BIG := bw (bt_6 _ (List.mem_of_getElem? (i := 230) (by decide +kernel))) (by decide +kernel)
theorem im_yX9_isWord : Cond.instanceMethod yX9_isWord ∈ BIG := bw (bt_6 _ (List.mem_of_getElem? (i := 232) (by decide +kernel))) (by decide +kernel)
theorem cd_yX9_isWord : Cond.code yX9_isWord cX9_isWord 4 (some Jvm.ClassFile.FieldType.boolean) ∈ BIG := bw (bt_6 _ (List.mem_of_getElem? (i := 233) rfl)) rfl
theorem ml_X9_169 : Cond.methodLink RX9 169 yX9_good ∈ BIG := bw (bt_6 _ (List.mem_of_getElem? (i := 234) (by decide +kernel))) (by decide +kernel)
theorem im_yX9_good : Cond.instanceMethod yX9_good ∈ BIG := bw (bt_6 _ (List.mem_of_getElem? (i := 236) (by decide +kernel))) (by decide +kernel)
theorem cd_yX9_good : Cond.code yX9_good cX9_good 1 (some Jvm.ClassFile.FieldType.boolean) ∈ BIG := bw (bt_6 _ (List.mem_of_getElem? (i := 237) rfl)) rfl
theorem ml_X9_203 : Cond.methodLink RX9 203 yJ0_length_8abf5 ∈ BIG := bw (bt_6 _ (List.mem_of_getElem? (i := 238) (by decide +kernel))) (by decide +kernel)
theorem ml_X9_208 : Cond.methodLink RX9 208 yJ0_charAt_5068e ∈ BIG := bw (bt_6 _ (List.mem_of_getElem? (i := 239) (by decide +kernel))) (by decide +kernel)
theorem ml_X9_236 : Cond.methodLink RX9 236 yX9_errsIf ∈ BIG := bw (bt_7 _ (List.mem_of_getElem? (i := 0) (by decide +kernel))) (by decide +kernel)
theorem im_yX9_errsIf : Cond.instanceMethod yX9_errsIf ∈ BIG := bw (bt_7 _ (List.mem_of_getElem? (i := 2) (by decide +kernel))) (by decide +kernel)
theorem cd_yX9_errsIf : Cond.code yX9_errsIf cX9_errsIf 3 none ∈ BIG := bw (bt_7 _ (List.mem_of_getElem? (i := 3) rfl)) rfl
theorem ml_X9_212 : Cond.methodLink RX9 212 yX9_errs ∈ BIG := bw (bt_7 _ (List.mem_of_getElem? (i := 4) (by decide +kernel))) (by decide +kernel)
theorem im_yX9_errs : Cond.instanceMethod yX9_errs ∈ BIG := bw (bt_7 _ (List.mem_of_getElem? (i := 6) (by decide +kernel))) (by decide +kernel)
theorem cd_yX9_errs : Cond.code yX9_errs cX9_errs 2 none ∈ BIG := bw (bt_7 _ (List.mem_of_getElem? (i := 7) rfl)) rfl
theorem ml_X9_298 : Cond.methodLink RX9 298 yX9_parseStatement ∈ BIG := bw (bt_7 _ (List.mem_of_getElem? (i := 8) (by decide +kernel))) (by decide +kernel)
theorem im_yX9_parseStatement : Cond.instanceMethod yX9_parseStatement ∈ BIG := bw (bt_7 _ (List.mem_of_getElem? (i := 10) (by decide +kernel))) (by decide +kernel)
theorem cd_yX9_parseStatement : Cond.code yX9_parseStatement cX9_parseStatement 1 none ∈ BIG := bw (bt_7 _ (List.mem_of_getElem? (i := 11) rfl)) rfl
theorem ml_X9_276 : Cond.methodLink RX9 276 yX9_parsePeriod ∈ BIG := bw (bt_7 _ (List.mem_of_getElem? (i := 12) (by decide +kernel))) (by decide +kernel)
theorem im_yX9_parsePeriod : Cond.instanceMethod yX9_parsePeriod ∈ BIG := bw (bt_7 _ (List.mem_of_getElem? (i := 14) (by decide +kernel))) (by decide +kernel)
theorem cd_yX9_parsePeriod : Cond.code yX9_parsePeriod cX9_parsePeriod 8 none ∈ BIG := bw (bt_7 _ (List.mem_of_getElem? (i := 15) rfl)) rfl
theorem ml_X9_114 : Cond.methodLink RX9 114 Lib.Math.max.name ∈ BIG := bw (bt_7 _ (List.mem_of_getElem? (i := 16) (by decide +kernel))) (by decide +kernel)
theorem ml_X9_61 : Cond.methodLink RX9 61 yX9_ofPeriod ∈ BIG := bw (bt_7 _ (List.mem_of_getElem? (i := 17) (by decide +kernel))) (by decide +kernel)
theorem im_yX9_ofPeriod : Cond.instanceMethod yX9_ofPeriod ∈ BIG := bw (bt_7 _ (List.mem_of_getElem? (i := 19) (by decide +kernel))) (by decide +kernel)
theorem cd_yX9_ofPeriod : Cond.code yX9_ofPeriod cX9_ofPeriod 3 (some Jvm.ClassFile.FieldType.int) ∈ BIG := bw (bt_7 _ (List.mem_of_getElem? (i := 20) rfl)) rfl
theorem ml_X9_218 : Cond.methodLink RX9 218 yX9_goOn ∈ BIG := bw (bt_7 _ (List.mem_of_getElem? (i := 21) (by decide +kernel))) (by decide +kernel)
theorem im_yX9_goOn : Cond.instanceMethod yX9_goOn ∈ BIG := bw (bt_7 _ (List.mem_of_getElem? (i := 23) (by decide +kernel))) (by decide +kernel)
theorem cd_yX9_goOn : Cond.code yX9_goOn cX9_goOn 1 none ∈ BIG := bw (bt_7 _ (List.mem_of_getElem? (i := 24) rfl)) rfl
theorem ml_X9_232 : Cond.methodLink RX9 232 yX9_numberAfter ∈ BIG := bw (bt_7 _ (List.mem_of_getElem? (i := 26) (by decide +kernel))) (by decide +kernel)
theorem im_yX9_numberAfter : Cond.instanceMethod yX9_numberAfter ∈ BIG := bw (bt_7 _ (List.mem_of_getElem? (i := 28) (by decide +kernel))) (by decide +kernel)
theorem cd_yX9_numberAfter : Cond.code yX9_numberAfter cX9_numberAfter 4 (some Jvm.ClassFile.FieldType.int) ∈ BIG := bw (bt_7 _ (List.mem_of_getElem? (i := 29) rfl)) rfl
theorem ml_X9_225 : Cond.methodLink RX9 225 yX9_takeWord ∈ BIG := bw (bt_7 _ (List.mem_of_getElem? (i := 30) (by decide +kernel))) (by decide +kernel)
theorem im_yX9_takeWord : Cond.instanceMethod yX9_takeWord ∈ BIG := bw (bt_7 _ (List.mem_of_getElem? (i := 32) (by decide +kernel))) (by decide +kernel)
theorem cd_yX9_takeWord : Cond.code yX9_takeWord cX9_takeWord 2 none ∈ BIG := bw (bt_7 _ (List.mem_of_getElem? (i := 33) rfl)) rfl
theorem ml_X9_229 : Cond.methodLink RX9 229 yX9_number ∈ BIG := bw (bt_7 _ (List.mem_of_getElem? (i := 34) (by decide +kernel))) (by decide +kernel)
theorem im_yX9_number : Cond.instanceMethod yX9_number ∈ BIG := bw (bt_7 _ (List.mem_of_getElem? (i := 36) (by decide +kernel))) (by decide +kernel)
theorem cd_yX9_number : Cond.code yX9_number cX9_number 4 (some Jvm.ClassFile.FieldType.int) ∈ BIG := bw (bt_7 _ (List.mem_of_getElem? (i := 37) rfl)) rfl
theorem ml_X9_215 : Cond.methodLink RX9 215 yX9_numberHere ∈ BIG := bw (bt_7 _ (List.mem_of_getElem? (i := 38) (by decide +kernel))) (by decide +kernel)
theorem im_yX9_numberHere : Cond.instanceMethod yX9_numberHere ∈ BIG := bw (bt_7 _ (List.mem_of_getElem? (i := 40) (by decide +kernel))) (by decide +kernel)
theorem cd_yX9_numberHere : Cond.code yX9_numberHere cX9_numberHere 3 (some Jvm.ClassFile.FieldType.int) ∈ BIG := bw (bt_7 _ (List.mem_of_getElem? (i := 41) rfl)) rfl
theorem co_X9_244 : Cond.constant RX9 244 (99999) ∈ BIG := bw (bt_7 _ (List.mem_of_getElem? (i := 43) (by decide +kernel))) (by decide +kernel)
theorem ml_X9_247 : Cond.methodLink RX9 247 yX9_numberIf ∈ BIG := bw (bt_7 _ (List.mem_of_getElem? (i := 45) (by decide +kernel))) (by decide +kernel)
theorem im_yX9_numberIf : Cond.instanceMethod yX9_numberIf ∈ BIG := bw (bt_7 _ (List.mem_of_getElem? (i := 47) (by decide +kernel))) (by decide +kernel)
theorem cd_yX9_numberIf : Cond.code yX9_numberIf cX9_numberIf 2 (some Jvm.ClassFile.FieldType.int) ∈ BIG := bw (bt_7 _ (List.mem_of_getElem? (i := 48) rfl)) rfl
theorem ml_X9_255 : Cond.methodLink RX9 255 yX9_semicolon ∈ BIG := bw (bt_7 _ (List.mem_of_getElem? (i := 51) (by decide +kernel))) (by decide +kernel)
theorem im_yX9_semicolon : Cond.instanceMethod yX9_semicolon ∈ BIG := bw (bt_7 _ (List.mem_of_getElem? (i := 53) (by decide +kernel))) (by decide +kernel)
theorem cd_yX9_semicolon : Cond.code yX9_semicolon cX9_semicolon 1 none ∈ BIG := bw (bt_7 _ (List.mem_of_getElem? (i := 54) rfl)) rfl
theorem ml_X9_281 : Cond.methodLink RX9 281 yX9_parseExtra ∈ BIG := bw (bt_7 _ (List.mem_of_getElem? (i := 56) (by decide +kernel))) (by decide +kernel)
theorem im_yX9_parseExtra : Cond.instanceMethod yX9_parseExtra ∈ BIG := bw (bt_7 _ (List.mem_of_getElem? (i := 58) (by decide +kernel))) (by decide +kernel)
theorem cd_yX9_parseExtra : Cond.code yX9_parseExtra cX9_parseExtra 1 none ∈ BIG := bw (bt_7 _ (List.mem_of_getElem? (i := 59) rfl)) rfl
theorem ml_X9_286 : Cond.methodLink RX9 286 yX9_parseSession ∈ BIG := bw (bt_7 _ (List.mem_of_getElem? (i := 61) (by decide +kernel))) (by decide +kernel)
theorem im_yX9_parseSession : Cond.instanceMethod yX9_parseSession ∈ BIG := bw (bt_7 _ (List.mem_of_getElem? (i := 63) (by decide +kernel))) (by decide +kernel)
theorem cd_yX9_parseSession : Cond.code yX9_parseSession cX9_parseSession 1 none ∈ BIG := bw (bt_7 _ (List.mem_of_getElem? (i := 64) rfl)) rfl
theorem ml_X9_290 : Cond.methodLink RX9 290 yX9_parseHand ∈ BIG := bw (bt_7 _ (List.mem_of_getElem? (i := 66) (by decide +kernel))) (by decide +kernel)
theorem im_yX9_parseHand : Cond.instanceMethod yX9_parseHand ∈ BIG := bw (bt_7 _ (List.mem_of_getElem? (i := 68) (by decide +kernel))) (by decide +kernel)
theorem cd_yX9_parseHand : Cond.code yX9_parseHand cX9_parseHand 1 none ∈ BIG := bw (bt_7 _ (List.mem_of_getElem? (i := 69) rfl)) rfl
theorem ml_X9_295 : Cond.methodLink RX9 295 yX9_parseClaims ∈ BIG := bw (bt_7 _ (List.mem_of_getElem? (i := 73) (by decide +kernel))) (by decide +kernel)
theorem im_yX9_parseClaims : Cond.instanceMethod yX9_parseClaims ∈ BIG := bw (bt_7 _ (List.mem_of_getElem? (i := 75) (by decide +kernel))) (by decide +kernel)
theorem cd_yX9_parseClaims : Cond.code yX9_parseClaims cX9_parseClaims 1 none ∈ BIG := bw (bt_7 _ (List.mem_of_getElem? (i := 76) rfl)) rfl
theorem ml_X9_301 : Cond.methodLink RX9 301 yX9_setSides ∈ BIG := bw (bt_7 _ (List.mem_of_getElem? (i := 77) (by decide +kernel))) (by decide +kernel)
theorem im_yX9_setSides : Cond.instanceMethod yX9_setSides ∈ BIG := bw (bt_7 _ (List.mem_of_getElem? (i := 79) (by decide +kernel))) (by decide +kernel)
theorem cd_yX9_setSides : Cond.code yX9_setSides cX9_setSides 2 none ∈ BIG := bw (bt_7 _ (List.mem_of_getElem? (i := 80) rfl)) rfl
theorem ml_X9_304 : Cond.methodLink RX9 304 yX9_remember ∈ BIG := bw (bt_7 _ (List.mem_of_getElem? (i := 81) (by decide +kernel))) (by decide +kernel)
theorem im_yX9_remember : Cond.instanceMethod yX9_remember ∈ BIG := bw (bt_7 _ (List.mem_of_getElem? (i := 83) (by decide +kernel))) (by decide +kernel)
theorem cd_yX9_remember : Cond.code yX9_remember cX9_remember 2 none ∈ BIG := bw (bt_7 _ (List.mem_of_getElem? (i := 84) rfl)) rfl
theorem ml_L_176 : Cond.methodLink RL 176 yX9_errorCode ∈ BIG := bw (bt_7 _ (List.mem_of_getElem? (i := 85) (by decide +kernel))) (by decide +kernel)
theorem im_yX9_errorCode : Cond.instanceMethod yX9_errorCode ∈ BIG := bw (bt_7 _ (List.mem_of_getElem? (i := 86) (by decide +kernel))) (by decide +kernel)
theorem se_yX9_errorCode : Cond.selects RX9 yX9_errorCode yX9_errorCode ∈ BIG := bw (bt_7 _ (List.mem_of_getElem? (i := 87) (by decide +kernel))) (by decide +kernel)
theorem cd_yX9_errorCode : Cond.code yX9_errorCode cX9_errorCode 1 (some Jvm.ClassFile.FieldType.int) ∈ BIG := bw (bt_7 _ (List.mem_of_getElem? (i := 88) rfl)) rfl
theorem ml_L_180 : Cond.methodLink RL 180 yX9_errorPosition ∈ BIG := bw (bt_7 _ (List.mem_of_getElem? (i := 89) (by decide +kernel))) (by decide +kernel)
theorem im_yX9_errorPosition : Cond.instanceMethod yX9_errorPosition ∈ BIG := bw (bt_7 _ (List.mem_of_getElem? (i := 90) (by decide +kernel))) (by decide +kernel)
theorem se_yX9_errorPosition : Cond.selects RX9 yX9_errorPosition yX9_errorPosition ∈ BIG := bw (bt_7 _ (List.mem_of_getElem? (i := 91) (by decide +kernel))) (by decide +kernel)
theorem cd_yX9_errorPosition : Cond.code yX9_errorPosition cX9_errorPosition 1 (some Jvm.ClassFile.FieldType.int) ∈ BIG := bw (bt_7 _ (List.mem_of_getElem? (i := 92) rfl)) rfl
theorem ml_L_184 : Cond.methodLink RL 184 yX9_property ∈ BIG := bw (bt_7 _ (List.mem_of_getElem? (i := 93) (by decide +kernel))) (by decide +kernel)
theorem im_yX9_property : Cond.instanceMethod yX9_property ∈ BIG := bw (bt_7 _ (List.mem_of_getElem? (i := 94) (by decide +kernel))) (by decide +kernel)
theorem se_yX9_property : Cond.selects RX9 yX9_property yX9_property ∈ BIG := bw (bt_7 _ (List.mem_of_getElem? (i := 95) (by decide +kernel))) (by decide +kernel)
theorem cd_yX9_property : Cond.code yX9_property cX9_property 2 (some Jvm.ClassFile.FieldType.int) ∈ BIG := bw (bt_7 _ (List.mem_of_getElem? (i := 96) rfl)) rfl
theorem cj_X9_307 : Cond.constantLong RX9 307 (11) ∈ BIG := bw (bt_7 _ (List.mem_of_getElem? (i := 97) (by decide +kernel))) (by decide +kernel)
theorem ml_X9_80 : Cond.methodLink RX9 80 yX9_mover ∈ BIG := bw (bt_7 _ (List.mem_of_getElem? (i := 98) (by decide +kernel))) (by decide +kernel)
theorem im_yX9_mover : Cond.instanceMethod yX9_mover ∈ BIG := bw (bt_7 _ (List.mem_of_getElem? (i := 100) (by decide +kernel))) (by decide +kernel)
theorem cd_yX9_mover : Cond.code yX9_mover cX9_mover 1 (some Jvm.ClassFile.FieldType.int) ∈ BIG := bw (bt_7 _ (List.mem_of_getElem? (i := 101) rfl)) rfl
theorem ml_L_188 : Cond.methodLink RL 188 yX9_period ∈ BIG := bw (bt_7 _ (List.mem_of_getElem? (i := 102) (by decide +kernel))) (by decide +kernel)
theorem im_yX9_period : Cond.instanceMethod yX9_period ∈ BIG := bw (bt_7 _ (List.mem_of_getElem? (i := 103) (by decide +kernel))) (by decide +kernel)
theorem se_yX9_period : Cond.selects RX9 yX9_period yX9_period ∈ BIG := bw (bt_7 _ (List.mem_of_getElem? (i := 104) (by decide +kernel))) (by decide +kernel)
theorem cd_yX9_period : Cond.code yX9_period cX9_period 3 (some Jvm.ClassFile.FieldType.int) ∈ BIG := bw (bt_7 _ (List.mem_of_getElem? (i := 105) rfl)) rfl
theorem ml_X9_309 : Cond.methodLink RX9 309 yX9_isPeriod ∈ BIG := bw (bt_7 _ (List.mem_of_getElem? (i := 106) (by decide +kernel))) (by decide +kernel)
theorem im_yX9_isPeriod : Cond.instanceMethod yX9_isPeriod ∈ BIG := bw (bt_7 _ (List.mem_of_getElem? (i := 108) (by decide +kernel))) (by decide +kernel)
theorem cd_yX9_isPeriod : Cond.code yX9_isPeriod cX9_isPeriod 2 (some Jvm.ClassFile.FieldType.boolean) ∈ BIG := bw (bt_7 _ (List.mem_of_getElem? (i := 109) rfl)) rfl
theorem cj_X9_312 : Cond.constantLong RX9 312 (4) ∈ BIG := bw (bt_7 _ (List.mem_of_getElem? (i := 110) (by decide +kernel))) (by decide +kernel)
theorem ml_X9_314 : Cond.methodLink RX9 314 yX9_passes2 ∈ BIG := bw (bt_7 _ (List.mem_of_getElem? (i := 111) (by decide +kernel))) (by decide +kernel)
theorem im_yX9_passes2 : Cond.instanceMethod yX9_passes2 ∈ BIG := bw (bt_7 _ (List.mem_of_getElem? (i := 113) (by decide +kernel))) (by decide +kernel)
theorem cd_yX9_passes2 : Cond.code yX9_passes2 cX9_passes2 3 (some Jvm.ClassFile.FieldType.boolean) ∈ BIG := bw (bt_7 _ (List.mem_of_getElem? (i := 114) rfl)) rfl
theorem ml_L_191 : Cond.methodLink RL 191 yX9_side ∈ BIG := bw (bt_7 _ (List.mem_of_getElem? (i := 115) (by decide +kernel))) (by decide +kernel)
theorem im_yX9_side : Cond.instanceMethod yX9_side ∈ BIG := bw (bt_7 _ (List.mem_of_getElem? (i := 116) (by decide +kernel))) (by decide +kernel)
theorem se_yX9_side : Cond.selects RX9 yX9_side yX9_side ∈ BIG := bw (bt_7 _ (List.mem_of_getElem? (i := 117) (by decide +kernel))) (by decide +kernel)
theorem cd_yX9_side : Cond.code yX9_side cX9_side 3 (some Jvm.ClassFile.FieldType.int) ∈ BIG := bw (bt_7 _ (List.mem_of_getElem? (i := 118) rfl)) rfl
theorem ml_X9_318 : Cond.methodLink RX9 318 yX9_isSide ∈ BIG := bw (bt_7 _ (List.mem_of_getElem? (i := 119) (by decide +kernel))) (by decide +kernel)
theorem st_yX9_isSide : Cond.static yX9_isSide ∈ BIG := bw (bt_7 _ (List.mem_of_getElem? (i := 120) (by decide +kernel))) (by decide +kernel)
theorem cd_yX9_isSide : Cond.code yX9_isSide cX9_isSide 1 (some Jvm.ClassFile.FieldType.boolean) ∈ BIG := bw (bt_7 _ (List.mem_of_getElem? (i := 121) rfl)) rfl
theorem ml_X9_57 : Cond.methodLink RX9 57 yX9_of ∈ BIG := bw (bt_7 _ (List.mem_of_getElem? (i := 122) (by decide +kernel))) (by decide +kernel)
theorem im_yX9_of : Cond.instanceMethod yX9_of ∈ BIG := bw (bt_7 _ (List.mem_of_getElem? (i := 124) (by decide +kernel))) (by decide +kernel)
theorem cd_yX9_of : Cond.code yX9_of cX9_of 3 (some Jvm.ClassFile.FieldType.int) ∈ BIG := bw (bt_7 _ (List.mem_of_getElem? (i := 125) rfl)) rfl
theorem ml_X9_321 : Cond.methodLink RX9 321 yX9_movesLeft ∈ BIG := bw (bt_7 _ (List.mem_of_getElem? (i := 126) (by decide +kernel))) (by decide +kernel)
theorem im_yX9_movesLeft : Cond.instanceMethod yX9_movesLeft ∈ BIG := bw (bt_7 _ (List.mem_of_getElem? (i := 128) (by decide +kernel))) (by decide +kernel)
theorem cd_yX9_movesLeft : Cond.code yX9_movesLeft cX9_movesLeft 2 (some Jvm.ClassFile.FieldType.int) ∈ BIG := bw (bt_7 _ (List.mem_of_getElem? (i := 129) rfl)) rfl
theorem ml_X9_87 : Cond.methodLink RX9 87 yX9_its ∈ BIG := bw (bt_7 _ (List.mem_of_getElem? (i := 130) (by decide +kernel))) (by decide +kernel)
theorem im_yX9_its : Cond.instanceMethod yX9_its ∈ BIG := bw (bt_7 _ (List.mem_of_getElem? (i := 132) (by decide +kernel))) (by decide +kernel)
theorem cd_yX9_its : Cond.code yX9_its cX9_its 3 (some Jvm.ClassFile.FieldType.int) ∈ BIG := bw (bt_7 _ (List.mem_of_getElem? (i := 133) rfl)) rfl
theorem ml_L_194 : Cond.methodLink RL 194 yX9_logged ∈ BIG := bw (bt_7 _ (List.mem_of_getElem? (i := 134) (by decide +kernel))) (by decide +kernel)
theorem im_yX9_logged : Cond.instanceMethod yX9_logged ∈ BIG := bw (bt_7 _ (List.mem_of_getElem? (i := 135) (by decide +kernel))) (by decide +kernel)
theorem se_yX9_logged : Cond.selects RX9 yX9_logged yX9_logged ∈ BIG := bw (bt_7 _ (List.mem_of_getElem? (i := 136) (by decide +kernel))) (by decide +kernel)
theorem cd_yX9_logged : Cond.code yX9_logged cX9_logged 3 (some Jvm.ClassFile.FieldType.int) ∈ BIG := bw (bt_7 _ (List.mem_of_getElem? (i := 137) rfl)) rfl
theorem ml_X9_324 : Cond.methodLink RX9 324 yX9_logMany ∈ BIG := bw (bt_7 _ (List.mem_of_getElem? (i := 138) (by decide +kernel))) (by decide +kernel)
theorem im_yX9_logMany : Cond.instanceMethod yX9_logMany ∈ BIG := bw (bt_7 _ (List.mem_of_getElem? (i := 140) (by decide +kernel))) (by decide +kernel)
theorem cd_yX9_logMany : Cond.code yX9_logMany cX9_logMany 1 (some Jvm.ClassFile.FieldType.int) ∈ BIG := bw (bt_7 _ (List.mem_of_getElem? (i := 141) rfl)) rfl
theorem cj_X9_327 : Cond.constantLong RX9 327 (5) ∈ BIG := bw (bt_7 _ (List.mem_of_getElem? (i := 142) (by decide +kernel))) (by decide +kernel)
theorem ml_X9_329 : Cond.methodLink RX9 329 yX9_ofLog ∈ BIG := bw (bt_7 _ (List.mem_of_getElem? (i := 143) (by decide +kernel))) (by decide +kernel)
theorem im_yX9_ofLog : Cond.instanceMethod yX9_ofLog ∈ BIG := bw (bt_7 _ (List.mem_of_getElem? (i := 145) (by decide +kernel))) (by decide +kernel)
theorem cd_yX9_ofLog : Cond.code yX9_ofLog cX9_ofLog 3 (some Jvm.ClassFile.FieldType.int) ∈ BIG := bw (bt_7 _ (List.mem_of_getElem? (i := 146) rfl)) rfl
theorem ml_L_197 : Cond.methodLink RL 197 yX9_flagIn ∈ BIG := bw (bt_7 _ (List.mem_of_getElem? (i := 147) (by decide +kernel))) (by decide +kernel)
theorem im_yX9_flagIn : Cond.instanceMethod yX9_flagIn ∈ BIG := bw (bt_7 _ (List.mem_of_getElem? (i := 148) (by decide +kernel))) (by decide +kernel)
theorem se_yX9_flagIn : Cond.selects RX9 yX9_flagIn yX9_flagIn ∈ BIG := bw (bt_7 _ (List.mem_of_getElem? (i := 149) (by decide +kernel))) (by decide +kernel)
theorem cd_yX9_flagIn : Cond.code yX9_flagIn cX9_flagIn 2 (some Jvm.ClassFile.FieldType.int) ∈ BIG := bw (bt_7 _ (List.mem_of_getElem? (i := 150) rfl)) rfl
theorem ml_X9_96 : Cond.methodLink RX9 96 yX9_fell ∈ BIG := bw (bt_7 _ (List.mem_of_getElem? (i := 151) (by decide +kernel))) (by decide +kernel)
theorem im_yX9_fell : Cond.instanceMethod yX9_fell ∈ BIG := bw (bt_7 _ (List.mem_of_getElem? (i := 153) (by decide +kernel))) (by decide +kernel)
theorem cd_yX9_fell : Cond.code yX9_fell cX9_fell 2 (some Jvm.ClassFile.FieldType.boolean) ∈ BIG := bw (bt_7 _ (List.mem_of_getElem? (i := 154) rfl)) rfl
theorem ml_X9_332 : Cond.methodLink RX9 332 yX9_runsFor ∈ BIG := bw (bt_7 _ (List.mem_of_getElem? (i := 155) (by decide +kernel))) (by decide +kernel)
theorem im_yX9_runsFor : Cond.instanceMethod yX9_runsFor ∈ BIG := bw (bt_7 _ (List.mem_of_getElem? (i := 157) (by decide +kernel))) (by decide +kernel)
theorem cd_yX9_runsFor : Cond.code yX9_runsFor cX9_runsFor 3 (some Jvm.ClassFile.FieldType.int) ∈ BIG := bw (bt_7 _ (List.mem_of_getElem? (i := 158) rfl)) rfl
theorem ml_X9_117 : Cond.methodLink RX9 117 yX9_delayOf ∈ BIG := bw (bt_7 _ (List.mem_of_getElem? (i := 159) (by decide +kernel))) (by decide +kernel)
theorem im_yX9_delayOf : Cond.instanceMethod yX9_delayOf ∈ BIG := bw (bt_7 _ (List.mem_of_getElem? (i := 161) (by decide +kernel))) (by decide +kernel)
theorem cd_yX9_delayOf : Cond.code yX9_delayOf cX9_delayOf 2 (some Jvm.ClassFile.FieldType.int) ∈ BIG := bw (bt_7 _ (List.mem_of_getElem? (i := 162) rfl)) rfl
theorem ml_L_200 : Cond.methodLink RL 200 yX9_delayLeft ∈ BIG := bw (bt_7 _ (List.mem_of_getElem? (i := 163) (by decide +kernel))) (by decide +kernel)
theorem im_yX9_delayLeft : Cond.instanceMethod yX9_delayLeft ∈ BIG := bw (bt_7 _ (List.mem_of_getElem? (i := 164) (by decide +kernel))) (by decide +kernel)
theorem se_yX9_delayLeft : Cond.selects RX9 yX9_delayLeft yX9_delayLeft ∈ BIG := bw (bt_7 _ (List.mem_of_getElem? (i := 165) (by decide +kernel))) (by decide +kernel)
theorem cd_yX9_delayLeft : Cond.code yX9_delayLeft cX9_delayLeft 2 (some Jvm.ClassFile.FieldType.int) ∈ BIG := bw (bt_7 _ (List.mem_of_getElem? (i := 166) rfl)) rfl
theorem ml_L_203 : Cond.methodLink RL 203 yX9_shown ∈ BIG := bw (bt_7 _ (List.mem_of_getElem? (i := 167) (by decide +kernel))) (by decide +kernel)
theorem im_yX9_shown : Cond.instanceMethod yX9_shown ∈ BIG := bw (bt_7 _ (List.mem_of_getElem? (i := 168) (by decide +kernel))) (by decide +kernel)
theorem se_yX9_shown : Cond.selects RX9 yX9_shown yX9_shown ∈ BIG := bw (bt_7 _ (List.mem_of_getElem? (i := 169) (by decide +kernel))) (by decide +kernel)
theorem cd_yX9_shown : Cond.code yX9_shown cX9_shown 3 (some Jvm.ClassFile.FieldType.int) ∈ BIG := bw (bt_7 _ (List.mem_of_getElem? (i := 170) rfl)) rfl
theorem ml_X9_335 : Cond.methodLink RX9 335 yX9_secondsOf ∈ BIG := bw (bt_7 _ (List.mem_of_getElem? (i := 171) (by decide +kernel))) (by decide +kernel)
theorem im_yX9_secondsOf : Cond.instanceMethod yX9_secondsOf ∈ BIG := bw (bt_7 _ (List.mem_of_getElem? (i := 173) (by decide +kernel))) (by decide +kernel)
theorem cd_yX9_secondsOf : Cond.code yX9_secondsOf cX9_secondsOf 2 (some Jvm.ClassFile.FieldType.int) ∈ BIG := bw (bt_7 _ (List.mem_of_getElem? (i := 174) rfl)) rfl
theorem ml_L_206 : Cond.methodLink RL 206 yX9_pace ∈ BIG := bw (bt_7 _ (List.mem_of_getElem? (i := 175) (by decide +kernel))) (by decide +kernel)
theorem im_yX9_pace : Cond.instanceMethod yX9_pace ∈ BIG := bw (bt_7 _ (List.mem_of_getElem? (i := 176) (by decide +kernel))) (by decide +kernel)
theorem se_yX9_pace : Cond.selects RX9 yX9_pace yX9_pace ∈ BIG := bw (bt_7 _ (List.mem_of_getElem? (i := 177) (by decide +kernel))) (by decide +kernel)
theorem cd_yX9_pace : Cond.code yX9_pace cX9_pace 2 (some Jvm.ClassFile.FieldType.int) ∈ BIG := bw (bt_7 _ (List.mem_of_getElem? (i := 178) rfl)) rfl
theorem ml_X9_338 : Cond.methodLink RX9 338 yX9_greatestPace ∈ BIG := bw (bt_7 _ (List.mem_of_getElem? (i := 179) (by decide +kernel))) (by decide +kernel)
theorem im_yX9_greatestPace : Cond.instanceMethod yX9_greatestPace ∈ BIG := bw (bt_7 _ (List.mem_of_getElem? (i := 181) (by decide +kernel))) (by decide +kernel)
theorem cd_yX9_greatestPace : Cond.code yX9_greatestPace cX9_greatestPace 4 (some Jvm.ClassFile.FieldType.int) ∈ BIG := bw (bt_7 _ (List.mem_of_getElem? (i := 182) rfl)) rfl
theorem ml_X9_139 : Cond.methodLink RX9 139 yX9_movesAt ∈ BIG := bw (bt_7 _ (List.mem_of_getElem? (i := 183) (by decide +kernel))) (by decide +kernel)
theorem im_yX9_movesAt : Cond.instanceMethod yX9_movesAt ∈ BIG := bw (bt_7 _ (List.mem_of_getElem? (i := 185) (by decide +kernel))) (by decide +kernel)
theorem cd_yX9_movesAt : Cond.code yX9_movesAt cX9_movesAt 6 (some Jvm.ClassFile.FieldType.int) ∈ BIG := bw (bt_7 _ (List.mem_of_getElem? (i := 186) rfl)) rfl
theorem ml_X9_136 : Cond.methodLink RX9 136 yX9_walkOn ∈ BIG := bw (bt_7 _ (List.mem_of_getElem? (i := 187) (by decide +kernel))) (by decide +kernel)
theorem im_yX9_walkOn : Cond.instanceMethod yX9_walkOn ∈ BIG := bw (bt_7 _ (List.mem_of_getElem? (i := 189) (by decide +kernel))) (by decide +kernel)
theorem cd_yX9_walkOn : Cond.code yX9_walkOn cX9_walkOn 5 (some Jvm.ClassFile.FieldType.boolean) ∈ BIG := bw (bt_7 _ (List.mem_of_getElem? (i := 190) rfl)) rfl
theorem ml_L_268 : Cond.methodLink RL 268 yX9_paceFor ∈ BIG := bw (bt_7 _ (List.mem_of_getElem? (i := 191) (by decide +kernel))) (by decide +kernel)
theorem im_yX9_paceFor : Cond.instanceMethod yX9_paceFor ∈ BIG := bw (bt_7 _ (List.mem_of_getElem? (i := 192) (by decide +kernel))) (by decide +kernel)
theorem se_yX9_paceFor : Cond.selects RX9 yX9_paceFor yX9_paceFor ∈ BIG := bw (bt_7 _ (List.mem_of_getElem? (i := 193) (by decide +kernel))) (by decide +kernel)
theorem cd_yX9_paceFor : Cond.code yX9_paceFor cX9_paceFor 3 (some Jvm.ClassFile.FieldType.int) ∈ BIG := bw (bt_7 _ (List.mem_of_getElem? (i := 194) rfl)) rfl
theorem ml_X9_343 : Cond.methodLink RX9 343 yX9_areMoves ∈ BIG := bw (bt_7 _ (List.mem_of_getElem? (i := 195) (by decide +kernel))) (by decide +kernel)
theorem st_yX9_areMoves : Cond.static yX9_areMoves ∈ BIG := bw (bt_7 _ (List.mem_of_getElem? (i := 196) (by decide +kernel))) (by decide +kernel)
theorem cd_yX9_areMoves : Cond.code yX9_areMoves cX9_areMoves 1 (some Jvm.ClassFile.FieldType.boolean) ∈ BIG := bw (bt_7 _ (List.mem_of_getElem? (i := 197) rfl)) rfl
theorem cj_X9_341 : Cond.constantLong RX9 341 (200) ∈ BIG := bw (bt_7 _ (List.mem_of_getElem? (i := 198) (by decide +kernel))) (by decide +kernel)
theorem ml_L_271 : Cond.methodLink RL 271 yX9_needs ∈ BIG := bw (bt_7 _ (List.mem_of_getElem? (i := 199) (by decide +kernel))) (by decide +kernel)
theorem im_yX9_needs : Cond.instanceMethod yX9_needs ∈ BIG := bw (bt_7 _ (List.mem_of_getElem? (i := 200) (by decide +kernel))) (by decide +kernel)
theorem se_yX9_needs : Cond.selects RX9 yX9_needs yX9_needs ∈ BIG := bw (bt_7 _ (List.mem_of_getElem? (i := 201) (by decide +kernel))) (by decide +kernel)
theorem cd_yX9_needs : Cond.code yX9_needs cX9_needs 5 (some Jvm.ClassFile.FieldType.int) ∈ BIG := bw (bt_7 _ (List.mem_of_getElem? (i := 202) rfl)) rfl
theorem ml_X9_346 : Cond.methodLink RX9 346 yX9_isPace ∈ BIG := bw (bt_7 _ (List.mem_of_getElem? (i := 203) (by decide +kernel))) (by decide +kernel)
theorem st_yX9_isPace : Cond.static yX9_isPace ∈ BIG := bw (bt_7 _ (List.mem_of_getElem? (i := 204) (by decide +kernel))) (by decide +kernel)
theorem cd_yX9_isPace : Cond.code yX9_isPace cX9_isPace 1 (some Jvm.ClassFile.FieldType.boolean) ∈ BIG := bw (bt_7 _ (List.mem_of_getElem? (i := 205) rfl)) rfl
theorem cj_X9_349 : Cond.constantLong RX9 349 (9999) ∈ BIG := bw (bt_7 _ (List.mem_of_getElem? (i := 206) (by decide +kernel))) (by decide +kernel)
theorem ml_L_209 : Cond.methodLink RL 209 yX9_lasts ∈ BIG := bw (bt_7 _ (List.mem_of_getElem? (i := 207) (by decide +kernel))) (by decide +kernel)
theorem im_yX9_lasts : Cond.instanceMethod yX9_lasts ∈ BIG := bw (bt_7 _ (List.mem_of_getElem? (i := 208) (by decide +kernel))) (by decide +kernel)
theorem se_yX9_lasts : Cond.selects RX9 yX9_lasts yX9_lasts ∈ BIG := bw (bt_7 _ (List.mem_of_getElem? (i := 209) (by decide +kernel))) (by decide +kernel)
theorem cd_yX9_lasts : Cond.code yX9_lasts cX9_lasts 3 (some Jvm.ClassFile.FieldType.int) ∈ BIG := bw (bt_7 _ (List.mem_of_getElem? (i := 210) rfl)) rfl
theorem ml_L_213 : Cond.methodLink RL 213 yX9_ahead ∈ BIG := bw (bt_7 _ (List.mem_of_getElem? (i := 211) (by decide +kernel))) (by decide +kernel)
theorem im_yX9_ahead : Cond.instanceMethod yX9_ahead ∈ BIG := bw (bt_7 _ (List.mem_of_getElem? (i := 212) (by decide +kernel))) (by decide +kernel)
theorem se_yX9_ahead : Cond.selects RX9 yX9_ahead yX9_ahead ∈ BIG := bw (bt_7 _ (List.mem_of_getElem? (i := 213) (by decide +kernel))) (by decide +kernel)
theorem cd_yX9_ahead : Cond.code yX9_ahead cX9_ahead 1 (some Jvm.ClassFile.FieldType.int) ∈ BIG := bw (bt_7 _ (List.mem_of_getElem? (i := 214) rfl)) rfl
theorem ml_L_216 : Cond.methodLink RL 216 yX9_longest ∈ BIG := bw (bt_7 _ (List.mem_of_getElem? (i := 215) (by decide +kernel))) (by decide +kernel)
theorem im_yX9_longest : Cond.instanceMethod yX9_longest ∈ BIG := bw (bt_7 _ (List.mem_of_getElem? (i := 216) (by decide +kernel))) (by decide +kernel)
theorem se_yX9_longest : Cond.selects RX9 yX9_longest yX9_longest ∈ BIG := bw (bt_7 _ (List.mem_of_getElem? (i := 217) (by decide +kernel))) (by decide +kernel)
theorem cd_yX9_longest : Cond.code yX9_longest cX9_longest 4 (some Jvm.ClassFile.FieldType.int) ∈ BIG := bw (bt_7 _ (List.mem_of_getElem? (i := 218) rfl)) rfl
theorem ml_L_220 : Cond.methodLink RL 220 yX9_meanThink ∈ BIG := bw (bt_7 _ (List.mem_of_getElem? (i := 219) (by decide +kernel))) (by decide +kernel)
theorem im_yX9_meanThink : Cond.instanceMethod yX9_meanThink ∈ BIG := bw (bt_7 _ (List.mem_of_getElem? (i := 220) (by decide +kernel))) (by decide +kernel)
theorem se_yX9_meanThink : Cond.selects RX9 yX9_meanThink yX9_meanThink ∈ BIG := bw (bt_7 _ (List.mem_of_getElem? (i := 221) (by decide +kernel))) (by decide +kernel)
theorem cd_yX9_meanThink : Cond.code yX9_meanThink cX9_meanThink 4 (some Jvm.ClassFile.FieldType.double) ∈ BIG := bw (bt_7 _ (List.mem_of_getElem? (i := 222) rfl)) rfl
theorem ml_X9_351 : Cond.methodLink RX9 351 yX9_sumOf ∈ BIG := bw (bt_7 _ (List.mem_of_getElem? (i := 223) (by decide +kernel))) (by decide +kernel)
theorem im_yX9_sumOf : Cond.instanceMethod yX9_sumOf ∈ BIG := bw (bt_7 _ (List.mem_of_getElem? (i := 225) (by decide +kernel))) (by decide +kernel)
theorem cd_yX9_sumOf : Cond.code yX9_sumOf cX9_sumOf 5 (some Jvm.ClassFile.FieldType.int) ∈ BIG := bw (bt_7 _ (List.mem_of_getElem? (i := 226) rfl)) rfl
theorem ml_L_223 : Cond.methodLink RL 223 yX9_share ∈ BIG := bw (bt_7 _ (List.mem_of_getElem? (i := 227) (by decide +kernel))) (by decide +kernel)
theorem im_yX9_share : Cond.instanceMethod yX9_share ∈ BIG := bw (bt_7 _ (List.mem_of_getElem? (i := 228) (by decide +kernel))) (by decide +kernel)
theorem se_yX9_share : Cond.selects RX9 yX9_share yX9_share ∈ BIG := bw (bt_7 _ (List.mem_of_getElem? (i := 229) (by decide +kernel))) (by decide +kernel)
theorem cd_yX9_share : Cond.code yX9_share cX9_share 2 (some Jvm.ClassFile.FieldType.float) ∈ BIG := bw (bt_7 _ (List.mem_of_getElem? (i := 230) rfl)) rfl
theorem ml_L_258 : Cond.methodLink RL 258 yX9_spent ∈ BIG := bw (bt_7 _ (List.mem_of_getElem? (i := 231) (by decide +kernel))) (by decide +kernel)
theorem im_yX9_spent : Cond.instanceMethod yX9_spent ∈ BIG := bw (bt_7 _ (List.mem_of_getElem? (i := 232) (by decide +kernel))) (by decide +kernel)
theorem se_yX9_spent : Cond.selects RX9 yX9_spent yX9_spent ∈ BIG := bw (bt_7 _ (List.mem_of_getElem? (i := 233) (by decide +kernel))) (by decide +kernel)
theorem cd_yX9_spent : Cond.code yX9_spent cX9_spent 3 (some Jvm.ClassFile.FieldType.int) ∈ BIG := bw (bt_7 _ (List.mem_of_getElem? (i := 234) rfl)) rfl
theorem ml_L_262 : Cond.methodLink RL 262 yX9_slowest ∈ BIG := bw (bt_7 _ (List.mem_of_getElem? (i := 235) (by decide +kernel))) (by decide +kernel)
theorem im_yX9_slowest : Cond.instanceMethod yX9_slowest ∈ BIG := bw (bt_7 _ (List.mem_of_getElem? (i := 236) (by decide +kernel))) (by decide +kernel)
theorem se_yX9_slowest : Cond.selects RX9 yX9_slowest yX9_slowest ∈ BIG := bw (bt_7 _ (List.mem_of_getElem? (i := 237) (by decide +kernel))) (by decide +kernel)
theorem cd_yX9_slowest : Cond.code yX9_slowest cX9_slowest 3 (some Jvm.ClassFile.FieldType.int) ∈ BIG := bw (bt_7 _ (List.mem_of_getElem? (i := 238) rfl)) rfl
theorem ml_L_265 : Cond.methodLink RL 265 yX9_within ∈ BIG := bw (bt_7 _ (List.mem_of_getElem? (i := 239) (by decide +kernel))) (by decide +kernel)
theorem im_yX9_within : Cond.instanceMethod yX9_within ∈ BIG := bw (bt_8 _ (List.mem_of_getElem? (i := 0) (by decide +kernel))) (by decide +kernel)
theorem se_yX9_within : Cond.selects RX9 yX9_within yX9_within ∈ BIG := bw (bt_8 _ (List.mem_of_getElem? (i := 1) (by decide +kernel))) (by decide +kernel)
theorem cd_yX9_within : Cond.code yX9_within cX9_within 5 (some Jvm.ClassFile.FieldType.int) ∈ BIG := bw (bt_8 _ (List.mem_of_getElem? (i := 2) rfl)) rfl
theorem ml_L_252 : Cond.methodLink RL 252 yX9_gained ∈ BIG := bw (bt_8 _ (List.mem_of_getElem? (i := 3) (by decide +kernel))) (by decide +kernel)
theorem im_yX9_gained : Cond.instanceMethod yX9_gained ∈ BIG := bw (bt_8 _ (List.mem_of_getElem? (i := 4) (by decide +kernel))) (by decide +kernel)
theorem se_yX9_gained : Cond.selects RX9 yX9_gained yX9_gained ∈ BIG := bw (bt_8 _ (List.mem_of_getElem? (i := 5) (by decide +kernel))) (by decide +kernel)
theorem cd_yX9_gained : Cond.code yX9_gained cX9_gained 2 (some Jvm.ClassFile.FieldType.int) ∈ BIG := bw (bt_8 _ (List.mem_of_getElem? (i := 6) rfl)) rfl
theorem ml_L_255 : Cond.methodLink RL 255 yX9_finished ∈ BIG := bw (bt_8 _ (List.mem_of_getElem? (i := 7) (by decide +kernel))) (by decide +kernel)
theorem im_yX9_finished : Cond.instanceMethod yX9_finished ∈ BIG := bw (bt_8 _ (List.mem_of_getElem? (i := 8) (by decide +kernel))) (by decide +kernel)
theorem se_yX9_finished : Cond.selects RX9 yX9_finished yX9_finished ∈ BIG := bw (bt_8 _ (List.mem_of_getElem? (i := 9) (by decide +kernel))) (by decide +kernel)
theorem cd_yX9_finished : Cond.code yX9_finished cX9_finished 2 (some Jvm.ClassFile.FieldType.int) ∈ BIG := bw (bt_8 _ (List.mem_of_getElem? (i := 10) rfl)) rfl
theorem ml_L_226 : Cond.methodLink RL 226 yX9_leftIn ∈ BIG := bw (bt_8 _ (List.mem_of_getElem? (i := 11) (by decide +kernel))) (by decide +kernel)
theorem im_yX9_leftIn : Cond.instanceMethod yX9_leftIn ∈ BIG := bw (bt_8 _ (List.mem_of_getElem? (i := 12) (by decide +kernel))) (by decide +kernel)
theorem se_yX9_leftIn : Cond.selects RX9 yX9_leftIn yX9_leftIn ∈ BIG := bw (bt_8 _ (List.mem_of_getElem? (i := 13) (by decide +kernel))) (by decide +kernel)
theorem cd_yX9_leftIn : Cond.code yX9_leftIn cX9_leftIn 3 (some Jvm.ClassFile.FieldType.int) ∈ BIG := bw (bt_8 _ (List.mem_of_getElem? (i := 14) rfl)) rfl
theorem ml_X9_354 : Cond.methodLink RX9 354 yX9_keepAside ∈ BIG := bw (bt_8 _ (List.mem_of_getElem? (i := 15) (by decide +kernel))) (by decide +kernel)
theorem im_yX9_keepAside : Cond.instanceMethod yX9_keepAside ∈ BIG := bw (bt_8 _ (List.mem_of_getElem? (i := 17) (by decide +kernel))) (by decide +kernel)
theorem cd_yX9_keepAside : Cond.code yX9_keepAside cX9_keepAside 2 none ∈ BIG := bw (bt_8 _ (List.mem_of_getElem? (i := 18) rfl)) rfl
theorem ml_X9_150 : Cond.methodLink RX9 150 yX9_ticks ∈ BIG := bw (bt_8 _ (List.mem_of_getElem? (i := 19) (by decide +kernel))) (by decide +kernel)
theorem im_yX9_ticks : Cond.instanceMethod yX9_ticks ∈ BIG := bw (bt_8 _ (List.mem_of_getElem? (i := 21) (by decide +kernel))) (by decide +kernel)
theorem cd_yX9_ticks : Cond.code yX9_ticks cX9_ticks 3 none ∈ BIG := bw (bt_8 _ (List.mem_of_getElem? (i := 22) rfl)) rfl
theorem ml_X9_76 : Cond.methodLink RX9 76 yX9_isState ∈ BIG := bw (bt_8 _ (List.mem_of_getElem? (i := 23) (by decide +kernel))) (by decide +kernel)
theorem im_yX9_isState : Cond.instanceMethod yX9_isState ∈ BIG := bw (bt_8 _ (List.mem_of_getElem? (i := 25) (by decide +kernel))) (by decide +kernel)
theorem cd_yX9_isState : Cond.code yX9_isState cX9_isState 2 (some Jvm.ClassFile.FieldType.boolean) ∈ BIG := bw (bt_8 _ (List.mem_of_getElem? (i := 26) rfl)) rfl
theorem ml_X9_93 : Cond.methodLink RX9 93 yX9_tickOnce ∈ BIG := bw (bt_8 _ (List.mem_of_getElem? (i := 27) (by decide +kernel))) (by decide +kernel)
theorem im_yX9_tickOnce : Cond.instanceMethod yX9_tickOnce ∈ BIG := bw (bt_8 _ (List.mem_of_getElem? (i := 29) (by decide +kernel))) (by decide +kernel)
theorem cd_yX9_tickOnce : Cond.code yX9_tickOnce cX9_tickOnce 2 none ∈ BIG := bw (bt_8 _ (List.mem_of_getElem? (i := 30) rfl)) rfl
theorem ml_X9_84 : Cond.methodLink RX9 84 yX9_add ∈ BIG := bw (bt_8 _ (List.mem_of_getElem? (i := 31) (by decide +kernel))) (by decide +kernel)
theorem im_yX9_add : Cond.instanceMethod yX9_add ∈ BIG := bw (bt_8 _ (List.mem_of_getElem? (i := 33) (by decide +kernel))) (by decide +kernel)
theorem cd_yX9_add : Cond.code yX9_add cX9_add 4 none ∈ BIG := bw (bt_8 _ (List.mem_of_getElem? (i := 34) rfl)) rfl
theorem ml_X9_90 : Cond.methodLink RX9 90 yX9_fall ∈ BIG := bw (bt_8 _ (List.mem_of_getElem? (i := 35) (by decide +kernel))) (by decide +kernel)
theorem im_yX9_fall : Cond.instanceMethod yX9_fall ∈ BIG := bw (bt_8 _ (List.mem_of_getElem? (i := 37) (by decide +kernel))) (by decide +kernel)
theorem cd_yX9_fall : Cond.code yX9_fall cX9_fall 2 none ∈ BIG := bw (bt_8 _ (List.mem_of_getElem? (i := 38) rfl)) rfl
theorem ml_X9_68 : Cond.methodLink RX9 68 yX9_wonBy ∈ BIG := bw (bt_8 _ (List.mem_of_getElem? (i := 39) (by decide +kernel))) (by decide +kernel)
theorem im_yX9_wonBy : Cond.instanceMethod yX9_wonBy ∈ BIG := bw (bt_8 _ (List.mem_of_getElem? (i := 41) (by decide +kernel))) (by decide +kernel)
theorem cd_yX9_wonBy : Cond.code yX9_wonBy cX9_wonBy 2 (some Jvm.ClassFile.FieldType.int) ∈ BIG := bw (bt_8 _ (List.mem_of_getElem? (i := 42) rfl)) rfl
theorem ml_X9_72 : Cond.methodLink RX9 72 yX9_endGame ∈ BIG := bw (bt_8 _ (List.mem_of_getElem? (i := 43) (by decide +kernel))) (by decide +kernel)
theorem im_yX9_endGame : Cond.instanceMethod yX9_endGame ∈ BIG := bw (bt_8 _ (List.mem_of_getElem? (i := 45) (by decide +kernel))) (by decide +kernel)
theorem cd_yX9_endGame : Cond.code yX9_endGame cX9_endGame 2 none ∈ BIG := bw (bt_8 _ (List.mem_of_getElem? (i := 46) rfl)) rfl
theorem ml_X9_357 : Cond.methodLink RX9 357 yX9_layBack ∈ BIG := bw (bt_8 _ (List.mem_of_getElem? (i := 47) (by decide +kernel))) (by decide +kernel)
theorem im_yX9_layBack : Cond.instanceMethod yX9_layBack ∈ BIG := bw (bt_8 _ (List.mem_of_getElem? (i := 49) (by decide +kernel))) (by decide +kernel)
theorem cd_yX9_layBack : Cond.code yX9_layBack cX9_layBack 3 (some Jvm.ClassFile.FieldType.int) ∈ BIG := bw (bt_8 _ (List.mem_of_getElem? (i := 50) rfl)) rfl
theorem ml_L_230 : Cond.methodLink RL 230 yX9_overIn ∈ BIG := bw (bt_8 _ (List.mem_of_getElem? (i := 51) (by decide +kernel))) (by decide +kernel)
theorem im_yX9_overIn : Cond.instanceMethod yX9_overIn ∈ BIG := bw (bt_8 _ (List.mem_of_getElem? (i := 52) (by decide +kernel))) (by decide +kernel)
theorem se_yX9_overIn : Cond.selects RX9 yX9_overIn yX9_overIn ∈ BIG := bw (bt_8 _ (List.mem_of_getElem? (i := 53) (by decide +kernel))) (by decide +kernel)
theorem cd_yX9_overIn : Cond.code yX9_overIn cX9_overIn 2 (some Jvm.ClassFile.FieldType.int) ∈ BIG := bw (bt_8 _ (List.mem_of_getElem? (i := 54) rfl)) rfl
theorem ml_L_235 : Cond.methodLink RL 235 yX9_canSeal ∈ BIG := bw (bt_8 _ (List.mem_of_getElem? (i := 55) (by decide +kernel))) (by decide +kernel)
theorem im_yX9_canSeal : Cond.instanceMethod yX9_canSeal ∈ BIG := bw (bt_8 _ (List.mem_of_getElem? (i := 56) (by decide +kernel))) (by decide +kernel)
theorem se_yX9_canSeal : Cond.selects RX9 yX9_canSeal yX9_canSeal ∈ BIG := bw (bt_8 _ (List.mem_of_getElem? (i := 57) (by decide +kernel))) (by decide +kernel)
theorem cd_yX9_canSeal : Cond.code yX9_canSeal cX9_canSeal 1 (some Jvm.ClassFile.FieldType.boolean) ∈ BIG := bw (bt_8 _ (List.mem_of_getElem? (i := 58) rfl)) rfl
theorem ml_X9_360 : Cond.methodLink RX9 360 yX9_sealable ∈ BIG := bw (bt_8 _ (List.mem_of_getElem? (i := 59) (by decide +kernel))) (by decide +kernel)
theorem im_yX9_sealable : Cond.instanceMethod yX9_sealable ∈ BIG := bw (bt_8 _ (List.mem_of_getElem? (i := 61) (by decide +kernel))) (by decide +kernel)
theorem cd_yX9_sealable : Cond.code yX9_sealable cX9_sealable 1 (some Jvm.ClassFile.FieldType.boolean) ∈ BIG := bw (bt_8 _ (List.mem_of_getElem? (i := 62) rfl)) rfl
theorem ml_L_239 : Cond.methodLink RL 239 yX9_sealIn ∈ BIG := bw (bt_8 _ (List.mem_of_getElem? (i := 63) (by decide +kernel))) (by decide +kernel)
theorem im_yX9_sealIn : Cond.instanceMethod yX9_sealIn ∈ BIG := bw (bt_8 _ (List.mem_of_getElem? (i := 64) (by decide +kernel))) (by decide +kernel)
theorem se_yX9_sealIn : Cond.selects RX9 yX9_sealIn yX9_sealIn ∈ BIG := bw (bt_8 _ (List.mem_of_getElem? (i := 65) (by decide +kernel))) (by decide +kernel)
theorem cd_yX9_sealIn : Cond.code yX9_sealIn cX9_sealIn 1 (some Jvm.ClassFile.FieldType.int) ∈ BIG := bw (bt_8 _ (List.mem_of_getElem? (i := 66) rfl)) rfl
theorem ml_L_242 : Cond.methodLink RL 242 yX9_ends ∈ BIG := bw (bt_8 _ (List.mem_of_getElem? (i := 67) (by decide +kernel))) (by decide +kernel)
theorem im_yX9_ends : Cond.instanceMethod yX9_ends ∈ BIG := bw (bt_8 _ (List.mem_of_getElem? (i := 68) (by decide +kernel))) (by decide +kernel)
theorem se_yX9_ends : Cond.selects RX9 yX9_ends yX9_ends ∈ BIG := bw (bt_8 _ (List.mem_of_getElem? (i := 69) (by decide +kernel))) (by decide +kernel)
theorem cd_yX9_ends : Cond.code yX9_ends cX9_ends 3 (some Jvm.ClassFile.FieldType.int) ∈ BIG := bw (bt_8 _ (List.mem_of_getElem? (i := 70) rfl)) rfl
theorem ml_X9_363 : Cond.methodLink RX9 363 yX9_arePaces ∈ BIG := bw (bt_8 _ (List.mem_of_getElem? (i := 71) (by decide +kernel))) (by decide +kernel)
theorem st_yX9_arePaces : Cond.static yX9_arePaces ∈ BIG := bw (bt_8 _ (List.mem_of_getElem? (i := 72) (by decide +kernel))) (by decide +kernel)
theorem cd_yX9_arePaces : Cond.code yX9_arePaces cX9_arePaces 2 (some Jvm.ClassFile.FieldType.boolean) ∈ BIG := bw (bt_8 _ (List.mem_of_getElem? (i := 73) rfl)) rfl
theorem co_X9_369 : Cond.constant RX9 369 (2147483647) ∈ BIG := bw (bt_8 _ (List.mem_of_getElem? (i := 74) (by decide +kernel))) (by decide +kernel)
theorem ml_X9_370 : Cond.methodLink RX9 370 yX9_play ∈ BIG := bw (bt_8 _ (List.mem_of_getElem? (i := 75) (by decide +kernel))) (by decide +kernel)
theorem im_yX9_play : Cond.instanceMethod yX9_play ∈ BIG := bw (bt_8 _ (List.mem_of_getElem? (i := 77) (by decide +kernel))) (by decide +kernel)
theorem cd_yX9_play : Cond.code yX9_play cX9_play 9 none ∈ BIG := bw (bt_8 _ (List.mem_of_getElem? (i := 78) rfl)) rfl
theorem ml_X9_146 : Cond.methodLink RX9 146 yX9_paceOf ∈ BIG := bw (bt_8 _ (List.mem_of_getElem? (i := 79) (by decide +kernel))) (by decide +kernel)
theorem st_yX9_paceOf : Cond.static yX9_paceOf ∈ BIG := bw (bt_8 _ (List.mem_of_getElem? (i := 80) (by decide +kernel))) (by decide +kernel)
theorem cd_yX9_paceOf : Cond.code yX9_paceOf cX9_paceOf 3 (some Jvm.ClassFile.FieldType.int) ∈ BIG := bw (bt_8 _ (List.mem_of_getElem? (i := 81) rfl)) rfl
theorem ml_X9_153 : Cond.methodLink RX9 153 yX9_moveOnce ∈ BIG := bw (bt_8 _ (List.mem_of_getElem? (i := 82) (by decide +kernel))) (by decide +kernel)
theorem im_yX9_moveOnce : Cond.instanceMethod yX9_moveOnce ∈ BIG := bw (bt_8 _ (List.mem_of_getElem? (i := 84) (by decide +kernel))) (by decide +kernel)
theorem cd_yX9_moveOnce : Cond.code yX9_moveOnce cX9_moveOnce 3 (some Jvm.ClassFile.FieldType.int) ∈ BIG := bw (bt_8 _ (List.mem_of_getElem? (i := 85) rfl)) rfl
theorem ml_X9_104 : Cond.methodLink RX9 104 yX9_gainsOf ∈ BIG := bw (bt_8 _ (List.mem_of_getElem? (i := 86) (by decide +kernel))) (by decide +kernel)
theorem im_yX9_gainsOf : Cond.instanceMethod yX9_gainsOf ∈ BIG := bw (bt_8 _ (List.mem_of_getElem? (i := 88) (by decide +kernel))) (by decide +kernel)
theorem cd_yX9_gainsOf : Cond.code yX9_gainsOf cX9_gainsOf 2 (some Jvm.ClassFile.FieldType.int) ∈ BIG := bw (bt_8 _ (List.mem_of_getElem? (i := 89) rfl)) rfl
theorem ml_X9_107 : Cond.methodLink RX9 107 yX9_beginPeriod ∈ BIG := bw (bt_8 _ (List.mem_of_getElem? (i := 90) (by decide +kernel))) (by decide +kernel)
theorem im_yX9_beginPeriod : Cond.instanceMethod yX9_beginPeriod ∈ BIG := bw (bt_8 _ (List.mem_of_getElem? (i := 92) (by decide +kernel))) (by decide +kernel)
theorem cd_yX9_beginPeriod : Cond.code yX9_beginPeriod cX9_beginPeriod 2 none ∈ BIG := bw (bt_8 _ (List.mem_of_getElem? (i := 93) rfl)) rfl
theorem ml_X9_110 : Cond.methodLink RX9 110 yX9_keepLog ∈ BIG := bw (bt_8 _ (List.mem_of_getElem? (i := 94) (by decide +kernel))) (by decide +kernel)
theorem im_yX9_keepLog : Cond.instanceMethod yX9_keepLog ∈ BIG := bw (bt_8 _ (List.mem_of_getElem? (i := 96) (by decide +kernel))) (by decide +kernel)
theorem cd_yX9_keepLog : Cond.code yX9_keepLog cX9_keepLog 6 none ∈ BIG := bw (bt_8 _ (List.mem_of_getElem? (i := 97) rfl)) rfl
theorem ml_L_245 : Cond.methodLink RL 245 yX9_endsAfter ∈ BIG := bw (bt_8 _ (List.mem_of_getElem? (i := 98) (by decide +kernel))) (by decide +kernel)
theorem im_yX9_endsAfter : Cond.instanceMethod yX9_endsAfter ∈ BIG := bw (bt_8 _ (List.mem_of_getElem? (i := 99) (by decide +kernel))) (by decide +kernel)
theorem se_yX9_endsAfter : Cond.selects RX9 yX9_endsAfter yX9_endsAfter ∈ BIG := bw (bt_8 _ (List.mem_of_getElem? (i := 100) (by decide +kernel))) (by decide +kernel)
theorem cd_yX9_endsAfter : Cond.code yX9_endsAfter cX9_endsAfter 3 (some Jvm.ClassFile.FieldType.int) ∈ BIG := bw (bt_8 _ (List.mem_of_getElem? (i := 101) rfl)) rfl
theorem ml_L_249 : Cond.methodLink RL 249 yX9_movesIn ∈ BIG := bw (bt_8 _ (List.mem_of_getElem? (i := 102) (by decide +kernel))) (by decide +kernel)
theorem im_yX9_movesIn : Cond.instanceMethod yX9_movesIn ∈ BIG := bw (bt_8 _ (List.mem_of_getElem? (i := 103) (by decide +kernel))) (by decide +kernel)
theorem se_yX9_movesIn : Cond.selects RX9 yX9_movesIn yX9_movesIn ∈ BIG := bw (bt_8 _ (List.mem_of_getElem? (i := 104) (by decide +kernel))) (by decide +kernel)
theorem cd_yX9_movesIn : Cond.code yX9_movesIn cX9_movesIn 4 (some Jvm.ClassFile.FieldType.int) ∈ BIG := bw (bt_8 _ (List.mem_of_getElem? (i := 105) rfl)) rfl
theorem ml_L_274 : Cond.methodLink RL 274 yX9_aheadAfter ∈ BIG := bw (bt_8 _ (List.mem_of_getElem? (i := 106) (by decide +kernel))) (by decide +kernel)
theorem im_yX9_aheadAfter : Cond.instanceMethod yX9_aheadAfter ∈ BIG := bw (bt_8 _ (List.mem_of_getElem? (i := 107) (by decide +kernel))) (by decide +kernel)
theorem se_yX9_aheadAfter : Cond.selects RX9 yX9_aheadAfter yX9_aheadAfter ∈ BIG := bw (bt_8 _ (List.mem_of_getElem? (i := 108) (by decide +kernel))) (by decide +kernel)
theorem cd_yX9_aheadAfter : Cond.code yX9_aheadAfter cX9_aheadAfter 4 (some Jvm.ClassFile.FieldType.int) ∈ BIG := bw (bt_8 _ (List.mem_of_getElem? (i := 109) rfl)) rfl
theorem cj_X9_373 : Cond.constantLong RX9 373 (400) ∈ BIG := bw (bt_8 _ (List.mem_of_getElem? (i := 110) (by decide +kernel))) (by decide +kernel)
theorem ml_L_278 : Cond.methodLink RL 278 yX9_start ∈ BIG := bw (bt_8 _ (List.mem_of_getElem? (i := 111) (by decide +kernel))) (by decide +kernel)
theorem im_yX9_start : Cond.instanceMethod yX9_start ∈ BIG := bw (bt_8 _ (List.mem_of_getElem? (i := 112) (by decide +kernel))) (by decide +kernel)
theorem se_yX9_start : Cond.selects RX9 yX9_start yX9_start ∈ BIG := bw (bt_8 _ (List.mem_of_getElem? (i := 113) (by decide +kernel))) (by decide +kernel)
theorem cd_yX9_start : Cond.code yX9_start cX9_start 1 (some Jvm.ClassFile.FieldType.int) ∈ BIG := bw (bt_8 _ (List.mem_of_getElem? (i := 114) rfl)) rfl
theorem ml_X9_375 : Cond.methodLink RX9 375 yX9_becomes ∈ BIG := bw (bt_8 _ (List.mem_of_getElem? (i := 115) (by decide +kernel))) (by decide +kernel)
theorem im_yX9_becomes : Cond.instanceMethod yX9_becomes ∈ BIG := bw (bt_8 _ (List.mem_of_getElem? (i := 117) (by decide +kernel))) (by decide +kernel)
theorem cd_yX9_becomes : Cond.code yX9_becomes cX9_becomes 2 (some Jvm.ClassFile.FieldType.int) ∈ BIG := bw (bt_8 _ (List.mem_of_getElem? (i := 118) rfl)) rfl
theorem ml_L_281 : Cond.methodLink RL 281 yX9_tick ∈ BIG := bw (bt_8 _ (List.mem_of_getElem? (i := 119) (by decide +kernel))) (by decide +kernel)
theorem im_yX9_tick : Cond.instanceMethod yX9_tick ∈ BIG := bw (bt_8 _ (List.mem_of_getElem? (i := 120) (by decide +kernel))) (by decide +kernel)
theorem se_yX9_tick : Cond.selects RX9 yX9_tick yX9_tick ∈ BIG := bw (bt_8 _ (List.mem_of_getElem? (i := 121) (by decide +kernel))) (by decide +kernel)
theorem cd_yX9_tick : Cond.code yX9_tick cX9_tick 2 (some Jvm.ClassFile.FieldType.int) ∈ BIG := bw (bt_8 _ (List.mem_of_getElem? (i := 122) rfl)) rfl
theorem ml_L_284 : Cond.methodLink RL 284 yX9_move ∈ BIG := bw (bt_8 _ (List.mem_of_getElem? (i := 123) (by decide +kernel))) (by decide +kernel)
theorem im_yX9_move : Cond.instanceMethod yX9_move ∈ BIG := bw (bt_8 _ (List.mem_of_getElem? (i := 124) (by decide +kernel))) (by decide +kernel)
theorem se_yX9_move : Cond.selects RX9 yX9_move yX9_move ∈ BIG := bw (bt_8 _ (List.mem_of_getElem? (i := 125) (by decide +kernel))) (by decide +kernel)
theorem cd_yX9_move : Cond.code yX9_move cX9_move 1 (some Jvm.ClassFile.FieldType.int) ∈ BIG := bw (bt_8 _ (List.mem_of_getElem? (i := 126) rfl)) rfl
theorem ml_L_287 : Cond.methodLink RL 287 yX9_pause ∈ BIG := bw (bt_8 _ (List.mem_of_getElem? (i := 127) (by decide +kernel))) (by decide +kernel)
theorem im_yX9_pause : Cond.instanceMethod yX9_pause ∈ BIG := bw (bt_8 _ (List.mem_of_getElem? (i := 128) (by decide +kernel))) (by decide +kernel)
theorem se_yX9_pause : Cond.selects RX9 yX9_pause yX9_pause ∈ BIG := bw (bt_8 _ (List.mem_of_getElem? (i := 129) (by decide +kernel))) (by decide +kernel)
theorem cd_yX9_pause : Cond.code yX9_pause cX9_pause 1 (some Jvm.ClassFile.FieldType.int) ∈ BIG := bw (bt_8 _ (List.mem_of_getElem? (i := 130) rfl)) rfl
theorem ml_L_290 : Cond.methodLink RL 290 yX9_proceed ∈ BIG := bw (bt_8 _ (List.mem_of_getElem? (i := 131) (by decide +kernel))) (by decide +kernel)
theorem im_yX9_proceed : Cond.instanceMethod yX9_proceed ∈ BIG := bw (bt_8 _ (List.mem_of_getElem? (i := 132) (by decide +kernel))) (by decide +kernel)
theorem se_yX9_proceed : Cond.selects RX9 yX9_proceed yX9_proceed ∈ BIG := bw (bt_8 _ (List.mem_of_getElem? (i := 133) (by decide +kernel))) (by decide +kernel)
theorem cd_yX9_proceed : Cond.code yX9_proceed cX9_proceed 1 (some Jvm.ClassFile.FieldType.int) ∈ BIG := bw (bt_8 _ (List.mem_of_getElem? (i := 134) rfl)) rfl
theorem ml_L_293 : Cond.methodLink RL 293 yX9_seal ∈ BIG := bw (bt_8 _ (List.mem_of_getElem? (i := 135) (by decide +kernel))) (by decide +kernel)
theorem im_yX9_seal : Cond.instanceMethod yX9_seal ∈ BIG := bw (bt_8 _ (List.mem_of_getElem? (i := 136) (by decide +kernel))) (by decide +kernel)
theorem se_yX9_seal : Cond.selects RX9 yX9_seal yX9_seal ∈ BIG := bw (bt_8 _ (List.mem_of_getElem? (i := 137) (by decide +kernel))) (by decide +kernel)
theorem cd_yX9_seal : Cond.code yX9_seal cX9_seal 1 (some Jvm.ClassFile.FieldType.int) ∈ BIG := bw (bt_8 _ (List.mem_of_getElem? (i := 138) rfl)) rfl
theorem ml_L_296 : Cond.methodLink RL 296 yX9_open ∈ BIG := bw (bt_8 _ (List.mem_of_getElem? (i := 139) (by decide +kernel))) (by decide +kernel)
theorem im_yX9_open : Cond.instanceMethod yX9_open ∈ BIG := bw (bt_8 _ (List.mem_of_getElem? (i := 140) (by decide +kernel))) (by decide +kernel)
theorem se_yX9_open : Cond.selects RX9 yX9_open yX9_open ∈ BIG := bw (bt_8 _ (List.mem_of_getElem? (i := 141) (by decide +kernel))) (by decide +kernel)
theorem cd_yX9_open : Cond.code yX9_open cX9_open 2 (some Jvm.ClassFile.FieldType.int) ∈ BIG := bw (bt_8 _ (List.mem_of_getElem? (i := 142) rfl)) rfl
theorem ml_L_320 : Cond.methodLink RL 320 yX9_swap ∈ BIG := bw (bt_8 _ (List.mem_of_getElem? (i := 143) (by decide +kernel))) (by decide +kernel)
theorem im_yX9_swap : Cond.instanceMethod yX9_swap ∈ BIG := bw (bt_8 _ (List.mem_of_getElem? (i := 144) (by decide +kernel))) (by decide +kernel)
theorem se_yX9_swap : Cond.selects RX9 yX9_swap yX9_swap ∈ BIG := bw (bt_8 _ (List.mem_of_getElem? (i := 145) (by decide +kernel))) (by decide +kernel)
theorem cd_yX9_swap : Cond.code yX9_swap cX9_swap 3 (some Jvm.ClassFile.FieldType.int) ∈ BIG := bw (bt_8 _ (List.mem_of_getElem? (i := 146) rfl)) rfl
theorem ml_X9_378 : Cond.methodLink RX9 378 yX9_ahead ∈ BIG := bw (bt_8 _ (List.mem_of_getElem? (i := 147) (by decide +kernel))) (by decide +kernel)
theorem ml_L_299 : Cond.methodLink RL 299 yX9_claim ∈ BIG := bw (bt_8 _ (List.mem_of_getElem? (i := 148) (by decide +kernel))) (by decide +kernel)
theorem im_yX9_claim : Cond.instanceMethod yX9_claim ∈ BIG := bw (bt_8 _ (List.mem_of_getElem? (i := 149) (by decide +kernel))) (by decide +kernel)
theorem se_yX9_claim : Cond.selects RX9 yX9_claim yX9_claim ∈ BIG := bw (bt_8 _ (List.mem_of_getElem? (i := 150) (by decide +kernel))) (by decide +kernel)
theorem cd_yX9_claim : Cond.code yX9_claim cX9_claim 2 (some Jvm.ClassFile.FieldType.int) ∈ BIG := bw (bt_8 _ (List.mem_of_getElem? (i := 151) rfl)) rfl
theorem ml_L_302 : Cond.methodLink RL 302 yX9_resign ∈ BIG := bw (bt_8 _ (List.mem_of_getElem? (i := 152) (by decide +kernel))) (by decide +kernel)
theorem im_yX9_resign : Cond.instanceMethod yX9_resign ∈ BIG := bw (bt_8 _ (List.mem_of_getElem? (i := 153) (by decide +kernel))) (by decide +kernel)
theorem se_yX9_resign : Cond.selects RX9 yX9_resign yX9_resign ∈ BIG := bw (bt_8 _ (List.mem_of_getElem? (i := 154) (by decide +kernel))) (by decide +kernel)
theorem cd_yX9_resign : Cond.code yX9_resign cX9_resign 2 (some Jvm.ClassFile.FieldType.int) ∈ BIG := bw (bt_8 _ (List.mem_of_getElem? (i := 155) rfl)) rfl
theorem ml_L_305 : Cond.methodLink RL 305 yX9_give ∈ BIG := bw (bt_8 _ (List.mem_of_getElem? (i := 156) (by decide +kernel))) (by decide +kernel)
theorem im_yX9_give : Cond.instanceMethod yX9_give ∈ BIG := bw (bt_8 _ (List.mem_of_getElem? (i := 157) (by decide +kernel))) (by decide +kernel)
theorem se_yX9_give : Cond.selects RX9 yX9_give yX9_give ∈ BIG := bw (bt_8 _ (List.mem_of_getElem? (i := 158) (by decide +kernel))) (by decide +kernel)
theorem cd_yX9_give : Cond.code yX9_give cX9_give 4 (some Jvm.ClassFile.FieldType.int) ∈ BIG := bw (bt_8 _ (List.mem_of_getElem? (i := 159) rfl)) rfl
theorem cj_X9_381 : Cond.constantLong RX9 381 (-9999) ∈ BIG := bw (bt_8 _ (List.mem_of_getElem? (i := 160) (by decide +kernel))) (by decide +kernel)
theorem ml_L_309 : Cond.methodLink RL 309 yX9_setBare ∈ BIG := bw (bt_8 _ (List.mem_of_getElem? (i := 161) (by decide +kernel))) (by decide +kernel)
theorem im_yX9_setBare : Cond.instanceMethod yX9_setBare ∈ BIG := bw (bt_8 _ (List.mem_of_getElem? (i := 162) (by decide +kernel))) (by decide +kernel)
theorem se_yX9_setBare : Cond.selects RX9 yX9_setBare yX9_setBare ∈ BIG := bw (bt_8 _ (List.mem_of_getElem? (i := 163) (by decide +kernel))) (by decide +kernel)
theorem cd_yX9_setBare : Cond.code yX9_setBare cX9_setBare 4 (some Jvm.ClassFile.FieldType.boolean) ∈ BIG := bw (bt_8 _ (List.mem_of_getElem? (i := 164) rfl)) rfl
theorem ml_L_314 : Cond.methodLink RL 314 yX9_setClaims ∈ BIG := bw (bt_8 _ (List.mem_of_getElem? (i := 165) (by decide +kernel))) (by decide +kernel)
theorem im_yX9_setClaims : Cond.instanceMethod yX9_setClaims ∈ BIG := bw (bt_8 _ (List.mem_of_getElem? (i := 166) (by decide +kernel))) (by decide +kernel)
theorem se_yX9_setClaims : Cond.selects RX9 yX9_setClaims yX9_setClaims ∈ BIG := bw (bt_8 _ (List.mem_of_getElem? (i := 167) (by decide +kernel))) (by decide +kernel)
theorem cd_yX9_setClaims : Cond.code yX9_setClaims cX9_setClaims 3 (some Jvm.ClassFile.FieldType.boolean) ∈ BIG := bw (bt_8 _ (List.mem_of_getElem? (i := 168) rfl)) rfl
theorem ml_L_317 : Cond.methodLink RL 317 yX9_setPeriod ∈ BIG := bw (bt_8 _ (List.mem_of_getElem? (i := 169) (by decide +kernel))) (by decide +kernel)
theorem im_yX9_setPeriod : Cond.instanceMethod yX9_setPeriod ∈ BIG := bw (bt_8 _ (List.mem_of_getElem? (i := 170) (by decide +kernel))) (by decide +kernel)
theorem se_yX9_setPeriod : Cond.selects RX9 yX9_setPeriod yX9_setPeriod ∈ BIG := bw (bt_8 _ (List.mem_of_getElem? (i := 171) (by decide +kernel))) (by decide +kernel)
theorem cd_yX9_setPeriod : Cond.code yX9_setPeriod cX9_setPeriod 5 (some Jvm.ClassFile.FieldType.int) ∈ BIG := bw (bt_8 _ (List.mem_of_getElem? (i := 172) rfl)) rfl
theorem cj_X9_383 : Cond.constantLong RX9 383 (2) ∈ BIG := bw (bt_8 _ (List.mem_of_getElem? (i := 173) (by decide +kernel))) (by decide +kernel)
theorem cj_X9_385 : Cond.constantLong RX9 385 (999) ∈ BIG := bw (bt_8 _ (List.mem_of_getElem? (i := 174) (by decide +kernel))) (by decide +kernel)
theorem ml_L_323 : Cond.methodLink RL 323 yX9_keep ∈ BIG := bw (bt_8 _ (List.mem_of_getElem? (i := 175) (by decide +kernel))) (by decide +kernel)
theorem im_yX9_keep : Cond.instanceMethod yX9_keep ∈ BIG := bw (bt_8 _ (List.mem_of_getElem? (i := 176) (by decide +kernel))) (by decide +kernel)
theorem se_yX9_keep : Cond.selects RX9 yX9_keep yX9_keep ∈ BIG := bw (bt_8 _ (List.mem_of_getElem? (i := 177) (by decide +kernel))) (by decide +kernel)
theorem cd_yX9_keep : Cond.code yX9_keep cX9_keep 3 (some Jvm.ClassFile.FieldType.int) ∈ BIG := bw (bt_8 _ (List.mem_of_getElem? (i := 178) rfl)) rfl
theorem ml_X9_387 : Cond.methodLink RX9 387 yX9_isKeep ∈ BIG := bw (bt_8 _ (List.mem_of_getElem? (i := 179) (by decide +kernel))) (by decide +kernel)
theorem st_yX9_isKeep : Cond.static yX9_isKeep ∈ BIG := bw (bt_8 _ (List.mem_of_getElem? (i := 180) (by decide +kernel))) (by decide +kernel)
theorem cd_yX9_isKeep : Cond.code yX9_isKeep cX9_isKeep 1 (some Jvm.ClassFile.FieldType.boolean) ∈ BIG := bw (bt_8 _ (List.mem_of_getElem? (i := 181) rfl)) rfl
theorem ml_L_326 : Cond.methodLink RL 326 yX9_restore ∈ BIG := bw (bt_8 _ (List.mem_of_getElem? (i := 182) (by decide +kernel))) (by decide +kernel)
theorem im_yX9_restore : Cond.instanceMethod yX9_restore ∈ BIG := bw (bt_8 _ (List.mem_of_getElem? (i := 183) (by decide +kernel))) (by decide +kernel)
theorem se_yX9_restore : Cond.selects RX9 yX9_restore yX9_restore ∈ BIG := bw (bt_8 _ (List.mem_of_getElem? (i := 184) (by decide +kernel))) (by decide +kernel)
theorem cd_yX9_restore : Cond.code yX9_restore cX9_restore 3 (some Jvm.ClassFile.FieldType.int) ∈ BIG := bw (bt_8 _ (List.mem_of_getElem? (i := 185) rfl)) rfl
theorem ml_L_329 : Cond.methodLink RL 329 yX9_undo ∈ BIG := bw (bt_8 _ (List.mem_of_getElem? (i := 186) (by decide +kernel))) (by decide +kernel)
theorem im_yX9_undo : Cond.instanceMethod yX9_undo ∈ BIG := bw (bt_8 _ (List.mem_of_getElem? (i := 187) (by decide +kernel))) (by decide +kernel)
theorem se_yX9_undo : Cond.selects RX9 yX9_undo yX9_undo ∈ BIG := bw (bt_8 _ (List.mem_of_getElem? (i := 188) (by decide +kernel))) (by decide +kernel)
theorem cd_yX9_undo : Cond.code yX9_undo cX9_undo 2 (some Jvm.ClassFile.FieldType.int) ∈ BIG := bw (bt_8 _ (List.mem_of_getElem? (i := 189) rfl)) rfl
theorem ml_L_333 : Cond.methodLink RL 333 yX9_undoCount ∈ BIG := bw (bt_8 _ (List.mem_of_getElem? (i := 190) (by decide +kernel))) (by decide +kernel)
theorem im_yX9_undoCount : Cond.instanceMethod yX9_undoCount ∈ BIG := bw (bt_8 _ (List.mem_of_getElem? (i := 191) (by decide +kernel))) (by decide +kernel)
theorem se_yX9_undoCount : Cond.selects RX9 yX9_undoCount yX9_undoCount ∈ BIG := bw (bt_8 _ (List.mem_of_getElem? (i := 192) (by decide +kernel))) (by decide +kernel)
theorem cd_yX9_undoCount : Cond.code yX9_undoCount cX9_undoCount 1 (some Jvm.ClassFile.FieldType.int) ∈ BIG := bw (bt_8 _ (List.mem_of_getElem? (i := 193) rfl)) rfl
theorem ml_L_337 : Cond.methodLink RL 337 yX9_writeClock ∈ BIG := bw (bt_8 _ (List.mem_of_getElem? (i := 194) (by decide +kernel))) (by decide +kernel)
theorem im_yX9_writeClock : Cond.instanceMethod yX9_writeClock ∈ BIG := bw (bt_8 _ (List.mem_of_getElem? (i := 195) (by decide +kernel))) (by decide +kernel)
theorem se_yX9_writeClock : Cond.selects RX9 yX9_writeClock yX9_writeClock ∈ BIG := bw (bt_8 _ (List.mem_of_getElem? (i := 196) (by decide +kernel))) (by decide +kernel)
theorem cd_yX9_writeClock : Cond.code yX9_writeClock cX9_writeClock 4 (some Jvm.ClassFile.FieldType.int) ∈ BIG := bw (bt_8 _ (List.mem_of_getElem? (i := 197) rfl)) rfl
theorem ml_X9_402 : Cond.methodLink RX9 402 yX9_space ∈ BIG := bw (bt_8 _ (List.mem_of_getElem? (i := 198) (by decide +kernel))) (by decide +kernel)
theorem im_yX9_space : Cond.instanceMethod yX9_space ∈ BIG := bw (bt_8 _ (List.mem_of_getElem? (i := 200) (by decide +kernel))) (by decide +kernel)
theorem cd_yX9_space : Cond.code yX9_space cX9_space 1 none ∈ BIG := bw (bt_8 _ (List.mem_of_getElem? (i := 201) rfl)) rfl
theorem ml_X9_396 : Cond.methodLink RX9 396 yX9_write ∈ BIG := bw (bt_8 _ (List.mem_of_getElem? (i := 202) (by decide +kernel))) (by decide +kernel)
theorem im_yX9_write : Cond.instanceMethod yX9_write ∈ BIG := bw (bt_8 _ (List.mem_of_getElem? (i := 204) (by decide +kernel))) (by decide +kernel)
theorem cd_yX9_write : Cond.code yX9_write cX9_write 2 none ∈ BIG := bw (bt_8 _ (List.mem_of_getElem? (i := 205) rfl)) rfl
theorem ml_X9_405 : Cond.methodLink RX9 405 yX9_writeInt ∈ BIG := bw (bt_8 _ (List.mem_of_getElem? (i := 206) (by decide +kernel))) (by decide +kernel)
theorem im_yX9_writeInt : Cond.instanceMethod yX9_writeInt ∈ BIG := bw (bt_8 _ (List.mem_of_getElem? (i := 208) (by decide +kernel))) (by decide +kernel)
theorem cd_yX9_writeInt : Cond.code yX9_writeInt cX9_writeInt 5 none ∈ BIG := bw (bt_8 _ (List.mem_of_getElem? (i := 209) rfl)) rfl
theorem ml_X9_399 : Cond.methodLink RX9 399 Lib.Math.abs.name ∈ BIG := bw (bt_8 _ (List.mem_of_getElem? (i := 210) (by decide +kernel))) (by decide +kernel)
theorem st_Lib_Math_abs_name : Cond.static Lib.Math.abs.name ∈ BIG := bw (bt_8 _ (List.mem_of_getElem? (i := 211) (by decide +kernel))) (by decide +kernel)
theorem ml_X9_408 : Cond.methodLink RX9 408 yX9_writeTwo ∈ BIG := bw (bt_8 _ (List.mem_of_getElem? (i := 213) (by decide +kernel))) (by decide +kernel)
theorem im_yX9_writeTwo : Cond.instanceMethod yX9_writeTwo ∈ BIG := bw (bt_8 _ (List.mem_of_getElem? (i := 215) (by decide +kernel))) (by decide +kernel)
theorem cd_yX9_writeTwo : Cond.code yX9_writeTwo cX9_writeTwo 2 none ∈ BIG := bw (bt_8 _ (List.mem_of_getElem? (i := 216) rfl)) rfl
theorem ml_L_341 : Cond.methodLink RL 341 yX9_writeLog ∈ BIG := bw (bt_8 _ (List.mem_of_getElem? (i := 217) (by decide +kernel))) (by decide +kernel)
theorem im_yX9_writeLog : Cond.instanceMethod yX9_writeLog ∈ BIG := bw (bt_8 _ (List.mem_of_getElem? (i := 218) (by decide +kernel))) (by decide +kernel)
theorem se_yX9_writeLog : Cond.selects RX9 yX9_writeLog yX9_writeLog ∈ BIG := bw (bt_8 _ (List.mem_of_getElem? (i := 219) (by decide +kernel))) (by decide +kernel)
theorem cd_yX9_writeLog : Cond.code yX9_writeLog cX9_writeLog 2 (some Jvm.ClassFile.FieldType.int) ∈ BIG := bw (bt_8 _ (List.mem_of_getElem? (i := 220) rfl)) rfl
theorem ml_L_345 : Cond.methodLink RL 345 yX9_writePeriods ∈ BIG := bw (bt_8 _ (List.mem_of_getElem? (i := 221) (by decide +kernel))) (by decide +kernel)
theorem im_yX9_writePeriods : Cond.instanceMethod yX9_writePeriods ∈ BIG := bw (bt_8 _ (List.mem_of_getElem? (i := 222) (by decide +kernel))) (by decide +kernel)
theorem se_yX9_writePeriods : Cond.selects RX9 yX9_writePeriods yX9_writePeriods ∈ BIG := bw (bt_8 _ (List.mem_of_getElem? (i := 223) (by decide +kernel))) (by decide +kernel)
theorem cd_yX9_writePeriods : Cond.code yX9_writePeriods cX9_writePeriods 2 (some Jvm.ClassFile.FieldType.int) ∈ BIG := bw (bt_8 _ (List.mem_of_getElem? (i := 224) rfl)) rfl
theorem ml_X9_411 : Cond.methodLink RX9 411 yX9_writeIf ∈ BIG := bw (bt_8 _ (List.mem_of_getElem? (i := 225) (by decide +kernel))) (by decide +kernel)
theorem im_yX9_writeIf : Cond.instanceMethod yX9_writeIf ∈ BIG := bw (bt_8 _ (List.mem_of_getElem? (i := 227) (by decide +kernel))) (by decide +kernel)
theorem cd_yX9_writeIf : Cond.code yX9_writeIf cX9_writeIf 3 none ∈ BIG := bw (bt_8 _ (List.mem_of_getElem? (i := 228) rfl)) rfl
theorem ml_L_348 : Cond.methodLink RL 348 yX9_outputByte ∈ BIG := bw (bt_8 _ (List.mem_of_getElem? (i := 229) (by decide +kernel))) (by decide +kernel)
theorem im_yX9_outputByte : Cond.instanceMethod yX9_outputByte ∈ BIG := bw (bt_8 _ (List.mem_of_getElem? (i := 230) (by decide +kernel))) (by decide +kernel)
theorem se_yX9_outputByte : Cond.selects RX9 yX9_outputByte yX9_outputByte ∈ BIG := bw (bt_8 _ (List.mem_of_getElem? (i := 231) (by decide +kernel))) (by decide +kernel)
theorem cd_yX9_outputByte : Cond.code yX9_outputByte cX9_outputByte 2 (some Jvm.ClassFile.FieldType.int) ∈ BIG := bw (bt_8 _ (List.mem_of_getElem? (i := 232) rfl)) rfl
theorem ac_long : Cond.arrayClass .long ∈ BIG := bw (bt_8 _ (List.mem_of_getElem? (i := 233) (by decide +kernel))) (by decide +kernel)
theorem ac_double : Cond.arrayClass .double ∈ BIG := bw (bt_8 _ (List.mem_of_getElem? (i := 234) (by decide +kernel))) (by decide +kernel)
theorem fl_J0_9 : Cond.fieldLink "java/lang/String" (9 : Nat) "java/lang/String" "value" "[B" ∈ BIG := bw (bt_9 _ (List.mem_of_getElem? (i := 12) (by decide +kernel))) (by decide +kernel)
theorem fl_J0_15 : Cond.fieldLink "java/lang/String" (15 : Nat) "java/lang/String" "coder" "B" ∈ BIG := bw (bt_9 _ (List.mem_of_getElem? (i := 13) (by decide +kernel))) (by decide +kernel)
theorem se_yX3_clear : Cond.selects RX3 yX3_clear yX3_clear ∈ BIG := bw (List.mem_append_left _ (List.mem_of_getElem? (i := 0) (by decide +kernel))) (by decide +kernel)
theorem se_yX3_readToken : Cond.selects RX3 yX3_readToken yX3_readToken ∈ BIG := bw (List.mem_append_left _ (List.mem_of_getElem? (i := 1) (by decide +kernel))) (by decide +kernel)
theorem se_yX3_isWord : Cond.selects RX3 yX3_isWord yX3_isWord ∈ BIG := bw (List.mem_append_left _ (List.mem_of_getElem? (i := 2) (by decide +kernel))) (by decide +kernel)
theorem se_yX3_fail : Cond.selects RX3 yX3_fail yX3_fail ∈ BIG := bw (List.mem_append_left _ (List.mem_of_getElem? (i := 3) (by decide +kernel))) (by decide +kernel)
theorem se_yX3_readPeriod : Cond.selects RX3 yX3_readPeriod yX3_readPeriod ∈ BIG := bw (List.mem_append_left _ (List.mem_of_getElem? (i := 4) (by decide +kernel))) (by decide +kernel)
theorem se_yX3_takeWord : Cond.selects RX3 yX3_takeWord yX3_takeWord ∈ BIG := bw (List.mem_append_left _ (List.mem_of_getElem? (i := 5) (by decide +kernel))) (by decide +kernel)
theorem se_yX3_takeNumber : Cond.selects RX3 yX3_takeNumber yX3_takeNumber ∈ BIG := bw (List.mem_append_left _ (List.mem_of_getElem? (i := 6) (by decide +kernel))) (by decide +kernel)
theorem se_yX3_takeOption : Cond.selects RX3 yX3_takeOption yX3_takeOption ∈ BIG := bw (List.mem_append_left _ (List.mem_of_getElem? (i := 7) (by decide +kernel))) (by decide +kernel)
theorem se_yX3_takeSemicolon : Cond.selects RX3 yX3_takeSemicolon yX3_takeSemicolon ∈ BIG := bw (List.mem_append_left _ (List.mem_of_getElem? (i := 8) (by decide +kernel))) (by decide +kernel)
theorem se_yX3_readExtra : Cond.selects RX3 yX3_readExtra yX3_readExtra ∈ BIG := bw (List.mem_append_left _ (List.mem_of_getElem? (i := 9) (by decide +kernel))) (by decide +kernel)
theorem se_yX3_failIf : Cond.selects RX3 yX3_failIf yX3_failIf ∈ BIG := bw (List.mem_append_left _ (List.mem_of_getElem? (i := 10) (by decide +kernel))) (by decide +kernel)
theorem se_yX3_readSession : Cond.selects RX3 yX3_readSession yX3_readSession ∈ BIG := bw (List.mem_append_left _ (List.mem_of_getElem? (i := 11) (by decide +kernel))) (by decide +kernel)
theorem se_yX3_readHand : Cond.selects RX3 yX3_readHand yX3_readHand ∈ BIG := bw (List.mem_append_left _ (List.mem_of_getElem? (i := 12) (by decide +kernel))) (by decide +kernel)
theorem se_yX3_readClaims : Cond.selects RX3 yX3_readClaims yX3_readClaims ∈ BIG := bw (List.mem_append_left _ (List.mem_of_getElem? (i := 13) (by decide +kernel))) (by decide +kernel)
theorem se_yX8_remember : Cond.selects RX8 yX8_remember yX8_remember ∈ BIG := bw (List.mem_append_left _ (List.mem_of_getElem? (i := 14) (by decide +kernel))) (by decide +kernel)
theorem se_yX8_writeSide : Cond.selects RX8 yX8_writeSide yX8_writeSide ∈ BIG := bw (List.mem_append_left _ (List.mem_of_getElem? (i := 15) (by decide +kernel))) (by decide +kernel)
theorem se_yX8_writeMovesOf : Cond.selects RX8 yX8_writeMovesOf yX8_writeMovesOf ∈ BIG := bw (List.mem_append_left _ (List.mem_of_getElem? (i := 16) (by decide +kernel))) (by decide +kernel)
theorem se_yX8_requirePeriod : Cond.selects RX8 yX8_requirePeriod yX8_requirePeriod ∈ BIG := bw (List.mem_append_left _ (List.mem_of_getElem? (i := 18) (by decide +kernel))) (by decide +kernel)
theorem se_yX8_requireSide : Cond.selects RX8 yX8_requireSide yX8_requireSide ∈ BIG := bw (List.mem_append_left _ (List.mem_of_getElem? (i := 19) (by decide +kernel))) (by decide +kernel)
theorem se_yX5_runOut : Cond.selects RX5 yX5_runOut yX5_runOut ∈ BIG := bw (List.mem_append_left _ (List.mem_of_getElem? (i := 20) (by decide +kernel))) (by decide +kernel)
theorem se_yX5_gains : Cond.selects RX5 yX5_gains yX5_gains ∈ BIG := bw (List.mem_append_left _ (List.mem_of_getElem? (i := 21) (by decide +kernel))) (by decide +kernel)
theorem se_yX5_beginNextPeriod : Cond.selects RX5 yX5_beginNextPeriod yX5_beginNextPeriod ∈ BIG := bw (List.mem_append_left _ (List.mem_of_getElem? (i := 22) (by decide +kernel))) (by decide +kernel)
theorem se_yX8_requirePace : Cond.selects RX8 yX8_requirePace yX8_requirePace ∈ BIG := bw (List.mem_append_left _ (List.mem_of_getElem? (i := 23) (by decide +kernel))) (by decide +kernel)
theorem se_yX8_requireTicks : Cond.selects RX8 yX8_requireTicks yX8_requireTicks ∈ BIG := bw (List.mem_append_left _ (List.mem_of_getElem? (i := 24) (by decide +kernel))) (by decide +kernel)
theorem se_yX7_begin : Cond.selects RX7 yX7_begin yX7_begin ∈ BIG := bw (List.mem_append_left _ (List.mem_of_getElem? (i := 25) (by decide +kernel))) (by decide +kernel)
theorem se_yX7_canMove : Cond.selects RX7 yX7_canMove yX7_canMove ∈ BIG := bw (List.mem_append_left _ (List.mem_of_getElem? (i := 26) (by decide +kernel))) (by decide +kernel)
theorem se_yX7_finishMove : Cond.selects RX7 yX7_finishMove yX7_finishMove ∈ BIG := bw (List.mem_append_left _ (List.mem_of_getElem? (i := 27) (by decide +kernel))) (by decide +kernel)
theorem se_yX8_requirePaceMoves : Cond.selects RX8 yX8_requirePaceMoves yX8_requirePaceMoves ∈ BIG := bw (List.mem_append_left _ (List.mem_of_getElem? (i := 28) (by decide +kernel))) (by decide +kernel)
theorem se_yX6_noteFall : Cond.selects RX6 yX6_noteFall yX6_noteFall ∈ BIG := bw (List.mem_append_left _ (List.mem_of_getElem? (i := 29) (by decide +kernel))) (by decide +kernel)
theorem se_yX8_requireSlot : Cond.selects RX8 yX8_requireSlot yX8_requireSlot ∈ BIG := bw (List.mem_append_left _ (List.mem_of_getElem? (i := 30) (by decide +kernel))) (by decide +kernel)
theorem se_yX9_layPlain : Cond.selects RX9 yX9_layPlain yX9_layPlain ∈ BIG := bw (List.mem_append_left _ (List.mem_of_getElem? (i := 31) (by decide +kernel))) (by decide +kernel)
theorem se_yX9_put : Cond.selects RX9 yX9_put yX9_put ∈ BIG := bw (List.mem_append_left _ (List.mem_of_getElem? (i := 32) (by decide +kernel))) (by decide +kernel)
theorem se_yX9_passes : Cond.selects RX9 yX9_passes yX9_passes ∈ BIG := bw (List.mem_append_left _ (List.mem_of_getElem? (i := 33) (by decide +kernel))) (by decide +kernel)
theorem se_yX9_passes3 : Cond.selects RX9 yX9_passes3 yX9_passes3 ∈ BIG := bw (List.mem_append_left _ (List.mem_of_getElem? (i := 34) (by decide +kernel))) (by decide +kernel)
theorem se_yX9_appendFour : Cond.selects RX9 yX9_appendFour yX9_appendFour ∈ BIG := bw (List.mem_append_left _ (List.mem_of_getElem? (i := 35) (by decide +kernel))) (by decide +kernel)
theorem se_yX9_scan : Cond.selects RX9 yX9_scan yX9_scan ∈ BIG := bw (List.mem_append_left _ (List.mem_of_getElem? (i := 36) (by decide +kernel))) (by decide +kernel)
theorem se_yX9_byteAt : Cond.selects RX9 yX9_byteAt yX9_byteAt ∈ BIG := bw (List.mem_append_left _ (List.mem_of_getElem? (i := 37) (by decide +kernel))) (by decide +kernel)
theorem se_yX9_isWord : Cond.selects RX9 yX9_isWord yX9_isWord ∈ BIG := bw (List.mem_append_left _ (List.mem_of_getElem? (i := 38) (by decide +kernel))) (by decide +kernel)
theorem se_yX9_good : Cond.selects RX9 yX9_good yX9_good ∈ BIG := bw (List.mem_append_left _ (List.mem_of_getElem? (i := 39) (by decide +kernel))) (by decide +kernel)
theorem se_yX9_errsIf : Cond.selects RX9 yX9_errsIf yX9_errsIf ∈ BIG := bw (List.mem_append_left _ (List.mem_of_getElem? (i := 40) (by decide +kernel))) (by decide +kernel)
theorem se_yX9_errs : Cond.selects RX9 yX9_errs yX9_errs ∈ BIG := bw (List.mem_append_left _ (List.mem_of_getElem? (i := 41) (by decide +kernel))) (by decide +kernel)
theorem se_yX9_parseStatement : Cond.selects RX9 yX9_parseStatement yX9_parseStatement ∈ BIG := bw (List.mem_append_left _ (List.mem_of_getElem? (i := 42) (by decide +kernel))) (by decide +kernel)
theorem se_yX9_parsePeriod : Cond.selects RX9 yX9_parsePeriod yX9_parsePeriod ∈ BIG := bw (List.mem_append_left _ (List.mem_of_getElem? (i := 43) (by decide +kernel))) (by decide +kernel)
theorem se_yX9_ofPeriod : Cond.selects RX9 yX9_ofPeriod yX9_ofPeriod ∈ BIG := bw (List.mem_append_left _ (List.mem_of_getElem? (i := 44) (by decide +kernel))) (by decide +kernel)
theorem se_yX9_goOn : Cond.selects RX9 yX9_goOn yX9_goOn ∈ BIG := bw (List.mem_append_left _ (List.mem_of_getElem? (i := 45) (by decide +kernel))) (by decide +kernel)
theorem se_yX9_numberAfter : Cond.selects RX9 yX9_numberAfter yX9_numberAfter ∈ BIG := bw (List.mem_append_left _ (List.mem_of_getElem? (i := 46) (by decide +kernel))) (by decide +kernel)
theorem se_yX9_takeWord : Cond.selects RX9 yX9_takeWord yX9_takeWord ∈ BIG := bw (List.mem_append_left _ (List.mem_of_getElem? (i := 47) (by decide +kernel))) (by decide +kernel)
theorem se_yX9_number : Cond.selects RX9 yX9_number yX9_number ∈ BIG := bw (List.mem_append_left _ (List.mem_of_getElem? (i := 48) (by decide +kernel))) (by decide +kernel)
theorem se_yX9_numberHere : Cond.selects RX9 yX9_numberHere yX9_numberHere ∈ BIG := bw (List.mem_append_left _ (List.mem_of_getElem? (i := 49) (by decide +kernel))) (by decide +kernel)
theorem se_yX9_numberIf : Cond.selects RX9 yX9_numberIf yX9_numberIf ∈ BIG := bw (List.mem_append_left _ (List.mem_of_getElem? (i := 50) (by decide +kernel))) (by decide +kernel)
theorem se_yX9_semicolon : Cond.selects RX9 yX9_semicolon yX9_semicolon ∈ BIG := bw (List.mem_append_left _ (List.mem_of_getElem? (i := 51) (by decide +kernel))) (by decide +kernel)
theorem se_yX9_parseExtra : Cond.selects RX9 yX9_parseExtra yX9_parseExtra ∈ BIG := bw (List.mem_append_left _ (List.mem_of_getElem? (i := 52) (by decide +kernel))) (by decide +kernel)
theorem se_yX9_parseSession : Cond.selects RX9 yX9_parseSession yX9_parseSession ∈ BIG := bw (List.mem_append_left _ (List.mem_of_getElem? (i := 53) (by decide +kernel))) (by decide +kernel)
theorem se_yX9_parseHand : Cond.selects RX9 yX9_parseHand yX9_parseHand ∈ BIG := bw (List.mem_append_left _ (List.mem_of_getElem? (i := 54) (by decide +kernel))) (by decide +kernel)
theorem se_yX9_parseClaims : Cond.selects RX9 yX9_parseClaims yX9_parseClaims ∈ BIG := bw (List.mem_append_left _ (List.mem_of_getElem? (i := 55) (by decide +kernel))) (by decide +kernel)
theorem se_yX9_setSides : Cond.selects RX9 yX9_setSides yX9_setSides ∈ BIG := bw (List.mem_append_left _ (List.mem_of_getElem? (i := 56) (by decide +kernel))) (by decide +kernel)
theorem se_yX9_remember : Cond.selects RX9 yX9_remember yX9_remember ∈ BIG := bw (List.mem_append_left _ (List.mem_of_getElem? (i := 57) (by decide +kernel))) (by decide +kernel)
theorem se_yX9_mover : Cond.selects RX9 yX9_mover yX9_mover ∈ BIG := bw (List.mem_append_left _ (List.mem_of_getElem? (i := 58) (by decide +kernel))) (by decide +kernel)
theorem se_yX9_isPeriod : Cond.selects RX9 yX9_isPeriod yX9_isPeriod ∈ BIG := bw (List.mem_append_left _ (List.mem_of_getElem? (i := 59) (by decide +kernel))) (by decide +kernel)
theorem se_yX9_passes2 : Cond.selects RX9 yX9_passes2 yX9_passes2 ∈ BIG := bw (List.mem_append_left _ (List.mem_of_getElem? (i := 60) (by decide +kernel))) (by decide +kernel)
theorem se_yX9_of : Cond.selects RX9 yX9_of yX9_of ∈ BIG := bw (List.mem_append_left _ (List.mem_of_getElem? (i := 61) (by decide +kernel))) (by decide +kernel)
theorem se_yX9_movesLeft : Cond.selects RX9 yX9_movesLeft yX9_movesLeft ∈ BIG := bw (List.mem_append_left _ (List.mem_of_getElem? (i := 62) (by decide +kernel))) (by decide +kernel)
theorem se_yX9_its : Cond.selects RX9 yX9_its yX9_its ∈ BIG := bw (List.mem_append_left _ (List.mem_of_getElem? (i := 63) (by decide +kernel))) (by decide +kernel)
theorem se_yX9_logMany : Cond.selects RX9 yX9_logMany yX9_logMany ∈ BIG := bw (List.mem_append_left _ (List.mem_of_getElem? (i := 64) (by decide +kernel))) (by decide +kernel)
theorem se_yX9_ofLog : Cond.selects RX9 yX9_ofLog yX9_ofLog ∈ BIG := bw (List.mem_append_left _ (List.mem_of_getElem? (i := 65) (by decide +kernel))) (by decide +kernel)
theorem se_yX9_fell : Cond.selects RX9 yX9_fell yX9_fell ∈ BIG := bw (List.mem_append_left _ (List.mem_of_getElem? (i := 66) (by decide +kernel))) (by decide +kernel)
theorem se_yX9_runsFor : Cond.selects RX9 yX9_runsFor yX9_runsFor ∈ BIG := bw (List.mem_append_left _ (List.mem_of_getElem? (i := 67) (by decide +kernel))) (by decide +kernel)
theorem se_yX9_delayOf : Cond.selects RX9 yX9_delayOf yX9_delayOf ∈ BIG := bw (List.mem_append_left _ (List.mem_of_getElem? (i := 68) (by decide +kernel))) (by decide +kernel)
theorem se_yX9_secondsOf : Cond.selects RX9 yX9_secondsOf yX9_secondsOf ∈ BIG := bw (List.mem_append_left _ (List.mem_of_getElem? (i := 69) (by decide +kernel))) (by decide +kernel)
theorem se_yX9_greatestPace : Cond.selects RX9 yX9_greatestPace yX9_greatestPace ∈ BIG := bw (List.mem_append_left _ (List.mem_of_getElem? (i := 70) (by decide +kernel))) (by decide +kernel)
theorem se_yX9_movesAt : Cond.selects RX9 yX9_movesAt yX9_movesAt ∈ BIG := bw (List.mem_append_left _ (List.mem_of_getElem? (i := 71) (by decide +kernel))) (by decide +kernel)
theorem se_yX9_walkOn : Cond.selects RX9 yX9_walkOn yX9_walkOn ∈ BIG := bw (List.mem_append_left _ (List.mem_of_getElem? (i := 72) (by decide +kernel))) (by decide +kernel)
theorem se_yX9_sumOf : Cond.selects RX9 yX9_sumOf yX9_sumOf ∈ BIG := bw (List.mem_append_left _ (List.mem_of_getElem? (i := 73) (by decide +kernel))) (by decide +kernel)
theorem se_yX9_keepAside : Cond.selects RX9 yX9_keepAside yX9_keepAside ∈ BIG := bw (List.mem_append_left _ (List.mem_of_getElem? (i := 74) (by decide +kernel))) (by decide +kernel)
theorem se_yX9_ticks : Cond.selects RX9 yX9_ticks yX9_ticks ∈ BIG := bw (List.mem_append_left _ (List.mem_of_getElem? (i := 75) (by decide +kernel))) (by decide +kernel)
theorem se_yX9_isState : Cond.selects RX9 yX9_isState yX9_isState ∈ BIG := bw (List.mem_append_left _ (List.mem_of_getElem? (i := 76) (by decide +kernel))) (by decide +kernel)
theorem se_yX9_tickOnce : Cond.selects RX9 yX9_tickOnce yX9_tickOnce ∈ BIG := bw (List.mem_append_left _ (List.mem_of_getElem? (i := 77) (by decide +kernel))) (by decide +kernel)
theorem se_yX9_add : Cond.selects RX9 yX9_add yX9_add ∈ BIG := bw (List.mem_append_left _ (List.mem_of_getElem? (i := 78) (by decide +kernel))) (by decide +kernel)
theorem se_yX9_fall : Cond.selects RX9 yX9_fall yX9_fall ∈ BIG := bw (List.mem_append_left _ (List.mem_of_getElem? (i := 79) (by decide +kernel))) (by decide +kernel)
theorem se_yX9_wonBy : Cond.selects RX9 yX9_wonBy yX9_wonBy ∈ BIG := bw (List.mem_append_left _ (List.mem_of_getElem? (i := 80) (by decide +kernel))) (by decide +kernel)
theorem se_yX9_endGame : Cond.selects RX9 yX9_endGame yX9_endGame ∈ BIG := bw (List.mem_append_left _ (List.mem_of_getElem? (i := 81) (by decide +kernel))) (by decide +kernel)
theorem se_yX9_layBack : Cond.selects RX9 yX9_layBack yX9_layBack ∈ BIG := bw (List.mem_append_left _ (List.mem_of_getElem? (i := 82) (by decide +kernel))) (by decide +kernel)
theorem se_yX9_sealable : Cond.selects RX9 yX9_sealable yX9_sealable ∈ BIG := bw (List.mem_append_left _ (List.mem_of_getElem? (i := 83) (by decide +kernel))) (by decide +kernel)
theorem se_yX9_play : Cond.selects RX9 yX9_play yX9_play ∈ BIG := bw (List.mem_append_left _ (List.mem_of_getElem? (i := 84) (by decide +kernel))) (by decide +kernel)
theorem se_yX9_moveOnce : Cond.selects RX9 yX9_moveOnce yX9_moveOnce ∈ BIG := bw (List.mem_append_left _ (List.mem_of_getElem? (i := 85) (by decide +kernel))) (by decide +kernel)
theorem se_yX9_gainsOf : Cond.selects RX9 yX9_gainsOf yX9_gainsOf ∈ BIG := bw (List.mem_append_left _ (List.mem_of_getElem? (i := 86) (by decide +kernel))) (by decide +kernel)
theorem se_yX9_beginPeriod : Cond.selects RX9 yX9_beginPeriod yX9_beginPeriod ∈ BIG := bw (List.mem_append_left _ (List.mem_of_getElem? (i := 87) (by decide +kernel))) (by decide +kernel)
theorem se_yX9_keepLog : Cond.selects RX9 yX9_keepLog yX9_keepLog ∈ BIG := bw (List.mem_append_left _ (List.mem_of_getElem? (i := 88) (by decide +kernel))) (by decide +kernel)
theorem se_yX9_becomes : Cond.selects RX9 yX9_becomes yX9_becomes ∈ BIG := bw (List.mem_append_left _ (List.mem_of_getElem? (i := 89) (by decide +kernel))) (by decide +kernel)
theorem se_yX9_space : Cond.selects RX9 yX9_space yX9_space ∈ BIG := bw (List.mem_append_left _ (List.mem_of_getElem? (i := 90) (by decide +kernel))) (by decide +kernel)
theorem se_yX9_write : Cond.selects RX9 yX9_write yX9_write ∈ BIG := bw (List.mem_append_left _ (List.mem_of_getElem? (i := 91) (by decide +kernel))) (by decide +kernel)
theorem se_yX9_writeInt : Cond.selects RX9 yX9_writeInt yX9_writeInt ∈ BIG := bw (List.mem_append_left _ (List.mem_of_getElem? (i := 92) (by decide +kernel))) (by decide +kernel)
theorem se_yX9_writeTwo : Cond.selects RX9 yX9_writeTwo yX9_writeTwo ∈ BIG := bw (List.mem_append_left _ (List.mem_of_getElem? (i := 93) (by decide +kernel))) (by decide +kernel)
theorem se_yX9_writeIf : Cond.selects RX9 yX9_writeIf yX9_writeIf ∈ BIG := bw (List.mem_append_left _ (List.mem_of_getElem? (i := 94) (by decide +kernel))) (by decide +kernel)
theorem cw_X0 : ∀ w ∈ u_ws RX0 TX0 2, w ∈ BIG := by
  intro w hw
  obtain ⟨k, hk, rfl⟩ := List.mem_map.mp hw
  have h9 := List.mem_range.mp hk
  match k, h9 with
  | 0, _ => exact lay_X0_0
  | 1, _ => exact lay_X0_1
  | k + 2, h => exact absurd h (by omega)
theorem cw_X1 : ∀ w ∈ u_ws RX1 TX1 3, w ∈ BIG := by
  intro w hw
  obtain ⟨k, hk, rfl⟩ := List.mem_map.mp hw
  have h9 := List.mem_range.mp hk
  match k, h9 with
  | 0, _ => exact lay_X1_0
  | 1, _ => exact lay_X1_1
  | 2, _ => exact lay_X1_2
  | k + 3, h => exact absurd h (by omega)
theorem cw_X2 : ∀ w ∈ u_ws RX2 TX2 2, w ∈ BIG := by
  intro w hw
  obtain ⟨k, hk, rfl⟩ := List.mem_map.mp hw
  have h9 := List.mem_range.mp hk
  match k, h9 with
  | 0, _ => exact lay_X2_0
  | 1, _ => exact lay_X2_1
  | k + 2, h => exact absurd h (by omega)
theorem cw_X3 : ∀ w ∈ u_ws RX3 TX3 11, w ∈ BIG := by
  intro w hw
  obtain ⟨k, hk, rfl⟩ := List.mem_map.mp hw
  have h9 := List.mem_range.mp hk
  match k, h9 with
  | 0, _ => exact lay_X3_0
  | 1, _ => exact lay_X3_1
  | 2, _ => exact lay_X3_2
  | 3, _ => exact lay_X3_3
  | 4, _ => exact lay_X3_4
  | 5, _ => exact lay_X3_5
  | 6, _ => exact lay_X3_6
  | 7, _ => exact lay_X3_7
  | 8, _ => exact lay_X3_8
  | 9, _ => exact lay_X3_9
  | 10, _ => exact lay_X3_10
  | k + 11, h => exact absurd h (by omega)
theorem cw_X4 : ∀ w ∈ u_ws RX4 TX4 5, w ∈ BIG := by
  intro w hw
  obtain ⟨k, hk, rfl⟩ := List.mem_map.mp hw
  have h9 := List.mem_range.mp hk
  match k, h9 with
  | 0, _ => exact lay_X4_0
  | 1, _ => exact lay_X4_1
  | 2, _ => exact lay_X4_2
  | 3, _ => exact lay_X4_3
  | 4, _ => exact lay_X4_4
  | k + 5, h => exact absurd h (by omega)
theorem cw_X5 : ∀ w ∈ u_ws RX5 TX5 13, w ∈ BIG := by
  intro w hw
  obtain ⟨k, hk, rfl⟩ := List.mem_map.mp hw
  have h9 := List.mem_range.mp hk
  match k, h9 with
  | 0, _ => exact lay_X5_0
  | 1, _ => exact lay_X5_1
  | 2, _ => exact lay_X5_2
  | 3, _ => exact lay_X5_3
  | 4, _ => exact lay_X5_4
  | 5, _ => exact lay_X5_5
  | 6, _ => exact lay_X5_6
  | 7, _ => exact lay_X5_7
  | 8, _ => exact lay_X5_8
  | 9, _ => exact lay_X5_9
  | 10, _ => exact lay_X5_10
  | 11, _ => exact lay_X5_11
  | 12, _ => exact lay_X5_12
  | k + 13, h => exact absurd h (by omega)
theorem cw_X6 : ∀ w ∈ u_ws RX6 TX6 12, w ∈ BIG := by
  intro w hw
  obtain ⟨k, hk, rfl⟩ := List.mem_map.mp hw
  have h9 := List.mem_range.mp hk
  match k, h9 with
  | 0, _ => exact lay_X6_0
  | 1, _ => exact lay_X6_1
  | 2, _ => exact lay_X6_2
  | 3, _ => exact lay_X6_3
  | 4, _ => exact lay_X6_4
  | 5, _ => exact lay_X6_5
  | 6, _ => exact lay_X6_6
  | 7, _ => exact lay_X6_7
  | 8, _ => exact lay_X6_8
  | 9, _ => exact lay_X6_9
  | 10, _ => exact lay_X6_10
  | 11, _ => exact lay_X6_11
  | k + 12, h => exact absurd h (by omega)
theorem cw_X7 : ∀ w ∈ u_ws RX7 TX7 6, w ∈ BIG := by
  intro w hw
  obtain ⟨k, hk, rfl⟩ := List.mem_map.mp hw
  have h9 := List.mem_range.mp hk
  match k, h9 with
  | 0, _ => exact lay_X7_0
  | 1, _ => exact lay_X7_1
  | 2, _ => exact lay_X7_2
  | 3, _ => exact lay_X7_3
  | 4, _ => exact lay_X7_4
  | 5, _ => exact lay_X7_5
  | k + 6, h => exact absurd h (by omega)
theorem cw_X8 : ∀ w ∈ u_ws RX8 TX8 9, w ∈ BIG := by
  intro w hw
  obtain ⟨k, hk, rfl⟩ := List.mem_map.mp hw
  have h9 := List.mem_range.mp hk
  match k, h9 with
  | 0, _ => exact lay_X8_0
  | 1, _ => exact lay_X8_1
  | 2, _ => exact lay_X8_2
  | 3, _ => exact lay_X8_3
  | 4, _ => exact lay_X8_4
  | 5, _ => exact lay_X8_5
  | 6, _ => exact lay_X8_6
  | 7, _ => exact lay_X8_7
  | 8, _ => exact lay_X8_8
  | k + 9, h => exact absurd h (by omega)
theorem cw_X9 : ∀ w ∈ u_ws RX9 TX9 30, w ∈ BIG := by
  intro w hw
  obtain ⟨k, hk, rfl⟩ := List.mem_map.mp hw
  have h9 := List.mem_range.mp hk
  match k, h9 with
  | 0, _ => exact lay_X9_0
  | 1, _ => exact lay_X9_1
  | 2, _ => exact lay_X9_2
  | 3, _ => exact lay_X9_3
  | 4, _ => exact lay_X9_4
  | 5, _ => exact lay_X9_5
  | 6, _ => exact lay_X9_6
  | 7, _ => exact lay_X9_7
  | 8, _ => exact lay_X9_8
  | 9, _ => exact lay_X9_9
  | 10, _ => exact lay_X9_10
  | 11, _ => exact lay_X9_11
  | 12, _ => exact lay_X9_12
  | 13, _ => exact lay_X9_13
  | 14, _ => exact lay_X9_14
  | 15, _ => exact lay_X9_15
  | 16, _ => exact lay_X9_16
  | 17, _ => exact lay_X9_17
  | 18, _ => exact lay_X9_18
  | 19, _ => exact lay_X9_19
  | 20, _ => exact lay_X9_20
  | 21, _ => exact lay_X9_21
  | 22, _ => exact lay_X9_22
  | 23, _ => exact lay_X9_23
  | 24, _ => exact lay_X9_24
  | 25, _ => exact lay_X9_25
  | 26, _ => exact lay_X9_26
  | 27, _ => exact lay_X9_27
  | 28, _ => exact lay_X9_28
  | 29, _ => exact lay_X9_29
  | k + 30, h => exact absurd h (by omega)
