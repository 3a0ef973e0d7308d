theorem in_L : Cond.initialized RL ∈ BIG := bw (bt_1 _ (List.mem_of_getElem? (i := 0) (by decide +kernel))) (by decide +kernel)
theorem in_X8 : Cond.initialized RX8 ∈ BIG := bw (bt_1 _ (List.mem_of_getElem? (i := 1) (by decide +kernel))) (by decide +kernel)
theorem in_X3 : Cond.initialized RX3 ∈ BIG := bw (bt_1 _ (List.mem_of_getElem? (i := 2) (by decide +kernel))) (by decide +kernel)
theorem in_X0 : Cond.initialized RX0 ∈ BIG := bw (bt_1 _ (List.mem_of_getElem? (i := 3) (by decide +kernel))) (by decide +kernel)
theorem in_X4 : Cond.initialized RX4 ∈ BIG := bw (bt_1 _ (List.mem_of_getElem? (i := 4) (by decide +kernel))) (by decide +kernel)
theorem in_X2 : Cond.initialized RX2 ∈ BIG := bw (bt_1 _ (List.mem_of_getElem? (i := 5) (by decide +kernel))) (by decide +kernel)
theorem in_X6 : Cond.initialized RX6 ∈ BIG := bw (bt_1 _ (List.mem_of_getElem? (i := 6) (by decide +kernel))) (by decide +kernel)
theorem in_X1 : Cond.initialized RX1 ∈ BIG := bw (bt_1 _ (List.mem_of_getElem? (i := 7) (by decide +kernel))) (by decide +kernel)
theorem in_X5 : Cond.initialized RX5 ∈ BIG := bw (bt_1 _ (List.mem_of_getElem? (i := 8) (by decide +kernel))) (by decide +kernel)
theorem in_J7 : Cond.initialized RJ7 ∈ BIG := bw (bt_1 _ (List.mem_of_getElem? (i := 9) (by decide +kernel))) (by decide +kernel)
theorem in_X7 : Cond.initialized RX7 ∈ BIG := bw (bt_1 _ (List.mem_of_getElem? (i := 10) (by decide +kernel))) (by decide +kernel)
theorem in_J5 : Cond.initialized RJ5 ∈ BIG := bw (bt_1 _ (List.mem_of_getElem? (i := 11) (by decide +kernel))) (by decide +kernel)
theorem in_J4 : Cond.initialized RJ4 ∈ BIG := bw (bt_1 _ (List.mem_of_getElem? (i := 12) (by decide +kernel))) (by decide +kernel)
theorem in_J0 : Cond.initialized RJ0 ∈ BIG := bw (bt_1 _ (List.mem_of_getElem? (i := 13) (by decide +kernel))) (by decide +kernel)
theorem in_J2 : Cond.initialized RJ2 ∈ BIG := bw (bt_1 _ (List.mem_of_getElem? (i := 14) (by decide +kernel))) (by decide +kernel)
theorem in_J8 : Cond.initialized RJ8 ∈ BIG := bw (bt_1 _ (List.mem_of_getElem? (i := 15) (by decide +kernel))) (by decide +kernel)
theorem in_J9 : Cond.initialized RJ9 ∈ BIG := bw (bt_1 _ (List.mem_of_getElem? (i := 16) (by decide +kernel))) (by decide +kernel)
theorem in_J10 : Cond.initialized RJ10 ∈ BIG := bw (bt_1 _ (List.mem_of_getElem? (i := 17) (by decide +kernel))) (by decide +kernel)
theorem in_J3 : Cond.initialized RJ3 ∈ BIG := bw (bt_1 _ (List.mem_of_getElem? (i := 18) (by decide +kernel))) (by decide +kernel)
theorem in_J1 : Cond.initialized RJ1 ∈ BIG := bw (bt_1 _ (List.mem_of_getElem? (i := 19) (by decide +kernel))) (by decide +kernel)
theorem in_Jxd2413 : Cond.initialized RJxd2413 ∈ BIG := bw (bt_1 _ (List.mem_of_getElem? (i := 20) (by decide +kernel))) (by decide +kernel)
theorem in_J6 : Cond.initialized RJ6 ∈ BIG := bw (bt_1 _ (List.mem_of_getElem? (i := 21) (by decide +kernel))) (by decide +kernel)
theorem in_java_lang_Throwable : Cond.initialized "java/lang/Throwable" ∈ BIG := bw (bt_1 _ (List.mem_of_getElem? (i := 22) (by decide +kernel))) (by decide +kernel)
theorem in_java_lang_Exception : Cond.initialized "java/lang/Exception" ∈ BIG := bw (bt_1 _ (List.mem_of_getElem? (i := 23) (by decide +kernel))) (by decide +kernel)
theorem in_java_lang_RuntimeException : Cond.initialized "java/lang/RuntimeException" ∈ BIG := bw (bt_1 _ (List.mem_of_getElem? (i := 24) (by decide +kernel))) (by decide +kernel)
theorem in_java_lang_IllegalStateException : Cond.initialized "java/lang/IllegalStateException" ∈ BIG := bw (bt_1 _ (List.mem_of_getElem? (i := 25) (by decide +kernel))) (by decide +kernel)
theorem in_java_lang_IllegalArgumentException : Cond.initialized "java/lang/IllegalArgumentException" ∈ BIG := bw (bt_1 _ (List.mem_of_getElem? (i := 26) (by decide +kernel))) (by decide +kernel)
theorem in_java_lang_IndexOutOfBoundsException : Cond.initialized "java/lang/IndexOutOfBoundsException" ∈ BIG := bw (bt_1 _ (List.mem_of_getElem? (i := 27) (by decide +kernel))) (by decide +kernel)
theorem cl_L_25 : Cond.classLink RL 25 RX8 ∈ BIG := bw (bt_1 _ (List.mem_of_getElem? (i := 28) (by decide +kernel))) (by decide +kernel)
theorem is_X8 : Cond.instantiable RX8 9 ∈ BIG := bw (bt_1 _ (List.mem_of_getElem? (i := 29) (by decide +kernel))) (by decide +kernel)
theorem ml_L_188 : Cond.methodLink RL 188 yX8_init ∈ BIG := bw (bt_1 _ (List.mem_of_getElem? (i := 30) (by decide +kernel))) (by decide +kernel)
theorem im_yX8_init : Cond.instanceMethod yX8_init ∈ BIG := bw (bt_1 _ (List.mem_of_getElem? (i := 31) (by decide +kernel))) (by decide +kernel)
theorem cd_yX8_init : Cond.code yX8_init cX8_init 2 none ∈ BIG := bw (bt_1 _ (List.mem_of_getElem? (i := 32) rfl)) rfl
theorem ml_X8_1 : Cond.methodLink RX8 1 Lib.objectInit ∈ BIG := bw (bt_1 _ (List.mem_of_getElem? (i := 33) (by decide +kernel))) (by decide +kernel)
theorem im_Lib_objectInit : Cond.instanceMethod Lib.objectInit ∈ BIG := bw (bt_1 _ (List.mem_of_getElem? (i := 34) (by decide +kernel))) (by decide +kernel)
theorem cd_objectInit : Cond.code Lib.objectInit ⟨#[0xb1]⟩ 1 none ∈ BIG := bw (bt_1 _ (List.mem_of_getElem? (i := 35) (by decide +kernel))) (by decide +kernel)
theorem cl_X8_7 : Cond.classLink RX8 7 RX3 ∈ BIG := bw (bt_1 _ (List.mem_of_getElem? (i := 36) (by decide +kernel))) (by decide +kernel)
theorem is_X3 : Cond.instantiable RX3 11 ∈ BIG := bw (bt_1 _ (List.mem_of_getElem? (i := 37) (by decide +kernel))) (by decide +kernel)
theorem im_yX3_init : Cond.instanceMethod yX3_init ∈ BIG := bw (bt_1 _ (List.mem_of_getElem? (i := 39) (by decide +kernel))) (by decide +kernel)
theorem cd_yX3_init : Cond.code yX3_init cX3_init 1 none ∈ BIG := bw (bt_1 _ (List.mem_of_getElem? (i := 40) rfl)) rfl
theorem ml_X3_3 : Cond.methodLink RX3 3 Lib.objectInit ∈ BIG := bw (bt_1 _ (List.mem_of_getElem? (i := 41) (by decide +kernel))) (by decide +kernel)
theorem cl_X3_9 : Cond.classLink RX3 9 RX0 ∈ BIG := bw (bt_1 _ (List.mem_of_getElem? (i := 42) (by decide +kernel))) (by decide +kernel)
theorem is_X0 : Cond.instantiable RX0 2 ∈ BIG := bw (bt_1 _ (List.mem_of_getElem? (i := 43) (by decide +kernel))) (by decide +kernel)
theorem im_yX0_init : Cond.instanceMethod yX0_init ∈ BIG := bw (bt_1 _ (List.mem_of_getElem? (i := 45) (by decide +kernel))) (by decide +kernel)
theorem cd_yX0_init : Cond.code yX0_init cX0_init 1 none ∈ BIG := bw (bt_1 _ (List.mem_of_getElem? (i := 46) rfl)) rfl
theorem ml_X0_3 : Cond.methodLink RX0 3 Lib.objectInit ∈ BIG := bw (bt_1 _ (List.mem_of_getElem? (i := 47) (by decide +kernel))) (by decide +kernel)
theorem fl_X0_9 : Cond.fieldLink RX0 9 (TX0 0).1 (TX0 0).2.1 (TX0 0).2.2.1 ∈ BIG := bw (bt_1 _ (List.mem_of_getElem? (i := 48) (by decide +kernel))) (by decide +kernel)
theorem fl_X8_49 : Cond.fieldLink RX8 49 (TX0 1).1 (TX0 1).2.1 (TX0 1).2.2.1 ∈ BIG := bw (bt_1 _ (List.mem_of_getElem? (i := 49) (by decide +kernel))) (by decide +kernel)
theorem fl_X0_15 : Cond.fieldLink RX0 15 (TX0 1).1 (TX0 1).2.1 (TX0 1).2.2.1 ∈ BIG := bw (bt_1 _ (List.mem_of_getElem? (i := 50) (by decide +kernel))) (by decide +kernel)
theorem fl_X3_161 : Cond.fieldLink RX3 161 (TX0 1).1 (TX0 1).2.1 (TX0 1).2.2.1 ∈ BIG := bw (bt_1 _ (List.mem_of_getElem? (i := 51) (by decide +kernel))) (by decide +kernel)
theorem lay_X0_0 : u_lay RX0 TX0 0 ∈ BIG := bw (bt_1 _ (List.mem_of_getElem? (i := 52) (by decide +kernel))) (by decide +kernel)
theorem lay_X0_1 : u_lay RX0 TX0 1 ∈ BIG := bw (bt_1 _ (List.mem_of_getElem? (i := 54) (by decide +kernel))) (by decide +kernel)
theorem ac_byte : Cond.arrayClass .byte ∈ BIG := bw (bt_1 _ (List.mem_of_getElem? (i := 57) (by decide +kernel))) (by decide +kernel)
theorem cl_X3_18 : Cond.classLink RX3 18 RX4 ∈ BIG := bw (bt_1 _ (List.mem_of_getElem? (i := 58) (by decide +kernel))) (by decide +kernel)
theorem is_X4 : Cond.instantiable RX4 5 ∈ BIG := bw (bt_1 _ (List.mem_of_getElem? (i := 59) (by decide +kernel))) (by decide +kernel)
theorem im_yX4_init : Cond.instanceMethod yX4_init ∈ BIG := bw (bt_1 _ (List.mem_of_getElem? (i := 61) (by decide +kernel))) (by decide +kernel)
theorem cd_yX4_init : Cond.code yX4_init cX4_init 1 none ∈ BIG := bw (bt_1 _ (List.mem_of_getElem? (i := 62) rfl)) rfl
theorem ml_X4_3 : Cond.methodLink RX4 3 Lib.objectInit ∈ BIG := bw (bt_1 _ (List.mem_of_getElem? (i := 63) (by decide +kernel))) (by decide +kernel)
theorem fl_X4_9 : Cond.fieldLink RX4 9 (TX4 0).1 (TX4 0).2.1 (TX4 0).2.2.1 ∈ BIG := bw (bt_1 _ (List.mem_of_getElem? (i := 64) (by decide +kernel))) (by decide +kernel)
theorem fl_X6_42 : Cond.fieldLink RX6 42 (TX4 1).1 (TX4 1).2.1 (TX4 1).2.2.1 ∈ BIG := bw (bt_1 _ (List.mem_of_getElem? (i := 65) (by decide +kernel))) (by decide +kernel)
theorem fl_X4_25 : Cond.fieldLink RX4 25 (TX4 1).1 (TX4 1).2.1 (TX4 1).2.2.1 ∈ BIG := bw (bt_1 _ (List.mem_of_getElem? (i := 66) (by decide +kernel))) (by decide +kernel)
theorem fl_X3_87 : Cond.fieldLink RX3 87 (TX4 1).1 (TX4 1).2.1 (TX4 1).2.2.1 ∈ BIG := bw (bt_1 _ (List.mem_of_getElem? (i := 67) (by decide +kernel))) (by decide +kernel)
theorem fl_X8_106 : Cond.fieldLink RX8 106 (TX4 1).1 (TX4 1).2.1 (TX4 1).2.2.1 ∈ BIG := bw (bt_1 _ (List.mem_of_getElem? (i := 68) (by decide +kernel))) (by decide +kernel)
theorem fl_X5_113 : Cond.fieldLink RX5 113 (TX4 1).1 (TX4 1).2.1 (TX4 1).2.2.1 ∈ BIG := bw (bt_1 _ (List.mem_of_getElem? (i := 69) (by decide +kernel))) (by decide +kernel)
theorem fl_X4_28 : Cond.fieldLink RX4 28 (TX4 2).1 (TX4 2).2.1 (TX4 2).2.2.1 ∈ BIG := bw (bt_1 _ (List.mem_of_getElem? (i := 70) (by decide +kernel))) (by decide +kernel)
theorem fl_X5_40 : Cond.fieldLink RX5 40 (TX4 2).1 (TX4 2).2.1 (TX4 2).2.2.1 ∈ BIG := bw (bt_1 _ (List.mem_of_getElem? (i := 71) (by decide +kernel))) (by decide +kernel)
theorem fl_X3_124 : Cond.fieldLink RX3 124 (TX4 2).1 (TX4 2).2.1 (TX4 2).2.2.1 ∈ BIG := bw (bt_1 _ (List.mem_of_getElem? (i := 72) (by decide +kernel))) (by decide +kernel)
theorem fl_X8_123 : Cond.fieldLink RX8 123 (TX4 2).1 (TX4 2).2.1 (TX4 2).2.2.1 ∈ BIG := bw (bt_1 _ (List.mem_of_getElem? (i := 73) (by decide +kernel))) (by decide +kernel)
theorem fl_X4_31 : Cond.fieldLink RX4 31 (TX4 3).1 (TX4 3).2.1 (TX4 3).2.2.1 ∈ BIG := bw (bt_1 _ (List.mem_of_getElem? (i := 74) (by decide +kernel))) (by decide +kernel)
theorem fl_X3_131 : Cond.fieldLink RX3 131 (TX4 3).1 (TX4 3).2.1 (TX4 3).2.2.1 ∈ BIG := bw (bt_1 _ (List.mem_of_getElem? (i := 75) (by decide +kernel))) (by decide +kernel)
theorem fl_X5_79 : Cond.fieldLink RX5 79 (TX4 3).1 (TX4 3).2.1 (TX4 3).2.2.1 ∈ BIG := bw (bt_1 _ (List.mem_of_getElem? (i := 76) (by decide +kernel))) (by decide +kernel)
theorem fl_X8_126 : Cond.fieldLink RX8 126 (TX4 3).1 (TX4 3).2.1 (TX4 3).2.2.1 ∈ BIG := bw (bt_1 _ (List.mem_of_getElem? (i := 77) (by decide +kernel))) (by decide +kernel)
theorem fl_X4_15 : Cond.fieldLink RX4 15 (TX4 4).1 (TX4 4).2.1 (TX4 4).2.2.1 ∈ BIG := bw (bt_1 _ (List.mem_of_getElem? (i := 78) (by decide +kernel))) (by decide +kernel)
theorem fl_X3_134 : Cond.fieldLink RX3 134 (TX4 4).1 (TX4 4).2.1 (TX4 4).2.2.1 ∈ BIG := bw (bt_1 _ (List.mem_of_getElem? (i := 79) (by decide +kernel))) (by decide +kernel)
theorem fl_X8_129 : Cond.fieldLink RX8 129 (TX4 4).1 (TX4 4).2.1 (TX4 4).2.2.1 ∈ BIG := bw (bt_1 _ (List.mem_of_getElem? (i := 80) (by decide +kernel))) (by decide +kernel)
theorem fl_X6_95 : Cond.fieldLink RX6 95 (TX4 4).1 (TX4 4).2.1 (TX4 4).2.2.1 ∈ BIG := bw (bt_1 _ (List.mem_of_getElem? (i := 81) (by decide +kernel))) (by decide +kernel)
theorem lay_X4_0 : u_lay RX4 TX4 0 ∈ BIG := bw (bt_1 _ (List.mem_of_getElem? (i := 82) (by decide +kernel))) (by decide +kernel)
theorem lay_X4_1 : u_lay RX4 TX4 1 ∈ BIG := bw (bt_1 _ (List.mem_of_getElem? (i := 84) (by decide +kernel))) (by decide +kernel)
theorem lay_X4_2 : u_lay RX4 TX4 2 ∈ BIG := bw (bt_1 _ (List.mem_of_getElem? (i := 86) (by decide +kernel))) (by decide +kernel)
theorem lay_X4_3 : u_lay RX4 TX4 3 ∈ BIG := bw (bt_1 _ (List.mem_of_getElem? (i := 88) (by decide +kernel))) (by decide +kernel)
theorem lay_X4_4 : u_lay RX4 TX4 4 ∈ BIG := bw (bt_1 _ (List.mem_of_getElem? (i := 90) (by decide +kernel))) (by decide +kernel)
theorem ac_int : Cond.arrayClass .int ∈ BIG := bw (bt_1 _ (List.mem_of_getElem? (i := 93) (by decide +kernel))) (by decide +kernel)
theorem fl_X3_12 : Cond.fieldLink RX3 12 (TX3 0).1 (TX3 0).2.1 (TX3 0).2.2.1 ∈ BIG := bw (bt_1 _ (List.mem_of_getElem? (i := 94) (by decide +kernel))) (by decide +kernel)
theorem fl_X8_16 : Cond.fieldLink RX8 16 (TX3 0).1 (TX3 0).2.1 (TX3 0).2.2.1 ∈ BIG := bw (bt_1 _ (List.mem_of_getElem? (i := 95) (by decide +kernel))) (by decide +kernel)
theorem fl_X3_21 : Cond.fieldLink RX3 21 (TX3 1).1 (TX3 1).2.1 (TX3 1).2.2.1 ∈ BIG := bw (bt_1 _ (List.mem_of_getElem? (i := 96) (by decide +kernel))) (by decide +kernel)
theorem fl_X8_78 : Cond.fieldLink RX8 78 (TX3 1).1 (TX3 1).2.1 (TX3 1).2.2.1 ∈ BIG := bw (bt_1 _ (List.mem_of_getElem? (i := 97) (by decide +kernel))) (by decide +kernel)
theorem fl_X3_78 : Cond.fieldLink RX3 78 (TX3 2).1 (TX3 2).2.1 (TX3 2).2.2.1 ∈ BIG := bw (bt_1 _ (List.mem_of_getElem? (i := 98) (by decide +kernel))) (by decide +kernel)
theorem fl_X8_82 : Cond.fieldLink RX8 82 (TX3 2).1 (TX3 2).2.1 (TX3 2).2.2.1 ∈ BIG := bw (bt_1 _ (List.mem_of_getElem? (i := 99) (by decide +kernel))) (by decide +kernel)
theorem fl_X3_25 : Cond.fieldLink RX3 25 (TX3 3).1 (TX3 3).2.1 (TX3 3).2.2.1 ∈ BIG := bw (bt_1 _ (List.mem_of_getElem? (i := 100) (by decide +kernel))) (by decide +kernel)
theorem fl_X8_90 : Cond.fieldLink RX8 90 (TX3 3).1 (TX3 3).2.1 (TX3 3).2.2.1 ∈ BIG := bw (bt_1 _ (List.mem_of_getElem? (i := 101) (by decide +kernel))) (by decide +kernel)
theorem fl_X3_81 : Cond.fieldLink RX3 81 (TX3 4).1 (TX3 4).2.1 (TX3 4).2.2.1 ∈ BIG := bw (bt_1 _ (List.mem_of_getElem? (i := 102) (by decide +kernel))) (by decide +kernel)
theorem fl_X8_102 : Cond.fieldLink RX8 102 (TX3 4).1 (TX3 4).2.1 (TX3 4).2.2.1 ∈ BIG := bw (bt_1 _ (List.mem_of_getElem? (i := 103) (by decide +kernel))) (by decide +kernel)
theorem fl_X3_48 : Cond.fieldLink RX3 48 (TX3 5).1 (TX3 5).2.1 (TX3 5).2.2.1 ∈ BIG := bw (bt_1 _ (List.mem_of_getElem? (i := 104) (by decide +kernel))) (by decide +kernel)
theorem fl_X8_111 : Cond.fieldLink RX8 111 (TX3 5).1 (TX3 5).2.1 (TX3 5).2.2.1 ∈ BIG := bw (bt_1 _ (List.mem_of_getElem? (i := 105) (by decide +kernel))) (by decide +kernel)
theorem fl_X3_29 : Cond.fieldLink RX3 29 (TX3 6).1 (TX3 6).2.1 (TX3 6).2.2.1 ∈ BIG := bw (bt_1 _ (List.mem_of_getElem? (i := 106) (by decide +kernel))) (by decide +kernel)
theorem fl_X3_51 : Cond.fieldLink RX3 51 (TX3 7).1 (TX3 7).2.1 (TX3 7).2.2.1 ∈ BIG := bw (bt_1 _ (List.mem_of_getElem? (i := 107) (by decide +kernel))) (by decide +kernel)
theorem fl_X3_141 : Cond.fieldLink RX3 141 (TX3 8).1 (TX3 8).2.1 (TX3 8).2.2.1 ∈ BIG := bw (bt_1 _ (List.mem_of_getElem? (i := 108) (by decide +kernel))) (by decide +kernel)
theorem fl_X3_84 : Cond.fieldLink RX3 84 (TX3 9).1 (TX3 9).2.1 (TX3 9).2.2.1 ∈ BIG := bw (bt_1 _ (List.mem_of_getElem? (i := 109) (by decide +kernel))) (by decide +kernel)
theorem fl_X3_144 : Cond.fieldLink RX3 144 (TX3 10).1 (TX3 10).2.1 (TX3 10).2.2.1 ∈ BIG := bw (bt_1 _ (List.mem_of_getElem? (i := 110) (by decide +kernel))) (by decide +kernel)
theorem lay_X3_0 : u_lay RX3 TX3 0 ∈ BIG := bw (bt_1 _ (List.mem_of_getElem? (i := 111) (by decide +kernel))) (by decide +kernel)
theorem lay_X3_1 : u_lay RX3 TX3 1 ∈ BIG := bw (bt_1 _ (List.mem_of_getElem? (i := 113) (by decide +kernel))) (by decide +kernel)
theorem lay_X3_2 : u_lay RX3 TX3 2 ∈ BIG := bw (bt_1 _ (List.mem_of_getElem? (i := 115) (by decide +kernel))) (by decide +kernel)
theorem lay_X3_3 : u_lay RX3 TX3 3 ∈ BIG := bw (bt_1 _ (List.mem_of_getElem? (i := 117) (by decide +kernel))) (by decide +kernel)
theorem lay_X3_4 : u_lay RX3 TX3 4 ∈ BIG := bw (bt_1 _ (List.mem_of_getElem? (i := 119) (by decide +kernel))) (by decide +kernel)
theorem lay_X3_5 : u_lay RX3 TX3 5 ∈ BIG := bw (bt_1 _ (List.mem_of_getElem? (i := 121) (by decide +kernel))) (by decide +kernel)
theorem lay_X3_6 : u_lay RX3 TX3 6 ∈ BIG := bw (bt_1 _ (List.mem_of_getElem? (i := 123) (by decide +kernel))) (by decide +kernel)
theorem lay_X3_7 : u_lay RX3 TX3 7 ∈ BIG := bw (bt_1 _ (List.mem_of_getElem? (i := 125) (by decide +kernel))) (by decide +kernel)
theorem lay_X3_8 : u_lay RX3 TX3 8 ∈ BIG := bw (bt_1 _ (List.mem_of_getElem? (i := 127) (by decide +kernel))) (by decide +kernel)
theorem lay_X3_9 : u_lay RX3 TX3 9 ∈ BIG := bw (bt_1 _ (List.mem_of_getElem? (i := 129) (by decide +kernel))) (by decide +kernel)
theorem lay_X3_10 : u_lay RX3 TX3 10 ∈ BIG := bw (bt_1 _ (List.mem_of_getElem? (i := 131) (by decide +kernel))) (by decide +kernel)
theorem cl_X8_21 : Cond.classLink RX8 21 RX2 ∈ BIG := bw (bt_1 _ (List.mem_of_getElem? (i := 134) (by decide +kernel))) (by decide +kernel)
theorem is_X2 : Cond.instantiable RX2 2 ∈ BIG := bw (bt_1 _ (List.mem_of_getElem? (i := 135) (by decide +kernel))) (by decide +kernel)
theorem im_yX2_init : Cond.instanceMethod yX2_init ∈ BIG := bw (bt_1 _ (List.mem_of_getElem? (i := 137) (by decide +kernel))) (by decide +kernel)
theorem cd_yX2_init : Cond.code yX2_init cX2_init 1 none ∈ BIG := bw (bt_1 _ (List.mem_of_getElem? (i := 138) rfl)) rfl
theorem ml_X2_3 : Cond.methodLink RX2 3 Lib.objectInit ∈ BIG := bw (bt_1 _ (List.mem_of_getElem? (i := 139) (by decide +kernel))) (by decide +kernel)
theorem fl_X2_9 : Cond.fieldLink RX2 9 (TX2 0).1 (TX2 0).2.1 (TX2 0).2.2.1 ∈ BIG := bw (bt_1 _ (List.mem_of_getElem? (i := 140) (by decide +kernel))) (by decide +kernel)
theorem lay_X2_0 : u_lay RX2 TX2 0 ∈ BIG := bw (bt_1 _ (List.mem_of_getElem? (i := 141) (by decide +kernel))) (by decide +kernel)
theorem lay_X2_1 : u_lay RX2 TX2 1 ∈ BIG := bw (bt_1 _ (List.mem_of_getElem? (i := 143) (by decide +kernel))) (by decide +kernel)
theorem cl_X8_28 : Cond.classLink RX8 28 RX6 ∈ BIG := bw (bt_1 _ (List.mem_of_getElem? (i := 146) (by decide +kernel))) (by decide +kernel)
theorem is_X6 : Cond.instantiable RX6 12 ∈ BIG := bw (bt_1 _ (List.mem_of_getElem? (i := 147) (by decide +kernel))) (by decide +kernel)
theorem ml_X8_30 : Cond.methodLink RX8 30 yX6_init ∈ BIG := bw (bt_1 _ (List.mem_of_getElem? (i := 148) (by decide +kernel))) (by decide +kernel)
theorem im_yX6_init : Cond.instanceMethod yX6_init ∈ BIG := bw (bt_1 _ (List.mem_of_getElem? (i := 149) (by decide +kernel))) (by decide +kernel)
theorem cd_yX6_init : Cond.code yX6_init cX6_init 1 none ∈ BIG := bw (bt_1 _ (List.mem_of_getElem? (i := 150) rfl)) rfl
theorem ml_X6_3 : Cond.methodLink RX6 3 Lib.objectInit ∈ BIG := bw (bt_1 _ (List.mem_of_getElem? (i := 151) (by decide +kernel))) (by decide +kernel)
theorem cl_X6_9 : Cond.classLink RX6 9 RX4 ∈ BIG := bw (bt_1 _ (List.mem_of_getElem? (i := 152) (by decide +kernel))) (by decide +kernel)
theorem cl_X6_18 : Cond.classLink RX6 18 RX1 ∈ BIG := bw (bt_1 _ (List.mem_of_getElem? (i := 154) (by decide +kernel))) (by decide +kernel)
theorem is_X1 : Cond.instantiable RX1 3 ∈ BIG := bw (bt_1 _ (List.mem_of_getElem? (i := 155) (by decide +kernel))) (by decide +kernel)
theorem im_yX1_init : Cond.instanceMethod yX1_init ∈ BIG := bw (bt_1 _ (List.mem_of_getElem? (i := 157) (by decide +kernel))) (by decide +kernel)
theorem cd_yX1_init : Cond.code yX1_init cX1_init 1 none ∈ BIG := bw (bt_1 _ (List.mem_of_getElem? (i := 158) rfl)) rfl
theorem ml_X1_3 : Cond.methodLink RX1 3 Lib.objectInit ∈ BIG := bw (bt_1 _ (List.mem_of_getElem? (i := 159) (by decide +kernel))) (by decide +kernel)
theorem fl_X1_9 : Cond.fieldLink RX1 9 (TX1 0).1 (TX1 0).2.1 (TX1 0).2.2.1 ∈ BIG := bw (bt_1 _ (List.mem_of_getElem? (i := 160) (by decide +kernel))) (by decide +kernel)
theorem fl_X1_15 : Cond.fieldLink RX1 15 (TX1 1).1 (TX1 1).2.1 (TX1 1).2.2.1 ∈ BIG := bw (bt_1 _ (List.mem_of_getElem? (i := 161) (by decide +kernel))) (by decide +kernel)
theorem fl_X8_200 : Cond.fieldLink RX8 200 (TX1 1).1 (TX1 1).2.1 (TX1 1).2.2.1 ∈ BIG := bw (bt_1 _ (List.mem_of_getElem? (i := 162) (by decide +kernel))) (by decide +kernel)
theorem fl_X1_19 : Cond.fieldLink RX1 19 (TX1 2).1 (TX1 2).2.1 (TX1 2).2.2.1 ∈ BIG := bw (bt_1 _ (List.mem_of_getElem? (i := 163) (by decide +kernel))) (by decide +kernel)
theorem lay_X1_0 : u_lay RX1 TX1 0 ∈ BIG := bw (bt_1 _ (List.mem_of_getElem? (i := 164) (by decide +kernel))) (by decide +kernel)
theorem lay_X1_1 : u_lay RX1 TX1 1 ∈ BIG := bw (bt_1 _ (List.mem_of_getElem? (i := 166) (by decide +kernel))) (by decide +kernel)
theorem lay_X1_2 : u_lay RX1 TX1 2 ∈ BIG := bw (bt_1 _ (List.mem_of_getElem? (i := 168) (by decide +kernel))) (by decide +kernel)
theorem cl_X6_25 : Cond.classLink RX6 25 RX5 ∈ BIG := bw (bt_1 _ (List.mem_of_getElem? (i := 171) (by decide +kernel))) (by decide +kernel)
theorem is_X5 : Cond.instantiable RX5 13 ∈ BIG := bw (bt_1 _ (List.mem_of_getElem? (i := 172) (by decide +kernel))) (by decide +kernel)
theorem im_yX5_init : Cond.instanceMethod yX5_init ∈ BIG := bw (bt_1 _ (List.mem_of_getElem? (i := 174) (by decide +kernel))) (by decide +kernel)
theorem cd_yX5_init : Cond.code yX5_init cX5_init 1 none ∈ BIG := bw (bt_1 _ (List.mem_of_getElem? (i := 175) rfl)) rfl
theorem ml_X5_3 : Cond.methodLink RX5 3 Lib.objectInit ∈ BIG := bw (bt_1 _ (List.mem_of_getElem? (i := 176) (by decide +kernel))) (by decide +kernel)
theorem fl_X5_9 : Cond.fieldLink RX5 9 (TX5 0).1 (TX5 0).2.1 (TX5 0).2.2.1 ∈ BIG := bw (bt_1 _ (List.mem_of_getElem? (i := 177) (by decide +kernel))) (by decide +kernel)
theorem fl_X8_227 : Cond.fieldLink RX8 227 (TX5 0).1 (TX5 0).2.1 (TX5 0).2.2.1 ∈ BIG := bw (bt_1 _ (List.mem_of_getElem? (i := 178) (by decide +kernel))) (by decide +kernel)
theorem fl_X5_27 : Cond.fieldLink RX5 27 (TX5 1).1 (TX5 1).2.1 (TX5 1).2.2.1 ∈ BIG := bw (bt_1 _ (List.mem_of_getElem? (i := 179) (by decide +kernel))) (by decide +kernel)
theorem fl_X8_97 : Cond.fieldLink RX8 97 (TX5 1).1 (TX5 1).2.1 (TX5 1).2.2.1 ∈ BIG := bw (bt_1 _ (List.mem_of_getElem? (i := 180) (by decide +kernel))) (by decide +kernel)
theorem fl_X6_85 : Cond.fieldLink RX6 85 (TX5 1).1 (TX5 1).2.1 (TX5 1).2.2.1 ∈ BIG := bw (bt_1 _ (List.mem_of_getElem? (i := 181) (by decide +kernel))) (by decide +kernel)
theorem fl_X5_31 : Cond.fieldLink RX5 31 (TX5 2).1 (TX5 2).2.1 (TX5 2).2.2.1 ∈ BIG := bw (bt_1 _ (List.mem_of_getElem? (i := 182) (by decide +kernel))) (by decide +kernel)
theorem fl_X8_167 : Cond.fieldLink RX8 167 (TX5 2).1 (TX5 2).2.1 (TX5 2).2.2.1 ∈ BIG := bw (bt_1 _ (List.mem_of_getElem? (i := 183) (by decide +kernel))) (by decide +kernel)
theorem fl_X5_34 : Cond.fieldLink RX5 34 (TX5 3).1 (TX5 3).2.1 (TX5 3).2.2.1 ∈ BIG := bw (bt_1 _ (List.mem_of_getElem? (i := 184) (by decide +kernel))) (by decide +kernel)
theorem fl_X8_142 : Cond.fieldLink RX8 142 (TX5 3).1 (TX5 3).2.1 (TX5 3).2.2.1 ∈ BIG := bw (bt_1 _ (List.mem_of_getElem? (i := 185) (by decide +kernel))) (by decide +kernel)
theorem fl_X5_37 : Cond.fieldLink RX5 37 (TX5 4).1 (TX5 4).2.1 (TX5 4).2.2.1 ∈ BIG := bw (bt_1 _ (List.mem_of_getElem? (i := 186) (by decide +kernel))) (by decide +kernel)
theorem fl_X8_170 : Cond.fieldLink RX8 170 (TX5 4).1 (TX5 4).2.1 (TX5 4).2.2.1 ∈ BIG := bw (bt_1 _ (List.mem_of_getElem? (i := 187) (by decide +kernel))) (by decide +kernel)
theorem fl_X5_43 : Cond.fieldLink RX5 43 (TX5 5).1 (TX5 5).2.1 (TX5 5).2.2.1 ∈ BIG := bw (bt_1 _ (List.mem_of_getElem? (i := 188) (by decide +kernel))) (by decide +kernel)
theorem fl_X8_173 : Cond.fieldLink RX8 173 (TX5 5).1 (TX5 5).2.1 (TX5 5).2.2.1 ∈ BIG := bw (bt_1 _ (List.mem_of_getElem? (i := 189) (by decide +kernel))) (by decide +kernel)
theorem fl_X5_44 : Cond.fieldLink RX5 44 (TX5 6).1 (TX5 6).2.1 (TX5 6).2.2.1 ∈ BIG := bw (bt_1 _ (List.mem_of_getElem? (i := 190) (by decide +kernel))) (by decide +kernel)
theorem fl_X8_174 : Cond.fieldLink RX8 174 (TX5 6).1 (TX5 6).2.1 (TX5 6).2.2.1 ∈ BIG := bw (bt_1 _ (List.mem_of_getElem? (i := 191) (by decide +kernel))) (by decide +kernel)
theorem fl_X5_48 : Cond.fieldLink RX5 48 (TX5 7).1 (TX5 7).2.1 (TX5 7).2.2.1 ∈ BIG := bw (bt_1 _ (List.mem_of_getElem? (i := 192) (by decide +kernel))) (by decide +kernel)
theorem fl_X8_177 : Cond.fieldLink RX8 177 (TX5 7).1 (TX5 7).2.1 (TX5 7).2.2.1 ∈ BIG := bw (bt_1 _ (List.mem_of_getElem? (i := 193) (by decide +kernel))) (by decide +kernel)
theorem fl_X6_132 : Cond.fieldLink RX6 132 (TX5 7).1 (TX5 7).2.1 (TX5 7).2.2.1 ∈ BIG := bw (bt_1 _ (List.mem_of_getElem? (i := 194) (by decide +kernel))) (by decide +kernel)
theorem fl_X5_51 : Cond.fieldLink RX5 51 (TX5 8).1 (TX5 8).2.1 (TX5 8).2.2.1 ∈ BIG := bw (bt_1 _ (List.mem_of_getElem? (i := 195) (by decide +kernel))) (by decide +kernel)
theorem fl_X8_180 : Cond.fieldLink RX8 180 (TX5 8).1 (TX5 8).2.1 (TX5 8).2.2.1 ∈ BIG := bw (bt_1 _ (List.mem_of_getElem? (i := 196) (by decide +kernel))) (by decide +kernel)
theorem fl_X6_135 : Cond.fieldLink RX6 135 (TX5 8).1 (TX5 8).2.1 (TX5 8).2.2.1 ∈ BIG := bw (bt_1 _ (List.mem_of_getElem? (i := 197) (by decide +kernel))) (by decide +kernel)
theorem fl_X5_54 : Cond.fieldLink RX5 54 (TX5 9).1 (TX5 9).2.1 (TX5 9).2.2.1 ∈ BIG := bw (bt_1 _ (List.mem_of_getElem? (i := 198) (by decide +kernel))) (by decide +kernel)
theorem fl_X8_183 : Cond.fieldLink RX8 183 (TX5 9).1 (TX5 9).2.1 (TX5 9).2.2.1 ∈ BIG := bw (bt_1 _ (List.mem_of_getElem? (i := 199) (by decide +kernel))) (by decide +kernel)
theorem fl_X6_108 : Cond.fieldLink RX6 108 (TX5 9).1 (TX5 9).2.1 (TX5 9).2.2.1 ∈ BIG := bw (bt_1 _ (List.mem_of_getElem? (i := 200) (by decide +kernel))) (by decide +kernel)
theorem fl_X5_57 : Cond.fieldLink RX5 57 (TX5 10).1 (TX5 10).2.1 (TX5 10).2.2.1 ∈ BIG := bw (bt_1 _ (List.mem_of_getElem? (i := 201) (by decide +kernel))) (by decide +kernel)
theorem fl_X6_92 : Cond.fieldLink RX6 92 (TX5 10).1 (TX5 10).2.1 (TX5 10).2.2.1 ∈ BIG := bw (bt_1 _ (List.mem_of_getElem? (i := 202) (by decide +kernel))) (by decide +kernel)
theorem fl_X8_186 : Cond.fieldLink RX8 186 (TX5 10).1 (TX5 10).2.1 (TX5 10).2.2.1 ∈ BIG := bw (bt_1 _ (List.mem_of_getElem? (i := 203) (by decide +kernel))) (by decide +kernel)
theorem fl_X5_60 : Cond.fieldLink RX5 60 (TX5 11).1 (TX5 11).2.1 (TX5 11).2.2.1 ∈ BIG := bw (bt_1 _ (List.mem_of_getElem? (i := 204) (by decide +kernel))) (by decide +kernel)
theorem fl_X8_189 : Cond.fieldLink RX8 189 (TX5 11).1 (TX5 11).2.1 (TX5 11).2.2.1 ∈ BIG := bw (bt_1 _ (List.mem_of_getElem? (i := 205) (by decide +kernel))) (by decide +kernel)
theorem fl_X5_63 : Cond.fieldLink RX5 63 (TX5 12).1 (TX5 12).2.1 (TX5 12).2.2.1 ∈ BIG := bw (bt_1 _ (List.mem_of_getElem? (i := 206) (by decide +kernel))) (by decide +kernel)
theorem lay_X5_0 : u_lay RX5 TX5 0 ∈ BIG := bw (bt_1 _ (List.mem_of_getElem? (i := 207) (by decide +kernel))) (by decide +kernel)
theorem lay_X5_1 : u_lay RX5 TX5 1 ∈ BIG := bw (bt_1 _ (List.mem_of_getElem? (i := 209) (by decide +kernel))) (by decide +kernel)
theorem lay_X5_2 : u_lay RX5 TX5 2 ∈ BIG := bw (bt_1 _ (List.mem_of_getElem? (i := 211) (by decide +kernel))) (by decide +kernel)
theorem lay_X5_3 : u_lay RX5 TX5 3 ∈ BIG := bw (bt_1 _ (List.mem_of_getElem? (i := 213) (by decide +kernel))) (by decide +kernel)
theorem lay_X5_4 : u_lay RX5 TX5 4 ∈ BIG := bw (bt_1 _ (List.mem_of_getElem? (i := 215) (by decide +kernel))) (by decide +kernel)
theorem lay_X5_5 : u_lay RX5 TX5 5 ∈ BIG := bw (bt_1 _ (List.mem_of_getElem? (i := 217) (by decide +kernel))) (by decide +kernel)
theorem lay_X5_6 : u_lay RX5 TX5 6 ∈ BIG := bw (bt_1 _ (List.mem_of_getElem? (i := 219) (by decide +kernel))) (by decide +kernel)
theorem lay_X5_7 : u_lay RX5 TX5 7 ∈ BIG := bw (bt_1 _ (List.mem_of_getElem? (i := 221) (by decide +kernel))) (by decide +kernel)
theorem lay_X5_8 : u_lay RX5 TX5 8 ∈ BIG := bw (bt_1 _ (List.mem_of_getElem? (i := 223) (by decide +kernel))) (by decide +kernel)
theorem lay_X5_9 : u_lay RX5 TX5 9 ∈ BIG := bw (bt_1 _ (List.mem_of_getElem? (i := 225) (by decide +kernel))) (by decide +kernel)
theorem lay_X5_10 : u_lay RX5 TX5 10 ∈ BIG := bw (bt_1 _ (List.mem_of_getElem? (i := 227) (by decide +kernel))) (by decide +kernel)
theorem lay_X5_11 : u_lay RX5 TX5 11 ∈ BIG := bw (bt_1 _ (List.mem_of_getElem? (i := 229) (by decide +kernel))) (by decide +kernel)
theorem lay_X5_12 : u_lay RX5 TX5 12 ∈ BIG := bw (bt_1 _ (List.mem_of_getElem? (i := 231) (by decide +kernel))) (by decide +kernel)
theorem ml_X6_45 : Cond.methodLink RX6 45 yX4_setNumber ∈ BIG := bw (bt_1 _ (List.mem_of_getElem? (i := 234) (by decide +kernel))) (by decide +kernel)
theorem im_yX4_setNumber : Cond.instanceMethod yX4_setNumber ∈ BIG := bw (bt_1 _ (List.mem_of_getElem? (i := 235) (by decide +kernel))) (by decide +kernel)
theorem se_yX4_setNumber : Cond.selects RX4 yX4_setNumber yX4_setNumber ∈ BIG := bw (bt_1 _ (List.mem_of_getElem? (i := 236) (by decide +kernel))) (by decide +kernel)
theorem cd_yX4_setNumber : Cond.code yX4_setNumber cX4_setNumber 4 none ∈ BIG := bw (bt_1 _ (List.mem_of_getElem? (i := 237) rfl)) rfl
theorem st_yX8_setNumberAt : Cond.static yX8_setNumberAt ∈ BIG := bw (bt_1 _ (List.mem_of_getElem? (i := 239) (by decide +kernel))) (by decide +kernel)
theorem cd_yX8_setNumberAt : Cond.code yX8_setNumberAt cX8_setNumberAt 3 none ∈ BIG := bw (bt_2 _ (List.mem_of_getElem? (i := 0) rfl)) rfl
theorem ml_X6_49 : Cond.methodLink RX6 49 yX5_setUp ∈ BIG := bw (bt_2 _ (List.mem_of_getElem? (i := 1) (by decide +kernel))) (by decide +kernel)
theorem im_yX5_setUp : Cond.instanceMethod yX5_setUp ∈ BIG := bw (bt_2 _ (List.mem_of_getElem? (i := 2) (by decide +kernel))) (by decide +kernel)
theorem se_yX5_setUp : Cond.selects RX5 yX5_setUp yX5_setUp ∈ BIG := bw (bt_2 _ (List.mem_of_getElem? (i := 3) (by decide +kernel))) (by decide +kernel)
theorem cd_yX5_setUp : Cond.code yX5_setUp cX5_setUp 2 none ∈ BIG := bw (bt_2 _ (List.mem_of_getElem? (i := 4) rfl)) rfl
theorem ml_X5_15 : Cond.methodLink RX5 15 yJ7_fill_53178 ∈ BIG := bw (bt_2 _ (List.mem_of_getElem? (i := 5) (by decide +kernel))) (by decide +kernel)
theorem st_yJ7_fill_53178 : Cond.static yJ7_fill_53178 ∈ BIG := bw (bt_2 _ (List.mem_of_getElem? (i := 6) (by decide +kernel))) (by decide +kernel)
theorem cd_yJ7_fill_53178 : Cond.code yJ7_fill_53178 cJ7_fill_53178 4 none ∈ BIG := bw (bt_2 _ (List.mem_of_getElem? (i := 7) rfl)) rfl
theorem ml_X5_21 : Cond.methodLink RX5 21 yX4_number ∈ BIG := bw (bt_2 _ (List.mem_of_getElem? (i := 8) (by decide +kernel))) (by decide +kernel)
theorem im_yX4_number : Cond.instanceMethod yX4_number ∈ BIG := bw (bt_2 _ (List.mem_of_getElem? (i := 9) (by decide +kernel))) (by decide +kernel)
theorem se_yX4_number : Cond.selects RX4 yX4_number yX4_number ∈ BIG := bw (bt_2 _ (List.mem_of_getElem? (i := 10) (by decide +kernel))) (by decide +kernel)
theorem cd_yX4_number : Cond.code yX4_number cX4_number 4 (some Jvm.ClassFile.FieldType.int) ∈ BIG := bw (bt_2 _ (List.mem_of_getElem? (i := 11) rfl)) rfl
theorem fl_X6_12 : Cond.fieldLink RX6 12 (TX6 0).1 (TX6 0).2.1 (TX6 0).2.2.1 ∈ BIG := bw (bt_2 _ (List.mem_of_getElem? (i := 12) (by decide +kernel))) (by decide +kernel)
theorem fl_X8_105 : Cond.fieldLink RX8 105 (TX6 0).1 (TX6 0).2.1 (TX6 0).2.2.1 ∈ BIG := bw (bt_2 _ (List.mem_of_getElem? (i := 13) (by decide +kernel))) (by decide +kernel)
theorem fl_X6_21 : Cond.fieldLink RX6 21 (TX6 1).1 (TX6 1).2.1 (TX6 1).2.2.1 ∈ BIG := bw (bt_2 _ (List.mem_of_getElem? (i := 14) (by decide +kernel))) (by decide +kernel)
theorem fl_X8_196 : Cond.fieldLink RX8 196 (TX6 1).1 (TX6 1).2.1 (TX6 1).2.2.1 ∈ BIG := bw (bt_2 _ (List.mem_of_getElem? (i := 15) (by decide +kernel))) (by decide +kernel)
theorem fl_X6_28 : Cond.fieldLink RX6 28 (TX6 2).1 (TX6 2).2.1 (TX6 2).2.2.1 ∈ BIG := bw (bt_2 _ (List.mem_of_getElem? (i := 16) (by decide +kernel))) (by decide +kernel)
theorem fl_X8_138 : Cond.fieldLink RX8 138 (TX6 2).1 (TX6 2).2.1 (TX6 2).2.2.1 ∈ BIG := bw (bt_2 _ (List.mem_of_getElem? (i := 17) (by decide +kernel))) (by decide +kernel)
theorem fl_X6_32 : Cond.fieldLink RX6 32 (TX6 3).1 (TX6 3).2.1 (TX6 3).2.2.1 ∈ BIG := bw (bt_2 _ (List.mem_of_getElem? (i := 18) (by decide +kernel))) (by decide +kernel)
theorem fl_X8_145 : Cond.fieldLink RX8 145 (TX6 3).1 (TX6 3).2.1 (TX6 3).2.2.1 ∈ BIG := bw (bt_2 _ (List.mem_of_getElem? (i := 19) (by decide +kernel))) (by decide +kernel)
theorem fl_X6_59 : Cond.fieldLink RX6 59 (TX6 4).1 (TX6 4).2.1 (TX6 4).2.2.1 ∈ BIG := bw (bt_2 _ (List.mem_of_getElem? (i := 20) (by decide +kernel))) (by decide +kernel)
theorem fl_X8_151 : Cond.fieldLink RX8 151 (TX6 4).1 (TX6 4).2.1 (TX6 4).2.2.1 ∈ BIG := bw (bt_2 _ (List.mem_of_getElem? (i := 21) (by decide +kernel))) (by decide +kernel)
theorem fl_X6_63 : Cond.fieldLink RX6 63 (TX6 5).1 (TX6 5).2.1 (TX6 5).2.2.1 ∈ BIG := bw (bt_2 _ (List.mem_of_getElem? (i := 22) (by decide +kernel))) (by decide +kernel)
theorem fl_X8_117 : Cond.fieldLink RX8 117 (TX6 5).1 (TX6 5).2.1 (TX6 5).2.2.1 ∈ BIG := bw (bt_2 _ (List.mem_of_getElem? (i := 23) (by decide +kernel))) (by decide +kernel)
theorem fl_X6_66 : Cond.fieldLink RX6 66 (TX6 6).1 (TX6 6).2.1 (TX6 6).2.2.1 ∈ BIG := bw (bt_2 _ (List.mem_of_getElem? (i := 24) (by decide +kernel))) (by decide +kernel)
theorem fl_X8_120 : Cond.fieldLink RX8 120 (TX6 6).1 (TX6 6).2.1 (TX6 6).2.2.1 ∈ BIG := bw (bt_2 _ (List.mem_of_getElem? (i := 25) (by decide +kernel))) (by decide +kernel)
theorem fl_X6_35 : Cond.fieldLink RX6 35 (TX6 7).1 (TX6 7).2.1 (TX6 7).2.2.1 ∈ BIG := bw (bt_2 _ (List.mem_of_getElem? (i := 26) (by decide +kernel))) (by decide +kernel)
theorem fl_X8_152 : Cond.fieldLink RX8 152 (TX6 7).1 (TX6 7).2.1 (TX6 7).2.2.1 ∈ BIG := bw (bt_2 _ (List.mem_of_getElem? (i := 27) (by decide +kernel))) (by decide +kernel)
theorem fl_X6_39 : Cond.fieldLink RX6 39 (TX6 8).1 (TX6 8).2.1 (TX6 8).2.2.1 ∈ BIG := bw (bt_2 _ (List.mem_of_getElem? (i := 28) (by decide +kernel))) (by decide +kernel)
theorem fl_X8_148 : Cond.fieldLink RX8 148 (TX6 8).1 (TX6 8).2.1 (TX6 8).2.2.1 ∈ BIG := bw (bt_2 _ (List.mem_of_getElem? (i := 29) (by decide +kernel))) (by decide +kernel)
theorem fl_X6_69 : Cond.fieldLink RX6 69 (TX6 9).1 (TX6 9).2.1 (TX6 9).2.2.1 ∈ BIG := bw (bt_2 _ (List.mem_of_getElem? (i := 30) (by decide +kernel))) (by decide +kernel)
theorem fl_X8_135 : Cond.fieldLink RX8 135 (TX6 9).1 (TX6 9).2.1 (TX6 9).2.2.1 ∈ BIG := bw (bt_2 _ (List.mem_of_getElem? (i := 31) (by decide +kernel))) (by decide +kernel)
theorem fl_X6_72 : Cond.fieldLink RX6 72 (TX6 10).1 (TX6 10).2.1 (TX6 10).2.2.1 ∈ BIG := bw (bt_2 _ (List.mem_of_getElem? (i := 32) (by decide +kernel))) (by decide +kernel)
theorem fl_X8_132 : Cond.fieldLink RX8 132 (TX6 10).1 (TX6 10).2.1 (TX6 10).2.2.1 ∈ BIG := bw (bt_2 _ (List.mem_of_getElem? (i := 33) (by decide +kernel))) (by decide +kernel)
theorem lay_X6_0 : u_lay RX6 TX6 0 ∈ BIG := bw (bt_2 _ (List.mem_of_getElem? (i := 34) (by decide +kernel))) (by decide +kernel)
theorem lay_X6_1 : u_lay RX6 TX6 1 ∈ BIG := bw (bt_2 _ (List.mem_of_getElem? (i := 36) (by decide +kernel))) (by decide +kernel)
theorem lay_X6_2 : u_lay RX6 TX6 2 ∈ BIG := bw (bt_2 _ (List.mem_of_getElem? (i := 38) (by decide +kernel))) (by decide +kernel)
theorem lay_X6_3 : u_lay RX6 TX6 3 ∈ BIG := bw (bt_2 _ (List.mem_of_getElem? (i := 40) (by decide +kernel))) (by decide +kernel)
theorem lay_X6_4 : u_lay RX6 TX6 4 ∈ BIG := bw (bt_2 _ (List.mem_of_getElem? (i := 42) (by decide +kernel))) (by decide +kernel)
theorem lay_X6_5 : u_lay RX6 TX6 5 ∈ BIG := bw (bt_2 _ (List.mem_of_getElem? (i := 44) (by decide +kernel))) (by decide +kernel)
theorem lay_X6_6 : u_lay RX6 TX6 6 ∈ BIG := bw (bt_2 _ (List.mem_of_getElem? (i := 46) (by decide +kernel))) (by decide +kernel)
theorem lay_X6_7 : u_lay RX6 TX6 7 ∈ BIG := bw (bt_2 _ (List.mem_of_getElem? (i := 48) (by decide +kernel))) (by decide +kernel)
theorem lay_X6_8 : u_lay RX6 TX6 8 ∈ BIG := bw (bt_2 _ (List.mem_of_getElem? (i := 50) (by decide +kernel))) (by decide +kernel)
theorem lay_X6_9 : u_lay RX6 TX6 9 ∈ BIG := bw (bt_2 _ (List.mem_of_getElem? (i := 52) (by decide +kernel))) (by decide +kernel)
theorem lay_X6_10 : u_lay RX6 TX6 10 ∈ BIG := bw (bt_2 _ (List.mem_of_getElem? (i := 54) (by decide +kernel))) (by decide +kernel)
theorem lay_X6_11 : u_lay RX6 TX6 11 ∈ BIG := bw (bt_2 _ (List.mem_of_getElem? (i := 56) (by decide +kernel))) (by decide +kernel)
theorem cl_X8_35 : Cond.classLink RX8 35 RX7 ∈ BIG := bw (bt_2 _ (List.mem_of_getElem? (i := 59) (by decide +kernel))) (by decide +kernel)
theorem is_X7 : Cond.instantiable RX7 6 ∈ BIG := bw (bt_2 _ (List.mem_of_getElem? (i := 60) (by decide +kernel))) (by decide +kernel)
theorem im_yX7_init : Cond.instanceMethod yX7_init ∈ BIG := bw (bt_2 _ (List.mem_of_getElem? (i := 62) (by decide +kernel))) (by decide +kernel)
theorem cd_yX7_init : Cond.code yX7_init cX7_init 1 none ∈ BIG := bw (bt_2 _ (List.mem_of_getElem? (i := 63) rfl)) rfl
theorem ml_X7_3 : Cond.methodLink RX7 3 Lib.objectInit ∈ BIG := bw (bt_2 _ (List.mem_of_getElem? (i := 64) (by decide +kernel))) (by decide +kernel)
theorem cl_X7_9 : Cond.classLink RX7 9 RX5 ∈ BIG := bw (bt_2 _ (List.mem_of_getElem? (i := 65) (by decide +kernel))) (by decide +kernel)
theorem fl_X7_12 : Cond.fieldLink RX7 12 (TX7 0).1 (TX7 0).2.1 (TX7 0).2.2.1 ∈ BIG := bw (bt_2 _ (List.mem_of_getElem? (i := 67) (by decide +kernel))) (by decide +kernel)
theorem fl_X7_18 : Cond.fieldLink RX7 18 (TX7 1).1 (TX7 1).2.1 (TX7 1).2.2.1 ∈ BIG := bw (bt_2 _ (List.mem_of_getElem? (i := 68) (by decide +kernel))) (by decide +kernel)
theorem lay_X7_0 : u_lay RX7 TX7 0 ∈ BIG := bw (bt_2 _ (List.mem_of_getElem? (i := 69) (by decide +kernel))) (by decide +kernel)
theorem lay_X7_1 : u_lay RX7 TX7 1 ∈ BIG := bw (bt_2 _ (List.mem_of_getElem? (i := 71) (by decide +kernel))) (by decide +kernel)
theorem lay_X7_2 : u_lay RX7 TX7 2 ∈ BIG := bw (bt_2 _ (List.mem_of_getElem? (i := 73) (by decide +kernel))) (by decide +kernel)
theorem lay_X7_3 : u_lay RX7 TX7 3 ∈ BIG := bw (bt_2 _ (List.mem_of_getElem? (i := 75) (by decide +kernel))) (by decide +kernel)
theorem lay_X7_4 : u_lay RX7 TX7 4 ∈ BIG := bw (bt_2 _ (List.mem_of_getElem? (i := 77) (by decide +kernel))) (by decide +kernel)
theorem lay_X7_5 : u_lay RX7 TX7 5 ∈ BIG := bw (bt_2 _ (List.mem_of_getElem? (i := 79) (by decide +kernel))) (by decide +kernel)
theorem fl_X8_10 : Cond.fieldLink RX8 10 (TX8 0).1 (TX8 0).2.1 (TX8 0).2.2.1 ∈ BIG := bw (bt_2 _ (List.mem_of_getElem? (i := 83) (by decide +kernel))) (by decide +kernel)
theorem fl_X8_20 : Cond.fieldLink RX8 20 (TX8 1).1 (TX8 1).2.1 (TX8 1).2.2.1 ∈ BIG := bw (bt_2 _ (List.mem_of_getElem? (i := 84) (by decide +kernel))) (by decide +kernel)
theorem fl_X8_24 : Cond.fieldLink RX8 24 (TX8 2).1 (TX8 2).2.1 (TX8 2).2.2.1 ∈ BIG := bw (bt_2 _ (List.mem_of_getElem? (i := 85) (by decide +kernel))) (by decide +kernel)
theorem fl_X8_31 : Cond.fieldLink RX8 31 (TX8 3).1 (TX8 3).2.1 (TX8 3).2.2.1 ∈ BIG := bw (bt_2 _ (List.mem_of_getElem? (i := 86) (by decide +kernel))) (by decide +kernel)
theorem fl_X8_38 : Cond.fieldLink RX8 38 (TX8 4).1 (TX8 4).2.1 (TX8 4).2.2.1 ∈ BIG := bw (bt_2 _ (List.mem_of_getElem? (i := 87) (by decide +kernel))) (by decide +kernel)
theorem fl_X8_42 : Cond.fieldLink RX8 42 (TX8 5).1 (TX8 5).2.1 (TX8 5).2.2.1 ∈ BIG := bw (bt_2 _ (List.mem_of_getElem? (i := 88) (by decide +kernel))) (by decide +kernel)
theorem fl_X8_359 : Cond.fieldLink RX8 359 (TX8 6).1 (TX8 6).2.1 (TX8 6).2.2.1 ∈ BIG := bw (bt_2 _ (List.mem_of_getElem? (i := 89) (by decide +kernel))) (by decide +kernel)
theorem fl_X8_364 : Cond.fieldLink RX8 364 (TX8 7).1 (TX8 7).2.1 (TX8 7).2.2.1 ∈ BIG := bw (bt_2 _ (List.mem_of_getElem? (i := 90) (by decide +kernel))) (by decide +kernel)
theorem fl_X8_46 : Cond.fieldLink RX8 46 (TX8 8).1 (TX8 8).2.1 (TX8 8).2.2.1 ∈ BIG := bw (bt_2 _ (List.mem_of_getElem? (i := 91) (by decide +kernel))) (by decide +kernel)
theorem lay_X8_0 : u_lay RX8 TX8 0 ∈ BIG := bw (bt_2 _ (List.mem_of_getElem? (i := 92) (by decide +kernel))) (by decide +kernel)
theorem lay_X8_1 : u_lay RX8 TX8 1 ∈ BIG := bw (bt_2 _ (List.mem_of_getElem? (i := 94) (by decide +kernel))) (by decide +kernel)
theorem lay_X8_2 : u_lay RX8 TX8 2 ∈ BIG := bw (bt_2 _ (List.mem_of_getElem? (i := 96) (by decide +kernel))) (by decide +kernel)
theorem lay_X8_3 : u_lay RX8 TX8 3 ∈ BIG := bw (bt_2 _ (List.mem_of_getElem? (i := 98) (by decide +kernel))) (by decide +kernel)
theorem lay_X8_4 : u_lay RX8 TX8 4 ∈ BIG := bw (bt_2 _ (List.mem_of_getElem? (i := 100) (by decide +kernel))) (by decide +kernel)
theorem lay_X8_5 : u_lay RX8 TX8 5 ∈ BIG := bw (bt_2 _ (List.mem_of_getElem? (i := 102) (by decide +kernel))) (by decide +kernel)
theorem lay_X8_6 : u_lay RX8 TX8 6 ∈ BIG := bw (bt_2 _ (List.mem_of_getElem? (i := 104) (by decide +kernel))) (by decide +kernel)
theorem lay_X8_7 : u_lay RX8 TX8 7 ∈ BIG := bw (bt_2 _ (List.mem_of_getElem? (i := 106) (by decide +kernel))) (by decide +kernel)
theorem lay_X8_8 : u_lay RX8 TX8 8 ∈ BIG := bw (bt_2 _ (List.mem_of_getElem? (i := 108) (by decide +kernel))) (by decide +kernel)
theorem ml_L_87 : Cond.methodLink RL 87 yX8_property ∈ BIG := bw (bt_2 _ (List.mem_of_getElem? (i := 111) (by decide +kernel))) (by decide +kernel)
theorem im_yX8_property : Cond.instanceMethod yX8_property ∈ BIG := bw (bt_2 _ (List.mem_of_getElem? (i := 112) (by decide +kernel))) (by decide +kernel)
theorem se_yX8_property : Cond.selects RX8 yX8_property yX8_property ∈ BIG := bw (bt_2 _ (List.mem_of_getElem? (i := 113) (by decide +kernel))) (by decide +kernel)
theorem cd_yX8_property : Cond.code yX8_property cX8_property 2 (some Jvm.ClassFile.FieldType.int) ∈ BIG := bw (bt_2 _ (List.mem_of_getElem? (i := 114) rfl)) rfl
theorem cl_X8_66 : Cond.classLink RX8 66 "java/lang/IllegalArgumentException" ∈ BIG := bw (bt_2 _ (List.mem_of_getElem? (i := 115) (by decide +kernel))) (by decide +kernel)
theorem is_java_lang_IllegalArgumentException : Cond.instantiable "java/lang/IllegalArgumentException" 6 ∈ BIG := bw (bt_2 _ (List.mem_of_getElem? (i := 116) (by decide +kernel))) (by decide +kernel)
theorem is_java_lang_Throwable : Cond.instantiable "java/lang/Throwable" 6 ∈ BIG := bw (bt_2 _ (List.mem_of_getElem? (i := 154) (by decide +kernel))) (by decide +kernel)
theorem ml_L_40 : Cond.methodLink RL 40 yL_draw ∈ BIG := bw (bt_2 _ (List.mem_of_getElem? (i := 182) (by decide +kernel))) (by decide +kernel)
theorem st_yL_draw : Cond.static yL_draw ∈ BIG := bw (bt_2 _ (List.mem_of_getElem? (i := 183) (by decide +kernel))) (by decide +kernel)
theorem cd_yL_draw : Cond.code yL_draw cL_draw 3 (some Jvm.ClassFile.FieldType.int) ∈ BIG := bw (bt_2 _ (List.mem_of_getElem? (i := 184) rfl)) rfl
theorem co_L_7 : Cond.constant RL 7 (2147483647) ∈ BIG := bw (bt_2 _ (List.mem_of_getElem? (i := 185) (by decide +kernel))) (by decide +kernel)
theorem ml_L_189 : Cond.methodLink RL 189 yL_load ∈ BIG := bw (bt_2 _ (List.mem_of_getElem? (i := 186) (by decide +kernel))) (by decide +kernel)
theorem st_yL_load : Cond.static yL_load ∈ BIG := bw (bt_2 _ (List.mem_of_getElem? (i := 187) (by decide +kernel))) (by decide +kernel)
theorem cd_yL_load : Cond.code yL_load cL_load 7 (some Jvm.ClassFile.FieldType.boolean) ∈ BIG := bw (bt_2 _ (List.mem_of_getElem? (i := 188) rfl)) rfl
theorem cl_L_44 : Cond.classLink RL 44 "java/lang/StringBuilder" ∈ BIG := bw (bt_2 _ (List.mem_of_getElem? (i := 189) (by decide +kernel))) (by decide +kernel)
theorem is_J4 : Cond.instantiable RJ4 4 ∈ BIG := bw (bt_2 _ (List.mem_of_getElem? (i := 190) (by decide +kernel))) (by decide +kernel)
theorem ml_L_46 : Cond.methodLink RL 46 yJ4_init_da8c8 ∈ BIG := bw (bt_2 _ (List.mem_of_getElem? (i := 191) (by decide +kernel))) (by decide +kernel)
theorem im_yJ4_init_da8c8 : Cond.instanceMethod yJ4_init_da8c8 ∈ BIG := bw (bt_2 _ (List.mem_of_getElem? (i := 192) (by decide +kernel))) (by decide +kernel)
theorem cd_yJ4_init_da8c8 : Cond.code yJ4_init_da8c8 cJ4_init_da8c8 1 none ∈ BIG := bw (bt_2 _ (List.mem_of_getElem? (i := 193) rfl)) rfl
theorem ml_J4_1 : Cond.methodLink RJ4 1 yJ5_init_d00df ∈ BIG := bw (bt_2 _ (List.mem_of_getElem? (i := 194) (by decide +kernel))) (by decide +kernel)
theorem im_yJ5_init_d00df : Cond.instanceMethod yJ5_init_d00df ∈ BIG := bw (bt_2 _ (List.mem_of_getElem? (i := 195) (by decide +kernel))) (by decide +kernel)
theorem cd_yJ5_init_d00df : Cond.code yJ5_init_d00df cJ5_init_d00df 2 none ∈ BIG := bw (bt_2 _ (List.mem_of_getElem? (i := 196) rfl)) rfl
theorem ml_J5_3 : Cond.methodLink RJ5 3 Lib.objectInit ∈ BIG := bw (bt_2 _ (List.mem_of_getElem? (i := 197) (by decide +kernel))) (by decide +kernel)
theorem fl_J5_18 : Cond.fieldLink "java/lang/AbstractStringBuilder" (18 : Nat) "java/lang/String" "COMPACT_STRINGS" "Z" ∈ BIG := bw (bt_2 _ (List.mem_of_getElem? (i := 198) (by decide +kernel))) (by decide +kernel)
theorem ml_J5_26 : Cond.methodLink RJ5 26 yJ2_newBytesFor_77867 ∈ BIG := bw (bt_2 _ (List.mem_of_getElem? (i := 200) (by decide +kernel))) (by decide +kernel)
theorem st_yJ2_newBytesFor_77867 : Cond.static yJ2_newBytesFor_77867 ∈ BIG := bw (bt_2 _ (List.mem_of_getElem? (i := 201) (by decide +kernel))) (by decide +kernel)
theorem cd_yJ2_newBytesFor_77867 : Cond.code yJ2_newBytesFor_77867 cJ2_newBytesFor_77867 1 (some (Jvm.ClassFile.FieldType.array Jvm.ClassFile.FieldType.byte)) ∈ BIG := bw (bt_2 _ (List.mem_of_getElem? (i := 202) rfl)) rfl
theorem ml_J2_11 : Cond.methodLink RJ2 11 yJ2_newBytesLength_0f7a4 ∈ BIG := bw (bt_2 _ (List.mem_of_getElem? (i := 203) (by decide +kernel))) (by decide +kernel)
theorem st_yJ2_newBytesLength_0f7a4 : Cond.static yJ2_newBytesLength_0f7a4 ∈ BIG := bw (bt_2 _ (List.mem_of_getElem? (i := 204) (by decide +kernel))) (by decide +kernel)
theorem cd_yJ2_newBytesLength_0f7a4 : Cond.code yJ2_newBytesLength_0f7a4 cJ2_newBytesLength_0f7a4 1 (some Jvm.ClassFile.FieldType.int) ∈ BIG := bw (bt_2 _ (List.mem_of_getElem? (i := 205) rfl)) rfl
theorem co_J2_20 : Cond.constant RJ2 20 (1073741823) ∈ BIG := bw (bt_2 _ (List.mem_of_getElem? (i := 206) (by decide +kernel))) (by decide +kernel)
theorem fl_J5_15 : Cond.fieldLink RJ5 15 (TJ4 0).1 (TJ4 0).2.1 (TJ4 0).2.2.1 ∈ BIG := bw (bt_2 _ (List.mem_of_getElem? (i := 207) (by decide +kernel))) (by decide +kernel)
theorem fl_J5_22 : Cond.fieldLink RJ5 22 (TJ4 1).1 (TJ4 1).2.1 (TJ4 1).2.2.1 ∈ BIG := bw (bt_2 _ (List.mem_of_getElem? (i := 208) (by decide +kernel))) (by decide +kernel)
theorem fl_J0_1048 : Cond.fieldLink RJ0 1048 (TJ4 2).1 (TJ4 2).2.1 (TJ4 2).2.2.1 ∈ BIG := bw (bt_2 _ (List.mem_of_getElem? (i := 209) (by decide +kernel))) (by decide +kernel)
theorem fl_J5_79 : Cond.fieldLink RJ5 79 (TJ4 3).1 (TJ4 3).2.1 (TJ4 3).2.2.1 ∈ BIG := bw (bt_2 _ (List.mem_of_getElem? (i := 210) (by decide +kernel))) (by decide +kernel)
theorem lay_J4_0 : u_lay RJ4 TJ4 0 ∈ BIG := bw (bt_2 _ (List.mem_of_getElem? (i := 211) (by decide +kernel))) (by decide +kernel)
theorem lay_J4_1 : u_lay RJ4 TJ4 1 ∈ BIG := bw (bt_2 _ (List.mem_of_getElem? (i := 213) (by decide +kernel))) (by decide +kernel)
theorem lay_J4_2 : u_lay RJ4 TJ4 2 ∈ BIG := bw (bt_2 _ (List.mem_of_getElem? (i := 215) (by decide +kernel))) (by decide +kernel)
theorem lay_J4_3 : u_lay RJ4 TJ4 3 ∈ BIG := bw (bt_2 _ (List.mem_of_getElem? (i := 217) (by decide +kernel))) (by decide +kernel)
theorem sp_J4 : Cond.superclass RJ4 RJ5 ∈ BIG := bw (bt_2 _ (List.mem_of_getElem? (i := 219) (by decide +kernel))) (by decide +kernel)
theorem ml_L_49 : Cond.methodLink RL 49 yJ4_append_15ec4 ∈ BIG := bw (bt_2 _ (List.mem_of_getElem? (i := 221) (by decide +kernel))) (by decide +kernel)
theorem im_yJ4_append_15ec4 : Cond.instanceMethod yJ4_append_15ec4 ∈ BIG := bw (bt_2 _ (List.mem_of_getElem? (i := 222) (by decide +kernel))) (by decide +kernel)
theorem se_yJ4_append_15ec4 : Cond.selects RJ4 yJ4_append_15ec4 yJ4_append_15ec4 ∈ BIG := bw (bt_2 _ (List.mem_of_getElem? (i := 223) (by decide +kernel))) (by decide +kernel)
theorem cd_yJ4_append_15ec4 : Cond.code yJ4_append_15ec4 cJ4_append_15ec4 2 (some (Jvm.ClassFile.FieldType.object "java/lang/StringBuilder")) ∈ BIG := bw (bt_2 _ (List.mem_of_getElem? (i := 224) rfl)) rfl
theorem ml_J4_29 : Cond.methodLink RJ4 29 yJ5_append_cf1ce ∈ BIG := bw (bt_2 _ (List.mem_of_getElem? (i := 225) (by decide +kernel))) (by decide +kernel)
theorem im_yJ5_append_cf1ce : Cond.instanceMethod yJ5_append_cf1ce ∈ BIG := bw (bt_2 _ (List.mem_of_getElem? (i := 226) (by decide +kernel))) (by decide +kernel)
theorem cd_yJ5_append_cf1ce : Cond.code yJ5_append_cf1ce cJ5_append_cf1ce 3 (some (Jvm.ClassFile.FieldType.object "java/lang/AbstractStringBuilder")) ∈ BIG := bw (bt_2 _ (List.mem_of_getElem? (i := 227) rfl)) rfl
theorem ml_J5_204 : Cond.methodLink RJ5 204 yJ5_appendNull_278bc ∈ BIG := bw (bt_2 _ (List.mem_of_getElem? (i := 228) (by decide +kernel))) (by decide +kernel)
theorem im_yJ5_appendNull_278bc : Cond.instanceMethod yJ5_appendNull_278bc ∈ BIG := bw (bt_2 _ (List.mem_of_getElem? (i := 230) (by decide +kernel))) (by decide +kernel)
theorem cd_yJ5_appendNull_278bc : Cond.code yJ5_appendNull_278bc cJ5_appendNull_278bc 3 (some (Jvm.ClassFile.FieldType.object "java/lang/AbstractStringBuilder")) ∈ BIG := bw (bt_2 _ (List.mem_of_getElem? (i := 231) rfl)) rfl
theorem ml_J5_100 : Cond.methodLink RJ5 100 yJ5_ensureCapacityInternal_d00df ∈ BIG := bw (bt_2 _ (List.mem_of_getElem? (i := 232) (by decide +kernel))) (by decide +kernel)
theorem im_yJ5_ensureCapacityInternal_d00df : Cond.instanceMethod yJ5_ensureCapacityInternal_d00df ∈ BIG := bw (bt_2 _ (List.mem_of_getElem? (i := 234) (by decide +kernel))) (by decide +kernel)
theorem cd_yJ5_ensureCapacityInternal_d00df : Cond.code yJ5_ensureCapacityInternal_d00df cJ5_ensureCapacityInternal_d00df 3 none ∈ BIG := bw (bt_2 _ (List.mem_of_getElem? (i := 235) rfl)) rfl
theorem ml_J5_104 : Cond.methodLink RJ5 104 yJ5_newCapacity_0f7a4 ∈ BIG := bw (bt_2 _ (List.mem_of_getElem? (i := 236) (by decide +kernel))) (by decide +kernel)
theorem im_yJ5_newCapacity_0f7a4 : Cond.instanceMethod yJ5_newCapacity_0f7a4 ∈ BIG := bw (bt_2 _ (List.mem_of_getElem? (i := 238) (by decide +kernel))) (by decide +kernel)
theorem cd_yJ5_newCapacity_0f7a4 : Cond.code yJ5_newCapacity_0f7a4 cJ5_newCapacity_0f7a4 6 (some Jvm.ClassFile.FieldType.int) ∈ BIG := bw (bt_2 _ (List.mem_of_getElem? (i := 239) rfl)) rfl
theorem ml_J5_114 : Cond.methodLink RJ5 114 yJ8_newLength_cabcc ∈ BIG := bw (bt_3 _ (List.mem_of_getElem? (i := 0) (by decide +kernel))) (by decide +kernel)
theorem st_yJ8_newLength_cabcc : Cond.static yJ8_newLength_cabcc ∈ BIG := bw (bt_3 _ (List.mem_of_getElem? (i := 1) (by decide +kernel))) (by decide +kernel)
theorem cd_yJ8_newLength_cabcc : Cond.code yJ8_newLength_cabcc cJ8_newLength_cabcc 4 (some Jvm.ClassFile.FieldType.int) ∈ BIG := bw (bt_3 _ (List.mem_of_getElem? (i := 2) rfl)) rfl
theorem ml_J8_194 : Cond.methodLink RJ8 194 Lib.Math.max.name ∈ BIG := bw (bt_3 _ (List.mem_of_getElem? (i := 3) (by decide +kernel))) (by decide +kernel)
theorem st_Lib_Math_max_name : Cond.static Lib.Math.max.name ∈ BIG := bw (bt_3 _ (List.mem_of_getElem? (i := 4) (by decide +kernel))) (by decide +kernel)
theorem co_J8_200 : Cond.constant RJ8 200 (2147483639) ∈ BIG := bw (bt_3 _ (List.mem_of_getElem? (i := 6) (by decide +kernel))) (by decide +kernel)
theorem ml_J8_201 : Cond.methodLink RJ8 201 yJ8_hugeLength_7cf53 ∈ BIG := bw (bt_3 _ (List.mem_of_getElem? (i := 7) (by decide +kernel))) (by decide +kernel)
theorem st_yJ8_hugeLength_7cf53 : Cond.static yJ8_hugeLength_7cf53 ∈ BIG := bw (bt_3 _ (List.mem_of_getElem? (i := 8) (by decide +kernel))) (by decide +kernel)
theorem cd_yJ8_hugeLength_7cf53 : Cond.code yJ8_hugeLength_7cf53 cJ8_hugeLength_7cf53 3 (some Jvm.ClassFile.FieldType.int) ∈ BIG := bw (bt_3 _ (List.mem_of_getElem? (i := 9) rfl)) rfl
theorem co_J5_39 : Cond.constant RJ5 39 (2147483647) ∈ BIG := bw (bt_3 _ (List.mem_of_getElem? (i := 10) (by decide +kernel))) (by decide +kernel)
theorem ml_J5_108 : Cond.methodLink RJ5 108 yJ7_copyOf_9075b ∈ BIG := bw (bt_3 _ (List.mem_of_getElem? (i := 11) (by decide +kernel))) (by decide +kernel)
theorem st_yJ7_copyOf_9075b : Cond.static yJ7_copyOf_9075b ∈ BIG := bw (bt_3 _ (List.mem_of_getElem? (i := 12) (by decide +kernel))) (by decide +kernel)
theorem cd_yJ7_copyOf_9075b : Cond.code yJ7_copyOf_9075b cJ7_copyOf_9075b 3 (some (Jvm.ClassFile.FieldType.array Jvm.ClassFile.FieldType.byte)) ∈ BIG := bw (bt_3 _ (List.mem_of_getElem? (i := 13) rfl)) rfl
theorem clone_methodLink : Cond.methodLink RJ7 310 ⟨"[B", "clone", "()Ljava/lang/Object;"⟩ ∈ BIG := bw (bt_3 _ (List.mem_of_getElem? (i := 14) (by decide +kernel))) (by decide +kernel)
theorem sm_clone : Cond.sameMethod "[B" "java/lang/Object" "clone" "()Ljava/lang/Object;" ∈ BIG := bw (bt_3 _ (List.mem_of_getElem? (i := 15) (by decide +kernel))) (by decide +kernel)
theorem clone_native : Cond.native ⟨"java/lang/Object", "clone", "()Ljava/lang/Object;"⟩ ∈ BIG := bw (bt_3 _ (List.mem_of_getElem? (i := 16) (by decide +kernel))) (by decide +kernel)
theorem clone_instanceMethod : Cond.instanceMethod ⟨"java/lang/Object", "clone", "()Ljava/lang/Object;"⟩ ∈ BIG := bw (bt_3 _ (List.mem_of_getElem? (i := 17) (by decide +kernel))) (by decide +kernel)
theorem clone_selects : Cond.selects "[B" ⟨"[B", "clone", "()Ljava/lang/Object;"⟩ ⟨"java/lang/Object", "clone", "()Ljava/lang/Object;"⟩ ∈ BIG := bw (bt_3 _ (List.mem_of_getElem? (i := 18) (by decide +kernel))) (by decide +kernel)
theorem cl_J7_311 : Cond.classLink RJ7 311 "[B" ∈ BIG := bw (bt_3 _ (List.mem_of_getElem? (i := 20) (by decide +kernel))) (by decide +kernel)
theorem ml_J7_304 : Cond.methodLink RJ7 304 Lib.Math.min.name ∈ BIG := bw (bt_3 _ (List.mem_of_getElem? (i := 21) (by decide +kernel))) (by decide +kernel)
theorem st_Lib_Math_min_name : Cond.static Lib.Math.min.name ∈ BIG := bw (bt_3 _ (List.mem_of_getElem? (i := 22) (by decide +kernel))) (by decide +kernel)
theorem ml_J7_150 : Cond.methodLink RJ7 150 arraycopyName ∈ BIG := bw (bt_3 _ (List.mem_of_getElem? (i := 24) (by decide +kernel))) (by decide +kernel)
theorem st_arraycopyName : Cond.static arraycopyName ∈ BIG := bw (bt_3 _ (List.mem_of_getElem? (i := 25) (by decide +kernel))) (by decide +kernel)
theorem nv_arraycopyName : Cond.native arraycopyName ∈ BIG := bw (bt_3 _ (List.mem_of_getElem? (i := 26) (by decide +kernel))) (by decide +kernel)
theorem ml_J5_83 : Cond.methodLink RJ5 83 yJ5_isLatin1_aae02 ∈ BIG := bw (bt_3 _ (List.mem_of_getElem? (i := 27) (by decide +kernel))) (by decide +kernel)
theorem im_yJ5_isLatin1_aae02 : Cond.instanceMethod yJ5_isLatin1_aae02 ∈ BIG := bw (bt_3 _ (List.mem_of_getElem? (i := 28) (by decide +kernel))) (by decide +kernel)
theorem sm_yJ5_isLatin1_aae02 : Cond.sameMethod RJ5 RJ5 "isLatin1" "()Z" ∈ BIG := bw (bt_3 _ (List.mem_of_getElem? (i := 29) (by decide +kernel))) (by decide +kernel)
theorem se4_yJ5_isLatin1_aae02 : Cond.selects RJ4 yJ5_isLatin1_aae02 yJ5_isLatin1_aae02 ∈ BIG := bw (bt_3 _ (List.mem_of_getElem? (i := 30) (by decide +kernel))) (by decide +kernel)
theorem cd_yJ5_isLatin1_aae02 : Cond.code yJ5_isLatin1_aae02 cJ5_isLatin1_aae02 1 (some Jvm.ClassFile.FieldType.boolean) ∈ BIG := bw (bt_3 _ (List.mem_of_getElem? (i := 31) rfl)) rfl
theorem ml_J5_226 : Cond.methodLink RJ5 226 yJ2_putCharsAt_cd4e5 ∈ BIG := bw (bt_3 _ (List.mem_of_getElem? (i := 32) (by decide +kernel))) (by decide +kernel)
theorem st_yJ2_putCharsAt_cd4e5 : Cond.static yJ2_putCharsAt_cd4e5 ∈ BIG := bw (bt_3 _ (List.mem_of_getElem? (i := 33) (by decide +kernel))) (by decide +kernel)
theorem cd_yJ2_putCharsAt_cd4e5 : Cond.code yJ2_putCharsAt_cd4e5 cJ2_putCharsAt_cd4e5 7 (some Jvm.ClassFile.FieldType.int) ∈ BIG := bw (bt_3 _ (List.mem_of_getElem? (i := 34) rfl)) rfl
theorem ml_J2_96 : Cond.methodLink RJ2 96 yJ2_checkBoundsBeginEnd_d044e ∈ BIG := bw (bt_3 _ (List.mem_of_getElem? (i := 35) (by decide +kernel))) (by decide +kernel)
theorem st_yJ2_checkBoundsBeginEnd_d044e : Cond.static yJ2_checkBoundsBeginEnd_d044e ∈ BIG := bw (bt_3 _ (List.mem_of_getElem? (i := 36) (by decide +kernel))) (by decide +kernel)
theorem cd_yJ2_checkBoundsBeginEnd_d044e : Cond.code yJ2_checkBoundsBeginEnd_d044e cJ2_checkBoundsBeginEnd_d044e 3 none ∈ BIG := bw (bt_3 _ (List.mem_of_getElem? (i := 37) rfl)) rfl
theorem ml_J2_48 : Cond.methodLink RJ2 48 yJ2_length_9d52b ∈ BIG := bw (bt_3 _ (List.mem_of_getElem? (i := 38) (by decide +kernel))) (by decide +kernel)
theorem st_yJ2_length_9d52b : Cond.static yJ2_length_9d52b ∈ BIG := bw (bt_3 _ (List.mem_of_getElem? (i := 39) (by decide +kernel))) (by decide +kernel)
theorem cd_yJ2_length_9d52b : Cond.code yJ2_length_9d52b cJ2_length_9d52b 1 (some Jvm.ClassFile.FieldType.int) ∈ BIG := bw (bt_3 _ (List.mem_of_getElem? (i := 40) rfl)) rfl
theorem ml_J2_241 : Cond.methodLink RJ2 241 yJ0_checkBoundsBeginEnd_23922 ∈ BIG := bw (bt_3 _ (List.mem_of_getElem? (i := 41) (by decide +kernel))) (by decide +kernel)
theorem st_yJ0_checkBoundsBeginEnd_23922 : Cond.static yJ0_checkBoundsBeginEnd_23922 ∈ BIG := bw (bt_3 _ (List.mem_of_getElem? (i := 42) (by decide +kernel))) (by decide +kernel)
theorem cd_yJ0_checkBoundsBeginEnd_23922 : Cond.code yJ0_checkBoundsBeginEnd_23922 cJ0_checkBoundsBeginEnd_23922 3 none ∈ BIG := bw (bt_3 _ (List.mem_of_getElem? (i := 43) rfl)) rfl
theorem fl_J0_1053 : Cond.fieldLink "java/lang/String" (1053 : Nat) "jdk/internal/util/Preconditions" "SIOOBE_FORMATTER" "Ljava/util/function/BiFunction;" ∈ BIG := bw (bt_3 _ (List.mem_of_getElem? (i := 44) (by decide +kernel))) (by decide +kernel)
theorem ml_J0_1062 : Cond.methodLink RJ0 1062 yJ3_checkFromToIndex_8c36e ∈ BIG := bw (bt_3 _ (List.mem_of_getElem? (i := 46) (by decide +kernel))) (by decide +kernel)
theorem st_yJ3_checkFromToIndex_8c36e : Cond.static yJ3_checkFromToIndex_8c36e ∈ BIG := bw (bt_3 _ (List.mem_of_getElem? (i := 47) (by decide +kernel))) (by decide +kernel)
theorem cd_yJ3_checkFromToIndex_8c36e : Cond.code yJ3_checkFromToIndex_8c36e cJ3_checkFromToIndex_8c36e 4 (some Jvm.ClassFile.FieldType.int) ∈ BIG := bw (bt_3 _ (List.mem_of_getElem? (i := 48) rfl)) rfl
theorem ml_J2_111 : Cond.methodLink RJ2 111 yJ2_putChar_b72d1 ∈ BIG := bw (bt_3 _ (List.mem_of_getElem? (i := 49) (by decide +kernel))) (by decide +kernel)
theorem st_yJ2_putChar_b72d1 : Cond.static yJ2_putChar_b72d1 ∈ BIG := bw (bt_3 _ (List.mem_of_getElem? (i := 50) (by decide +kernel))) (by decide +kernel)
theorem cd_yJ2_putChar_b72d1 : Cond.code yJ2_putChar_b72d1 cJ2_putChar_b72d1 3 none ∈ BIG := bw (bt_3 _ (List.mem_of_getElem? (i := 51) rfl)) rfl
theorem fl_J2_44 : Cond.fieldLink "java/lang/StringUTF16" (44 : Nat) "java/lang/StringUTF16" "$assertionsDisabled" "Z" ∈ BIG := bw (bt_3 _ (List.mem_of_getElem? (i := 52) (by decide +kernel))) (by decide +kernel)
theorem fl_J2_59 : Cond.fieldLink "java/lang/StringUTF16" (59 : Nat) "java/lang/StringUTF16" "HI_BYTE_SHIFT" "I" ∈ BIG := bw (bt_3 _ (List.mem_of_getElem? (i := 54) (by decide +kernel))) (by decide +kernel)
theorem fl_J2_63 : Cond.fieldLink "java/lang/StringUTF16" (63 : Nat) "java/lang/StringUTF16" "LO_BYTE_SHIFT" "I" ∈ BIG := bw (bt_3 _ (List.mem_of_getElem? (i := 56) (by decide +kernel))) (by decide +kernel)
theorem ml_J5_32 : Cond.methodLink RJ5 32 yJ0_length_8abf5 ∈ BIG := bw (bt_3 _ (List.mem_of_getElem? (i := 58) (by decide +kernel))) (by decide +kernel)
theorem im_yJ0_length_8abf5 : Cond.instanceMethod yJ0_length_8abf5 ∈ BIG := bw (bt_3 _ (List.mem_of_getElem? (i := 59) (by decide +kernel))) (by decide +kernel)
theorem se_yJ0_length_8abf5 : Cond.selects RJ0 yJ0_length_8abf5 yJ0_length_8abf5 ∈ BIG := bw (bt_3 _ (List.mem_of_getElem? (i := 60) (by decide +kernel))) (by decide +kernel)
theorem cd_yJ0_length_8abf5 : Cond.code yJ0_length_8abf5 cJ0_length_8abf5 1 (some Jvm.ClassFile.FieldType.int) ∈ BIG := bw (bt_3 _ (List.mem_of_getElem? (i := 61) rfl)) rfl
theorem ml_J0_335 : Cond.methodLink RJ0 335 yJ0_coder_7d493 ∈ BIG := bw (bt_3 _ (List.mem_of_getElem? (i := 62) (by decide +kernel))) (by decide +kernel)
theorem im_yJ0_coder_7d493 : Cond.instanceMethod yJ0_coder_7d493 ∈ BIG := bw (bt_3 _ (List.mem_of_getElem? (i := 63) (by decide +kernel))) (by decide +kernel)
theorem se_yJ0_coder_7d493 : Cond.selects RJ0 yJ0_coder_7d493 yJ0_coder_7d493 ∈ BIG := bw (bt_3 _ (List.mem_of_getElem? (i := 64) (by decide +kernel))) (by decide +kernel)
theorem cd_yJ0_coder_7d493 : Cond.code yJ0_coder_7d493 cJ0_coder_7d493 1 (some Jvm.ClassFile.FieldType.byte) ∈ BIG := bw (bt_3 _ (List.mem_of_getElem? (i := 65) rfl)) rfl
theorem fl_J0_38 : Cond.fieldLink "java/lang/String" (38 : Nat) "java/lang/String" "COMPACT_STRINGS" "Z" ∈ BIG := bw (bt_3 _ (List.mem_of_getElem? (i := 66) (by decide +kernel))) (by decide +kernel)
theorem ml_J5_208 : Cond.methodLink RJ5 208 yJ5_putStringAt_47b60 ∈ BIG := bw (bt_3 _ (List.mem_of_getElem? (i := 67) (by decide +kernel))) (by decide +kernel)
theorem im_yJ5_putStringAt_47b60 : Cond.instanceMethod yJ5_putStringAt_47b60 ∈ BIG := bw (bt_3 _ (List.mem_of_getElem? (i := 69) (by decide +kernel))) (by decide +kernel)
theorem cd_yJ5_putStringAt_47b60 : Cond.code yJ5_putStringAt_47b60 cJ5_putStringAt_47b60 3 none ∈ BIG := bw (bt_3 _ (List.mem_of_getElem? (i := 70) rfl)) rfl
theorem ml_J5_397 : Cond.methodLink RJ5 397 yJ5_inflateIfNeededFor_a7421 ∈ BIG := bw (bt_3 _ (List.mem_of_getElem? (i := 71) (by decide +kernel))) (by decide +kernel)
theorem im_yJ5_inflateIfNeededFor_a7421 : Cond.instanceMethod yJ5_inflateIfNeededFor_a7421 ∈ BIG := bw (bt_3 _ (List.mem_of_getElem? (i := 73) (by decide +kernel))) (by decide +kernel)
theorem cd_yJ5_inflateIfNeededFor_a7421 : Cond.code yJ5_inflateIfNeededFor_a7421 cJ5_inflateIfNeededFor_a7421 2 none ∈ BIG := bw (bt_3 _ (List.mem_of_getElem? (i := 74) rfl)) rfl
theorem ml_J5_40 : Cond.methodLink RJ5 40 yJ0_coder_7d493 ∈ BIG := bw (bt_3 _ (List.mem_of_getElem? (i := 75) (by decide +kernel))) (by decide +kernel)
theorem ml_J5_195 : Cond.methodLink RJ5 195 yJ5_inflate_da8c8 ∈ BIG := bw (bt_3 _ (List.mem_of_getElem? (i := 76) (by decide +kernel))) (by decide +kernel)
theorem im_yJ5_inflate_da8c8 : Cond.instanceMethod yJ5_inflate_da8c8 ∈ BIG := bw (bt_3 _ (List.mem_of_getElem? (i := 78) (by decide +kernel))) (by decide +kernel)
theorem cd_yJ5_inflate_da8c8 : Cond.code yJ5_inflate_da8c8 cJ5_inflate_da8c8 2 none ∈ BIG := bw (bt_3 _ (List.mem_of_getElem? (i := 79) rfl)) rfl
theorem ml_J5_125 : Cond.methodLink RJ5 125 yJ1_inflate_0e8fd ∈ BIG := bw (bt_3 _ (List.mem_of_getElem? (i := 80) (by decide +kernel))) (by decide +kernel)
theorem st_yJ1_inflate_0e8fd : Cond.static yJ1_inflate_0e8fd ∈ BIG := bw (bt_3 _ (List.mem_of_getElem? (i := 81) (by decide +kernel))) (by decide +kernel)
theorem cd_yJ1_inflate_0e8fd : Cond.code yJ1_inflate_0e8fd cJ1_inflate_0e8fd 5 none ∈ BIG := bw (bt_3 _ (List.mem_of_getElem? (i := 82) rfl)) rfl
theorem ml_J1_240 : Cond.methodLink RJ1 240 yJ2_inflate_0e8fd ∈ BIG := bw (bt_3 _ (List.mem_of_getElem? (i := 83) (by decide +kernel))) (by decide +kernel)
theorem st_yJ2_inflate_0e8fd : Cond.static yJ2_inflate_0e8fd ∈ BIG := bw (bt_3 _ (List.mem_of_getElem? (i := 84) (by decide +kernel))) (by decide +kernel)
theorem cd_yJ2_inflate_0e8fd : Cond.code yJ2_inflate_0e8fd cJ2_inflate_0e8fd 6 none ∈ BIG := bw (bt_3 _ (List.mem_of_getElem? (i := 85) rfl)) rfl
theorem ml_J2_173 : Cond.methodLink RJ2 173 yJ2_checkBoundsOffCount_d044e ∈ BIG := bw (bt_3 _ (List.mem_of_getElem? (i := 86) (by decide +kernel))) (by decide +kernel)
theorem st_yJ2_checkBoundsOffCount_d044e : Cond.static yJ2_checkBoundsOffCount_d044e ∈ BIG := bw (bt_3 _ (List.mem_of_getElem? (i := 87) (by decide +kernel))) (by decide +kernel)
theorem cd_yJ2_checkBoundsOffCount_d044e : Cond.code yJ2_checkBoundsOffCount_d044e cJ2_checkBoundsOffCount_d044e 3 none ∈ BIG := bw (bt_3 _ (List.mem_of_getElem? (i := 88) rfl)) rfl
theorem ml_J2_419 : Cond.methodLink RJ2 419 yJ0_checkBoundsOffCount_cabcc ∈ BIG := bw (bt_3 _ (List.mem_of_getElem? (i := 89) (by decide +kernel))) (by decide +kernel)
theorem st_yJ0_checkBoundsOffCount_cabcc : Cond.static yJ0_checkBoundsOffCount_cabcc ∈ BIG := bw (bt_3 _ (List.mem_of_getElem? (i := 90) (by decide +kernel))) (by decide +kernel)
theorem cd_yJ0_checkBoundsOffCount_cabcc : Cond.code yJ0_checkBoundsOffCount_cabcc cJ0_checkBoundsOffCount_cabcc 3 (some Jvm.ClassFile.FieldType.int) ∈ BIG := bw (bt_3 _ (List.mem_of_getElem? (i := 91) rfl)) rfl
theorem ml_J0_1065 : Cond.methodLink RJ0 1065 yJ3_checkFromIndexSize_8c36e ∈ BIG := bw (bt_3 _ (List.mem_of_getElem? (i := 92) (by decide +kernel))) (by decide +kernel)
theorem st_yJ3_checkFromIndexSize_8c36e : Cond.static yJ3_checkFromIndexSize_8c36e ∈ BIG := bw (bt_3 _ (List.mem_of_getElem? (i := 93) (by decide +kernel))) (by decide +kernel)
theorem cd_yJ3_checkFromIndexSize_8c36e : Cond.code yJ3_checkFromIndexSize_8c36e cJ3_checkFromIndexSize_8c36e 4 (some Jvm.ClassFile.FieldType.int) ∈ BIG := bw (bt_3 _ (List.mem_of_getElem? (i := 94) rfl)) rfl
theorem ml_J5_399 : Cond.methodLink RJ5 399 yJ0_getBytes_840e7 ∈ BIG := bw (bt_3 _ (List.mem_of_getElem? (i := 95) (by decide +kernel))) (by decide +kernel)
theorem im_yJ0_getBytes_840e7 : Cond.instanceMethod yJ0_getBytes_840e7 ∈ BIG := bw (bt_3 _ (List.mem_of_getElem? (i := 96) (by decide +kernel))) (by decide +kernel)
theorem se_yJ0_getBytes_840e7 : Cond.selects RJ0 yJ0_getBytes_840e7 yJ0_getBytes_840e7 ∈ BIG := bw (bt_3 _ (List.mem_of_getElem? (i := 97) (by decide +kernel))) (by decide +kernel)
theorem cd_yJ0_getBytes_840e7 : Cond.code yJ0_getBytes_840e7 cJ0_getBytes_840e7 4 none ∈ BIG := bw (bt_3 _ (List.mem_of_getElem? (i := 98) rfl)) rfl
theorem ml_J0_212 : Cond.methodLink RJ0 212 arraycopyName ∈ BIG := bw (bt_3 _ (List.mem_of_getElem? (i := 99) (by decide +kernel))) (by decide +kernel)
theorem ml_J0_106 : Cond.methodLink RJ0 106 yJ1_inflate_0e8fd ∈ BIG := bw (bt_3 _ (List.mem_of_getElem? (i := 100) (by decide +kernel))) (by decide +kernel)
theorem ml_L_52 : Cond.methodLink RL 52 yJ4_append_bf812 ∈ BIG := bw (bt_3 _ (List.mem_of_getElem? (i := 101) (by decide +kernel))) (by decide +kernel)
theorem im_yJ4_append_bf812 : Cond.instanceMethod yJ4_append_bf812 ∈ BIG := bw (bt_3 _ (List.mem_of_getElem? (i := 102) (by decide +kernel))) (by decide +kernel)
theorem se_yJ4_append_bf812 : Cond.selects RJ4 yJ4_append_bf812 yJ4_append_bf812 ∈ BIG := bw (bt_3 _ (List.mem_of_getElem? (i := 103) (by decide +kernel))) (by decide +kernel)
theorem cd_yJ4_append_bf812 : Cond.code yJ4_append_bf812 cJ4_append_bf812 2 (some (Jvm.ClassFile.FieldType.object "java/lang/StringBuilder")) ∈ BIG := bw (bt_3 _ (List.mem_of_getElem? (i := 104) rfl)) rfl
theorem ml_J4_53 : Cond.methodLink RJ4 53 yJ5_append_c97b9 ∈ BIG := bw (bt_3 _ (List.mem_of_getElem? (i := 105) (by decide +kernel))) (by decide +kernel)
theorem im_yJ5_append_c97b9 : Cond.instanceMethod yJ5_append_c97b9 ∈ BIG := bw (bt_3 _ (List.mem_of_getElem? (i := 106) (by decide +kernel))) (by decide +kernel)
theorem cd_yJ5_append_c97b9 : Cond.code yJ5_append_c97b9 cJ5_append_c97b9 4 (some (Jvm.ClassFile.FieldType.object "java/lang/AbstractStringBuilder")) ∈ BIG := bw (bt_3 _ (List.mem_of_getElem? (i := 107) rfl)) rfl
theorem ml_J5_245 : Cond.methodLink RJ5 245 yJ6_stringSize_0f7a4 ∈ BIG := bw (bt_3 _ (List.mem_of_getElem? (i := 108) (by decide +kernel))) (by decide +kernel)
theorem st_yJ6_stringSize_0f7a4 : Cond.static yJ6_stringSize_0f7a4 ∈ BIG := bw (bt_3 _ (List.mem_of_getElem? (i := 109) (by decide +kernel))) (by decide +kernel)
theorem cd_yJ6_stringSize_0f7a4 : Cond.code yJ6_stringSize_0f7a4 cJ6_stringSize_0f7a4 4 (some Jvm.ClassFile.FieldType.int) ∈ BIG := bw (bt_3 _ (List.mem_of_getElem? (i := 110) rfl)) rfl
theorem ml_J5_248 : Cond.methodLink RJ5 248 yJ6_getChars_ba4f3 ∈ BIG := bw (bt_3 _ (List.mem_of_getElem? (i := 111) (by decide +kernel))) (by decide +kernel)
theorem st_yJ6_getChars_ba4f3 : Cond.static yJ6_getChars_ba4f3 ∈ BIG := bw (bt_3 _ (List.mem_of_getElem? (i := 112) (by decide +kernel))) (by decide +kernel)
theorem cd_yJ6_getChars_ba4f3 : Cond.code yJ6_getChars_ba4f3 cJ6_getChars_ba4f3 7 (some Jvm.ClassFile.FieldType.int) ∈ BIG := bw (bt_3 _ (List.mem_of_getElem? (i := 113) rfl)) rfl
theorem fl_J6_83 : Cond.fieldLink "java/lang/Integer" (83 : Nat) "java/lang/Integer" "DigitOnes" "[B" ∈ BIG := bw (bt_3 _ (List.mem_of_getElem? (i := 114) (by decide +kernel))) (by decide +kernel)
theorem fl_J6_87 : Cond.fieldLink "java/lang/Integer" (87 : Nat) "java/lang/Integer" "DigitTens" "[B" ∈ BIG := bw (bt_3 _ (List.mem_of_getElem? (i := 116) (by decide +kernel))) (by decide +kernel)
theorem ml_J5_251 : Cond.methodLink RJ5 251 yJ2_getChars_46870 ∈ BIG := bw (bt_3 _ (List.mem_of_getElem? (i := 118) (by decide +kernel))) (by decide +kernel)
theorem st_yJ2_getChars_46870 : Cond.static yJ2_getChars_46870 ∈ BIG := bw (bt_3 _ (List.mem_of_getElem? (i := 119) (by decide +kernel))) (by decide +kernel)
theorem cd_yJ2_getChars_46870 : Cond.code yJ2_getChars_46870 cJ2_getChars_46870 5 (some Jvm.ClassFile.FieldType.int) ∈ BIG := bw (bt_3 _ (List.mem_of_getElem? (i := 120) rfl)) rfl
theorem ml_J2_393 : Cond.methodLink RJ2 393 yJ2_getChars_ba4f3 ∈ BIG := bw (bt_3 _ (List.mem_of_getElem? (i := 121) (by decide +kernel))) (by decide +kernel)
theorem st_yJ2_getChars_ba4f3 : Cond.static yJ2_getChars_ba4f3 ∈ BIG := bw (bt_3 _ (List.mem_of_getElem? (i := 122) (by decide +kernel))) (by decide +kernel)
theorem cd_yJ2_getChars_ba4f3 : Cond.code yJ2_getChars_ba4f3 cJ2_getChars_ba4f3 7 (some Jvm.ClassFile.FieldType.int) ∈ BIG := bw (bt_3 _ (List.mem_of_getElem? (i := 123) rfl)) rfl
theorem fl_J2_403 : Cond.fieldLink "java/lang/StringUTF16" (403 : Nat) "java/lang/Integer" "DigitOnes" "[B" ∈ BIG := bw (bt_3 _ (List.mem_of_getElem? (i := 124) (by decide +kernel))) (by decide +kernel)
theorem fl_J2_407 : Cond.fieldLink "java/lang/StringUTF16" (407 : Nat) "java/lang/Integer" "DigitTens" "[B" ∈ BIG := bw (bt_3 _ (List.mem_of_getElem? (i := 125) (by decide +kernel))) (by decide +kernel)
theorem ml_L_73 : Cond.methodLink RL 73 yJ4_toString_0e30d ∈ BIG := bw (bt_3 _ (List.mem_of_getElem? (i := 135) (by decide +kernel))) (by decide +kernel)
theorem im_yJ4_toString_0e30d : Cond.instanceMethod yJ4_toString_0e30d ∈ BIG := bw (bt_3 _ (List.mem_of_getElem? (i := 136) (by decide +kernel))) (by decide +kernel)
theorem se_yJ4_toString_0e30d : Cond.selects RJ4 yJ4_toString_0e30d yJ4_toString_0e30d ∈ BIG := bw (bt_3 _ (List.mem_of_getElem? (i := 137) (by decide +kernel))) (by decide +kernel)
theorem cd_yJ4_toString_0e30d : Cond.code yJ4_toString_0e30d cJ4_toString_0e30d 1 (some (Jvm.ClassFile.FieldType.object "java/lang/String")) ∈ BIG := bw (bt_3 _ (List.mem_of_getElem? (i := 138) rfl)) rfl
theorem cl_J4_18 : Cond.classLink RJ4 18 "java/lang/String" ∈ BIG := bw (bt_3 _ (List.mem_of_getElem? (i := 139) (by decide +kernel))) (by decide +kernel)
theorem is_J0 : Cond.instantiable RJ0 4 ∈ BIG := bw (bt_3 _ (List.mem_of_getElem? (i := 140) (by decide +kernel))) (by decide +kernel)
theorem ml_J4_137 : Cond.methodLink RJ4 137 yJ0_init_81219 ∈ BIG := bw (bt_3 _ (List.mem_of_getElem? (i := 141) (by decide +kernel))) (by decide +kernel)
theorem im_yJ0_init_81219 : Cond.instanceMethod yJ0_init_81219 ∈ BIG := bw (bt_3 _ (List.mem_of_getElem? (i := 142) (by decide +kernel))) (by decide +kernel)
theorem cd_yJ0_init_81219 : Cond.code yJ0_init_81219 cJ0_init_81219 2 none ∈ BIG := bw (bt_3 _ (List.mem_of_getElem? (i := 143) rfl)) rfl
theorem ml_J0_489 : Cond.methodLink RJ0 489 yJ0_init_db425 ∈ BIG := bw (bt_3 _ (List.mem_of_getElem? (i := 144) (by decide +kernel))) (by decide +kernel)
theorem im_yJ0_init_db425 : Cond.instanceMethod yJ0_init_db425 ∈ BIG := bw (bt_3 _ (List.mem_of_getElem? (i := 145) (by decide +kernel))) (by decide +kernel)
theorem cd_yJ0_init_db425 : Cond.code yJ0_init_db425 cJ0_init_db425 5 none ∈ BIG := bw (bt_3 _ (List.mem_of_getElem? (i := 146) rfl)) rfl
theorem ml_J0_1 : Cond.methodLink RJ0 1 Lib.objectInit ∈ BIG := bw (bt_3 _ (List.mem_of_getElem? (i := 147) (by decide +kernel))) (by decide +kernel)
theorem ml_J0_552 : Cond.methodLink RJ0 552 yJ5_getValue_6d5f1 ∈ BIG := bw (bt_3 _ (List.mem_of_getElem? (i := 148) (by decide +kernel))) (by decide +kernel)
theorem im_yJ5_getValue_6d5f1 : Cond.instanceMethod yJ5_getValue_6d5f1 ∈ BIG := bw (bt_3 _ (List.mem_of_getElem? (i := 149) (by decide +kernel))) (by decide +kernel)
theorem sm_yJ5_getValue_6d5f1 : Cond.sameMethod RJ5 RJ5 "getValue" "()[B" ∈ BIG := bw (bt_3 _ (List.mem_of_getElem? (i := 150) (by decide +kernel))) (by decide +kernel)
theorem se4_yJ5_getValue_6d5f1 : Cond.selects RJ4 yJ5_getValue_6d5f1 yJ5_getValue_6d5f1 ∈ BIG := bw (bt_3 _ (List.mem_of_getElem? (i := 151) (by decide +kernel))) (by decide +kernel)
theorem cd_yJ5_getValue_6d5f1 : Cond.code yJ5_getValue_6d5f1 cJ5_getValue_6d5f1 1 (some (Jvm.ClassFile.FieldType.array Jvm.ClassFile.FieldType.byte)) ∈ BIG := bw (bt_3 _ (List.mem_of_getElem? (i := 152) rfl)) rfl
theorem ml_J0_549 : Cond.methodLink RJ0 549 yJ5_length_8abf5 ∈ BIG := bw (bt_3 _ (List.mem_of_getElem? (i := 153) (by decide +kernel))) (by decide +kernel)
theorem im_yJ5_length_8abf5 : Cond.instanceMethod yJ5_length_8abf5 ∈ BIG := bw (bt_3 _ (List.mem_of_getElem? (i := 154) (by decide +kernel))) (by decide +kernel)
theorem sm_yJ5_length_8abf5 : Cond.sameMethod RJ5 RJ5 "length" "()I" ∈ BIG := bw (bt_3 _ (List.mem_of_getElem? (i := 155) (by decide +kernel))) (by decide +kernel)
theorem se4_yJ5_length_8abf5 : Cond.selects RJ4 yJ5_length_8abf5 yJ4_length_8abf5 ∈ BIG := bw (bt_3 _ (List.mem_of_getElem? (i := 156) (by decide +kernel))) (by decide +kernel)
theorem im_yJ4_length_8abf5 : Cond.instanceMethod yJ4_length_8abf5 ∈ BIG := bw (bt_3 _ (List.mem_of_getElem? (i := 157) (by decide +kernel))) (by decide +kernel)
theorem cd_yJ4_length_8abf5 : Cond.code yJ4_length_8abf5 cJ4_length_8abf5 1 (some Jvm.ClassFile.FieldType.int) ∈ BIG := bw (bt_3 _ (List.mem_of_getElem? (i := 158) rfl)) rfl
theorem ml_J4_343 : Cond.methodLink RJ4 343 yJ5_length_8abf5 ∈ BIG := bw (bt_3 _ (List.mem_of_getElem? (i := 159) (by decide +kernel))) (by decide +kernel)
theorem cd_yJ5_length_8abf5 : Cond.code yJ5_length_8abf5 cJ5_length_8abf5 1 (some Jvm.ClassFile.FieldType.int) ∈ BIG := bw (bt_3 _ (List.mem_of_getElem? (i := 160) rfl)) rfl
theorem ml_J0_1047 : Cond.methodLink RJ0 1047 yJ5_isLatin1_aae02 ∈ BIG := bw (bt_3 _ (List.mem_of_getElem? (i := 161) (by decide +kernel))) (by decide +kernel)
theorem ml_J0_54 : Cond.methodLink RJ0 54 yJ7_copyOfRange_39247 ∈ BIG := bw (bt_3 _ (List.mem_of_getElem? (i := 162) (by decide +kernel))) (by decide +kernel)
theorem st_yJ7_copyOfRange_39247 : Cond.static yJ7_copyOfRange_39247 ∈ BIG := bw (bt_3 _ (List.mem_of_getElem? (i := 163) (by decide +kernel))) (by decide +kernel)
theorem cd_yJ7_copyOfRange_39247 : Cond.code yJ7_copyOfRange_39247 cJ7_copyOfRange_39247 3 (some (Jvm.ClassFile.FieldType.array Jvm.ClassFile.FieldType.byte)) ∈ BIG := bw (bt_3 _ (List.mem_of_getElem? (i := 164) rfl)) rfl
theorem ml_J7_339 : Cond.methodLink RJ7 339 yJ7_copyOfRangeByte_39247 ∈ BIG := bw (bt_3 _ (List.mem_of_getElem? (i := 165) (by decide +kernel))) (by decide +kernel)
theorem st_yJ7_copyOfRangeByte_39247 : Cond.static yJ7_copyOfRangeByte_39247 ∈ BIG := bw (bt_3 _ (List.mem_of_getElem? (i := 166) (by decide +kernel))) (by decide +kernel)
theorem cd_yJ7_copyOfRangeByte_39247 : Cond.code yJ7_copyOfRangeByte_39247 cJ7_copyOfRangeByte_39247 5 (some (Jvm.ClassFile.FieldType.array Jvm.ClassFile.FieldType.byte)) ∈ BIG := bw (bt_3 _ (List.mem_of_getElem? (i := 167) rfl)) rfl
theorem ml_J7_343 : Cond.methodLink RJ7 343 yJ7_checkLength_df160 ∈ BIG := bw (bt_3 _ (List.mem_of_getElem? (i := 168) (by decide +kernel))) (by decide +kernel)
theorem st_yJ7_checkLength_df160 : Cond.static yJ7_checkLength_df160 ∈ BIG := bw (bt_3 _ (List.mem_of_getElem? (i := 169) (by decide +kernel))) (by decide +kernel)
theorem cd_yJ7_checkLength_df160 : Cond.code yJ7_checkLength_df160 cJ7_checkLength_df160 2 none ∈ BIG := bw (bt_3 _ (List.mem_of_getElem? (i := 170) rfl)) rfl
theorem ml_J0_1051 : Cond.methodLink RJ0 1051 yJ2_compress_39247 ∈ BIG := bw (bt_3 _ (List.mem_of_getElem? (i := 171) (by decide +kernel))) (by decide +kernel)
theorem st_yJ2_compress_39247 : Cond.static yJ2_compress_39247 ∈ BIG := bw (bt_3 _ (List.mem_of_getElem? (i := 172) (by decide +kernel))) (by decide +kernel)
theorem cd_yJ2_compress_39247 : Cond.code yJ2_compress_39247 cJ2_compress_39247 6 (some (Jvm.ClassFile.FieldType.array Jvm.ClassFile.FieldType.byte)) ∈ BIG := bw (bt_3 _ (List.mem_of_getElem? (i := 173) rfl)) rfl
theorem ml_J2_123 : Cond.methodLink RJ2 123 yJ2_compress_5af95 ∈ BIG := bw (bt_3 _ (List.mem_of_getElem? (i := 174) (by decide +kernel))) (by decide +kernel)
theorem st_yJ2_compress_5af95 : Cond.static yJ2_compress_5af95 ∈ BIG := bw (bt_3 _ (List.mem_of_getElem? (i := 175) (by decide +kernel))) (by decide +kernel)
theorem cd_yJ2_compress_5af95 : Cond.code yJ2_compress_5af95 cJ2_compress_5af95 7 (some Jvm.ClassFile.FieldType.int) ∈ BIG := bw (bt_3 _ (List.mem_of_getElem? (i := 176) rfl)) rfl
theorem ml_J2_71 : Cond.methodLink RJ2 71 yJ2_getChar_3b067 ∈ BIG := bw (bt_3 _ (List.mem_of_getElem? (i := 177) (by decide +kernel))) (by decide +kernel)
theorem st_yJ2_getChar_3b067 : Cond.static yJ2_getChar_3b067 ∈ BIG := bw (bt_3 _ (List.mem_of_getElem? (i := 178) (by decide +kernel))) (by decide +kernel)
theorem cd_yJ2_getChar_3b067 : Cond.code yJ2_getChar_3b067 cJ2_getChar_3b067 2 (some Jvm.ClassFile.FieldType.char) ∈ BIG := bw (bt_3 _ (List.mem_of_getElem? (i := 179) rfl)) rfl
theorem ml_J2_126 : Cond.methodLink RJ2 126 yJ7_copyOfRange_39247 ∈ BIG := bw (bt_3 _ (List.mem_of_getElem? (i := 180) (by decide +kernel))) (by decide +kernel)
theorem ml_J0_47 : Cond.methodLink RJ0 47 yJ2_coderFromArrayLen_85cad ∈ BIG := bw (bt_3 _ (List.mem_of_getElem? (i := 181) (by decide +kernel))) (by decide +kernel)
theorem st_yJ2_coderFromArrayLen_85cad : Cond.static yJ2_coderFromArrayLen_85cad ∈ BIG := bw (bt_3 _ (List.mem_of_getElem? (i := 182) (by decide +kernel))) (by decide +kernel)
theorem cd_yJ2_coderFromArrayLen_85cad : Cond.code yJ2_coderFromArrayLen_85cad cJ2_coderFromArrayLen_85cad 2 (some Jvm.ClassFile.FieldType.byte) ∈ BIG := bw (bt_3 _ (List.mem_of_getElem? (i := 183) rfl)) rfl
theorem fl_J0_9 : Cond.fieldLink RJ0 9 (TJ0 0).1 (TJ0 0).2.1 (TJ0 0).2.2.1 ∈ BIG := bw (bt_3 _ (List.mem_of_getElem? (i := 184) (by decide +kernel))) (by decide +kernel)
theorem fl_J0_15 : Cond.fieldLink RJ0 15 (TJ0 1).1 (TJ0 1).2.1 (TJ0 1).2.2.1 ∈ BIG := bw (bt_3 _ (List.mem_of_getElem? (i := 185) (by decide +kernel))) (by decide +kernel)
theorem lay_J0_0 : u_lay RJ0 TJ0 0 ∈ BIG := bw (bt_3 _ (List.mem_of_getElem? (i := 186) (by decide +kernel))) (by decide +kernel)
theorem lay_J0_1 : u_lay RJ0 TJ0 1 ∈ BIG := bw (bt_3 _ (List.mem_of_getElem? (i := 188) (by decide +kernel))) (by decide +kernel)
theorem lay_J0_2 : u_lay RJ0 TJ0 2 ∈ BIG := bw (bt_3 _ (List.mem_of_getElem? (i := 190) (by decide +kernel))) (by decide +kernel)
theorem lay_J0_3 : u_lay RJ0 TJ0 3 ∈ BIG := bw (bt_3 _ (List.mem_of_getElem? (i := 192) (by decide +kernel))) (by decide +kernel)
theorem ml_L_77 : Cond.methodLink RL 77 yL_feed ∈ BIG := bw (bt_3 _ (List.mem_of_getElem? (i := 195) (by decide +kernel))) (by decide +kernel)
theorem st_yL_feed : Cond.static yL_feed ∈ BIG := bw (bt_3 _ (List.mem_of_getElem? (i := 196) (by decide +kernel))) (by decide +kernel)
theorem cd_yL_feed : Cond.code yL_feed cL_feed 4 none ∈ BIG := bw (bt_3 _ (List.mem_of_getElem? (i := 197) rfl)) rfl
theorem ml_L_8 : Cond.methodLink RL 8 yJ0_length_8abf5 ∈ BIG := bw (bt_3 _ (List.mem_of_getElem? (i := 198) (by decide +kernel))) (by decide +kernel)
theorem ml_L_18 : Cond.methodLink RL 18 yL_four ∈ BIG := bw (bt_3 _ (List.mem_of_getElem? (i := 199) (by decide +kernel))) (by decide +kernel)
theorem st_yL_four : Cond.static yL_four ∈ BIG := bw (bt_3 _ (List.mem_of_getElem? (i := 200) (by decide +kernel))) (by decide +kernel)
theorem cd_yL_four : Cond.code yL_four cL_four 4 (some Jvm.ClassFile.FieldType.int) ∈ BIG := bw (bt_3 _ (List.mem_of_getElem? (i := 201) rfl)) rfl
theorem ml_L_14 : Cond.methodLink RL 14 yJ0_charAt_5068e ∈ BIG := bw (bt_3 _ (List.mem_of_getElem? (i := 202) (by decide +kernel))) (by decide +kernel)
theorem im_yJ0_charAt_5068e : Cond.instanceMethod yJ0_charAt_5068e ∈ BIG := bw (bt_3 _ (List.mem_of_getElem? (i := 203) (by decide +kernel))) (by decide +kernel)
theorem se_yJ0_charAt_5068e : Cond.selects RJ0 yJ0_charAt_5068e yJ0_charAt_5068e ∈ BIG := bw (bt_3 _ (List.mem_of_getElem? (i := 204) (by decide +kernel))) (by decide +kernel)
theorem cd_yJ0_charAt_5068e : Cond.code yJ0_charAt_5068e cJ0_charAt_5068e 2 (some Jvm.ClassFile.FieldType.char) ∈ BIG := bw (bt_3 _ (List.mem_of_getElem? (i := 205) rfl)) rfl
theorem ml_J0_492 : Cond.methodLink RJ0 492 yJ0_isLatin1_aae02 ∈ BIG := bw (bt_3 _ (List.mem_of_getElem? (i := 206) (by decide +kernel))) (by decide +kernel)
theorem im_yJ0_isLatin1_aae02 : Cond.instanceMethod yJ0_isLatin1_aae02 ∈ BIG := bw (bt_3 _ (List.mem_of_getElem? (i := 207) (by decide +kernel))) (by decide +kernel)
theorem se_yJ0_isLatin1_aae02 : Cond.selects RJ0 yJ0_isLatin1_aae02 yJ0_isLatin1_aae02 ∈ BIG := bw (bt_3 _ (List.mem_of_getElem? (i := 208) (by decide +kernel))) (by decide +kernel)
theorem cd_yJ0_isLatin1_aae02 : Cond.code yJ0_isLatin1_aae02 cJ0_isLatin1_aae02 1 (some Jvm.ClassFile.FieldType.boolean) ∈ BIG := bw (bt_3 _ (List.mem_of_getElem? (i := 209) rfl)) rfl
theorem ml_J0_495 : Cond.methodLink RJ0 495 yJ1_charAt_3b067 ∈ BIG := bw (bt_3 _ (List.mem_of_getElem? (i := 210) (by decide +kernel))) (by decide +kernel)
theorem st_yJ1_charAt_3b067 : Cond.static yJ1_charAt_3b067 ∈ BIG := bw (bt_3 _ (List.mem_of_getElem? (i := 211) (by decide +kernel))) (by decide +kernel)
theorem cd_yJ1_charAt_3b067 : Cond.code yJ1_charAt_3b067 cJ1_charAt_3b067 2 (some Jvm.ClassFile.FieldType.char) ∈ BIG := bw (bt_3 _ (List.mem_of_getElem? (i := 212) rfl)) rfl
theorem ml_J1_9 : Cond.methodLink RJ1 9 yJ0_checkIndex_df160 ∈ BIG := bw (bt_3 _ (List.mem_of_getElem? (i := 213) (by decide +kernel))) (by decide +kernel)
theorem st_yJ0_checkIndex_df160 : Cond.static yJ0_checkIndex_df160 ∈ BIG := bw (bt_3 _ (List.mem_of_getElem? (i := 214) (by decide +kernel))) (by decide +kernel)
theorem cd_yJ0_checkIndex_df160 : Cond.code yJ0_checkIndex_df160 cJ0_checkIndex_df160 2 none ∈ BIG := bw (bt_3 _ (List.mem_of_getElem? (i := 215) rfl)) rfl
theorem ml_J0_1059 : Cond.methodLink RJ0 1059 yJ3_checkIndex_8e157 ∈ BIG := bw (bt_3 _ (List.mem_of_getElem? (i := 216) (by decide +kernel))) (by decide +kernel)
theorem st_yJ3_checkIndex_8e157 : Cond.static yJ3_checkIndex_8e157 ∈ BIG := bw (bt_3 _ (List.mem_of_getElem? (i := 217) (by decide +kernel))) (by decide +kernel)
theorem cd_yJ3_checkIndex_8e157 : Cond.code yJ3_checkIndex_8e157 cJ3_checkIndex_8e157 3 (some Jvm.ClassFile.FieldType.int) ∈ BIG := bw (bt_3 _ (List.mem_of_getElem? (i := 218) rfl)) rfl
theorem ml_J0_498 : Cond.methodLink RJ0 498 yJ2_charAt_3b067 ∈ BIG := bw (bt_3 _ (List.mem_of_getElem? (i := 219) (by decide +kernel))) (by decide +kernel)
theorem st_yJ2_charAt_3b067 : Cond.static yJ2_charAt_3b067 ∈ BIG := bw (bt_3 _ (List.mem_of_getElem? (i := 220) (by decide +kernel))) (by decide +kernel)
theorem cd_yJ2_charAt_3b067 : Cond.code yJ2_charAt_3b067 cJ2_charAt_3b067 2 (some Jvm.ClassFile.FieldType.char) ∈ BIG := bw (bt_3 _ (List.mem_of_getElem? (i := 221) rfl)) rfl
theorem ml_J2_67 : Cond.methodLink RJ2 67 yJ2_checkIndex_2214a ∈ BIG := bw (bt_3 _ (List.mem_of_getElem? (i := 222) (by decide +kernel))) (by decide +kernel)
theorem st_yJ2_checkIndex_2214a : Cond.static yJ2_checkIndex_2214a ∈ BIG := bw (bt_3 _ (List.mem_of_getElem? (i := 223) (by decide +kernel))) (by decide +kernel)
theorem cd_yJ2_checkIndex_2214a : Cond.code yJ2_checkIndex_2214a cJ2_checkIndex_2214a 2 none ∈ BIG := bw (bt_3 _ (List.mem_of_getElem? (i := 224) rfl)) rfl
theorem ml_J2_414 : Cond.methodLink RJ2 414 yJ0_checkIndex_df160 ∈ BIG := bw (bt_3 _ (List.mem_of_getElem? (i := 225) (by decide +kernel))) (by decide +kernel)
theorem ml_L_24 : Cond.methodLink RL 24 yX8_append ∈ BIG := bw (bt_3 _ (List.mem_of_getElem? (i := 226) (by decide +kernel))) (by decide +kernel)
theorem im_yX8_append : Cond.instanceMethod yX8_append ∈ BIG := bw (bt_3 _ (List.mem_of_getElem? (i := 227) (by decide +kernel))) (by decide +kernel)
theorem se_yX8_append : Cond.selects RX8 yX8_append yX8_append ∈ BIG := bw (bt_3 _ (List.mem_of_getElem? (i := 228) (by decide +kernel))) (by decide +kernel)
theorem cd_yX8_append : Cond.code yX8_append cX8_append 6 (some Jvm.ClassFile.FieldType.int) ∈ BIG := bw (bt_3 _ (List.mem_of_getElem? (i := 229) rfl)) rfl
theorem cl_X8_55 : Cond.classLink RX8 55 "java/lang/IllegalStateException" ∈ BIG := bw (bt_3 _ (List.mem_of_getElem? (i := 230) (by decide +kernel))) (by decide +kernel)
theorem is_java_lang_IllegalStateException : Cond.instantiable "java/lang/IllegalStateException" 6 ∈ BIG := bw (bt_3 _ (List.mem_of_getElem? (i := 231) (by decide +kernel))) (by decide +kernel)
theorem ml_X8_62 : Cond.methodLink RX8 62 yX0_addFour ∈ BIG := bw (bt_4 _ (List.mem_of_getElem? (i := 6) (by decide +kernel))) (by decide +kernel)
theorem im_yX0_addFour : Cond.instanceMethod yX0_addFour ∈ BIG := bw (bt_4 _ (List.mem_of_getElem? (i := 7) (by decide +kernel))) (by decide +kernel)
theorem se_yX0_addFour : Cond.selects RX0 yX0_addFour yX0_addFour ∈ BIG := bw (bt_4 _ (List.mem_of_getElem? (i := 8) (by decide +kernel))) (by decide +kernel)
theorem cd_yX0_addFour : Cond.code yX0_addFour cX0_addFour 3 none ∈ BIG := bw (bt_4 _ (List.mem_of_getElem? (i := 9) rfl)) rfl
theorem ml_L_30 : Cond.methodLink RL 30 Lib.Math.min.name ∈ BIG := bw (bt_4 _ (List.mem_of_getElem? (i := 10) (by decide +kernel))) (by decide +kernel)
theorem ml_L_36 : Cond.methodLink RL 36 yX8_truncate ∈ BIG := bw (bt_4 _ (List.mem_of_getElem? (i := 11) (by decide +kernel))) (by decide +kernel)
theorem im_yX8_truncate : Cond.instanceMethod yX8_truncate ∈ BIG := bw (bt_4 _ (List.mem_of_getElem? (i := 12) (by decide +kernel))) (by decide +kernel)
theorem se_yX8_truncate : Cond.selects RX8 yX8_truncate yX8_truncate ∈ BIG := bw (bt_4 _ (List.mem_of_getElem? (i := 13) (by decide +kernel))) (by decide +kernel)
theorem cd_yX8_truncate : Cond.code yX8_truncate cX8_truncate 2 none ∈ BIG := bw (bt_4 _ (List.mem_of_getElem? (i := 14) rfl)) rfl
theorem ml_L_81 : Cond.methodLink RL 81 yX8_load ∈ BIG := bw (bt_4 _ (List.mem_of_getElem? (i := 16) (by decide +kernel))) (by decide +kernel)
theorem im_yX8_load : Cond.instanceMethod yX8_load ∈ BIG := bw (bt_4 _ (List.mem_of_getElem? (i := 17) (by decide +kernel))) (by decide +kernel)
theorem se_yX8_load : Cond.selects RX8 yX8_load yX8_load ∈ BIG := bw (bt_4 _ (List.mem_of_getElem? (i := 18) (by decide +kernel))) (by decide +kernel)
theorem cd_yX8_load : Cond.code yX8_load cX8_load 2 (some Jvm.ClassFile.FieldType.int) ∈ BIG := bw (bt_4 _ (List.mem_of_getElem? (i := 19) rfl)) rfl
theorem ml_X8_71 : Cond.methodLink RX8 71 yX3_readText ∈ BIG := bw (bt_4 _ (List.mem_of_getElem? (i := 20) (by decide +kernel))) (by decide +kernel)
theorem im_yX3_readText : Cond.instanceMethod yX3_readText ∈ BIG := bw (bt_4 _ (List.mem_of_getElem? (i := 21) (by decide +kernel))) (by decide +kernel)
theorem se_yX3_readText : Cond.selects RX3 yX3_readText yX3_readText ∈ BIG := bw (bt_4 _ (List.mem_of_getElem? (i := 22) (by decide +kernel))) (by decide +kernel)
theorem cd_yX3_readText : Cond.code yX3_readText cX3_readText 2 (some Jvm.ClassFile.FieldType.boolean) ∈ BIG := bw (bt_4 _ (List.mem_of_getElem? (i := 23) rfl)) rfl
theorem ml_X3_32 : Cond.methodLink RX3 32 yX3_clear ∈ BIG := bw (bt_4 _ (List.mem_of_getElem? (i := 24) (by decide +kernel))) (by decide +kernel)
theorem im_yX3_clear : Cond.instanceMethod yX3_clear ∈ BIG := bw (bt_4 _ (List.mem_of_getElem? (i := 26) (by decide +kernel))) (by decide +kernel)
theorem cd_yX3_clear : Cond.code yX3_clear cX3_clear 1 none ∈ BIG := bw (bt_4 _ (List.mem_of_getElem? (i := 27) rfl)) rfl
theorem ml_X3_77 : Cond.methodLink RX3 77 yX4_clear ∈ BIG := bw (bt_4 _ (List.mem_of_getElem? (i := 28) (by decide +kernel))) (by decide +kernel)
theorem im_yX4_clear : Cond.instanceMethod yX4_clear ∈ BIG := bw (bt_4 _ (List.mem_of_getElem? (i := 29) (by decide +kernel))) (by decide +kernel)
theorem se_yX4_clear : Cond.selects RX4 yX4_clear yX4_clear ∈ BIG := bw (bt_4 _ (List.mem_of_getElem? (i := 30) (by decide +kernel))) (by decide +kernel)
theorem cd_yX4_clear : Cond.code yX4_clear cX4_clear 1 none ∈ BIG := bw (bt_4 _ (List.mem_of_getElem? (i := 31) rfl)) rfl
theorem ml_X4_19 : Cond.methodLink RX4 19 yJ7_fill_53178 ∈ BIG := bw (bt_4 _ (List.mem_of_getElem? (i := 32) (by decide +kernel))) (by decide +kernel)
theorem ml_X3_35 : Cond.methodLink RX3 35 yX3_readToken ∈ BIG := bw (bt_4 _ (List.mem_of_getElem? (i := 33) (by decide +kernel))) (by decide +kernel)
theorem im_yX3_readToken : Cond.instanceMethod yX3_readToken ∈ BIG := bw (bt_4 _ (List.mem_of_getElem? (i := 35) (by decide +kernel))) (by decide +kernel)
theorem cd_yX3_readToken : Cond.code yX3_readToken cX3_readToken 1 none ∈ BIG := bw (bt_4 _ (List.mem_of_getElem? (i := 36) rfl)) rfl
theorem ml_X3_153 : Cond.methodLink RX3 153 yX0_byteAt ∈ BIG := bw (bt_4 _ (List.mem_of_getElem? (i := 37) (by decide +kernel))) (by decide +kernel)
theorem im_yX0_byteAt : Cond.instanceMethod yX0_byteAt ∈ BIG := bw (bt_4 _ (List.mem_of_getElem? (i := 38) (by decide +kernel))) (by decide +kernel)
theorem se_yX0_byteAt : Cond.selects RX0 yX0_byteAt yX0_byteAt ∈ BIG := bw (bt_4 _ (List.mem_of_getElem? (i := 39) (by decide +kernel))) (by decide +kernel)
theorem cd_yX0_byteAt : Cond.code yX0_byteAt cX0_byteAt 2 (some Jvm.ClassFile.FieldType.int) ∈ BIG := bw (bt_4 _ (List.mem_of_getElem? (i := 40) rfl)) rfl
theorem ml_X3_163 : Cond.methodLink RX3 163 yX3_kindOf ∈ BIG := bw (bt_4 _ (List.mem_of_getElem? (i := 41) (by decide +kernel))) (by decide +kernel)
theorem st_yX3_kindOf : Cond.static yX3_kindOf ∈ BIG := bw (bt_4 _ (List.mem_of_getElem? (i := 42) (by decide +kernel))) (by decide +kernel)
theorem cd_yX3_kindOf : Cond.code yX3_kindOf cX3_kindOf 1 (some Jvm.ClassFile.FieldType.int) ∈ BIG := bw (bt_4 _ (List.mem_of_getElem? (i := 43) rfl)) rfl
theorem co_X3_166 : Cond.constant RX3 166 (1000000) ∈ BIG := bw (bt_4 _ (List.mem_of_getElem? (i := 44) (by decide +kernel))) (by decide +kernel)
theorem ml_X3_167 : Cond.methodLink RX3 167 Lib.Math.min.name ∈ BIG := bw (bt_4 _ (List.mem_of_getElem? (i := 45) (by decide +kernel))) (by decide +kernel)
theorem ml_X3_40 : Cond.methodLink RX3 40 yX3_isWord ∈ BIG := bw (bt_4 _ (List.mem_of_getElem? (i := 47) (by decide +kernel))) (by decide +kernel)
theorem im_yX3_isWord : Cond.instanceMethod yX3_isWord ∈ BIG := bw (bt_4 _ (List.mem_of_getElem? (i := 49) (by decide +kernel))) (by decide +kernel)
theorem cd_yX3_isWord : Cond.code yX3_isWord cX3_isWord 3 (some Jvm.ClassFile.FieldType.boolean) ∈ BIG := bw (bt_4 _ (List.mem_of_getElem? (i := 50) rfl)) rfl
theorem ml_X3_147 : Cond.methodLink RX3 147 yJ0_length_8abf5 ∈ BIG := bw (bt_4 _ (List.mem_of_getElem? (i := 51) (by decide +kernel))) (by decide +kernel)
theorem ml_X3_157 : Cond.methodLink RX3 157 yJ0_charAt_5068e ∈ BIG := bw (bt_4 _ (List.mem_of_getElem? (i := 52) (by decide +kernel))) (by decide +kernel)
theorem ml_X3_44 : Cond.methodLink RX3 44 yX3_fail ∈ BIG := bw (bt_4 _ (List.mem_of_getElem? (i := 53) (by decide +kernel))) (by decide +kernel)
theorem im_yX3_fail : Cond.instanceMethod yX3_fail ∈ BIG := bw (bt_4 _ (List.mem_of_getElem? (i := 55) (by decide +kernel))) (by decide +kernel)
theorem cd_yX3_fail : Cond.code yX3_fail cX3_fail 2 none ∈ BIG := bw (bt_4 _ (List.mem_of_getElem? (i := 56) rfl)) rfl
theorem ml_X3_54 : Cond.methodLink RX3 54 yX3_readPeriod ∈ BIG := bw (bt_4 _ (List.mem_of_getElem? (i := 57) (by decide +kernel))) (by decide +kernel)
theorem im_yX3_readPeriod : Cond.instanceMethod yX3_readPeriod ∈ BIG := bw (bt_4 _ (List.mem_of_getElem? (i := 59) (by decide +kernel))) (by decide +kernel)
theorem cd_yX3_readPeriod : Cond.code yX3_readPeriod cX3_readPeriod 2 none ∈ BIG := bw (bt_4 _ (List.mem_of_getElem? (i := 60) rfl)) rfl
theorem ml_X3_90 : Cond.methodLink RX3 90 yX4_isEndless ∈ BIG := bw (bt_4 _ (List.mem_of_getElem? (i := 61) (by decide +kernel))) (by decide +kernel)
theorem im_yX4_isEndless : Cond.instanceMethod yX4_isEndless ∈ BIG := bw (bt_4 _ (List.mem_of_getElem? (i := 62) (by decide +kernel))) (by decide +kernel)
theorem se_yX4_isEndless : Cond.selects RX4 yX4_isEndless yX4_isEndless ∈ BIG := bw (bt_4 _ (List.mem_of_getElem? (i := 63) (by decide +kernel))) (by decide +kernel)
theorem cd_yX4_isEndless : Cond.code yX4_isEndless cX4_isEndless 2 (some Jvm.ClassFile.FieldType.boolean) ∈ BIG := bw (bt_4 _ (List.mem_of_getElem? (i := 64) rfl)) rfl
theorem ml_X4_42 : Cond.methodLink RX4 42 yX4_number ∈ BIG := bw (bt_4 _ (List.mem_of_getElem? (i := 65) (by decide +kernel))) (by decide +kernel)
theorem ml_X3_94 : Cond.methodLink RX3 94 yX3_takeWord ∈ BIG := bw (bt_4 _ (List.mem_of_getElem? (i := 66) (by decide +kernel))) (by decide +kernel)
theorem im_yX3_takeWord : Cond.instanceMethod yX3_takeWord ∈ BIG := bw (bt_4 _ (List.mem_of_getElem? (i := 68) (by decide +kernel))) (by decide +kernel)
theorem cd_yX3_takeWord : Cond.code yX3_takeWord cX3_takeWord 2 none ∈ BIG := bw (bt_4 _ (List.mem_of_getElem? (i := 69) rfl)) rfl
theorem ml_X3_100 : Cond.methodLink RX3 100 yX3_takeNumber ∈ BIG := bw (bt_4 _ (List.mem_of_getElem? (i := 71) (by decide +kernel))) (by decide +kernel)
theorem im_yX3_takeNumber : Cond.instanceMethod yX3_takeNumber ∈ BIG := bw (bt_4 _ (List.mem_of_getElem? (i := 73) (by decide +kernel))) (by decide +kernel)
theorem cd_yX3_takeNumber : Cond.code yX3_takeNumber cX3_takeNumber 4 (some Jvm.ClassFile.FieldType.int) ∈ BIG := bw (bt_4 _ (List.mem_of_getElem? (i := 74) rfl)) rfl
theorem ml_X3_104 : Cond.methodLink RX3 104 yX4_setNumber ∈ BIG := bw (bt_4 _ (List.mem_of_getElem? (i := 75) (by decide +kernel))) (by decide +kernel)
theorem co_X3_110 : Cond.constant RX3 110 (99999) ∈ BIG := bw (bt_4 _ (List.mem_of_getElem? (i := 77) (by decide +kernel))) (by decide +kernel)
theorem ml_X3_113 : Cond.methodLink RX3 113 yX3_takeOption ∈ BIG := bw (bt_4 _ (List.mem_of_getElem? (i := 79) (by decide +kernel))) (by decide +kernel)
theorem im_yX3_takeOption : Cond.instanceMethod yX3_takeOption ∈ BIG := bw (bt_4 _ (List.mem_of_getElem? (i := 81) (by decide +kernel))) (by decide +kernel)
theorem cd_yX3_takeOption : Cond.code yX3_takeOption cX3_takeOption 2 (some Jvm.ClassFile.FieldType.int) ∈ BIG := bw (bt_4 _ (List.mem_of_getElem? (i := 82) rfl)) rfl
theorem ml_X3_121 : Cond.methodLink RX3 121 yX3_takeSemicolon ∈ BIG := bw (bt_4 _ (List.mem_of_getElem? (i := 85) (by decide +kernel))) (by decide +kernel)
theorem im_yX3_takeSemicolon : Cond.instanceMethod yX3_takeSemicolon ∈ BIG := bw (bt_4 _ (List.mem_of_getElem? (i := 87) (by decide +kernel))) (by decide +kernel)
theorem cd_yX3_takeSemicolon : Cond.code yX3_takeSemicolon cX3_takeSemicolon 1 none ∈ BIG := bw (bt_4 _ (List.mem_of_getElem? (i := 88) rfl)) rfl
theorem ml_X3_59 : Cond.methodLink RX3 59 yX3_readExtra ∈ BIG := bw (bt_4 _ (List.mem_of_getElem? (i := 90) (by decide +kernel))) (by decide +kernel)
theorem im_yX3_readExtra : Cond.instanceMethod yX3_readExtra ∈ BIG := bw (bt_4 _ (List.mem_of_getElem? (i := 92) (by decide +kernel))) (by decide +kernel)
theorem cd_yX3_readExtra : Cond.code yX3_readExtra cX3_readExtra 1 none ∈ BIG := bw (bt_4 _ (List.mem_of_getElem? (i := 93) rfl)) rfl
theorem ml_X3_127 : Cond.methodLink RX3 127 yX3_failIf ∈ BIG := bw (bt_4 _ (List.mem_of_getElem? (i := 94) (by decide +kernel))) (by decide +kernel)
theorem im_yX3_failIf : Cond.instanceMethod yX3_failIf ∈ BIG := bw (bt_4 _ (List.mem_of_getElem? (i := 96) (by decide +kernel))) (by decide +kernel)
theorem cd_yX3_failIf : Cond.code yX3_failIf cX3_failIf 2 none ∈ BIG := bw (bt_4 _ (List.mem_of_getElem? (i := 97) rfl)) rfl
theorem ml_X3_64 : Cond.methodLink RX3 64 yX3_readSession ∈ BIG := bw (bt_4 _ (List.mem_of_getElem? (i := 99) (by decide +kernel))) (by decide +kernel)
theorem im_yX3_readSession : Cond.instanceMethod yX3_readSession ∈ BIG := bw (bt_4 _ (List.mem_of_getElem? (i := 101) (by decide +kernel))) (by decide +kernel)
theorem cd_yX3_readSession : Cond.code yX3_readSession cX3_readSession 1 none ∈ BIG := bw (bt_4 _ (List.mem_of_getElem? (i := 102) rfl)) rfl
theorem ml_X3_69 : Cond.methodLink RX3 69 yX3_readHand ∈ BIG := bw (bt_4 _ (List.mem_of_getElem? (i := 104) (by decide +kernel))) (by decide +kernel)
theorem im_yX3_readHand : Cond.instanceMethod yX3_readHand ∈ BIG := bw (bt_4 _ (List.mem_of_getElem? (i := 106) (by decide +kernel))) (by decide +kernel)
theorem cd_yX3_readHand : Cond.code yX3_readHand cX3_readHand 1 none ∈ BIG := bw (bt_4 _ (List.mem_of_getElem? (i := 107) rfl)) rfl
theorem ml_X3_74 : Cond.methodLink RX3 74 yX3_readClaims ∈ BIG := bw (bt_4 _ (List.mem_of_getElem? (i := 111) (by decide +kernel))) (by decide +kernel)
theorem im_yX3_readClaims : Cond.instanceMethod yX3_readClaims ∈ BIG := bw (bt_4 _ (List.mem_of_getElem? (i := 113) (by decide +kernel))) (by decide +kernel)
theorem cd_yX3_readClaims : Cond.code yX3_readClaims cX3_readClaims 1 none ∈ BIG := bw (bt_4 _ (List.mem_of_getElem? (i := 114) rfl)) rfl
theorem ml_X8_75 : Cond.methodLink RX8 75 yX8_remember ∈ BIG := bw (bt_4 _ (List.mem_of_getElem? (i := 115) (by decide +kernel))) (by decide +kernel)
theorem im_yX8_remember : Cond.instanceMethod yX8_remember ∈ BIG := bw (bt_4 _ (List.mem_of_getElem? (i := 117) (by decide +kernel))) (by decide +kernel)
theorem cd_yX8_remember : Cond.code yX8_remember cX8_remember 2 none ∈ BIG := bw (bt_4 _ (List.mem_of_getElem? (i := 118) rfl)) rfl
theorem ml_X8_346 : Cond.methodLink RX8 346 yX8_stateAt ∈ BIG := bw (bt_4 _ (List.mem_of_getElem? (i := 119) (by decide +kernel))) (by decide +kernel)
theorem st_yX8_stateAt : Cond.static yX8_stateAt ∈ BIG := bw (bt_4 _ (List.mem_of_getElem? (i := 120) (by decide +kernel))) (by decide +kernel)
theorem cd_yX8_stateAt : Cond.code yX8_stateAt cX8_stateAt 2 (some (Jvm.ClassFile.FieldType.object "GameClock$State")) ∈ BIG := bw (bt_4 _ (List.mem_of_getElem? (i := 121) rfl)) rfl
theorem ml_X8_350 : Cond.methodLink RX8 350 yX6_copyFrom ∈ BIG := bw (bt_4 _ (List.mem_of_getElem? (i := 122) (by decide +kernel))) (by decide +kernel)
theorem im_yX6_copyFrom : Cond.instanceMethod yX6_copyFrom ∈ BIG := bw (bt_4 _ (List.mem_of_getElem? (i := 123) (by decide +kernel))) (by decide +kernel)
theorem se_yX6_copyFrom : Cond.selects RX6 yX6_copyFrom yX6_copyFrom ∈ BIG := bw (bt_4 _ (List.mem_of_getElem? (i := 124) (by decide +kernel))) (by decide +kernel)
theorem cd_yX6_copyFrom : Cond.code yX6_copyFrom cX6_copyFrom 2 none ∈ BIG := bw (bt_4 _ (List.mem_of_getElem? (i := 125) rfl)) rfl
theorem ml_X6_53 : Cond.methodLink RX6 53 yX4_copyFrom ∈ BIG := bw (bt_4 _ (List.mem_of_getElem? (i := 126) (by decide +kernel))) (by decide +kernel)
theorem im_yX4_copyFrom : Cond.instanceMethod yX4_copyFrom ∈ BIG := bw (bt_4 _ (List.mem_of_getElem? (i := 127) (by decide +kernel))) (by decide +kernel)
theorem se_yX4_copyFrom : Cond.selects RX4 yX4_copyFrom yX4_copyFrom ∈ BIG := bw (bt_4 _ (List.mem_of_getElem? (i := 128) (by decide +kernel))) (by decide +kernel)
theorem cd_yX4_copyFrom : Cond.code yX4_copyFrom cX4_copyFrom 2 none ∈ BIG := bw (bt_4 _ (List.mem_of_getElem? (i := 129) rfl)) rfl
theorem st_yX8_copyRow : Cond.static yX8_copyRow ∈ BIG := bw (bt_4 _ (List.mem_of_getElem? (i := 131) (by decide +kernel))) (by decide +kernel)
theorem cd_yX8_copyRow : Cond.code yX8_copyRow cX8_copyRow 2 none ∈ BIG := bw (bt_4 _ (List.mem_of_getElem? (i := 132) rfl)) rfl
theorem ml_X8_375 : Cond.methodLink RX8 375 Lib.Math.min.name ∈ BIG := bw (bt_4 _ (List.mem_of_getElem? (i := 133) (by decide +kernel))) (by decide +kernel)
theorem ml_X8_414 : Cond.methodLink RX8 414 arraycopyName ∈ BIG := bw (bt_4 _ (List.mem_of_getElem? (i := 134) (by decide +kernel))) (by decide +kernel)
theorem ml_X6_75 : Cond.methodLink RX6 75 yX1_copyFrom ∈ BIG := bw (bt_4 _ (List.mem_of_getElem? (i := 135) (by decide +kernel))) (by decide +kernel)
theorem im_yX1_copyFrom : Cond.instanceMethod yX1_copyFrom ∈ BIG := bw (bt_4 _ (List.mem_of_getElem? (i := 136) (by decide +kernel))) (by decide +kernel)
theorem se_yX1_copyFrom : Cond.selects RX1 yX1_copyFrom yX1_copyFrom ∈ BIG := bw (bt_4 _ (List.mem_of_getElem? (i := 137) (by decide +kernel))) (by decide +kernel)
theorem cd_yX1_copyFrom : Cond.code yX1_copyFrom cX1_copyFrom 2 none ∈ BIG := bw (bt_4 _ (List.mem_of_getElem? (i := 138) rfl)) rfl
theorem ml_X6_78 : Cond.methodLink RX6 78 yX5_copyFrom ∈ BIG := bw (bt_4 _ (List.mem_of_getElem? (i := 140) (by decide +kernel))) (by decide +kernel)
theorem im_yX5_copyFrom : Cond.instanceMethod yX5_copyFrom ∈ BIG := bw (bt_4 _ (List.mem_of_getElem? (i := 141) (by decide +kernel))) (by decide +kernel)
theorem se_yX5_copyFrom : Cond.selects RX5 yX5_copyFrom yX5_copyFrom ∈ BIG := bw (bt_4 _ (List.mem_of_getElem? (i := 142) (by decide +kernel))) (by decide +kernel)
theorem cd_yX5_copyFrom : Cond.code yX5_copyFrom cX5_copyFrom 2 none ∈ BIG := bw (bt_4 _ (List.mem_of_getElem? (i := 143) rfl)) rfl
theorem ml_X8_86 : Cond.methodLink RX8 86 yX6_setUp ∈ BIG := bw (bt_4 _ (List.mem_of_getElem? (i := 145) (by decide +kernel))) (by decide +kernel)
theorem im_yX6_setUp : Cond.instanceMethod yX6_setUp ∈ BIG := bw (bt_4 _ (List.mem_of_getElem? (i := 146) (by decide +kernel))) (by decide +kernel)
theorem se_yX6_setUp : Cond.selects RX6 yX6_setUp yX6_setUp ∈ BIG := bw (bt_4 _ (List.mem_of_getElem? (i := 147) (by decide +kernel))) (by decide +kernel)
theorem cd_yX6_setUp : Cond.code yX6_setUp cX6_setUp 3 none ∈ BIG := bw (bt_4 _ (List.mem_of_getElem? (i := 148) rfl)) rfl
theorem ml_X6_56 : Cond.methodLink RX6 56 yX1_clear ∈ BIG := bw (bt_4 _ (List.mem_of_getElem? (i := 149) (by decide +kernel))) (by decide +kernel)
theorem im_yX1_clear : Cond.instanceMethod yX1_clear ∈ BIG := bw (bt_4 _ (List.mem_of_getElem? (i := 150) (by decide +kernel))) (by decide +kernel)
theorem se_yX1_clear : Cond.selects RX1 yX1_clear yX1_clear ∈ BIG := bw (bt_4 _ (List.mem_of_getElem? (i := 151) (by decide +kernel))) (by decide +kernel)
theorem cd_yX1_clear : Cond.code yX1_clear cX1_clear 1 none ∈ BIG := bw (bt_4 _ (List.mem_of_getElem? (i := 152) rfl)) rfl
theorem ml_X8_93 : Cond.methodLink RX8 93 yX6_sideOf ∈ BIG := bw (bt_4 _ (List.mem_of_getElem? (i := 153) (by decide +kernel))) (by decide +kernel)
theorem im_yX6_sideOf : Cond.instanceMethod yX6_sideOf ∈ BIG := bw (bt_4 _ (List.mem_of_getElem? (i := 154) (by decide +kernel))) (by decide +kernel)
theorem se_yX6_sideOf : Cond.selects RX6 yX6_sideOf yX6_sideOf ∈ BIG := bw (bt_4 _ (List.mem_of_getElem? (i := 155) (by decide +kernel))) (by decide +kernel)
theorem cd_yX6_sideOf : Cond.code yX6_sideOf cX6_sideOf 2 (some (Jvm.ClassFile.FieldType.object "GameClock$Side")) ∈ BIG := bw (bt_4 _ (List.mem_of_getElem? (i := 156) rfl)) rfl
theorem ml_L_84 : Cond.methodLink RL 84 yX8_errorCode ∈ BIG := bw (bt_4 _ (List.mem_of_getElem? (i := 157) (by decide +kernel))) (by decide +kernel)
theorem im_yX8_errorCode : Cond.instanceMethod yX8_errorCode ∈ BIG := bw (bt_4 _ (List.mem_of_getElem? (i := 158) (by decide +kernel))) (by decide +kernel)
theorem se_yX8_errorCode : Cond.selects RX8 yX8_errorCode yX8_errorCode ∈ BIG := bw (bt_4 _ (List.mem_of_getElem? (i := 159) (by decide +kernel))) (by decide +kernel)
theorem cd_yX8_errorCode : Cond.code yX8_errorCode cX8_errorCode 1 (some Jvm.ClassFile.FieldType.int) ∈ BIG := bw (bt_4 _ (List.mem_of_getElem? (i := 160) rfl)) rfl
theorem ml_L_91 : Cond.methodLink RL 91 yX8_side ∈ BIG := bw (bt_4 _ (List.mem_of_getElem? (i := 161) (by decide +kernel))) (by decide +kernel)
theorem im_yX8_side : Cond.instanceMethod yX8_side ∈ BIG := bw (bt_4 _ (List.mem_of_getElem? (i := 162) (by decide +kernel))) (by decide +kernel)
theorem se_yX8_side : Cond.selects RX8 yX8_side yX8_side ∈ BIG := bw (bt_4 _ (List.mem_of_getElem? (i := 163) (by decide +kernel))) (by decide +kernel)
theorem cd_yX8_side : Cond.code yX8_side cX8_side 4 (some Jvm.ClassFile.FieldType.int) ∈ BIG := bw (bt_4 _ (List.mem_of_getElem? (i := 164) rfl)) rfl
theorem ml_X8_164 : Cond.methodLink RX8 164 yX8_requireSide ∈ BIG := bw (bt_4 _ (List.mem_of_getElem? (i := 165) (by decide +kernel))) (by decide +kernel)
theorem im_yX8_requireSide : Cond.instanceMethod yX8_requireSide ∈ BIG := bw (bt_4 _ (List.mem_of_getElem? (i := 167) (by decide +kernel))) (by decide +kernel)
theorem cd_yX8_requireSide : Cond.code yX8_requireSide cX8_requireSide 2 none ∈ BIG := bw (bt_4 _ (List.mem_of_getElem? (i := 168) rfl)) rfl
theorem cl_X8_205 : Cond.classLink RX8 205 "java/lang/IndexOutOfBoundsException" ∈ BIG := bw (bt_4 _ (List.mem_of_getElem? (i := 169) (by decide +kernel))) (by decide +kernel)
theorem is_java_lang_IndexOutOfBoundsException : Cond.instantiable "java/lang/IndexOutOfBoundsException" 6 ∈ BIG := bw (bt_4 _ (List.mem_of_getElem? (i := 170) (by decide +kernel))) (by decide +kernel)
theorem ml_X8_192 : Cond.methodLink RX8 192 yX5_movesToPeriodEnd ∈ BIG := bw (bt_4 _ (List.mem_of_getElem? (i := 185) (by decide +kernel))) (by decide +kernel)
theorem im_yX5_movesToPeriodEnd : Cond.instanceMethod yX5_movesToPeriodEnd ∈ BIG := bw (bt_4 _ (List.mem_of_getElem? (i := 186) (by decide +kernel))) (by decide +kernel)
theorem se_yX5_movesToPeriodEnd : Cond.selects RX5 yX5_movesToPeriodEnd yX5_movesToPeriodEnd ∈ BIG := bw (bt_4 _ (List.mem_of_getElem? (i := 187) (by decide +kernel))) (by decide +kernel)
theorem cd_yX5_movesToPeriodEnd : Cond.code yX5_movesToPeriodEnd cX5_movesToPeriodEnd 2 (some Jvm.ClassFile.FieldType.int) ∈ BIG := bw (bt_4 _ (List.mem_of_getElem? (i := 188) rfl)) rfl
theorem ml_X5_70 : Cond.methodLink RX5 70 yX4_isEndless ∈ BIG := bw (bt_4 _ (List.mem_of_getElem? (i := 189) (by decide +kernel))) (by decide +kernel)
theorem ml_L_94 : Cond.methodLink RL 94 yX8_period ∈ BIG := bw (bt_4 _ (List.mem_of_getElem? (i := 190) (by decide +kernel))) (by decide +kernel)
theorem im_yX8_period : Cond.instanceMethod yX8_period ∈ BIG := bw (bt_4 _ (List.mem_of_getElem? (i := 191) (by decide +kernel))) (by decide +kernel)
theorem se_yX8_period : Cond.selects RX8 yX8_period yX8_period ∈ BIG := bw (bt_4 _ (List.mem_of_getElem? (i := 192) (by decide +kernel))) (by decide +kernel)
theorem cd_yX8_period : Cond.code yX8_period cX8_period 3 (some Jvm.ClassFile.FieldType.int) ∈ BIG := bw (bt_4 _ (List.mem_of_getElem? (i := 193) rfl)) rfl
theorem ml_X8_157 : Cond.methodLink RX8 157 yX8_requirePeriod ∈ BIG := bw (bt_4 _ (List.mem_of_getElem? (i := 194) (by decide +kernel))) (by decide +kernel)
theorem im_yX8_requirePeriod : Cond.instanceMethod yX8_requirePeriod ∈ BIG := bw (bt_4 _ (List.mem_of_getElem? (i := 196) (by decide +kernel))) (by decide +kernel)
theorem cd_yX8_requirePeriod : Cond.code yX8_requirePeriod cX8_requirePeriod 2 none ∈ BIG := bw (bt_4 _ (List.mem_of_getElem? (i := 197) rfl)) rfl
theorem ml_X8_160 : Cond.methodLink RX8 160 yX4_number ∈ BIG := bw (bt_4 _ (List.mem_of_getElem? (i := 199) (by decide +kernel))) (by decide +kernel)
theorem ml_L_97 : Cond.methodLink RL 97 yX8_start ∈ BIG := bw (bt_4 _ (List.mem_of_getElem? (i := 200) (by decide +kernel))) (by decide +kernel)
theorem im_yX8_start : Cond.instanceMethod yX8_start ∈ BIG := bw (bt_4 _ (List.mem_of_getElem? (i := 201) (by decide +kernel))) (by decide +kernel)
theorem se_yX8_start : Cond.selects RX8 yX8_start yX8_start ∈ BIG := bw (bt_4 _ (List.mem_of_getElem? (i := 202) (by decide +kernel))) (by decide +kernel)
theorem cd_yX8_start : Cond.code yX8_start cX8_start 1 (some Jvm.ClassFile.FieldType.int) ∈ BIG := bw (bt_4 _ (List.mem_of_getElem? (i := 203) rfl)) rfl
theorem ml_L_196 : Cond.methodLink RL 196 yL_act ∈ BIG := bw (bt_4 _ (List.mem_of_getElem? (i := 205) (by decide +kernel))) (by decide +kernel)
theorem st_yL_act : Cond.static yL_act ∈ BIG := bw (bt_4 _ (List.mem_of_getElem? (i := 206) (by decide +kernel))) (by decide +kernel)
theorem cd_yL_act : Cond.code yL_act cL_act 6 (some Jvm.ClassFile.FieldType.int) ∈ BIG := bw (bt_4 _ (List.mem_of_getElem? (i := 207) rfl)) rfl
theorem co_L_127 : Cond.constant RL 127 (100000) ∈ BIG := bw (bt_4 _ (List.mem_of_getElem? (i := 208) (by decide +kernel))) (by decide +kernel)
theorem ml_L_128 : Cond.methodLink RL 128 yX8_tick ∈ BIG := bw (bt_4 _ (List.mem_of_getElem? (i := 209) (by decide +kernel))) (by decide +kernel)
theorem im_yX8_tick : Cond.instanceMethod yX8_tick ∈ BIG := bw (bt_4 _ (List.mem_of_getElem? (i := 210) (by decide +kernel))) (by decide +kernel)
theorem se_yX8_tick : Cond.selects RX8 yX8_tick yX8_tick ∈ BIG := bw (bt_4 _ (List.mem_of_getElem? (i := 211) (by decide +kernel))) (by decide +kernel)
theorem cd_yX8_tick : Cond.code yX8_tick cX8_tick 2 (some Jvm.ClassFile.FieldType.int) ∈ BIG := bw (bt_4 _ (List.mem_of_getElem? (i := 212) rfl)) rfl
theorem ml_X8_306 : Cond.methodLink RX8 306 yX6_letRun ∈ BIG := bw (bt_4 _ (List.mem_of_getElem? (i := 214) (by decide +kernel))) (by decide +kernel)
theorem im_yX6_letRun : Cond.instanceMethod yX6_letRun ∈ BIG := bw (bt_4 _ (List.mem_of_getElem? (i := 215) (by decide +kernel))) (by decide +kernel)
theorem se_yX6_letRun : Cond.selects RX6 yX6_letRun yX6_letRun ∈ BIG := bw (bt_4 _ (List.mem_of_getElem? (i := 216) (by decide +kernel))) (by decide +kernel)
theorem cd_yX6_letRun : Cond.code yX6_letRun cX6_letRun 5 none ∈ BIG := bw (bt_4 _ (List.mem_of_getElem? (i := 217) rfl)) rfl
theorem ml_X6_104 : Cond.methodLink RX6 104 yX6_mover ∈ BIG := bw (bt_4 _ (List.mem_of_getElem? (i := 218) (by decide +kernel))) (by decide +kernel)
theorem im_yX6_mover : Cond.instanceMethod yX6_mover ∈ BIG := bw (bt_4 _ (List.mem_of_getElem? (i := 219) (by decide +kernel))) (by decide +kernel)
theorem se_yX6_mover : Cond.selects RX6 yX6_mover yX6_mover ∈ BIG := bw (bt_4 _ (List.mem_of_getElem? (i := 220) (by decide +kernel))) (by decide +kernel)
theorem cd_yX6_mover : Cond.code yX6_mover cX6_mover 1 (some (Jvm.ClassFile.FieldType.object "GameClock$Side")) ∈ BIG := bw (bt_4 _ (List.mem_of_getElem? (i := 221) rfl)) rfl
theorem ml_X6_81 : Cond.methodLink RX6 81 yX6_sideOf ∈ BIG := bw (bt_4 _ (List.mem_of_getElem? (i := 222) (by decide +kernel))) (by decide +kernel)
theorem ml_X6_111 : Cond.methodLink RX6 111 yX5_ticksToFall ∈ BIG := bw (bt_4 _ (List.mem_of_getElem? (i := 223) (by decide +kernel))) (by decide +kernel)
theorem im_yX5_ticksToFall : Cond.instanceMethod yX5_ticksToFall ∈ BIG := bw (bt_4 _ (List.mem_of_getElem? (i := 224) (by decide +kernel))) (by decide +kernel)
theorem se_yX5_ticksToFall : Cond.selects RX5 yX5_ticksToFall yX5_ticksToFall ∈ BIG := bw (bt_4 _ (List.mem_of_getElem? (i := 225) (by decide +kernel))) (by decide +kernel)
theorem cd_yX5_ticksToFall : Cond.code yX5_ticksToFall cX5_ticksToFall 3 (some Jvm.ClassFile.FieldType.int) ∈ BIG := bw (bt_4 _ (List.mem_of_getElem? (i := 226) rfl)) rfl
theorem ml_X5_82 : Cond.methodLink RX5 82 yX5_freeTicks ∈ BIG := bw (bt_4 _ (List.mem_of_getElem? (i := 227) (by decide +kernel))) (by decide +kernel)
theorem im_yX5_freeTicks : Cond.instanceMethod yX5_freeTicks ∈ BIG := bw (bt_4 _ (List.mem_of_getElem? (i := 228) (by decide +kernel))) (by decide +kernel)
theorem se_yX5_freeTicks : Cond.selects RX5 yX5_freeTicks yX5_freeTicks ∈ BIG := bw (bt_4 _ (List.mem_of_getElem? (i := 229) (by decide +kernel))) (by decide +kernel)
theorem cd_yX5_freeTicks : Cond.code yX5_freeTicks cX5_freeTicks 2 (some Jvm.ClassFile.FieldType.int) ∈ BIG := bw (bt_4 _ (List.mem_of_getElem? (i := 230) rfl)) rfl
theorem ml_X5_74 : Cond.methodLink RX5 74 Lib.Math.max.name ∈ BIG := bw (bt_4 _ (List.mem_of_getElem? (i := 231) (by decide +kernel))) (by decide +kernel)
theorem ml_X6_115 : Cond.methodLink RX6 115 Lib.Math.min.name ∈ BIG := bw (bt_4 _ (List.mem_of_getElem? (i := 232) (by decide +kernel))) (by decide +kernel)
theorem ml_X6_118 : Cond.methodLink RX6 118 yX5_run ∈ BIG := bw (bt_4 _ (List.mem_of_getElem? (i := 233) (by decide +kernel))) (by decide +kernel)
theorem im_yX5_run : Cond.instanceMethod yX5_run ∈ BIG := bw (bt_4 _ (List.mem_of_getElem? (i := 234) (by decide +kernel))) (by decide +kernel)
theorem se_yX5_run : Cond.selects RX5 yX5_run yX5_run ∈ BIG := bw (bt_4 _ (List.mem_of_getElem? (i := 235) (by decide +kernel))) (by decide +kernel)
theorem cd_yX5_run : Cond.code yX5_run cX5_run 6 none ∈ BIG := bw (bt_4 _ (List.mem_of_getElem? (i := 236) rfl)) rfl
theorem ml_X5_86 : Cond.methodLink RX5 86 Lib.Math.min.name ∈ BIG := bw (bt_4 _ (List.mem_of_getElem? (i := 237) (by decide +kernel))) (by decide +kernel)
theorem st_yX8_numberAt : Cond.static yX8_numberAt ∈ BIG := bw (bt_4 _ (List.mem_of_getElem? (i := 239) (by decide +kernel))) (by decide +kernel)
theorem cd_yX8_numberAt : Cond.code yX8_numberAt cX8_numberAt 2 (some Jvm.ClassFile.FieldType.int) ∈ BIG := bw (bt_5 _ (List.mem_of_getElem? (i := 0) rfl)) rfl
theorem ml_X5_97 : Cond.methodLink RX5 97 yX5_runOut ∈ BIG := bw (bt_5 _ (List.mem_of_getElem? (i := 2) (by decide +kernel))) (by decide +kernel)
theorem im_yX5_runOut : Cond.instanceMethod yX5_runOut ∈ BIG := bw (bt_5 _ (List.mem_of_getElem? (i := 4) (by decide +kernel))) (by decide +kernel)
theorem cd_yX5_runOut : Cond.code yX5_runOut cX5_runOut 2 none ∈ BIG := bw (bt_5 _ (List.mem_of_getElem? (i := 5) rfl)) rfl
theorem ml_X6_122 : Cond.methodLink RX6 122 yX6_noteFall ∈ BIG := bw (bt_5 _ (List.mem_of_getElem? (i := 6) (by decide +kernel))) (by decide +kernel)
theorem im_yX6_noteFall : Cond.instanceMethod yX6_noteFall ∈ BIG := bw (bt_5 _ (List.mem_of_getElem? (i := 8) (by decide +kernel))) (by decide +kernel)
theorem cd_yX6_noteFall : Cond.code yX6_noteFall cX6_noteFall 1 none ∈ BIG := bw (bt_5 _ (List.mem_of_getElem? (i := 9) rfl)) rfl
theorem ml_X6_125 : Cond.methodLink RX6 125 yX6_resultOfFall ∈ BIG := bw (bt_5 _ (List.mem_of_getElem? (i := 10) (by decide +kernel))) (by decide +kernel)
theorem im_yX6_resultOfFall : Cond.instanceMethod yX6_resultOfFall ∈ BIG := bw (bt_5 _ (List.mem_of_getElem? (i := 11) (by decide +kernel))) (by decide +kernel)
theorem se_yX6_resultOfFall : Cond.selects RX6 yX6_resultOfFall yX6_resultOfFall ∈ BIG := bw (bt_5 _ (List.mem_of_getElem? (i := 12) (by decide +kernel))) (by decide +kernel)
theorem cd_yX6_resultOfFall : Cond.code yX6_resultOfFall cX6_resultOfFall 2 (some Jvm.ClassFile.FieldType.int) ∈ BIG := bw (bt_5 _ (List.mem_of_getElem? (i := 13) rfl)) rfl
theorem st_yX8_other : Cond.static yX8_other ∈ BIG := bw (bt_5 _ (List.mem_of_getElem? (i := 15) (by decide +kernel))) (by decide +kernel)
theorem cd_yX8_other : Cond.code yX8_other cX8_other 1 (some Jvm.ClassFile.FieldType.int) ∈ BIG := bw (bt_5 _ (List.mem_of_getElem? (i := 16) rfl)) rfl
theorem ml_X6_128 : Cond.methodLink RX6 128 yX6_endWith ∈ BIG := bw (bt_5 _ (List.mem_of_getElem? (i := 17) (by decide +kernel))) (by decide +kernel)
theorem im_yX6_endWith : Cond.instanceMethod yX6_endWith ∈ BIG := bw (bt_5 _ (List.mem_of_getElem? (i := 18) (by decide +kernel))) (by decide +kernel)
theorem se_yX6_endWith : Cond.selects RX6 yX6_endWith yX6_endWith ∈ BIG := bw (bt_5 _ (List.mem_of_getElem? (i := 19) (by decide +kernel))) (by decide +kernel)
theorem cd_yX6_endWith : Cond.code yX6_endWith cX6_endWith 2 none ∈ BIG := bw (bt_5 _ (List.mem_of_getElem? (i := 20) rfl)) rfl
theorem ml_X8_275 : Cond.methodLink RX8 275 yX6_mover ∈ BIG := bw (bt_5 _ (List.mem_of_getElem? (i := 21) (by decide +kernel))) (by decide +kernel)
theorem ml_L_131 : Cond.methodLink RL 131 yL_moved ∈ BIG := bw (bt_5 _ (List.mem_of_getElem? (i := 22) (by decide +kernel))) (by decide +kernel)
theorem st_yL_moved : Cond.static yL_moved ∈ BIG := bw (bt_5 _ (List.mem_of_getElem? (i := 23) (by decide +kernel))) (by decide +kernel)
theorem cd_yL_moved : Cond.codeWith yL_moved cL_moved 2 (some Jvm.ClassFile.FieldType.int) [((0 : Nat), (4 : Nat), (5 : Nat), (103 : Nat))] ∈ BIG := bw (bt_5 _ (List.mem_of_getElem? (i := 24) rfl)) rfl
theorem cl_L_103 : Cond.classLink RL 103 "java/lang/IllegalStateException" ∈ BIG := bw (bt_5 _ (List.mem_of_getElem? (i := 25) (by decide +kernel))) (by decide +kernel)
theorem ml_L_100 : Cond.methodLink RL 100 yX8_move ∈ BIG := bw (bt_5 _ (List.mem_of_getElem? (i := 26) (by decide +kernel))) (by decide +kernel)
theorem im_yX8_move : Cond.instanceMethod yX8_move ∈ BIG := bw (bt_5 _ (List.mem_of_getElem? (i := 27) (by decide +kernel))) (by decide +kernel)
theorem se_yX8_move : Cond.selects RX8 yX8_move yX8_move ∈ BIG := bw (bt_5 _ (List.mem_of_getElem? (i := 28) (by decide +kernel))) (by decide +kernel)
theorem cd_yX8_move : Cond.code yX8_move cX8_move 1 (some Jvm.ClassFile.FieldType.int) ∈ BIG := bw (bt_5 _ (List.mem_of_getElem? (i := 29) rfl)) rfl
theorem ml_X8_311 : Cond.methodLink RX8 311 yX6_makeMove ∈ BIG := bw (bt_5 _ (List.mem_of_getElem? (i := 31) (by decide +kernel))) (by decide +kernel)
theorem im_yX6_makeMove : Cond.instanceMethod yX6_makeMove ∈ BIG := bw (bt_5 _ (List.mem_of_getElem? (i := 32) (by decide +kernel))) (by decide +kernel)
theorem se_yX6_makeMove : Cond.selects RX6 yX6_makeMove yX6_makeMove ∈ BIG := bw (bt_5 _ (List.mem_of_getElem? (i := 33) (by decide +kernel))) (by decide +kernel)
theorem cd_yX6_makeMove : Cond.code yX6_makeMove cX6_makeMove 5 (some Jvm.ClassFile.FieldType.int) ∈ BIG := bw (bt_5 _ (List.mem_of_getElem? (i := 34) rfl)) rfl
theorem ml_X6_138 : Cond.methodLink RX6 138 yX5_finishMove ∈ BIG := bw (bt_5 _ (List.mem_of_getElem? (i := 35) (by decide +kernel))) (by decide +kernel)
theorem im_yX5_finishMove : Cond.instanceMethod yX5_finishMove ∈ BIG := bw (bt_5 _ (List.mem_of_getElem? (i := 36) (by decide +kernel))) (by decide +kernel)
theorem se_yX5_finishMove : Cond.selects RX5 yX5_finishMove yX5_finishMove ∈ BIG := bw (bt_5 _ (List.mem_of_getElem? (i := 37) (by decide +kernel))) (by decide +kernel)
theorem cd_yX5_finishMove : Cond.code yX5_finishMove cX5_finishMove 3 (some Jvm.ClassFile.FieldType.int) ∈ BIG := bw (bt_5 _ (List.mem_of_getElem? (i := 38) rfl)) rfl
theorem ml_X5_101 : Cond.methodLink RX5 101 yX5_gains ∈ BIG := bw (bt_5 _ (List.mem_of_getElem? (i := 39) (by decide +kernel))) (by decide +kernel)
theorem im_yX5_gains : Cond.instanceMethod yX5_gains ∈ BIG := bw (bt_5 _ (List.mem_of_getElem? (i := 41) (by decide +kernel))) (by decide +kernel)
theorem cd_yX5_gains : Cond.code yX5_gains cX5_gains 2 (some Jvm.ClassFile.FieldType.int) ∈ BIG := bw (bt_5 _ (List.mem_of_getElem? (i := 42) rfl)) rfl
theorem ml_X5_104 : Cond.methodLink RX5 104 yX5_movesToPeriodEnd ∈ BIG := bw (bt_5 _ (List.mem_of_getElem? (i := 43) (by decide +kernel))) (by decide +kernel)
theorem ml_X5_107 : Cond.methodLink RX5 107 yX5_beginNextPeriod ∈ BIG := bw (bt_5 _ (List.mem_of_getElem? (i := 44) (by decide +kernel))) (by decide +kernel)
theorem im_yX5_beginNextPeriod : Cond.instanceMethod yX5_beginNextPeriod ∈ BIG := bw (bt_5 _ (List.mem_of_getElem? (i := 46) (by decide +kernel))) (by decide +kernel)
theorem cd_yX5_beginNextPeriod : Cond.code yX5_beginNextPeriod cX5_beginNextPeriod 2 none ∈ BIG := bw (bt_5 _ (List.mem_of_getElem? (i := 47) rfl)) rfl
theorem ml_X5_110 : Cond.methodLink RX5 110 yX5_dropMove ∈ BIG := bw (bt_5 _ (List.mem_of_getElem? (i := 48) (by decide +kernel))) (by decide +kernel)
theorem im_yX5_dropMove : Cond.instanceMethod yX5_dropMove ∈ BIG := bw (bt_5 _ (List.mem_of_getElem? (i := 49) (by decide +kernel))) (by decide +kernel)
theorem se_yX5_dropMove : Cond.selects RX5 yX5_dropMove yX5_dropMove ∈ BIG := bw (bt_5 _ (List.mem_of_getElem? (i := 50) (by decide +kernel))) (by decide +kernel)
theorem cd_yX5_dropMove : Cond.code yX5_dropMove cX5_dropMove 1 none ∈ BIG := bw (bt_5 _ (List.mem_of_getElem? (i := 51) rfl)) rfl
theorem ml_X6_141 : Cond.methodLink RX6 141 yX1_add ∈ BIG := bw (bt_5 _ (List.mem_of_getElem? (i := 52) (by decide +kernel))) (by decide +kernel)
theorem im_yX1_add : Cond.instanceMethod yX1_add ∈ BIG := bw (bt_5 _ (List.mem_of_getElem? (i := 53) (by decide +kernel))) (by decide +kernel)
theorem se_yX1_add : Cond.selects RX1 yX1_add yX1_add ∈ BIG := bw (bt_5 _ (List.mem_of_getElem? (i := 54) (by decide +kernel))) (by decide +kernel)
theorem cd_yX1_add : Cond.code yX1_add cX1_add 8 none ∈ BIG := bw (bt_5 _ (List.mem_of_getElem? (i := 55) rfl)) rfl
theorem ml_X1_26 : Cond.methodLink RX1 26 Lib.Math.min.name ∈ BIG := bw (bt_5 _ (List.mem_of_getElem? (i := 56) (by decide +kernel))) (by decide +kernel)
theorem co_L_105 : Cond.constant RL 105 (-99999) ∈ BIG := bw (bt_5 _ (List.mem_of_getElem? (i := 58) (by decide +kernel))) (by decide +kernel)
theorem ml_L_135 : Cond.methodLink RL 135 yL_paused ∈ BIG := bw (bt_5 _ (List.mem_of_getElem? (i := 59) (by decide +kernel))) (by decide +kernel)
theorem st_yL_paused : Cond.static yL_paused ∈ BIG := bw (bt_5 _ (List.mem_of_getElem? (i := 60) (by decide +kernel))) (by decide +kernel)
theorem cd_yL_paused : Cond.codeWith yL_paused cL_paused 3 (some Jvm.ClassFile.FieldType.int) [((0 : Nat), (15 : Nat), (16 : Nat), (103 : Nat))] ∈ BIG := bw (bt_5 _ (List.mem_of_getElem? (i := 61) rfl)) rfl
theorem ml_L_106 : Cond.methodLink RL 106 yX8_pause ∈ BIG := bw (bt_5 _ (List.mem_of_getElem? (i := 62) (by decide +kernel))) (by decide +kernel)
theorem im_yX8_pause : Cond.instanceMethod yX8_pause ∈ BIG := bw (bt_5 _ (List.mem_of_getElem? (i := 63) (by decide +kernel))) (by decide +kernel)
theorem se_yX8_pause : Cond.selects RX8 yX8_pause yX8_pause ∈ BIG := bw (bt_5 _ (List.mem_of_getElem? (i := 64) (by decide +kernel))) (by decide +kernel)
theorem cd_yX8_pause : Cond.code yX8_pause cX8_pause 1 (some Jvm.ClassFile.FieldType.int) ∈ BIG := bw (bt_5 _ (List.mem_of_getElem? (i := 65) rfl)) rfl
theorem ml_L_109 : Cond.methodLink RL 109 yX8_proceed ∈ BIG := bw (bt_5 _ (List.mem_of_getElem? (i := 66) (by decide +kernel))) (by decide +kernel)
theorem im_yX8_proceed : Cond.instanceMethod yX8_proceed ∈ BIG := bw (bt_5 _ (List.mem_of_getElem? (i := 67) (by decide +kernel))) (by decide +kernel)
theorem se_yX8_proceed : Cond.selects RX8 yX8_proceed yX8_proceed ∈ BIG := bw (bt_5 _ (List.mem_of_getElem? (i := 68) (by decide +kernel))) (by decide +kernel)
theorem cd_yX8_proceed : Cond.code yX8_proceed cX8_proceed 1 (some Jvm.ClassFile.FieldType.int) ∈ BIG := bw (bt_5 _ (List.mem_of_getElem? (i := 69) rfl)) rfl
theorem ml_L_139 : Cond.methodLink RL 139 yL_sealed ∈ BIG := bw (bt_5 _ (List.mem_of_getElem? (i := 71) (by decide +kernel))) (by decide +kernel)
theorem st_yL_sealed : Cond.static yL_sealed ∈ BIG := bw (bt_5 _ (List.mem_of_getElem? (i := 72) (by decide +kernel))) (by decide +kernel)
theorem cd_yL_sealed : Cond.codeWith yL_sealed cL_sealed 2 (some Jvm.ClassFile.FieldType.int) [((0 : Nat), (4 : Nat), (5 : Nat), (103 : Nat))] ∈ BIG := bw (bt_5 _ (List.mem_of_getElem? (i := 73) rfl)) rfl
theorem ml_L_112 : Cond.methodLink RL 112 yX8_seal ∈ BIG := bw (bt_5 _ (List.mem_of_getElem? (i := 74) (by decide +kernel))) (by decide +kernel)
theorem im_yX8_seal : Cond.instanceMethod yX8_seal ∈ BIG := bw (bt_5 _ (List.mem_of_getElem? (i := 75) (by decide +kernel))) (by decide +kernel)
theorem se_yX8_seal : Cond.selects RX8 yX8_seal yX8_seal ∈ BIG := bw (bt_5 _ (List.mem_of_getElem? (i := 76) (by decide +kernel))) (by decide +kernel)
theorem cd_yX8_seal : Cond.code yX8_seal cX8_seal 1 (some Jvm.ClassFile.FieldType.int) ∈ BIG := bw (bt_5 _ (List.mem_of_getElem? (i := 77) rfl)) rfl
theorem ml_X8_279 : Cond.methodLink RX8 279 yX6_ticksToSealing ∈ BIG := bw (bt_5 _ (List.mem_of_getElem? (i := 78) (by decide +kernel))) (by decide +kernel)
theorem im_yX6_ticksToSealing : Cond.instanceMethod yX6_ticksToSealing ∈ BIG := bw (bt_5 _ (List.mem_of_getElem? (i := 79) (by decide +kernel))) (by decide +kernel)
theorem se_yX6_ticksToSealing : Cond.selects RX6 yX6_ticksToSealing yX6_ticksToSealing ∈ BIG := bw (bt_5 _ (List.mem_of_getElem? (i := 80) (by decide +kernel))) (by decide +kernel)
theorem cd_yX6_ticksToSealing : Cond.code yX6_ticksToSealing cX6_ticksToSealing 1 (some Jvm.ClassFile.FieldType.int) ∈ BIG := bw (bt_5 _ (List.mem_of_getElem? (i := 81) rfl)) rfl
theorem ml_X6_98 : Cond.methodLink RX6 98 Lib.Math.max.name ∈ BIG := bw (bt_5 _ (List.mem_of_getElem? (i := 82) (by decide +kernel))) (by decide +kernel)
theorem ml_L_142 : Cond.methodLink RL 142 yL_opened ∈ BIG := bw (bt_5 _ (List.mem_of_getElem? (i := 84) (by decide +kernel))) (by decide +kernel)
theorem st_yL_opened : Cond.static yL_opened ∈ BIG := bw (bt_5 _ (List.mem_of_getElem? (i := 85) (by decide +kernel))) (by decide +kernel)
theorem cd_yL_opened : Cond.codeWith yL_opened cL_opened 2 (some Jvm.ClassFile.FieldType.int) [((0 : Nat), (4 : Nat), (5 : Nat), (103 : Nat))] ∈ BIG := bw (bt_5 _ (List.mem_of_getElem? (i := 86) rfl)) rfl
theorem ml_L_115 : Cond.methodLink RL 115 yX8_open ∈ BIG := bw (bt_5 _ (List.mem_of_getElem? (i := 87) (by decide +kernel))) (by decide +kernel)
theorem im_yX8_open : Cond.instanceMethod yX8_open ∈ BIG := bw (bt_5 _ (List.mem_of_getElem? (i := 88) (by decide +kernel))) (by decide +kernel)
theorem se_yX8_open : Cond.selects RX8 yX8_open yX8_open ∈ BIG := bw (bt_5 _ (List.mem_of_getElem? (i := 89) (by decide +kernel))) (by decide +kernel)
theorem cd_yX8_open : Cond.code yX8_open cX8_open 1 (some Jvm.ClassFile.FieldType.int) ∈ BIG := bw (bt_5 _ (List.mem_of_getElem? (i := 90) rfl)) rfl
theorem ml_L_145 : Cond.methodLink RL 145 yL_claimed ∈ BIG := bw (bt_5 _ (List.mem_of_getElem? (i := 92) (by decide +kernel))) (by decide +kernel)
theorem st_yL_claimed : Cond.static yL_claimed ∈ BIG := bw (bt_5 _ (List.mem_of_getElem? (i := 93) (by decide +kernel))) (by decide +kernel)
theorem cd_yL_claimed : Cond.codeWith yL_claimed cL_claimed 3 (some Jvm.ClassFile.FieldType.int) [((0 : Nat), (5 : Nat), (6 : Nat), (103 : Nat))] ∈ BIG := bw (bt_5 _ (List.mem_of_getElem? (i := 94) rfl)) rfl
theorem ml_L_118 : Cond.methodLink RL 118 yX8_claim ∈ BIG := bw (bt_5 _ (List.mem_of_getElem? (i := 95) (by decide +kernel))) (by decide +kernel)
theorem im_yX8_claim : Cond.instanceMethod yX8_claim ∈ BIG := bw (bt_5 _ (List.mem_of_getElem? (i := 96) (by decide +kernel))) (by decide +kernel)
theorem se_yX8_claim : Cond.selects RX8 yX8_claim yX8_claim ∈ BIG := bw (bt_5 _ (List.mem_of_getElem? (i := 97) (by decide +kernel))) (by decide +kernel)
theorem cd_yX8_claim : Cond.code yX8_claim cX8_claim 2 (some Jvm.ClassFile.FieldType.int) ∈ BIG := bw (bt_5 _ (List.mem_of_getElem? (i := 98) rfl)) rfl
theorem ml_X8_320 : Cond.methodLink RX8 320 yX8_other ∈ BIG := bw (bt_5 _ (List.mem_of_getElem? (i := 99) (by decide +kernel))) (by decide +kernel)
theorem ml_X8_289 : Cond.methodLink RX8 289 yX6_resultOfFall ∈ BIG := bw (bt_5 _ (List.mem_of_getElem? (i := 101) (by decide +kernel))) (by decide +kernel)
theorem ml_X8_325 : Cond.methodLink RX8 325 yX6_endWith ∈ BIG := bw (bt_5 _ (List.mem_of_getElem? (i := 102) (by decide +kernel))) (by decide +kernel)
theorem ml_L_149 : Cond.methodLink RL 149 yL_given ∈ BIG := bw (bt_5 _ (List.mem_of_getElem? (i := 103) (by decide +kernel))) (by decide +kernel)
theorem st_yL_given : Cond.static yL_given ∈ BIG := bw (bt_5 _ (List.mem_of_getElem? (i := 104) (by decide +kernel))) (by decide +kernel)
theorem cd_yL_given : Cond.codeWith yL_given cL_given 4 (some Jvm.ClassFile.FieldType.int) [((0 : Nat), (6 : Nat), (7 : Nat), (103 : Nat))] ∈ BIG := bw (bt_5 _ (List.mem_of_getElem? (i := 105) rfl)) rfl
theorem ml_L_121 : Cond.methodLink RL 121 yX8_give ∈ BIG := bw (bt_5 _ (List.mem_of_getElem? (i := 106) (by decide +kernel))) (by decide +kernel)
theorem im_yX8_give : Cond.instanceMethod yX8_give ∈ BIG := bw (bt_5 _ (List.mem_of_getElem? (i := 107) (by decide +kernel))) (by decide +kernel)
theorem se_yX8_give : Cond.selects RX8 yX8_give yX8_give ∈ BIG := bw (bt_5 _ (List.mem_of_getElem? (i := 108) (by decide +kernel))) (by decide +kernel)
theorem cd_yX8_give : Cond.code yX8_give cX8_give 4 (some Jvm.ClassFile.FieldType.int) ∈ BIG := bw (bt_5 _ (List.mem_of_getElem? (i := 109) rfl)) rfl
theorem ml_L_153 : Cond.methodLink RL 153 yX8_setBare ∈ BIG := bw (bt_5 _ (List.mem_of_getElem? (i := 111) (by decide +kernel))) (by decide +kernel)
theorem im_yX8_setBare : Cond.instanceMethod yX8_setBare ∈ BIG := bw (bt_5 _ (List.mem_of_getElem? (i := 112) (by decide +kernel))) (by decide +kernel)
theorem se_yX8_setBare : Cond.selects RX8 yX8_setBare yX8_setBare ∈ BIG := bw (bt_5 _ (List.mem_of_getElem? (i := 113) (by decide +kernel))) (by decide +kernel)
theorem cd_yX8_setBare : Cond.code yX8_setBare cX8_setBare 5 (some Jvm.ClassFile.FieldType.boolean) ∈ BIG := bw (bt_5 _ (List.mem_of_getElem? (i := 114) rfl)) rfl
theorem ml_L_157 : Cond.methodLink RL 157 yX8_setClaims ∈ BIG := bw (bt_5 _ (List.mem_of_getElem? (i := 115) (by decide +kernel))) (by decide +kernel)
theorem im_yX8_setClaims : Cond.instanceMethod yX8_setClaims ∈ BIG := bw (bt_5 _ (List.mem_of_getElem? (i := 116) (by decide +kernel))) (by decide +kernel)
theorem se_yX8_setClaims : Cond.selects RX8 yX8_setClaims yX8_setClaims ∈ BIG := bw (bt_5 _ (List.mem_of_getElem? (i := 117) (by decide +kernel))) (by decide +kernel)
theorem cd_yX8_setClaims : Cond.code yX8_setClaims cX8_setClaims 3 (some Jvm.ClassFile.FieldType.boolean) ∈ BIG := bw (bt_5 _ (List.mem_of_getElem? (i := 118) rfl)) rfl
theorem ml_L_161 : Cond.methodLink RL 161 yX8_setPeriod ∈ BIG := bw (bt_5 _ (List.mem_of_getElem? (i := 119) (by decide +kernel))) (by decide +kernel)
theorem im_yX8_setPeriod : Cond.instanceMethod yX8_setPeriod ∈ BIG := bw (bt_5 _ (List.mem_of_getElem? (i := 120) (by decide +kernel))) (by decide +kernel)
theorem se_yX8_setPeriod : Cond.selects RX8 yX8_setPeriod yX8_setPeriod ∈ BIG := bw (bt_5 _ (List.mem_of_getElem? (i := 121) (by decide +kernel))) (by decide +kernel)
theorem cd_yX8_setPeriod : Cond.code yX8_setPeriod cX8_setPeriod 5 (some Jvm.ClassFile.FieldType.int) ∈ BIG := bw (bt_5 _ (List.mem_of_getElem? (i := 122) rfl)) rfl
theorem ml_X8_334 : Cond.methodLink RX8 334 yX4_setNumber ∈ BIG := bw (bt_5 _ (List.mem_of_getElem? (i := 124) (by decide +kernel))) (by decide +kernel)
theorem ml_L_165 : Cond.methodLink RL 165 yL_swapped ∈ BIG := bw (bt_5 _ (List.mem_of_getElem? (i := 125) (by decide +kernel))) (by decide +kernel)
theorem st_yL_swapped : Cond.static yL_swapped ∈ BIG := bw (bt_5 _ (List.mem_of_getElem? (i := 126) (by decide +kernel))) (by decide +kernel)
theorem cd_yL_swapped : Cond.codeWith yL_swapped cL_swapped 2 (some Jvm.ClassFile.FieldType.int) [((0 : Nat), (4 : Nat), (5 : Nat), (103 : Nat))] ∈ BIG := bw (bt_5 _ (List.mem_of_getElem? (i := 127) rfl)) rfl
theorem ml_L_124 : Cond.methodLink RL 124 yX8_swap ∈ BIG := bw (bt_5 _ (List.mem_of_getElem? (i := 128) (by decide +kernel))) (by decide +kernel)
theorem im_yX8_swap : Cond.instanceMethod yX8_swap ∈ BIG := bw (bt_5 _ (List.mem_of_getElem? (i := 129) (by decide +kernel))) (by decide +kernel)
theorem se_yX8_swap : Cond.selects RX8 yX8_swap yX8_swap ∈ BIG := bw (bt_5 _ (List.mem_of_getElem? (i := 130) (by decide +kernel))) (by decide +kernel)
theorem cd_yX8_swap : Cond.code yX8_swap cX8_swap 1 (some Jvm.ClassFile.FieldType.int) ∈ BIG := bw (bt_5 _ (List.mem_of_getElem? (i := 131) rfl)) rfl
theorem ml_X8_340 : Cond.methodLink RX8 340 yX6_swapSides ∈ BIG := bw (bt_5 _ (List.mem_of_getElem? (i := 133) (by decide +kernel))) (by decide +kernel)
theorem im_yX6_swapSides : Cond.instanceMethod yX6_swapSides ∈ BIG := bw (bt_5 _ (List.mem_of_getElem? (i := 134) (by decide +kernel))) (by decide +kernel)
theorem se_yX6_swapSides : Cond.selects RX6 yX6_swapSides yX6_swapSides ∈ BIG := bw (bt_5 _ (List.mem_of_getElem? (i := 135) (by decide +kernel))) (by decide +kernel)
theorem cd_yX6_swapSides : Cond.code yX6_swapSides cX6_swapSides 2 none ∈ BIG := bw (bt_5 _ (List.mem_of_getElem? (i := 136) rfl)) rfl
theorem ml_X8_221 : Cond.methodLink RX8 221 yX6_whiteAhead ∈ BIG := bw (bt_5 _ (List.mem_of_getElem? (i := 137) (by decide +kernel))) (by decide +kernel)
theorem im_yX6_whiteAhead : Cond.instanceMethod yX6_whiteAhead ∈ BIG := bw (bt_5 _ (List.mem_of_getElem? (i := 138) (by decide +kernel))) (by decide +kernel)
theorem se_yX6_whiteAhead : Cond.selects RX6 yX6_whiteAhead yX6_whiteAhead ∈ BIG := bw (bt_5 _ (List.mem_of_getElem? (i := 139) (by decide +kernel))) (by decide +kernel)
theorem cd_yX6_whiteAhead : Cond.code yX6_whiteAhead cX6_whiteAhead 1 (some Jvm.ClassFile.FieldType.int) ∈ BIG := bw (bt_5 _ (List.mem_of_getElem? (i := 140) rfl)) rfl
theorem ml_L_192 : Cond.methodLink RL 192 yL_stands ∈ BIG := bw (bt_5 _ (List.mem_of_getElem? (i := 141) (by decide +kernel))) (by decide +kernel)
theorem st_yL_stands : Cond.static yL_stands ∈ BIG := bw (bt_5 _ (List.mem_of_getElem? (i := 142) (by decide +kernel))) (by decide +kernel)
theorem cd_yL_stands : Cond.code yL_stands cL_stands 8 (some Jvm.ClassFile.FieldType.boolean) ∈ BIG := bw (bt_5 _ (List.mem_of_getElem? (i := 143) rfl)) rfl
theorem ml_L_174 : Cond.methodLink RL 174 yX8_spent ∈ BIG := bw (bt_5 _ (List.mem_of_getElem? (i := 144) (by decide +kernel))) (by decide +kernel)
theorem im_yX8_spent : Cond.instanceMethod yX8_spent ∈ BIG := bw (bt_5 _ (List.mem_of_getElem? (i := 145) (by decide +kernel))) (by decide +kernel)
theorem se_yX8_spent : Cond.selects RX8 yX8_spent yX8_spent ∈ BIG := bw (bt_5 _ (List.mem_of_getElem? (i := 146) (by decide +kernel))) (by decide +kernel)
theorem cd_yX8_spent : Cond.code yX8_spent cX8_spent 3 (some Jvm.ClassFile.FieldType.int) ∈ BIG := bw (bt_5 _ (List.mem_of_getElem? (i := 147) rfl)) rfl
theorem ml_X8_231 : Cond.methodLink RX8 231 yX8_numberAt ∈ BIG := bw (bt_5 _ (List.mem_of_getElem? (i := 148) (by decide +kernel))) (by decide +kernel)
theorem ml_L_182 : Cond.methodLink RL 182 yX8_logged ∈ BIG := bw (bt_5 _ (List.mem_of_getElem? (i := 149) (by decide +kernel))) (by decide +kernel)
theorem im_yX8_logged : Cond.instanceMethod yX8_logged ∈ BIG := bw (bt_5 _ (List.mem_of_getElem? (i := 150) (by decide +kernel))) (by decide +kernel)
theorem se_yX8_logged : Cond.selects RX8 yX8_logged yX8_logged ∈ BIG := bw (bt_5 _ (List.mem_of_getElem? (i := 151) (by decide +kernel))) (by decide +kernel)
theorem cd_yX8_logged : Cond.code yX8_logged cX8_logged 3 (some Jvm.ClassFile.FieldType.int) ∈ BIG := bw (bt_5 _ (List.mem_of_getElem? (i := 152) rfl)) rfl
theorem ml_X8_210 : Cond.methodLink RX8 210 yX1_number ∈ BIG := bw (bt_5 _ (List.mem_of_getElem? (i := 154) (by decide +kernel))) (by decide +kernel)
theorem im_yX1_number : Cond.instanceMethod yX1_number ∈ BIG := bw (bt_5 _ (List.mem_of_getElem? (i := 155) (by decide +kernel))) (by decide +kernel)
theorem se_yX1_number : Cond.selects RX1 yX1_number yX1_number ∈ BIG := bw (bt_5 _ (List.mem_of_getElem? (i := 156) (by decide +kernel))) (by decide +kernel)
theorem cd_yX1_number : Cond.code yX1_number cX1_number 4 (some Jvm.ClassFile.FieldType.int) ∈ BIG := bw (bt_5 _ (List.mem_of_getElem? (i := 157) rfl)) rfl
theorem ml_L_185 : Cond.methodLink RL 185 yX8_ahead ∈ BIG := bw (bt_5 _ (List.mem_of_getElem? (i := 159) (by decide +kernel))) (by decide +kernel)
theorem im_yX8_ahead : Cond.instanceMethod yX8_ahead ∈ BIG := bw (bt_5 _ (List.mem_of_getElem? (i := 160) (by decide +kernel))) (by decide +kernel)
theorem se_yX8_ahead : Cond.selects RX8 yX8_ahead yX8_ahead ∈ BIG := bw (bt_5 _ (List.mem_of_getElem? (i := 161) (by decide +kernel))) (by decide +kernel)
theorem cd_yX8_ahead : Cond.code yX8_ahead cX8_ahead 1 (some Jvm.ClassFile.FieldType.int) ∈ BIG := bw (bt_5 _ (List.mem_of_getElem? (i := 162) rfl)) rfl
theorem sm_yJ5_append_cf1ce : Cond.sameMethod RJ5 RJ5 "append" "(Ljava/lang/String;)Ljava/lang/AbstractStringBuilder;" ∈ BIG := bw (bt_5 _ (List.mem_of_getElem? (i := 164) (by decide +kernel))) (by decide +kernel)
theorem sm_yJ5_appendNull_278bc : Cond.sameMethod RJ5 RJ5 "appendNull" "()Ljava/lang/AbstractStringBuilder;" ∈ BIG := bw (bt_5 _ (List.mem_of_getElem? (i := 165) (by decide +kernel))) (by decide +kernel)
theorem sm_yJ5_ensureCapacityInternal_d00df : Cond.sameMethod RJ5 RJ5 "ensureCapacityInternal" "(I)V" ∈ BIG := bw (bt_5 _ (List.mem_of_getElem? (i := 166) (by decide +kernel))) (by decide +kernel)
theorem sm_yJ5_newCapacity_0f7a4 : Cond.sameMethod RJ5 RJ5 "newCapacity" "(I)I" ∈ BIG := bw (bt_5 _ (List.mem_of_getElem? (i := 167) (by decide +kernel))) (by decide +kernel)
theorem sm_yJ5_putStringAt_47b60 : Cond.sameMethod RJ5 RJ5 "putStringAt" "(ILjava/lang/String;)V" ∈ BIG := bw (bt_5 _ (List.mem_of_getElem? (i := 168) (by decide +kernel))) (by decide +kernel)
theorem sm_yJ5_inflateIfNeededFor_a7421 : Cond.sameMethod RJ5 RJ5 "inflateIfNeededFor" "(Ljava/lang/String;)V" ∈ BIG := bw (bt_5 _ (List.mem_of_getElem? (i := 169) (by decide +kernel))) (by decide +kernel)
theorem sm_yJ5_inflate_da8c8 : Cond.sameMethod RJ5 RJ5 "inflate" "()V" ∈ BIG := bw (bt_5 _ (List.mem_of_getElem? (i := 170) (by decide +kernel))) (by decide +kernel)
theorem sm_yJ5_append_c97b9 : Cond.sameMethod RJ5 RJ5 "append" "(I)Ljava/lang/AbstractStringBuilder;" ∈ BIG := bw (bt_5 _ (List.mem_of_getElem? (i := 171) (by decide +kernel))) (by decide +kernel)
theorem se_yX3_clear : Cond.selects RX3 yX3_clear yX3_clear ∈ BIG := bw (List.mem_append_left _ (List.mem_of_getElem? (i := 1) (by decide +kernel))) (by decide +kernel)
theorem se_yX3_readToken : Cond.selects RX3 yX3_readToken yX3_readToken ∈ BIG := bw (List.mem_append_left _ (List.mem_of_getElem? (i := 2) (by decide +kernel))) (by decide +kernel)
theorem se_yX3_isWord : Cond.selects RX3 yX3_isWord yX3_isWord ∈ BIG := bw (List.mem_append_left _ (List.mem_of_getElem? (i := 3) (by decide +kernel))) (by decide +kernel)
theorem se_yX3_fail : Cond.selects RX3 yX3_fail yX3_fail ∈ BIG := bw (List.mem_append_left _ (List.mem_of_getElem? (i := 4) (by decide +kernel))) (by decide +kernel)
theorem se_yX3_readPeriod : Cond.selects RX3 yX3_readPeriod yX3_readPeriod ∈ BIG := bw (List.mem_append_left _ (List.mem_of_getElem? (i := 5) (by decide +kernel))) (by decide +kernel)
theorem se_yX3_takeWord : Cond.selects RX3 yX3_takeWord yX3_takeWord ∈ BIG := bw (List.mem_append_left _ (List.mem_of_getElem? (i := 6) (by decide +kernel))) (by decide +kernel)
theorem se_yX3_takeNumber : Cond.selects RX3 yX3_takeNumber yX3_takeNumber ∈ BIG := bw (List.mem_append_left _ (List.mem_of_getElem? (i := 7) (by decide +kernel))) (by decide +kernel)
theorem se_yX3_takeOption : Cond.selects RX3 yX3_takeOption yX3_takeOption ∈ BIG := bw (List.mem_append_left _ (List.mem_of_getElem? (i := 8) (by decide +kernel))) (by decide +kernel)
theorem se_yX3_takeSemicolon : Cond.selects RX3 yX3_takeSemicolon yX3_takeSemicolon ∈ BIG := bw (List.mem_append_left _ (List.mem_of_getElem? (i := 9) (by decide +kernel))) (by decide +kernel)
theorem se_yX3_readExtra : Cond.selects RX3 yX3_readExtra yX3_readExtra ∈ BIG := bw (List.mem_append_left _ (List.mem_of_getElem? (i := 10) (by decide +kernel))) (by decide +kernel)
theorem se_yX3_failIf : Cond.selects RX3 yX3_failIf yX3_failIf ∈ BIG := bw (List.mem_append_left _ (List.mem_of_getElem? (i := 11) (by decide +kernel))) (by decide +kernel)
theorem se_yX3_readSession : Cond.selects RX3 yX3_readSession yX3_readSession ∈ BIG := bw (List.mem_append_left _ (List.mem_of_getElem? (i := 12) (by decide +kernel))) (by decide +kernel)
theorem se_yX3_readHand : Cond.selects RX3 yX3_readHand yX3_readHand ∈ BIG := bw (List.mem_append_left _ (List.mem_of_getElem? (i := 13) (by decide +kernel))) (by decide +kernel)
theorem se_yX3_readClaims : Cond.selects RX3 yX3_readClaims yX3_readClaims ∈ BIG := bw (List.mem_append_left _ (List.mem_of_getElem? (i := 14) (by decide +kernel))) (by decide +kernel)
theorem se_yX8_remember : Cond.selects RX8 yX8_remember yX8_remember ∈ BIG := bw (List.mem_append_left _ (List.mem_of_getElem? (i := 15) (by decide +kernel))) (by decide +kernel)
theorem se_yX8_requireSide : Cond.selects RX8 yX8_requireSide yX8_requireSide ∈ BIG := bw (List.mem_append_left _ (List.mem_of_getElem? (i := 16) (by decide +kernel))) (by decide +kernel)
theorem se_yX8_requirePeriod : Cond.selects RX8 yX8_requirePeriod yX8_requirePeriod ∈ BIG := bw (List.mem_append_left _ (List.mem_of_getElem? (i := 17) (by decide +kernel))) (by decide +kernel)
theorem se_yX5_runOut : Cond.selects RX5 yX5_runOut yX5_runOut ∈ BIG := bw (List.mem_append_left _ (List.mem_of_getElem? (i := 18) (by decide +kernel))) (by decide +kernel)
theorem se_yX6_noteFall : Cond.selects RX6 yX6_noteFall yX6_noteFall ∈ BIG := bw (List.mem_append_left _ (List.mem_of_getElem? (i := 19) (by decide +kernel))) (by decide +kernel)
theorem se_yX5_gains : Cond.selects RX5 yX5_gains yX5_gains ∈ BIG := bw (List.mem_append_left _ (List.mem_of_getElem? (i := 20) (by decide +kernel))) (by decide +kernel)
theorem se_yX5_beginNextPeriod : Cond.selects RX5 yX5_beginNextPeriod yX5_beginNextPeriod ∈ BIG := bw (List.mem_append_left _ (List.mem_of_getElem? (i := 21) (by decide +kernel))) (by decide +kernel)
theorem se4_yJ5_ensureCapacityInternal_d00df : Cond.selects RJ4 yJ5_ensureCapacityInternal_d00df yJ5_ensureCapacityInternal_d00df ∈ BIG := bw (List.mem_append_left _ (List.mem_of_getElem? (i := 22) (by decide +kernel))) (by decide +kernel)
theorem se4_yJ5_newCapacity_0f7a4 : Cond.selects RJ4 yJ5_newCapacity_0f7a4 yJ5_newCapacity_0f7a4 ∈ BIG := bw (List.mem_append_left _ (List.mem_of_getElem? (i := 23) (by decide +kernel))) (by decide +kernel)
theorem se4_yJ5_putStringAt_47b60 : Cond.selects RJ4 yJ5_putStringAt_47b60 yJ5_putStringAt_47b60 ∈ BIG := bw (List.mem_append_left _ (List.mem_of_getElem? (i := 24) (by decide +kernel))) (by decide +kernel)
theorem se4_yJ5_inflateIfNeededFor_a7421 : Cond.selects RJ4 yJ5_inflateIfNeededFor_a7421 yJ5_inflateIfNeededFor_a7421 ∈ BIG := bw (List.mem_append_left _ (List.mem_of_getElem? (i := 25) (by decide +kernel))) (by decide +kernel)
theorem cw_X0 : ∀ w ∈ u_ws RX0 TX0 2, w ∈ BIG := by
  intro w hw
  obtain ⟨k, hk, rfl⟩ := List.mem_map.mp hw
  have h9 := List.mem_range.mp hk
  match k, h9 with
  | 0, _ => exact lay_X0_0
  | 1, _ => exact lay_X0_1
  | k + 2, h => exact absurd h (by omega)
theorem cw_X1 : ∀ w ∈ u_ws RX1 TX1 3, w ∈ BIG := by
  intro w hw
  obtain ⟨k, hk, rfl⟩ := List.mem_map.mp hw
  have h9 := List.mem_range.mp hk
  match k, h9 with
  | 0, _ => exact lay_X1_0
  | 1, _ => exact lay_X1_1
  | 2, _ => exact lay_X1_2
  | k + 3, h => exact absurd h (by omega)
theorem cw_X2 : ∀ w ∈ u_ws RX2 TX2 2, w ∈ BIG := by
  intro w hw
  obtain ⟨k, hk, rfl⟩ := List.mem_map.mp hw
  have h9 := List.mem_range.mp hk
  match k, h9 with
  | 0, _ => exact lay_X2_0
  | 1, _ => exact lay_X2_1
  | k + 2, h => exact absurd h (by omega)
theorem cw_X3 : ∀ w ∈ u_ws RX3 TX3 11, w ∈ BIG := by
  intro w hw
  obtain ⟨k, hk, rfl⟩ := List.mem_map.mp hw
  have h9 := List.mem_range.mp hk
  match k, h9 with
  | 0, _ => exact lay_X3_0
  | 1, _ => exact lay_X3_1
  | 2, _ => exact lay_X3_2
  | 3, _ => exact lay_X3_3
  | 4, _ => exact lay_X3_4
  | 5, _ => exact lay_X3_5
  | 6, _ => exact lay_X3_6
  | 7, _ => exact lay_X3_7
  | 8, _ => exact lay_X3_8
  | 9, _ => exact lay_X3_9
  | 10, _ => exact lay_X3_10
  | k + 11, h => exact absurd h (by omega)
theorem cw_X4 : ∀ w ∈ u_ws RX4 TX4 5, w ∈ BIG := by
  intro w hw
  obtain ⟨k, hk, rfl⟩ := List.mem_map.mp hw
  have h9 := List.mem_range.mp hk
  match k, h9 with
  | 0, _ => exact lay_X4_0
  | 1, _ => exact lay_X4_1
  | 2, _ => exact lay_X4_2
  | 3, _ => exact lay_X4_3
  | 4, _ => exact lay_X4_4
  | k + 5, h => exact absurd h (by omega)
theorem cw_X5 : ∀ w ∈ u_ws RX5 TX5 13, w ∈ BIG := by
  intro w hw
  obtain ⟨k, hk, rfl⟩ := List.mem_map.mp hw
  have h9 := List.mem_range.mp hk
  match k, h9 with
  | 0, _ => exact lay_X5_0
  | 1, _ => exact lay_X5_1
  | 2, _ => exact lay_X5_2
  | 3, _ => exact lay_X5_3
  | 4, _ => exact lay_X5_4
  | 5, _ => exact lay_X5_5
  | 6, _ => exact lay_X5_6
  | 7, _ => exact lay_X5_7
  | 8, _ => exact lay_X5_8
  | 9, _ => exact lay_X5_9
  | 10, _ => exact lay_X5_10
  | 11, _ => exact lay_X5_11
  | 12, _ => exact lay_X5_12
  | k + 13, h => exact absurd h (by omega)
theorem cw_X6 : ∀ w ∈ u_ws RX6 TX6 12, w ∈ BIG := by
  intro w hw
  obtain ⟨k, hk, rfl⟩ := List.mem_map.mp hw
  have h9 := List.mem_range.mp hk
  match k, h9 with
  | 0, _ => exact lay_X6_0
  | 1, _ => exact lay_X6_1
  | 2, _ => exact lay_X6_2
  | 3, _ => exact lay_X6_3
  | 4, _ => exact lay_X6_4
  | 5, _ => exact lay_X6_5
  | 6, _ => exact lay_X6_6
  | 7, _ => exact lay_X6_7
  | 8, _ => exact lay_X6_8
  | 9, _ => exact lay_X6_9
  | 10, _ => exact lay_X6_10
  | 11, _ => exact lay_X6_11
  | k + 12, h => exact absurd h (by omega)
theorem cw_X7 : ∀ w ∈ u_ws RX7 TX7 6, w ∈ BIG := by
  intro w hw
  obtain ⟨k, hk, rfl⟩ := List.mem_map.mp hw
  have h9 := List.mem_range.mp hk
  match k, h9 with
  | 0, _ => exact lay_X7_0
  | 1, _ => exact lay_X7_1
  | 2, _ => exact lay_X7_2
  | 3, _ => exact lay_X7_3
  | 4, _ => exact lay_X7_4
  | 5, _ => exact lay_X7_5
  | k + 6, h => exact absurd h (by omega)
theorem cw_X8 : ∀ w ∈ u_ws RX8 TX8 9, w ∈ BIG := by
  intro w hw
  obtain ⟨k, hk, rfl⟩ := List.mem_map.mp hw
  have h9 := List.mem_range.mp hk
  match k, h9 with
  | 0, _ => exact lay_X8_0
  | 1, _ => exact lay_X8_1
  | 2, _ => exact lay_X8_2
  | 3, _ => exact lay_X8_3
  | 4, _ => exact lay_X8_4
  | 5, _ => exact lay_X8_5
  | 6, _ => exact lay_X8_6
  | 7, _ => exact lay_X8_7
  | 8, _ => exact lay_X8_8
  | k + 9, h => exact absurd h (by omega)
theorem cw_J0 : ∀ w ∈ u_ws RJ0 TJ0 4, w ∈ BIG := by
  intro w hw
  obtain ⟨k, hk, rfl⟩ := List.mem_map.mp hw
  have h9 := List.mem_range.mp hk
  match k, h9 with
  | 0, _ => exact lay_J0_0
  | 1, _ => exact lay_J0_1
  | 2, _ => exact lay_J0_2
  | 3, _ => exact lay_J0_3
  | k + 4, h => exact absurd h (by omega)
theorem cw_J4 : ∀ w ∈ u_ws RJ4 TJ4 4, w ∈ BIG := by
  intro w hw
  obtain ⟨k, hk, rfl⟩ := List.mem_map.mp hw
  have h9 := List.mem_range.mp hk
  match k, h9 with
  | 0, _ => exact lay_J4_0
  | 1, _ => exact lay_J4_1
  | 2, _ => exact lay_J4_2
  | 3, _ => exact lay_J4_3
  | k + 4, h => exact absurd h (by omega)
