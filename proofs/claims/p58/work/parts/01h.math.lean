theorem cd_math_min : Cond.code Lib.Math.min.name Lib.Math.min.code 2 (some .int) ∈ BIG := bw (bt_3 _ (List.mem_of_getElem? (i := 23) (by decide +kernel))) (by decide +kernel)
theorem cd_math_max : Cond.code Lib.Math.max.name Lib.Math.max.code 2 (some .int) ∈ BIG := bw (bt_3 _ (List.mem_of_getElem? (i := 5) (by decide +kernel))) (by decide +kernel)
theorem st_math_max : Cond.static Lib.Math.max.name ∈ BIG := st_Lib_Math_max_name
theorem st_math_min : Cond.static Lib.Math.min.name ∈ BIG := st_Lib_Math_min_name
theorem in_math : Cond.initialized "java/lang/Math" ∈ BIG := in_J9

