def flat2 : Cond → List Cond → List Cond
  | .and a b, acc => flat2 a (flat2 b acc)
  | c, acc => c :: acc
theorem flat2_e (T : Cond) : ∀ acc, flat2 T acc = flatC T ++ acc := by
  induction T with
  | and a b iha ihb =>
    intro acc
    show flat2 a (flat2 b acc) = (flatC a ++ flatC b) ++ acc
    rw [ihb, iha, List.append_assoc]
  | _ => intro acc; rfl
abbrev nwT : Cond := .and given_1 narrow_1
theorem nw_in {w : Cond} (h : w ∈ flat2 nwT []) : w ∈ flatC nwT := by
  rw [flat2_e, List.append_nil] at h
  exact h
def strW (own tx : String) (k : Nat) : List Cond :=
  .exactly (.string own k) "java/lang/String" :: .eq (.field (.string own k) "java/lang/String" "coder" "B") (.int 0) :: .arrayOf (.field (.string own k) "java/lang/String" "value" "[B") .byte :: .eq (.length (.field (.string own k) "java/lang/String" "value" "[B")) (.int (Int32.ofNat tx.toList.length)) :: (List.range tx.toList.length).map (fun j => .eq (.elem (.field (.string own k) "java/lang/String" "value" "[B") (.int (Int32.ofNat j))) (.int (nI (tx.toList.getD j 'a').toNat)))
def strG (q : String × Nat × String) : Prop := q.2.2.toList.length < 2 ^ 31 ∧ Cond.stringRef q.1 q.2.1 q.2.2 ∈ lw_tbl ∧ ∀ w ∈ strW q.1 q.2.2 q.2.1, w ∈ flat2 nwT []
theorem str_g {q : String × Nat × String} (S n : Nat) (h1 : q.2.2.toList.length < 2 ^ 31) (h2 : Cond.stringRef q.1 q.2.1 q.2.2 ∈ lw_tbl) (h3 : ((flat2 nwT []).drop S).take n = strW q.1 q.2.2 q.2.1) : strG q := by
  refine ⟨h1, h2, fun w hw => ?_⟩
  rw [← h3] at hw
  exact List.mem_of_mem_drop (List.mem_of_mem_take hw)
theorem sg_0 : strG (RX3, 38, "period") := str_g 63 10 (by decide +kernel) (bt_2 _ (List.mem_of_getElem? (i := 161) (by decide +kernel))) (by decide +kernel)
theorem sg_1 : strG (RX3, 98, "moves") := str_g 73 9 (by decide +kernel) (bt_2 _ (List.mem_of_getElem? (i := 231) (by decide +kernel))) (by decide +kernel)
theorem sg_2 : strG (RX3, 108, "time") := str_g 82 8 (by decide +kernel) (bt_2 _ (List.mem_of_getElem? (i := 237) (by decide +kernel))) (by decide +kernel)
theorem sg_3 : strG (RX3, 111, "bonus") := str_g 90 9 (by decide +kernel) (bt_2 _ (List.mem_of_getElem? (i := 239) (by decide +kernel))) (by decide +kernel)
theorem sg_4 : strG (RX3, 117, "delay") := str_g 99 9 (by decide +kernel) (bt_3 _ (List.mem_of_getElem? (i := 4) (by decide +kernel))) (by decide +kernel)
theorem sg_5 : strG (RX3, 119, "back") := str_g 108 8 (by decide +kernel) (bt_3 _ (List.mem_of_getElem? (i := 5) (by decide +kernel))) (by decide +kernel)
theorem sg_6 : strG (RX3, 57, "extra") := str_g 116 9 (by decide +kernel) (bt_3 _ (List.mem_of_getElem? (i := 10) (by decide +kernel))) (by decide +kernel)
theorem sg_7 : strG (RX3, 62, "session") := str_g 125 11 (by decide +kernel) (bt_3 _ (List.mem_of_getElem? (i := 19) (by decide +kernel))) (by decide +kernel)
theorem sg_8 : strG (RX3, 67, "hand") := str_g 136 8 (by decide +kernel) (bt_3 _ (List.mem_of_getElem? (i := 24) (by decide +kernel))) (by decide +kernel)
theorem sg_9 : strG (RX3, 137, "white") := str_g 144 9 (by decide +kernel) (bt_3 _ (List.mem_of_getElem? (i := 29) (by decide +kernel))) (by decide +kernel)
theorem sg_10 : strG (RX3, 139, "black") := str_g 153 9 (by decide +kernel) (bt_3 _ (List.mem_of_getElem? (i := 30) (by decide +kernel))) (by decide +kernel)
theorem sg_11 : strG (RX3, 72, "claims") := str_g 162 10 (by decide +kernel) (bt_3 _ (List.mem_of_getElem? (i := 31) (by decide +kernel))) (by decide +kernel)
theorem sg_12 : strG (RX8, 57, "the input buffer is full") := str_g 172 28 (by decide +kernel) (bt_4 _ (List.mem_of_getElem? (i := 10) (by decide +kernel))) (by decide +kernel)
theorem sg_13 : strG (RX8, 68, "length is out of range") := str_g 200 26 (by decide +kernel) (bt_4 _ (List.mem_of_getElem? (i := 57) (by decide +kernel))) (by decide +kernel)
theorem sg_14 : strG (RX8, 155, "what is out of range") := str_g 226 24 (by decide +kernel) (bt_4 _ (List.mem_of_getElem? (i := 71) (by decide +kernel))) (by decide +kernel)
theorem sg_15 : strG (RX8, 408, "there is no such period") := str_g 250 27 (by decide +kernel) (bt_4 _ (List.mem_of_getElem? (i := 93) (by decide +kernel))) (by decide +kernel)
theorem sg_16 : strG (RX8, 406, "there is no such side") := str_g 277 25 (by decide +kernel) (bt_4 _ (List.mem_of_getElem? (i := 111) (by decide +kernel))) (by decide +kernel)
theorem sg_17 : strG (RX8, 207, "there is no such move in the log") := str_g 302 36 (by decide +kernel) (bt_4 _ (List.mem_of_getElem? (i := 123) (by decide +kernel))) (by decide +kernel)
theorem sg_18 : strG (RX8, 412, "the pace is out of range") := str_g 338 28 (by decide +kernel) (bt_4 _ (List.mem_of_getElem? (i := 202) (by decide +kernel))) (by decide +kernel)
theorem sg_19 : strG (RX8, 295, "ticks is out of range") := str_g 366 25 (by decide +kernel) (bt_5 _ (List.mem_of_getElem? (i := 9) (by decide +kernel))) (by decide +kernel)
theorem sg_20 : strG (RX8, 300, "moves is out of range") := str_g 391 25 (by decide +kernel) (bt_5 _ (List.mem_of_getElem? (i := 109) (by decide +kernel))) (by decide +kernel)
theorem sg_21 : strG (RX8, 304, "the game has begun") := str_g 416 22 (by decide +kernel) (bt_5 _ (List.mem_of_getElem? (i := 137) (by decide +kernel))) (by decide +kernel)
theorem sg_22 : strG (RX8, 309, "the game is not running") := str_g 438 27 (by decide +kernel) (bt_5 _ (List.mem_of_getElem? (i := 169) (by decide +kernel))) (by decide +kernel)
theorem sg_23 : strG (RX8, 314, "the game is not paused") := str_g 465 26 (by decide +kernel) (bt_5 _ (List.mem_of_getElem? (i := 195) (by decide +kernel))) (by decide +kernel)
theorem sg_24 : strG (RX8, 316, "sealing is not possible") := str_g 491 27 (by decide +kernel) (bt_5 _ (List.mem_of_getElem? (i := 203) (by decide +kernel))) (by decide +kernel)
theorem sg_25 : strG (RX8, 318, "the game is not adjourned") := str_g 518 29 (by decide +kernel) (bt_5 _ (List.mem_of_getElem? (i := 211) (by decide +kernel))) (by decide +kernel)
theorem sg_26 : strG (RX8, 323, "there is nothing to claim") := str_g 547 29 (by decide +kernel) (bt_5 _ (List.mem_of_getElem? (i := 220) (by decide +kernel))) (by decide +kernel)
theorem sg_27 : strG (RX8, 328, "the game is over") := str_g 576 20 (by decide +kernel) (bt_5 _ (List.mem_of_getElem? (i := 229) (by decide +kernel))) (by decide +kernel)
theorem sg_28 : strG (RX8, 330, "the side cannot be given so many ticks") := str_g 596 42 (by decide +kernel) (bt_5 _ (List.mem_of_getElem? (i := 237) (by decide +kernel))) (by decide +kernel)
theorem sg_29 : strG (RX8, 332, "what or value is out of range") := str_g 638 33 (by decide +kernel) (bt_6 _ (List.mem_of_getElem? (i := 12) (by decide +kernel))) (by decide +kernel)
theorem sg_30 : strG (RX8, 338, "sides are swapped ahead of the game or in a pause") := str_g 671 53 (by decide +kernel) (bt_6 _ (List.mem_of_getElem? (i := 21) (by decide +kernel))) (by decide +kernel)
theorem sg_31 : strG (RX8, 410, "there is no such slot") := str_g 724 25 (by decide +kernel) (bt_6 _ (List.mem_of_getElem? (i := 37) (by decide +kernel))) (by decide +kernel)
theorem sg_32 : strG (RX8, 357, "nothing is kept in the slot") := str_g 749 31 (by decide +kernel) (bt_6 _ (List.mem_of_getElem? (i := 45) (by decide +kernel))) (by decide +kernel)
theorem sg_33 : strG (RX8, 362, "there is nothing to undo") := str_g 780 28 (by decide +kernel) (bt_6 _ (List.mem_of_getElem? (i := 53) (by decide +kernel))) (by decide +kernel)
theorem sg_34 : strG (RX8, 396, "there is no such byte") := str_g 808 25 (by decide +kernel) (bt_6 _ (List.mem_of_getElem? (i := 71) (by decide +kernel))) (by decide +kernel)
theorem sg_35 : strG (RX9, 274, "period") := str_g 833 10 (by decide +kernel) (bt_6 _ (List.mem_of_getElem? (i := 229) (by decide +kernel))) (by decide +kernel)
theorem sg_36 : strG (RX9, 240, "moves") := str_g 844 9 (by decide +kernel) (bt_7 _ (List.mem_of_getElem? (i := 25) (by decide +kernel))) (by decide +kernel)
theorem sg_37 : strG (RX9, 242, "time") := str_g 854 8 (by decide +kernel) (bt_7 _ (List.mem_of_getElem? (i := 42) (by decide +kernel))) (by decide +kernel)
theorem sg_38 : strG (RX9, 245, "bonus") := str_g 863 9 (by decide +kernel) (bt_7 _ (List.mem_of_getElem? (i := 44) (by decide +kernel))) (by decide +kernel)
theorem sg_39 : strG (RX9, 251, "delay") := str_g 873 9 (by decide +kernel) (bt_7 _ (List.mem_of_getElem? (i := 49) (by decide +kernel))) (by decide +kernel)
theorem sg_40 : strG (RX9, 253, "back") := str_g 883 8 (by decide +kernel) (bt_7 _ (List.mem_of_getElem? (i := 50) (by decide +kernel))) (by decide +kernel)
theorem sg_41 : strG (RX9, 279, "extra") := str_g 892 9 (by decide +kernel) (bt_7 _ (List.mem_of_getElem? (i := 55) (by decide +kernel))) (by decide +kernel)
theorem sg_42 : strG (RX9, 284, "session") := str_g 902 11 (by decide +kernel) (bt_7 _ (List.mem_of_getElem? (i := 60) (by decide +kernel))) (by decide +kernel)
theorem sg_43 : strG (RX9, 289, "hand") := str_g 914 8 (by decide +kernel) (bt_7 _ (List.mem_of_getElem? (i := 65) (by decide +kernel))) (by decide +kernel)
theorem sg_44 : strG (RX9, 264, "black") := str_g 923 9 (by decide +kernel) (bt_7 _ (List.mem_of_getElem? (i := 70) (by decide +kernel))) (by decide +kernel)
theorem sg_45 : strG (RX9, 269, "white") := str_g 933 9 (by decide +kernel) (bt_7 _ (List.mem_of_getElem? (i := 71) (by decide +kernel))) (by decide +kernel)
theorem sg_46 : strG (RX9, 293, "claims") := str_g 943 10 (by decide +kernel) (bt_7 _ (List.mem_of_getElem? (i := 72) (by decide +kernel))) (by decide +kernel)
theorem str_all : ∀ q ∈ strT, strG q := by
  unfold strT
  exact (List.forall_mem_cons.mpr ⟨sg_0, (List.forall_mem_cons.mpr ⟨sg_1, (List.forall_mem_cons.mpr ⟨sg_2, (List.forall_mem_cons.mpr ⟨sg_3, (List.forall_mem_cons.mpr ⟨sg_4, (List.forall_mem_cons.mpr ⟨sg_5, (List.forall_mem_cons.mpr ⟨sg_6, (List.forall_mem_cons.mpr ⟨sg_7, (List.forall_mem_cons.mpr ⟨sg_8, (List.forall_mem_cons.mpr ⟨sg_9, (List.forall_mem_cons.mpr ⟨sg_10, (List.forall_mem_cons.mpr ⟨sg_11, (List.forall_mem_cons.mpr ⟨sg_12, (List.forall_mem_cons.mpr ⟨sg_13, (List.forall_mem_cons.mpr ⟨sg_14, (List.forall_mem_cons.mpr ⟨sg_15, (List.forall_mem_cons.mpr ⟨sg_16, (List.forall_mem_cons.mpr ⟨sg_17, (List.forall_mem_cons.mpr ⟨sg_18, (List.forall_mem_cons.mpr ⟨sg_19, (List.forall_mem_cons.mpr ⟨sg_20, (List.forall_mem_cons.mpr ⟨sg_21, (List.forall_mem_cons.mpr ⟨sg_22, (List.forall_mem_cons.mpr ⟨sg_23, (List.forall_mem_cons.mpr ⟨sg_24, (List.forall_mem_cons.mpr ⟨sg_25, (List.forall_mem_cons.mpr ⟨sg_26, (List.forall_mem_cons.mpr ⟨sg_27, (List.forall_mem_cons.mpr ⟨sg_28, (List.forall_mem_cons.mpr ⟨sg_29, (List.forall_mem_cons.mpr ⟨sg_30, (List.forall_mem_cons.mpr ⟨sg_31, (List.forall_mem_cons.mpr ⟨sg_32, (List.forall_mem_cons.mpr ⟨sg_33, (List.forall_mem_cons.mpr ⟨sg_34, (List.forall_mem_cons.mpr ⟨sg_35, (List.forall_mem_cons.mpr ⟨sg_36, (List.forall_mem_cons.mpr ⟨sg_37, (List.forall_mem_cons.mpr ⟨sg_38, (List.forall_mem_cons.mpr ⟨sg_39, (List.forall_mem_cons.mpr ⟨sg_40, (List.forall_mem_cons.mpr ⟨sg_41, (List.forall_mem_cons.mpr ⟨sg_42, (List.forall_mem_cons.mpr ⟨sg_43, (List.forall_mem_cons.mpr ⟨sg_44, (List.forall_mem_cons.mpr ⟨sg_45, (List.forall_mem_cons.mpr ⟨sg_46, (fun _ h => absurd h List.not_mem_nil)⟩)⟩)⟩)⟩)⟩)⟩)⟩)⟩)⟩)⟩)⟩)⟩)⟩)⟩)⟩)⟩)⟩)⟩)⟩)⟩)⟩)⟩)⟩)⟩)⟩)⟩)⟩)⟩)⟩)⟩)⟩)⟩)⟩)⟩)⟩)⟩)⟩)⟩)⟩)⟩)⟩)⟩)⟩)⟩)⟩)⟩)⟩)
theorem ns_0 : Cond.methodLinkNest RX8 9 yX3_init "GameClock" ∈ lw_tbl := (bt_1 _ (List.mem_of_getElem? (i := 35) (by decide +kernel)))
theorem ns_1 : Cond.methodLinkNest RX3 11 yX0_init "GameClock" ∈ lw_tbl := (bt_1 _ (List.mem_of_getElem? (i := 41) (by decide +kernel)))
theorem ns_2 : Cond.methodLinkNest RX3 20 yX4_init "GameClock" ∈ lw_tbl := (bt_1 _ (List.mem_of_getElem? (i := 57) (by decide +kernel)))
theorem ns_3 : Cond.methodLinkNest RX8 23 yX2_init "GameClock" ∈ lw_tbl := (bt_1 _ (List.mem_of_getElem? (i := 134) (by decide +kernel)))
theorem ns_4 : Cond.methodLinkNest RX6 11 yX4_init "GameClock" ∈ lw_tbl := (bt_1 _ (List.mem_of_getElem? (i := 154) (by decide +kernel)))
theorem ns_5 : Cond.methodLinkNest RX6 20 yX1_init "GameClock" ∈ lw_tbl := (bt_1 _ (List.mem_of_getElem? (i := 157) (by decide +kernel)))
theorem ns_6 : Cond.methodLinkNest RX6 27 yX5_init "GameClock" ∈ lw_tbl := (bt_1 _ (List.mem_of_getElem? (i := 174) (by decide +kernel)))
theorem ns_7 : Cond.methodLinkNest RX4 38 yX8_setNumberAt "GameClock" ∈ lw_tbl := (bt_2 _ (List.mem_of_getElem? (i := 3) (by decide +kernel)))
theorem ns_8 : Cond.methodLinkNest RX8 37 yX7_init "GameClock" ∈ lw_tbl := (bt_2 _ (List.mem_of_getElem? (i := 71) (by decide +kernel)))
theorem ns_9 : Cond.methodLinkNest RX7 11 yX5_init "GameClock" ∈ lw_tbl := (bt_2 _ (List.mem_of_getElem? (i := 76) (by decide +kernel)))
theorem ns_10 : Cond.methodLinkNest RX4 34 yX8_copyRow "GameClock" ∈ lw_tbl := (bt_3 _ (List.mem_of_getElem? (i := 51) (by decide +kernel)))
theorem ns_11 : Cond.methodLinkNest RX1 22 yX8_copyRow "GameClock" ∈ lw_tbl := (bt_3 _ (List.mem_of_getElem? (i := 62) (by decide +kernel)))
theorem ns_12 : Cond.methodLinkNest RX5 66 yX8_copyRow "GameClock" ∈ lw_tbl := (bt_3 _ (List.mem_of_getElem? (i := 67) (by decide +kernel)))
theorem ns_13 : Cond.methodLinkNest RX1 36 yX8_numberAt "GameClock" ∈ lw_tbl := (bt_3 _ (List.mem_of_getElem? (i := 108) (by decide +kernel)))
theorem ns_14 : Cond.methodLinkNest RX5 89 yX8_numberAt "GameClock" ∈ lw_tbl := (bt_4 _ (List.mem_of_getElem? (i := 171) (by decide +kernel)))
theorem ns_15 : Cond.methodLinkNest RX5 93 yX8_setNumberAt "GameClock" ∈ lw_tbl := (bt_4 _ (List.mem_of_getElem? (i := 172) (by decide +kernel)))
theorem ns_16 : Cond.methodLinkNest RX7 92 yX8_other "GameClock" ∈ lw_tbl := (bt_5 _ (List.mem_of_getElem? (i := 39) (by decide +kernel)))
theorem ns_17 : Cond.methodLinkNest RX6 88 yX8_other "GameClock" ∈ lw_tbl := (bt_5 _ (List.mem_of_getElem? (i := 46) (by decide +kernel)))
theorem ns_18 : Cond.methodLinkNest RX1 32 yX8_setNumberAt "GameClock" ∈ lw_tbl := (bt_5 _ (List.mem_of_getElem? (i := 180) (by decide +kernel)))
theorem nest_all : ∀ q ∈ nestT, Cond.methodLinkNest q.1 q.2.1 q.2.2 "GameClock" ∈ lw_tbl := by
  unfold nestT
  exact (List.forall_mem_cons.mpr ⟨ns_0, (List.forall_mem_cons.mpr ⟨ns_1, (List.forall_mem_cons.mpr ⟨ns_2, (List.forall_mem_cons.mpr ⟨ns_3, (List.forall_mem_cons.mpr ⟨ns_4, (List.forall_mem_cons.mpr ⟨ns_5, (List.forall_mem_cons.mpr ⟨ns_6, (List.forall_mem_cons.mpr ⟨ns_7, (List.forall_mem_cons.mpr ⟨ns_8, (List.forall_mem_cons.mpr ⟨ns_9, (List.forall_mem_cons.mpr ⟨ns_10, (List.forall_mem_cons.mpr ⟨ns_11, (List.forall_mem_cons.mpr ⟨ns_12, (List.forall_mem_cons.mpr ⟨ns_13, (List.forall_mem_cons.mpr ⟨ns_14, (List.forall_mem_cons.mpr ⟨ns_15, (List.forall_mem_cons.mpr ⟨ns_16, (List.forall_mem_cons.mpr ⟨ns_17, (List.forall_mem_cons.mpr ⟨ns_18, (fun _ h => absurd h List.not_mem_nil)⟩)⟩)⟩)⟩)⟩)⟩)⟩)⟩)⟩)⟩)⟩)⟩)⟩)⟩)⟩)⟩)⟩)⟩)⟩)
theorem cs_0 : Cond.castable "java/lang/IllegalStateException" "java/lang/IllegalStateException" ∈ lw_tbl := (bt_3 _ (List.mem_of_getElem? (i := 210) (by decide +kernel)))
theorem cs_1 : Cond.castable "java/lang/IllegalArgumentException" "java/lang/IllegalArgumentException" ∈ lw_tbl := (bt_4 _ (List.mem_of_getElem? (i := 50) (by decide +kernel)))
theorem cs_2 : Cond.castable "java/lang/IndexOutOfBoundsException" "java/lang/IndexOutOfBoundsException" ∈ lw_tbl := (bt_4 _ (List.mem_of_getElem? (i := 86) (by decide +kernel)))
theorem cs_3 : Cond.castable "java/util/NoSuchElementException" "java/util/NoSuchElementException" ∈ lw_tbl := (bt_6 _ (List.mem_of_getElem? (i := 64) (by decide +kernel)))
theorem cs_4 : Cond.castable "GameClock" "java/lang/Object" ∈ lw_tbl := (bt_8 _ (List.mem_of_getElem? (i := 236) (by decide +kernel)))
theorem cs_5 : Cond.castable "GameClock$Parser" "java/lang/Object" ∈ lw_tbl := (bt_8 _ (List.mem_of_getElem? (i := 237) (by decide +kernel)))
theorem cs_6 : Cond.castable "GameClock$Input" "java/lang/Object" ∈ lw_tbl := (bt_8 _ (List.mem_of_getElem? (i := 238) (by decide +kernel)))
theorem cs_7 : Cond.castable "GameClock$Rules" "java/lang/Object" ∈ lw_tbl := (bt_8 _ (List.mem_of_getElem? (i := 239) (by decide +kernel)))
theorem cs_8 : Cond.castable "GameClock$Output" "java/lang/Object" ∈ lw_tbl := (bt_9 _ (List.mem_of_getElem? (i := 0) (by decide +kernel)))
theorem cs_9 : Cond.castable "GameClock$State" "java/lang/Object" ∈ lw_tbl := (bt_9 _ (List.mem_of_getElem? (i := 1) (by decide +kernel)))
theorem cs_10 : Cond.castable "GameClock$Log" "java/lang/Object" ∈ lw_tbl := (bt_9 _ (List.mem_of_getElem? (i := 2) (by decide +kernel)))
theorem cs_11 : Cond.castable "GameClock$Side" "java/lang/Object" ∈ lw_tbl := (bt_9 _ (List.mem_of_getElem? (i := 3) (by decide +kernel)))
theorem cs_12 : Cond.castable "GameClock$Trial" "java/lang/Object" ∈ lw_tbl := (bt_9 _ (List.mem_of_getElem? (i := 4) (by decide +kernel)))
theorem cs_13 : Cond.castable "GameClockModel" "java/lang/Object" ∈ lw_tbl := (bt_9 _ (List.mem_of_getElem? (i := 5) (by decide +kernel)))
theorem cs_14 : Cond.castable "java/lang/IllegalStateException" "java/lang/Object" ∈ lw_tbl := (bt_9 _ (List.mem_of_getElem? (i := 6) (by decide +kernel)))
theorem cs_15 : Cond.castable "java/lang/IllegalArgumentException" "java/lang/Object" ∈ lw_tbl := (bt_9 _ (List.mem_of_getElem? (i := 7) (by decide +kernel)))
theorem cs_16 : Cond.castable "java/lang/IndexOutOfBoundsException" "java/lang/Object" ∈ lw_tbl := (bt_9 _ (List.mem_of_getElem? (i := 8) (by decide +kernel)))
theorem cs_17 : Cond.castable "java/util/NoSuchElementException" "java/lang/Object" ∈ lw_tbl := (bt_9 _ (List.mem_of_getElem? (i := 9) (by decide +kernel)))
theorem cs_18 : Cond.castable "java/lang/Throwable" "java/lang/Object" ∈ lw_tbl := (bt_9 _ (List.mem_of_getElem? (i := 10) (by decide +kernel)))
theorem cs_19 : Cond.castable "java/lang/String" "java/lang/Object" ∈ lw_tbl := (bt_9 _ (List.mem_of_getElem? (i := 11) (by decide +kernel)))
theorem cast_all : ∀ q ∈ castT, Cond.castable q.1 q.2 ∈ lw_tbl := by
  unfold castT
  exact (List.forall_mem_cons.mpr ⟨cs_0, (List.forall_mem_cons.mpr ⟨cs_1, (List.forall_mem_cons.mpr ⟨cs_2, (List.forall_mem_cons.mpr ⟨cs_3, (List.forall_mem_cons.mpr ⟨cs_4, (List.forall_mem_cons.mpr ⟨cs_5, (List.forall_mem_cons.mpr ⟨cs_6, (List.forall_mem_cons.mpr ⟨cs_7, (List.forall_mem_cons.mpr ⟨cs_8, (List.forall_mem_cons.mpr ⟨cs_9, (List.forall_mem_cons.mpr ⟨cs_10, (List.forall_mem_cons.mpr ⟨cs_11, (List.forall_mem_cons.mpr ⟨cs_12, (List.forall_mem_cons.mpr ⟨cs_13, (List.forall_mem_cons.mpr ⟨cs_14, (List.forall_mem_cons.mpr ⟨cs_15, (List.forall_mem_cons.mpr ⟨cs_16, (List.forall_mem_cons.mpr ⟨cs_17, (List.forall_mem_cons.mpr ⟨cs_18, (List.forall_mem_cons.mpr ⟨cs_19, (fun _ h => absurd h List.not_mem_nil)⟩)⟩)⟩)⟩)⟩)⟩)⟩)⟩)⟩)⟩)⟩)⟩)⟩)⟩)⟩)⟩)⟩)⟩)⟩)⟩)
theorem dl_0 : Cond.declares ⟨"java/lang/RuntimeException", "<init>", "()V"⟩ ∈ lw_tbl := (bt_3 _ (List.mem_of_getElem? (i := 211) (by decide +kernel)))
theorem dl_1 : Cond.declares ⟨"java/lang/RuntimeException", "<init>", "(Ljava/lang/String;)V"⟩ ∈ lw_tbl := (bt_3 _ (List.mem_of_getElem? (i := 212) (by decide +kernel)))
theorem dl_2 : Cond.declares ⟨"java/lang/Exception", "<init>", "()V"⟩ ∈ lw_tbl := (bt_3 _ (List.mem_of_getElem? (i := 213) (by decide +kernel)))
theorem dl_3 : Cond.declares ⟨"java/lang/Exception", "<init>", "(Ljava/lang/String;)V"⟩ ∈ lw_tbl := (bt_3 _ (List.mem_of_getElem? (i := 214) (by decide +kernel)))
theorem dl_4 : Cond.declares ⟨"java/lang/Throwable", "<init>", "()V"⟩ ∈ lw_tbl := (bt_3 _ (List.mem_of_getElem? (i := 215) (by decide +kernel)))
theorem dl_5 : Cond.declares ⟨"java/lang/Throwable", "<init>", "(Ljava/lang/String;)V"⟩ ∈ lw_tbl := (bt_3 _ (List.mem_of_getElem? (i := 216) (by decide +kernel)))
theorem decl_all : ∀ q ∈ declT, Cond.declares q ∈ lw_tbl := by
  unfold declT
  exact (List.forall_mem_cons.mpr ⟨dl_0, (List.forall_mem_cons.mpr ⟨dl_1, (List.forall_mem_cons.mpr ⟨dl_2, (List.forall_mem_cons.mpr ⟨dl_3, (List.forall_mem_cons.mpr ⟨dl_4, (List.forall_mem_cons.mpr ⟨dl_5, (fun _ h => absurd h List.not_mem_nil)⟩)⟩)⟩)⟩)⟩)⟩)
theorem ncw_0 : Cond.not (.castable "java/lang/IllegalArgumentException" "java/lang/IndexOutOfBoundsException") ∈ flatC nwT := (nw_in (List.mem_of_getElem? (i := 48) (by decide +kernel)))
theorem ncw_1 : Cond.not (.castable "java/lang/IllegalStateException" "java/lang/IndexOutOfBoundsException") ∈ flatC nwT := (nw_in (List.mem_of_getElem? (i := 47) (by decide +kernel)))
theorem ncw_2 : Cond.not (.castable "java/lang/IllegalStateException" "java/lang/IllegalArgumentException") ∈ flatC nwT := (nw_in (List.mem_of_getElem? (i := 34) (by decide +kernel)))
theorem nc_all : ∀ q ∈ ncT, Cond.not (.castable q.1 q.2) ∈ flatC nwT := by
  unfold ncT
  exact (List.forall_mem_cons.mpr ⟨ncw_0, (List.forall_mem_cons.mpr ⟨ncw_1, (List.forall_mem_cons.mpr ⟨ncw_2, (fun _ h => absurd h List.not_mem_nil)⟩)⟩)⟩)
theorem str_of {args : Array Value} {s : State} {A : Nat → Prop} {own tx : String} {k : Nat} (hlen : tx.toList.length < 2 ^ 31) (hr : (Cond.stringRef own k tx).before args s = true) (hw : ∀ w ∈ strW own tx k, w.before args s = true) (hA : ∀ a : Nat, a < s.heap.size → ¬ A a) : ∃ a v : Nat, vk_R own k tx a s ∧ va_O "java/lang/String" a A s s.heap ∧ va_OF "java/lang/String" "coder" "B" (.int 0) a A s s.heap ∧ va_OF "java/lang/String" "value" "[B" (.ref v) a A s s.heap ∧ va_T .byte v tx.toList.length (fun j => .int (nI ((tx.toList.getD j 'a').toNat))) A s s.heap := by
  have hex := hw (.exactly (.string own k) "java/lang/String") List.mem_cons_self
  have hco := hw (.eq (.field (.string own k) "java/lang/String" "coder" "B") (.int 0)) (List.mem_cons_of_mem _ List.mem_cons_self)
  have har := hw (.arrayOf (.field (.string own k) "java/lang/String" "value" "[B") .byte) (List.mem_cons_of_mem _ (List.mem_cons_of_mem _ List.mem_cons_self))
  have hle := hw (.eq (.length (.field (.string own k) "java/lang/String" "value" "[B")) (.int (Int32.ofNat tx.toList.length))) (List.mem_cons_of_mem _ (List.mem_cons_of_mem _ (List.mem_cons_of_mem _ List.mem_cons_self)))
  have hel : ∀ j : Nat, j < tx.toList.length → (Cond.eq (.elem (.field (.string own k) "java/lang/String" "value" "[B") (.int (Int32.ofNat j))) (.int (nI (tx.toList.getD j 'a').toNat))).before args s = true := fun j hj => hw _ (List.mem_cons_of_mem _ (List.mem_cons_of_mem _ (List.mem_cons_of_mem _ (List.mem_cons_of_mem _ (List.mem_map.mpr ⟨j, List.mem_range.mpr hj, rfl⟩)))))
  obtain ⟨a, c, cA, kA, q1, q2, q3, q4, q5, q6, -⟩ := Cond.exactly_spec (args := args) (first := s) (o := none) (s := s) (idx := []) (t := .string own k) (cls := "java/lang/String") hex
  obtain ⟨t, ht, hT⟩ := va_Tof (f := fun j => .int (nI ((tx.toList.getD j 'a').toNat))) (A := A) hlen har (va_eqt hle) (fun j hj => va_eqt (hel j hj)) hA
  exact ⟨a, t, vk_R.of hr q1, ⟨cA, q3, q5, by rw [q6]; exact q2, hA a (Array.getElem?_eq_some_iff.mp q3).1⟩, vk_OFof q1 (va_eqt hco) hA, vk_OFof q1 ht hA, hT⟩
theorem arr_i {args : Array Value} {s : State} (h : (Cond.arrayClass .int).before args s = true) : ∃ cA : ClassId, ArrOfT s cA .int ∧ va_RA s cA .int := by
  obtain ⟨c, k, comp, h1, h2, h3⟩ := Cond.arrayClass_spec h
  exact ⟨c, fun n z => ⟨(fun k h => by cases h), k, h2, comp, h3⟩, h1⟩
theorem arr_b {args : Array Value} {s : State} (h : (Cond.arrayClass .byte).before args s = true) : ∃ cA : ClassId, ArrOfT s cA .byte ∧ va_RA s cA .byte := by
  obtain ⟨c, k, comp, h1, h2, h3⟩ := Cond.arrayClass_spec h
  exact ⟨c, fun n z => ⟨(fun k h => by cases h), k, h2, comp, h3⟩, h1⟩
theorem arr_z {args : Array Value} {s : State} (h : (Cond.arrayClass .boolean).before args s = true) : ∃ cA : ClassId, ArrOfT s cA .boolean ∧ va_RA s cA .boolean := by
  obtain ⟨c, k, comp, h1, h2, h3⟩ := Cond.arrayClass_spec h
  exact ⟨c, fun n z => ⟨(fun k h => by cases h), k, h2, comp, h3⟩, h1⟩
theorem arr_l {args : Array Value} {s : State} (h : (Cond.arrayClass .long).before args s = true) : ∃ cA : ClassId, ArrOfT s cA .long ∧ va_RA s cA .long := by
  obtain ⟨c, k, comp, h1, h2, h3⟩ := Cond.arrayClass_spec h
  exact ⟨c, fun n z => ⟨(fun k h => by cases h), k, h2, comp, h3⟩, h1⟩
theorem arr_d {args : Array Value} {s : State} (h : (Cond.arrayClass .double).before args s = true) : ∃ cA : ClassId, ArrOfT s cA .double ∧ va_RA s cA .double := by
  obtain ⟨c, k, comp, h1, h2, h3⟩ := Cond.arrayClass_spec h
  exact ⟨c, fun n z => ⟨(fun k h => by cases h), k, h2, comp, h3⟩, h1⟩
theorem arr_o {C : String} {s : State} (h : va_AO C s) : ∃ cA : ClassId, ArrOfT s cA (.object C) ∧ va_RA s cA (.object C) := by
  obtain ⟨comp, c, k, h1, h2, h3, h4, h5⟩ := Cond.arrayOver_spec h
  exact ⟨c, fun N z => ⟨(fun k h => by cases h), k, h3, comp, h4⟩, k, comp, h3, h4, h1, h5⟩
theorem start_K {args : Array Value} {s : State} (hw : ∀ w ∈ BIG, w.before args s = true) (hAO : va_AO "GameClock$State" s) : ∃ (D : va_G) (tc : Nat → ClassId), va_K D vwCl (tysOf tc) s := by
  obtain ⟨c0, i0, K0⟩ := u_known (C := RX0) (T := TX0) (N := 2) (n := 2) hw cw_X0 (hw _ is_X0)
  obtain ⟨c1, i1, K1⟩ := u_known (C := RX1) (T := TX1) (N := 3) (n := 3) hw cw_X1 (hw _ is_X1)
  obtain ⟨c2, i2, K2⟩ := u_known (C := RX2) (T := TX2) (N := 2) (n := 2) hw cw_X2 (hw _ is_X2)
  obtain ⟨c3, i3, K3⟩ := u_known (C := RX3) (T := TX3) (N := 11) (n := 11) hw cw_X3 (hw _ is_X3)
  obtain ⟨c4, i4, K4⟩ := u_known (C := RX4) (T := TX4) (N := 5) (n := 5) hw cw_X4 (hw _ is_X4)
  obtain ⟨c5, i5, K5⟩ := u_known (C := RX5) (T := TX5) (N := 13) (n := 13) hw cw_X5 (hw _ is_X5)
  obtain ⟨c6, i6, K6⟩ := u_known (C := RX6) (T := TX6) (N := 12) (n := 12) hw cw_X6 (hw _ is_X6)
  obtain ⟨c7, i7, K7⟩ := u_known (C := RX7) (T := TX7) (N := 6) (n := 6) hw cw_X7 (hw _ is_X7)
  obtain ⟨c8, i8, K8⟩ := u_known (C := RX8) (T := TX8) (N := 9) (n := 9) hw cw_X8 (hw _ is_X8)
  obtain ⟨c9, i9, K9⟩ := u_known (C := RX9) (T := TX9) (N := 30) (n := 30) hw cw_X9 (hw _ is_X9)
  obtain ⟨t0, A0, B0⟩ := arr_i (hw _ ac_int)
  obtain ⟨t1, A1, B1⟩ := arr_b (hw _ ac_byte)
  obtain ⟨t2, A2, B2⟩ := arr_z (hw _ ac_boolean)
  obtain ⟨t3, A3, B3⟩ := arr_l (hw _ ac_long)
  obtain ⟨t4, A4, B4⟩ := arr_d (hw _ ac_double)
  obtain ⟨t5, A5, B5⟩ := arr_o (hAO)
  refine ⟨(fun k => if k = 0 then c0 else if k = 1 then c1 else if k = 2 then c2 else if k = 3 then c3 else if k = 4 then c4 else if k = 5 then c5 else if k = 6 then c6 else if k = 7 then c7 else if k = 8 then c8 else c9, fun k => if k = 0 then i0 else if k = 1 then i1 else if k = 2 then i2 else if k = 3 then i3 else if k = 4 then i4 else if k = 5 then i5 else if k = 6 then i6 else if k = 7 then i7 else if k = 8 then i8 else i9), fun k => if k = 0 then t0 else if k = 1 then t1 else if k = 2 then t2 else if k = 3 then t3 else if k = 4 then t4 else t5, fun k q hq => ?_, fun k q hq => ?_⟩
  · match k, hq with
    | 0, hq => cases hq; exact K0
    | 1, hq => cases hq; exact K1
    | 2, hq => cases hq; exact K2
    | 3, hq => cases hq; exact K3
    | 4, hq => cases hq; exact K4
    | 5, hq => cases hq; exact K5
    | 6, hq => cases hq; exact K6
    | 7, hq => cases hq; exact K7
    | 8, hq => cases hq; exact K8
    | 9, hq => cases hq; exact K9
    | k + 10, hq => simp [vwCl] at hq
  · match k, hq with
    | 0, hq => cases hq; exact ⟨A0, B0⟩
    | 1, hq => cases hq; exact ⟨A1, B1⟩
    | 2, hq => cases hq; exact ⟨A2, B2⟩
    | 3, hq => cases hq; exact ⟨A3, B3⟩
    | 4, hq => cases hq; exact ⟨A4, B4⟩
    | 5, hq => cases hq; exact ⟨A5, B5⟩
    | k + 6, hq => simp [tysOf] at hq
theorem start_AO {args : Array Value} {s : State} (hts : ∀ w ∈ lw_tbl, w.before args s = true) : va_AO "GameClock$State" s := hts (.arrayOver (.object "GameClock$State")) (bt_2 _ (List.mem_of_getElem? (i := 100) (by decide +kernel)))
theorem start_E {args : Array Value} {s : State} {A : Nat → Prop} (hts : ∀ w ∈ lw_tbl, w.before args s = true) (hgv : nwT.before args s = true) (hA : ∀ a : Nat, a < s.heap.size → ¬ A a) : ∃ adS adV : Nat → Nat, Evn adS adV A s s.heap := by
  have hs := flat_of_before nwT hgv
  have h0 : ∀ i : Nat, ∃ z : Nat × Nat, ∀ q : String × Nat × String, strT[i]? = some q → vk_R q.1 q.2.1 q.2.2 z.1 s ∧ va_O "java/lang/String" z.1 A s s.heap ∧ va_OF "java/lang/String" "coder" "B" (.int 0) z.1 A s s.heap ∧ va_OF "java/lang/String" "value" "[B" (.ref z.2) z.1 A s s.heap ∧ va_T .byte z.2 q.2.2.toList.length (fun j => .int (nI ((q.2.2.toList.getD j 'a').toNat))) A s s.heap := by
    intro i
    cases hq : strT[i]? with
    | none => exact ⟨(0, 0), fun q h => by cases h⟩
    | some q =>
      obtain ⟨g1, g2, g3⟩ := str_all q (List.mem_of_getElem? hq)
      obtain ⟨a, v, h⟩ := str_of (A := A) g1 (hts _ g2) (fun w h => hs w (nw_in (g3 w h))) hA
      exact ⟨(a, v), fun q' h' => by cases h'; exact h⟩
  obtain ⟨ad9, had⟩ := Classical.axiomOfChoice h0
  refine ⟨fun i => (ad9 i).1, fun i => (ad9 i).2, ?_, ?_, ?_, ?_, fun q hq => va_Nw.of rfl (hts _ (nest_all q hq)), fun q hq => va_Nw.of rfl (hts _ (cast_all q hq)), fun q hq => va_Nc.of (hs _ (nc_all q hq)), fun i q hq => had i q hq, fun q hq => va_Nw.of rfl (hts _ (decl_all q hq)), start_AO hts⟩
  · exact vx_Zqof (hts _ (bt_3 _ (List.mem_of_getElem? (i := 235) (by decide +kernel)))) (hts _ (bt_1 _ (List.mem_of_getElem? (i := 12) (by decide +kernel)))) (hs _ (nw_in (List.mem_of_getElem? (i := 9) (by decide +kernel)))) hA
  · exact vx_Zqof (hts _ (bt_3 _ (List.mem_of_getElem? (i := 237) (by decide +kernel)))) (hts _ (bt_1 _ (List.mem_of_getElem? (i := 12) (by decide +kernel)))) (hs _ (nw_in (List.mem_of_getElem? (i := 10) (by decide +kernel)))) hA
  · exact va_Zof (hts _ (bt_2 _ (List.mem_of_getElem? (i := 175) (by decide +kernel)))) (hts _ (bt_1 _ (List.mem_of_getElem? (i := 18) (by decide +kernel)))) (va_eqi (hs _ (nw_in (List.mem_of_getElem? (i := 4) (by decide +kernel))))) hA
  · exact va_Zqof (hts _ (bt_2 _ (List.mem_of_getElem? (i := 191) (by decide +kernel)))) (hts _ (bt_1 _ (List.mem_of_getElem? (i := 20) (by decide +kernel)))) (hs _ (nw_in (List.mem_of_getElem? (i := 5) (by decide +kernel)))) hA
