def flg2 : Cond → List Cond → List Cond
  | .and a b, acc => flg2 a (flg2 b acc)
  | c, acc => c :: acc
theorem flg2_e (T : Cond) : ∀ acc, flg2 T acc = flatC T ++ acc := by
  induction T with
  | and a b iha ihb =>
    intro acc
    show flg2 a (flg2 b acc) = (flatC a ++ flatC b) ++ acc
    rw [ihb, iha, List.append_assoc]
  | _ => intro acc; rfl
abbrev nwT : Cond := .and given_1 narrow_1
theorem nw_in {w : Cond} (h : w ∈ flg2 nwT []) : w ∈ flatC nwT := by
  rw [flg2_e, List.append_nil] at h
  exact h
def strWg (own tx : String) (k : Nat) : List Cond :=
  .exactly (.string own k) "java/lang/String" :: .eq (.field (.string own k) "java/lang/String" "coder" "B") (.int 0) :: .arrayOf (.field (.string own k) "java/lang/String" "value" "[B") .byte :: .eq (.length (.field (.string own k) "java/lang/String" "value" "[B")) (.int (Int32.ofNat tx.toList.length)) :: (List.range tx.toList.length).map (fun j => .eq (.elem (.field (.string own k) "java/lang/String" "value" "[B") (.int (Int32.ofNat j))) (.int (nI (tx.toList.getD j 'a').toNat)))
def strG (q : String × Nat × String) : Prop := q.2.2.toList.length < 2 ^ 31 ∧ Cond.stringRef q.1 q.2.1 q.2.2 ∈ lw_tbl ∧ ∀ w ∈ strWg q.1 q.2.2 q.2.1, w ∈ flg2 nwT []
theorem str_g {q : String × Nat × String} (S n : Nat) (h1 : q.2.2.toList.length < 2 ^ 31) (h2 : Cond.stringRef q.1 q.2.1 q.2.2 ∈ lw_tbl) (h3 : ((flg2 nwT []).drop S).take n = strWg q.1 q.2.2 q.2.1) : strG q := by
  refine ⟨h1, h2, fun w hw => ?_⟩
  rw [← h3] at hw
  exact List.mem_of_mem_drop (List.mem_of_mem_take hw)
theorem sg_0 : strG (RX3, 38, "period") := str_g 420 10 (by decide +kernel) (bt_4 _ (List.mem_of_getElem? (i := 46) (by decide +kernel))) (by decide +kernel)
theorem sg_1 : strG (RX3, 98, "moves") := str_g 430 9 (by decide +kernel) (bt_4 _ (List.mem_of_getElem? (i := 70) (by decide +kernel))) (by decide +kernel)
theorem sg_2 : strG (RX3, 108, "time") := str_g 439 8 (by decide +kernel) (bt_4 _ (List.mem_of_getElem? (i := 76) (by decide +kernel))) (by decide +kernel)
theorem sg_3 : strG (RX3, 111, "bonus") := str_g 447 9 (by decide +kernel) (bt_4 _ (List.mem_of_getElem? (i := 78) (by decide +kernel))) (by decide +kernel)
theorem sg_4 : strG (RX3, 117, "delay") := str_g 456 9 (by decide +kernel) (bt_4 _ (List.mem_of_getElem? (i := 83) (by decide +kernel))) (by decide +kernel)
theorem sg_5 : strG (RX3, 119, "back") := str_g 465 8 (by decide +kernel) (bt_4 _ (List.mem_of_getElem? (i := 84) (by decide +kernel))) (by decide +kernel)
theorem sg_6 : strG (RX3, 57, "extra") := str_g 473 9 (by decide +kernel) (bt_4 _ (List.mem_of_getElem? (i := 89) (by decide +kernel))) (by decide +kernel)
theorem sg_7 : strG (RX3, 62, "session") := str_g 482 11 (by decide +kernel) (bt_4 _ (List.mem_of_getElem? (i := 98) (by decide +kernel))) (by decide +kernel)
theorem sg_8 : strG (RX3, 67, "hand") := str_g 493 8 (by decide +kernel) (bt_4 _ (List.mem_of_getElem? (i := 103) (by decide +kernel))) (by decide +kernel)
theorem sg_9 : strG (RX3, 137, "white") := str_g 501 9 (by decide +kernel) (bt_4 _ (List.mem_of_getElem? (i := 108) (by decide +kernel))) (by decide +kernel)
theorem sg_10 : strG (RX3, 139, "black") := str_g 510 9 (by decide +kernel) (bt_4 _ (List.mem_of_getElem? (i := 109) (by decide +kernel))) (by decide +kernel)
theorem sg_11 : strG (RX3, 72, "claims") := str_g 519 10 (by decide +kernel) (bt_4 _ (List.mem_of_getElem? (i := 110) (by decide +kernel))) (by decide +kernel)
theorem sg_12 : strG (RX8, 57, "the input buffer is full") := str_g 366 28 (by decide +kernel) (bt_3 _ (List.mem_of_getElem? (i := 239) (by decide +kernel))) (by decide +kernel)
theorem sg_13 : strG (RX8, 68, "length is out of range") := str_g 394 26 (by decide +kernel) (bt_4 _ (List.mem_of_getElem? (i := 15) (by decide +kernel))) (by decide +kernel)
theorem sg_14 : strG (RX8, 155, "what is out of range") := str_g 230 24 (by decide +kernel) (bt_2 _ (List.mem_of_getElem? (i := 156) (by decide +kernel))) (by decide +kernel)
theorem sg_15 : strG (RX8, 408, "there is no such period") := str_g 554 27 (by decide +kernel) (bt_4 _ (List.mem_of_getElem? (i := 198) (by decide +kernel))) (by decide +kernel)
theorem sg_16 : strG (RX8, 406, "there is no such side") := str_g 529 25 (by decide +kernel) (bt_4 _ (List.mem_of_getElem? (i := 178) (by decide +kernel))) (by decide +kernel)
theorem sg_17 : strG (RX8, 207, "there is no such move in the log") := str_g 894 36 (by decide +kernel) (bt_5 _ (List.mem_of_getElem? (i := 153) (by decide +kernel))) (by decide +kernel)
theorem sg_18 : strG (RX8, 155, "what is out of range") := str_g 230 24 (by decide +kernel) (bt_2 _ (List.mem_of_getElem? (i := 156) (by decide +kernel))) (by decide +kernel)
theorem sg_19 : strG (RX8, 295, "ticks is out of range") := str_g 603 25 (by decide +kernel) (bt_4 _ (List.mem_of_getElem? (i := 213) (by decide +kernel))) (by decide +kernel)
theorem sg_20 : strG (RX8, 155, "what is out of range") := str_g 230 24 (by decide +kernel) (bt_2 _ (List.mem_of_getElem? (i := 156) (by decide +kernel))) (by decide +kernel)
theorem sg_21 : strG (RX8, 304, "the game has begun") := str_g 581 22 (by decide +kernel) (bt_4 _ (List.mem_of_getElem? (i := 204) (by decide +kernel))) (by decide +kernel)
theorem sg_22 : strG (RX8, 309, "the game is not running") := str_g 628 27 (by decide +kernel) (bt_5 _ (List.mem_of_getElem? (i := 30) (by decide +kernel))) (by decide +kernel)
theorem sg_23 : strG (RX8, 314, "the game is not paused") := str_g 655 26 (by decide +kernel) (bt_5 _ (List.mem_of_getElem? (i := 70) (by decide +kernel))) (by decide +kernel)
theorem sg_24 : strG (RX8, 316, "sealing is not possible") := str_g 681 27 (by decide +kernel) (bt_5 _ (List.mem_of_getElem? (i := 83) (by decide +kernel))) (by decide +kernel)
theorem sg_25 : strG (RX8, 318, "the game is not adjourned") := str_g 708 29 (by decide +kernel) (bt_5 _ (List.mem_of_getElem? (i := 91) (by decide +kernel))) (by decide +kernel)
theorem sg_26 : strG (RX8, 323, "there is nothing to claim") := str_g 737 29 (by decide +kernel) (bt_5 _ (List.mem_of_getElem? (i := 100) (by decide +kernel))) (by decide +kernel)
theorem sg_27 : strG (RX8, 155, "what is out of range") := str_g 230 24 (by decide +kernel) (bt_2 _ (List.mem_of_getElem? (i := 156) (by decide +kernel))) (by decide +kernel)
theorem sg_28 : strG (RX8, 330, "the side cannot be given so many ticks") := str_g 766 42 (by decide +kernel) (bt_5 _ (List.mem_of_getElem? (i := 110) (by decide +kernel))) (by decide +kernel)
theorem sg_29 : strG (RX8, 332, "what or value is out of range") := str_g 808 33 (by decide +kernel) (bt_5 _ (List.mem_of_getElem? (i := 123) (by decide +kernel))) (by decide +kernel)
theorem sg_30 : strG (RX8, 338, "sides are swapped ahead of the game or in a pause") := str_g 841 53 (by decide +kernel) (bt_5 _ (List.mem_of_getElem? (i := 132) (by decide +kernel))) (by decide +kernel)
theorem sg_31 : strG (RX8, 155, "what is out of range") := str_g 230 24 (by decide +kernel) (bt_2 _ (List.mem_of_getElem? (i := 156) (by decide +kernel))) (by decide +kernel)
theorem sg_32 : strG (RX8, 155, "what is out of range") := str_g 230 24 (by decide +kernel) (bt_2 _ (List.mem_of_getElem? (i := 156) (by decide +kernel))) (by decide +kernel)
theorem sg_33 : strG (RX8, 155, "what is out of range") := str_g 230 24 (by decide +kernel) (bt_2 _ (List.mem_of_getElem? (i := 156) (by decide +kernel))) (by decide +kernel)
theorem sg_34 : strG (RX8, 155, "what is out of range") := str_g 230 24 (by decide +kernel) (bt_2 _ (List.mem_of_getElem? (i := 156) (by decide +kernel))) (by decide +kernel)
theorem sg_35 : strG (RX3, 38, "period") := str_g 420 10 (by decide +kernel) (bt_4 _ (List.mem_of_getElem? (i := 46) (by decide +kernel))) (by decide +kernel)
theorem sg_36 : strG (RX3, 98, "moves") := str_g 430 9 (by decide +kernel) (bt_4 _ (List.mem_of_getElem? (i := 70) (by decide +kernel))) (by decide +kernel)
theorem sg_37 : strG (RX3, 108, "time") := str_g 439 8 (by decide +kernel) (bt_4 _ (List.mem_of_getElem? (i := 76) (by decide +kernel))) (by decide +kernel)
theorem sg_38 : strG (RX3, 111, "bonus") := str_g 447 9 (by decide +kernel) (bt_4 _ (List.mem_of_getElem? (i := 78) (by decide +kernel))) (by decide +kernel)
theorem sg_39 : strG (RX3, 117, "delay") := str_g 456 9 (by decide +kernel) (bt_4 _ (List.mem_of_getElem? (i := 83) (by decide +kernel))) (by decide +kernel)
theorem sg_40 : strG (RX3, 119, "back") := str_g 465 8 (by decide +kernel) (bt_4 _ (List.mem_of_getElem? (i := 84) (by decide +kernel))) (by decide +kernel)
theorem sg_41 : strG (RX3, 57, "extra") := str_g 473 9 (by decide +kernel) (bt_4 _ (List.mem_of_getElem? (i := 89) (by decide +kernel))) (by decide +kernel)
theorem sg_42 : strG (RX3, 62, "session") := str_g 482 11 (by decide +kernel) (bt_4 _ (List.mem_of_getElem? (i := 98) (by decide +kernel))) (by decide +kernel)
theorem sg_43 : strG (RX3, 67, "hand") := str_g 493 8 (by decide +kernel) (bt_4 _ (List.mem_of_getElem? (i := 103) (by decide +kernel))) (by decide +kernel)
theorem sg_44 : strG (RX3, 139, "black") := str_g 510 9 (by decide +kernel) (bt_4 _ (List.mem_of_getElem? (i := 109) (by decide +kernel))) (by decide +kernel)
theorem sg_45 : strG (RX3, 137, "white") := str_g 501 9 (by decide +kernel) (bt_4 _ (List.mem_of_getElem? (i := 108) (by decide +kernel))) (by decide +kernel)
theorem sg_46 : strG (RX3, 72, "claims") := str_g 519 10 (by decide +kernel) (bt_4 _ (List.mem_of_getElem? (i := 110) (by decide +kernel))) (by decide +kernel)
theorem sg_47 : strG (RL, 47, "period moves ") := str_g 254 17 (by decide +kernel) (bt_2 _ (List.mem_of_getElem? (i := 220) (by decide +kernel))) (by decide +kernel)
theorem sg_48 : strG (RL, 55, " time ") := str_g 271 10 (by decide +kernel) (bt_3 _ (List.mem_of_getElem? (i := 126) (by decide +kernel))) (by decide +kernel)
theorem sg_49 : strG (RL, 57, " bonus ") := str_g 281 11 (by decide +kernel) (bt_3 _ (List.mem_of_getElem? (i := 127) (by decide +kernel))) (by decide +kernel)
theorem sg_50 : strG (RL, 59, " delay ") := str_g 292 11 (by decide +kernel) (bt_3 _ (List.mem_of_getElem? (i := 128) (by decide +kernel))) (by decide +kernel)
theorem sg_51 : strG (RL, 61, " back ") := str_g 303 10 (by decide +kernel) (bt_3 _ (List.mem_of_getElem? (i := 129) (by decide +kernel))) (by decide +kernel)
theorem sg_52 : strG (RL, 63, ";") := str_g 313 5 (by decide +kernel) (bt_3 _ (List.mem_of_getElem? (i := 130) (by decide +kernel))) (by decide +kernel)
theorem sg_53 : strG (RL, 65, "extra ") := str_g 318 10 (by decide +kernel) (bt_3 _ (List.mem_of_getElem? (i := 131) (by decide +kernel))) (by decide +kernel)
theorem sg_54 : strG (RL, 67, "session ") := str_g 328 12 (by decide +kernel) (bt_3 _ (List.mem_of_getElem? (i := 132) (by decide +kernel))) (by decide +kernel)
theorem sg_55 : strG (RL, 69, "hand black ") := str_g 340 15 (by decide +kernel) (bt_3 _ (List.mem_of_getElem? (i := 133) (by decide +kernel))) (by decide +kernel)
theorem sg_56 : strG (RL, 71, "claims;") := str_g 355 11 (by decide +kernel) (bt_3 _ (List.mem_of_getElem? (i := 134) (by decide +kernel))) (by decide +kernel)
theorem str_all : ∀ q ∈ strT, strG q := by
  unfold strT
  exact (List.forall_mem_cons.mpr ⟨sg_0, (List.forall_mem_cons.mpr ⟨sg_1, (List.forall_mem_cons.mpr ⟨sg_2, (List.forall_mem_cons.mpr ⟨sg_3, (List.forall_mem_cons.mpr ⟨sg_4, (List.forall_mem_cons.mpr ⟨sg_5, (List.forall_mem_cons.mpr ⟨sg_6, (List.forall_mem_cons.mpr ⟨sg_7, (List.forall_mem_cons.mpr ⟨sg_8, (List.forall_mem_cons.mpr ⟨sg_9, (List.forall_mem_cons.mpr ⟨sg_10, (List.forall_mem_cons.mpr ⟨sg_11, (List.forall_mem_cons.mpr ⟨sg_12, (List.forall_mem_cons.mpr ⟨sg_13, (List.forall_mem_cons.mpr ⟨sg_14, (List.forall_mem_cons.mpr ⟨sg_15, (List.forall_mem_cons.mpr ⟨sg_16, (List.forall_mem_cons.mpr ⟨sg_17, (List.forall_mem_cons.mpr ⟨sg_18, (List.forall_mem_cons.mpr ⟨sg_19, (List.forall_mem_cons.mpr ⟨sg_20, (List.forall_mem_cons.mpr ⟨sg_21, (List.forall_mem_cons.mpr ⟨sg_22, (List.forall_mem_cons.mpr ⟨sg_23, (List.forall_mem_cons.mpr ⟨sg_24, (List.forall_mem_cons.mpr ⟨sg_25, (List.forall_mem_cons.mpr ⟨sg_26, (List.forall_mem_cons.mpr ⟨sg_27, (List.forall_mem_cons.mpr ⟨sg_28, (List.forall_mem_cons.mpr ⟨sg_29, (List.forall_mem_cons.mpr ⟨sg_30, (List.forall_mem_cons.mpr ⟨sg_31, (List.forall_mem_cons.mpr ⟨sg_32, (List.forall_mem_cons.mpr ⟨sg_33, (List.forall_mem_cons.mpr ⟨sg_34, (List.forall_mem_cons.mpr ⟨sg_35, (List.forall_mem_cons.mpr ⟨sg_36, (List.forall_mem_cons.mpr ⟨sg_37, (List.forall_mem_cons.mpr ⟨sg_38, (List.forall_mem_cons.mpr ⟨sg_39, (List.forall_mem_cons.mpr ⟨sg_40, (List.forall_mem_cons.mpr ⟨sg_41, (List.forall_mem_cons.mpr ⟨sg_42, (List.forall_mem_cons.mpr ⟨sg_43, (List.forall_mem_cons.mpr ⟨sg_44, (List.forall_mem_cons.mpr ⟨sg_45, (List.forall_mem_cons.mpr ⟨sg_46, (List.forall_mem_cons.mpr ⟨sg_47, (List.forall_mem_cons.mpr ⟨sg_48, (List.forall_mem_cons.mpr ⟨sg_49, (List.forall_mem_cons.mpr ⟨sg_50, (List.forall_mem_cons.mpr ⟨sg_51, (List.forall_mem_cons.mpr ⟨sg_52, (List.forall_mem_cons.mpr ⟨sg_53, (List.forall_mem_cons.mpr ⟨sg_54, (List.forall_mem_cons.mpr ⟨sg_55, (List.forall_mem_cons.mpr ⟨sg_56, (fun _ h => absurd h List.not_mem_nil)⟩)⟩)⟩)⟩)⟩)⟩)⟩)⟩)⟩)⟩)⟩)⟩)⟩)⟩)⟩)⟩)⟩)⟩)⟩)⟩)⟩)⟩)⟩)⟩)⟩)⟩)⟩)⟩)⟩)⟩)⟩)⟩)⟩)⟩)⟩)⟩)⟩)⟩)⟩)⟩)⟩)⟩)⟩)⟩)⟩)⟩)⟩)⟩)⟩)⟩)⟩)⟩)⟩)⟩)⟩)⟩)⟩)
theorem ns_0 : Cond.methodLinkNest RX8 9 yX3_init "GameClock" ∈ lw_tbl := (bt_1 _ (List.mem_of_getElem? (i := 38) (by decide +kernel)))
theorem ns_1 : Cond.methodLinkNest RX3 11 yX0_init "GameClock" ∈ lw_tbl := (bt_1 _ (List.mem_of_getElem? (i := 44) (by decide +kernel)))
theorem ns_2 : Cond.methodLinkNest RX3 20 yX4_init "GameClock" ∈ lw_tbl := (bt_1 _ (List.mem_of_getElem? (i := 60) (by decide +kernel)))
theorem ns_3 : Cond.methodLinkNest RX8 23 yX2_init "GameClock" ∈ lw_tbl := (bt_1 _ (List.mem_of_getElem? (i := 136) (by decide +kernel)))
theorem ns_4 : Cond.methodLinkNest RX6 11 yX4_init "GameClock" ∈ lw_tbl := (bt_1 _ (List.mem_of_getElem? (i := 153) (by decide +kernel)))
theorem ns_5 : Cond.methodLinkNest RX6 20 yX1_init "GameClock" ∈ lw_tbl := (bt_1 _ (List.mem_of_getElem? (i := 156) (by decide +kernel)))
theorem ns_6 : Cond.methodLinkNest RX6 27 yX5_init "GameClock" ∈ lw_tbl := (bt_1 _ (List.mem_of_getElem? (i := 173) (by decide +kernel)))
theorem ns_7 : Cond.methodLinkNest RX4 38 yX8_setNumberAt "GameClock" ∈ lw_tbl := (bt_1 _ (List.mem_of_getElem? (i := 238) (by decide +kernel)))
theorem ns_8 : Cond.methodLinkNest RX8 37 yX7_init "GameClock" ∈ lw_tbl := (bt_2 _ (List.mem_of_getElem? (i := 61) (by decide +kernel)))
theorem ns_9 : Cond.methodLinkNest RX7 11 yX5_init "GameClock" ∈ lw_tbl := (bt_2 _ (List.mem_of_getElem? (i := 66) (by decide +kernel)))
theorem ns_10 : Cond.methodLinkNest RX4 34 yX8_copyRow "GameClock" ∈ lw_tbl := (bt_4 _ (List.mem_of_getElem? (i := 130) (by decide +kernel)))
theorem ns_11 : Cond.methodLinkNest RX1 22 yX8_copyRow "GameClock" ∈ lw_tbl := (bt_4 _ (List.mem_of_getElem? (i := 139) (by decide +kernel)))
theorem ns_12 : Cond.methodLinkNest RX5 66 yX8_copyRow "GameClock" ∈ lw_tbl := (bt_4 _ (List.mem_of_getElem? (i := 144) (by decide +kernel)))
theorem ns_13 : Cond.methodLinkNest RX1 36 yX8_numberAt "GameClock" ∈ lw_tbl := (bt_5 _ (List.mem_of_getElem? (i := 158) (by decide +kernel)))
theorem ns_14 : Cond.methodLinkNest RX5 89 yX8_numberAt "GameClock" ∈ lw_tbl := (bt_4 _ (List.mem_of_getElem? (i := 238) (by decide +kernel)))
theorem ns_15 : Cond.methodLinkNest RX5 93 yX8_setNumberAt "GameClock" ∈ lw_tbl := (bt_5 _ (List.mem_of_getElem? (i := 1) (by decide +kernel)))
theorem ns_16 : Cond.methodLinkNest RX8 9 yX3_init "GameClock" ∈ lw_tbl := (bt_1 _ (List.mem_of_getElem? (i := 38) (by decide +kernel)))
theorem ns_17 : Cond.methodLinkNest RX6 88 yX8_other "GameClock" ∈ lw_tbl := (bt_5 _ (List.mem_of_getElem? (i := 14) (by decide +kernel)))
theorem ns_18 : Cond.methodLinkNest RX1 32 yX8_setNumberAt "GameClock" ∈ lw_tbl := (bt_5 _ (List.mem_of_getElem? (i := 57) (by decide +kernel)))
theorem nest_all : ∀ q ∈ nestT, Cond.methodLinkNest q.1 q.2.1 q.2.2 "GameClock" ∈ lw_tbl := by
  unfold nestT
  exact (List.forall_mem_cons.mpr ⟨ns_0, (List.forall_mem_cons.mpr ⟨ns_1, (List.forall_mem_cons.mpr ⟨ns_2, (List.forall_mem_cons.mpr ⟨ns_3, (List.forall_mem_cons.mpr ⟨ns_4, (List.forall_mem_cons.mpr ⟨ns_5, (List.forall_mem_cons.mpr ⟨ns_6, (List.forall_mem_cons.mpr ⟨ns_7, (List.forall_mem_cons.mpr ⟨ns_8, (List.forall_mem_cons.mpr ⟨ns_9, (List.forall_mem_cons.mpr ⟨ns_10, (List.forall_mem_cons.mpr ⟨ns_11, (List.forall_mem_cons.mpr ⟨ns_12, (List.forall_mem_cons.mpr ⟨ns_13, (List.forall_mem_cons.mpr ⟨ns_14, (List.forall_mem_cons.mpr ⟨ns_15, (List.forall_mem_cons.mpr ⟨ns_16, (List.forall_mem_cons.mpr ⟨ns_17, (List.forall_mem_cons.mpr ⟨ns_18, (fun _ h => absurd h List.not_mem_nil)⟩)⟩)⟩)⟩)⟩)⟩)⟩)⟩)⟩)⟩)⟩)⟩)⟩)⟩)⟩)⟩)⟩)⟩)⟩)
theorem cs_0 : Cond.castable "java/lang/IllegalArgumentException" "java/lang/IllegalArgumentException" ∈ lw_tbl := (bt_2 _ (List.mem_of_getElem? (i := 117) (by decide +kernel)))
theorem cs_1 : Cond.castable "[B" "java/lang/Cloneable" ∈ lw_tbl := (bt_3 _ (List.mem_of_getElem? (i := 19) (by decide +kernel)))
theorem cs_2 : Cond.castable "java/lang/IllegalStateException" "java/lang/IllegalStateException" ∈ lw_tbl := (bt_3 _ (List.mem_of_getElem? (i := 232) (by decide +kernel)))
theorem cs_3 : Cond.castable "java/lang/IndexOutOfBoundsException" "java/lang/IndexOutOfBoundsException" ∈ lw_tbl := (bt_4 _ (List.mem_of_getElem? (i := 171) (by decide +kernel)))
theorem cast_all : ∀ q ∈ castT, Cond.castable q.1 q.2 ∈ lw_tbl := by
  unfold castT
  exact (List.forall_mem_cons.mpr ⟨cs_0, (List.forall_mem_cons.mpr ⟨cs_1, (List.forall_mem_cons.mpr ⟨cs_2, (List.forall_mem_cons.mpr ⟨cs_3, (fun _ h => absurd h List.not_mem_nil)⟩)⟩)⟩)⟩)
theorem dl_0 : Cond.declares ⟨"java/lang/RuntimeException", "<init>", "()V"⟩ ∈ lw_tbl := (bt_2 _ (List.mem_of_getElem? (i := 118) (by decide +kernel)))
theorem dl_1 : Cond.declares ⟨"java/lang/RuntimeException", "<init>", "(Ljava/lang/String;)V"⟩ ∈ lw_tbl := (bt_2 _ (List.mem_of_getElem? (i := 119) (by decide +kernel)))
theorem dl_2 : Cond.declares ⟨"java/lang/Exception", "<init>", "()V"⟩ ∈ lw_tbl := (bt_2 _ (List.mem_of_getElem? (i := 120) (by decide +kernel)))
theorem dl_3 : Cond.declares ⟨"java/lang/Exception", "<init>", "(Ljava/lang/String;)V"⟩ ∈ lw_tbl := (bt_2 _ (List.mem_of_getElem? (i := 121) (by decide +kernel)))
theorem dl_4 : Cond.declares ⟨"java/lang/Throwable", "<init>", "()V"⟩ ∈ lw_tbl := (bt_2 _ (List.mem_of_getElem? (i := 122) (by decide +kernel)))
theorem dl_5 : Cond.declares ⟨"java/lang/Throwable", "<init>", "(Ljava/lang/String;)V"⟩ ∈ lw_tbl := (bt_2 _ (List.mem_of_getElem? (i := 123) (by decide +kernel)))
theorem decl_all : ∀ q ∈ declT, Cond.declares q ∈ lw_tbl := by
  unfold declT
  exact (List.forall_mem_cons.mpr ⟨dl_0, (List.forall_mem_cons.mpr ⟨dl_1, (List.forall_mem_cons.mpr ⟨dl_2, (List.forall_mem_cons.mpr ⟨dl_3, (List.forall_mem_cons.mpr ⟨dl_4, (List.forall_mem_cons.mpr ⟨dl_5, (fun _ h => absurd h List.not_mem_nil)⟩)⟩)⟩)⟩)⟩)⟩)
theorem ncw_0 : Cond.not (.castable "java/lang/IllegalArgumentException" "java/lang/IllegalStateException") ∈ flatC nwT := (nw_in (List.mem_of_getElem? (i := 228) (by decide +kernel)))
theorem ncw_1 : Cond.not (.castable "java/lang/IndexOutOfBoundsException" "java/lang/IllegalStateException") ∈ flatC nwT := (nw_in (List.mem_of_getElem? (i := 229) (by decide +kernel)))
theorem nc_all : ∀ q ∈ ncT, Cond.not (.castable q.1 q.2) ∈ flatC nwT := by
  unfold ncT
  exact (List.forall_mem_cons.mpr ⟨ncw_0, (List.forall_mem_cons.mpr ⟨ncw_1, (fun _ h => absurd h List.not_mem_nil)⟩)⟩)
theorem str_of {args : Array Value} {s : State} {A : Nat → Prop} {own tx : String} {k : Nat} (hlen : tx.toList.length < 2 ^ 31) (hr : (Cond.stringRef own k tx).before args s = true) (hw : ∀ w ∈ strWg own tx k, w.before args s = true) (hA : ∀ a : Nat, a < s.heap.size → ¬ A a) : ∃ a v : Nat, vk_R own k tx a s ∧ va_O "java/lang/String" a A s s.heap ∧ va_OF "java/lang/String" "coder" "B" (.int 0) a A s s.heap ∧ va_OF "java/lang/String" "value" "[B" (.ref v) a A s s.heap ∧ va_T .byte v tx.toList.length (fun j => .int (nI ((tx.toList.getD j 'a').toNat))) A s s.heap := by
  have hex := hw (.exactly (.string own k) "java/lang/String") List.mem_cons_self
  have hco := hw (.eq (.field (.string own k) "java/lang/String" "coder" "B") (.int 0)) (List.mem_cons_of_mem _ List.mem_cons_self)
  have har := hw (.arrayOf (.field (.string own k) "java/lang/String" "value" "[B") .byte) (List.mem_cons_of_mem _ (List.mem_cons_of_mem _ List.mem_cons_self))
  have hle := hw (.eq (.length (.field (.string own k) "java/lang/String" "value" "[B")) (.int (Int32.ofNat tx.toList.length))) (List.mem_cons_of_mem _ (List.mem_cons_of_mem _ (List.mem_cons_of_mem _ List.mem_cons_self)))
  have hel : ∀ j : Nat, j < tx.toList.length → (Cond.eq (.elem (.field (.string own k) "java/lang/String" "value" "[B") (.int (Int32.ofNat j))) (.int (nI (tx.toList.getD j 'a').toNat))).before args s = true := fun j hj => hw _ (List.mem_cons_of_mem _ (List.mem_cons_of_mem _ (List.mem_cons_of_mem _ (List.mem_cons_of_mem _ (List.mem_map.mpr ⟨j, List.mem_range.mpr hj, rfl⟩)))))
  obtain ⟨a, c, cA, kA, q1, q2, q3, q4, q5, q6, -⟩ := Cond.exactly_spec (args := args) (first := s) (o := none) (s := s) (idx := []) (t := .string own k) (cls := "java/lang/String") hex
  obtain ⟨t, ht, hT⟩ := va_Tof (f := fun j => .int (nI ((tx.toList.getD j 'a').toNat))) (A := A) hlen har (va_eqt hle) (fun j hj => va_eqt (hel j hj)) hA
  exact ⟨a, t, vk_R.of hr q1, ⟨cA, q3, q5, by rw [q6]; exact q2, hA a (Array.getElem?_eq_some_iff.mp q3).1⟩, vk_OFof q1 (va_eqt hco) hA, vk_OFof q1 ht hA, hT⟩
theorem arr_i {args : Array Value} {s : State} (h : (Cond.arrayClass .int).before args s = true) : ∃ cA : ClassId, ArrOfT s cA .int ∧ va_RA s cA .int := by
  obtain ⟨c, k, comp, h1, h2, h3⟩ := Cond.arrayClass_spec h
  exact ⟨c, fun n z => ⟨(fun k h => by cases h), k, h2, comp, h3⟩, h1⟩
theorem arr_b {args : Array Value} {s : State} (h : (Cond.arrayClass .byte).before args s = true) : ∃ cA : ClassId, ArrOfT s cA .byte ∧ va_RA s cA .byte := by
  obtain ⟨c, k, comp, h1, h2, h3⟩ := Cond.arrayClass_spec h
  exact ⟨c, fun n z => ⟨(fun k h => by cases h), k, h2, comp, h3⟩, h1⟩
theorem arr_z {args : Array Value} {s : State} (h : (Cond.arrayClass .boolean).before args s = true) : ∃ cA : ClassId, ArrOfT s cA .boolean ∧ va_RA s cA .boolean := by
  obtain ⟨c, k, comp, h1, h2, h3⟩ := Cond.arrayClass_spec h
  exact ⟨c, fun n z => ⟨(fun k h => by cases h), k, h2, comp, h3⟩, h1⟩
theorem arr_l {args : Array Value} {s : State} (h : (Cond.arrayClass .long).before args s = true) : ∃ cA : ClassId, ArrOfT s cA .long ∧ va_RA s cA .long := by
  obtain ⟨c, k, comp, h1, h2, h3⟩ := Cond.arrayClass_spec h
  exact ⟨c, fun n z => ⟨(fun k h => by cases h), k, h2, comp, h3⟩, h1⟩
theorem arr_d {args : Array Value} {s : State} (h : (Cond.arrayClass .double).before args s = true) : ∃ cA : ClassId, ArrOfT s cA .double ∧ va_RA s cA .double := by
  obtain ⟨c, k, comp, h1, h2, h3⟩ := Cond.arrayClass_spec h
  exact ⟨c, fun n z => ⟨(fun k h => by cases h), k, h2, comp, h3⟩, h1⟩
theorem arr_o {C : String} {s : State} (h : va_AO C s) : ∃ cA : ClassId, ArrOfT s cA (.object C) ∧ va_RA s cA (.object C) := by
  obtain ⟨comp, c, k, h1, h2, h3, h4, h5⟩ := Cond.arrayOver_spec h
  exact ⟨c, fun N z => ⟨(fun k h => by cases h), k, h3, comp, h4⟩, k, comp, h3, h4, h1, h5⟩
theorem start_K {args : Array Value} {s : State} (hw : ∀ w ∈ BIG, w.before args s = true) (hAO : va_AO "GameClock$State" s) : ∃ (D : va_G) (tc : Nat → ClassId), va_K D vwCl (tysOf tc) s := by
  obtain ⟨c0, i0, K0⟩ := u_known (C := RX0) (T := TX0) (N := 2) (n := 2) hw cw_X0 (hw _ is_X0)
  obtain ⟨c1, i1, K1⟩ := u_known (C := RX1) (T := TX1) (N := 3) (n := 3) hw cw_X1 (hw _ is_X1)
  obtain ⟨c2, i2, K2⟩ := u_known (C := RX2) (T := TX2) (N := 2) (n := 2) hw cw_X2 (hw _ is_X2)
  obtain ⟨c3, i3, K3⟩ := u_known (C := RX3) (T := TX3) (N := 11) (n := 11) hw cw_X3 (hw _ is_X3)
  obtain ⟨c4, i4, K4⟩ := u_known (C := RX4) (T := TX4) (N := 5) (n := 5) hw cw_X4 (hw _ is_X4)
  obtain ⟨c5, i5, K5⟩ := u_known (C := RX5) (T := TX5) (N := 13) (n := 13) hw cw_X5 (hw _ is_X5)
  obtain ⟨c6, i6, K6⟩ := u_known (C := RX6) (T := TX6) (N := 12) (n := 12) hw cw_X6 (hw _ is_X6)
  obtain ⟨c7, i7, K7⟩ := u_known (C := RX7) (T := TX7) (N := 6) (n := 6) hw cw_X7 (hw _ is_X7)
  obtain ⟨c8, i8, K8⟩ := u_known (C := RX8) (T := TX8) (N := 9) (n := 9) hw cw_X8 (hw _ is_X8)
  obtain ⟨c9, i9, K9⟩ := u_known (C := RJ0) (T := TJ0) (N := 4) (n := 4) hw cw_J0 (hw _ is_J0)
  obtain ⟨c10, i10, K10⟩ := u_known (C := RJ4) (T := TJ4) (N := 4) (n := 4) hw cw_J4 (hw _ is_J4)
  obtain ⟨t0, A0, B0⟩ := arr_i (hw _ ac_int)
  obtain ⟨t1, A1, B1⟩ := arr_b (hw _ ac_byte)
  obtain ⟨t2, A2, B2⟩ := arr_o (hAO)
  refine ⟨(fun k => if k = 0 then c0 else if k = 1 then c1 else if k = 2 then c2 else if k = 3 then c3 else if k = 4 then c4 else if k = 5 then c5 else if k = 6 then c6 else if k = 7 then c7 else if k = 8 then c8 else if k = 9 then c9 else c10, fun k => if k = 0 then i0 else if k = 1 then i1 else if k = 2 then i2 else if k = 3 then i3 else if k = 4 then i4 else if k = 5 then i5 else if k = 6 then i6 else if k = 7 then i7 else if k = 8 then i8 else if k = 9 then i9 else i10), fun k => if k = 0 then t0 else if k = 1 then t1 else t2, fun k q hq => ?_, fun k q hq => ?_⟩
  · match k, hq with
    | 0, hq => cases hq; exact K0
    | 1, hq => cases hq; exact K1
    | 2, hq => cases hq; exact K2
    | 3, hq => cases hq; exact K3
    | 4, hq => cases hq; exact K4
    | 5, hq => cases hq; exact K5
    | 6, hq => cases hq; exact K6
    | 7, hq => cases hq; exact K7
    | 8, hq => cases hq; exact K8
    | 9, hq => cases hq; exact K9
    | 10, hq => cases hq; exact K10
    | k + 11, hq => simp [vwCl] at hq
  · match k, hq with
    | 0, hq => cases hq; exact ⟨A0, B0⟩
    | 1, hq => cases hq; exact ⟨A1, B1⟩
    | 2, hq => cases hq; exact ⟨A0, B0⟩
    | 3, hq => cases hq; exact ⟨A0, B0⟩
    | 4, hq => cases hq; exact ⟨A0, B0⟩
    | 5, hq => cases hq; exact ⟨A2, B2⟩
    | k + 6, hq => simp [tysOf] at hq
theorem start_AO {args : Array Value} {s : State} (hts : ∀ w ∈ lw_tbl, w.before args s = true) : va_AO "GameClock$State" s := hts (.arrayOver (.object "GameClock$State")) (bt_2 _ (List.mem_of_getElem? (i := 82) (by decide +kernel)))
theorem i_back (x : Int32) : Int32.ofNat x.toBitVec.toNat = x := Int32.toBitVec.inj (by
  show BitVec.ofNat 32 x.toBitVec.toNat = x.toBitVec
  rw [BitVec.ofNat_toNat]
  simp)
def digW (nm : String) (f : Nat → Int32) : List Cond :=
  .arrayOf (.static "java/lang/Integer" nm "[B") .byte :: .eq (.length (.static "java/lang/Integer" nm "[B")) (.int 100) :: (List.range 100).map (fun j => .eq (.elem (.static "java/lang/Integer" nm "[B") (.int (Int32.ofNat j))) (.int (f j)))
theorem dig_1 : ((flg2 nwT []).drop 12).take 102 = digW "DigitOnes" dgO := by decide +kernel
theorem dig_2 : ((flg2 nwT []).drop 115).take 102 = digW "DigitTens" dgT := by decide +kernel
theorem dig_of {args : Array Value} {s : State} {A : Nat → Prop} {nm : String} {f : Nat → Int32} (hlay : (Cond.laysStatic "java/lang/Integer" nm "[B").before args s = true) (hini : (Cond.initialized "java/lang/Integer").before args s = true) (hw : ∀ w ∈ digW nm f, w.before args s = true) (hA : ∀ a : Nat, a < s.heap.size → ¬ A a) : ∃ t : Nat, va_Z "java/lang/Integer" nm "[B" (.ref t) A s s.heap ∧ va_T .byte t 100 (fun j => .int (f j)) A s s.heap := by
  have har := hw (.arrayOf (.static "java/lang/Integer" nm "[B") .byte) List.mem_cons_self
  have hle := hw (.eq (.length (.static "java/lang/Integer" nm "[B")) (.int 100)) (List.mem_cons_of_mem _ List.mem_cons_self)
  have hel : ∀ j : Nat, j < 100 → (Cond.eq (.elem (.static "java/lang/Integer" nm "[B") (.int (Int32.ofNat j))) (.int (f j))).before args s = true := fun j hj => hw _ (List.mem_cons_of_mem _ (List.mem_cons_of_mem _ (List.mem_map.mpr ⟨j, List.mem_range.mpr hj, rfl⟩)))
  obtain ⟨t, ht, hT⟩ := va_Tof (N := 100) (f := fun j => .int (f j)) (A := A) (by decide) har (va_eqt hle) (fun j hj => va_eqt (hel j hj)) hA
  exact ⟨t, va_Zof hlay hini ht hA, hT⟩
theorem start_E {args : Array Value} {s : State} {A : Nat → Prop} (hts : ∀ w ∈ lw_tbl, w.before args s = true) (hgv : nwT.before args s = true) (hA : ∀ a : Nat, a < s.heap.size → ¬ A a) {b L : Nat} {xs : Nat → Int32} (hX : va_X b L xs s s.heap) (hbl : b < s.heap.size) : ∃ adS adV : Nat → Nat, Evn adS adV A s s.heap ∧ adS 100 = b ∧ adV 100 = L := by
  have hs := flat_of_before nwT hgv
  have h0 : ∀ i : Nat, ∃ z : Nat × Nat, ∀ q : String × Nat × String, strT[i]? = some q → vk_R q.1 q.2.1 q.2.2 z.1 s ∧ va_O "java/lang/String" z.1 A s s.heap ∧ va_OF "java/lang/String" "coder" "B" (.int 0) z.1 A s s.heap ∧ va_OF "java/lang/String" "value" "[B" (.ref z.2) z.1 A s s.heap ∧ va_T .byte z.2 q.2.2.toList.length (fun j => .int (nI ((q.2.2.toList.getD j 'a').toNat))) A s s.heap := by
    intro i
    cases hq : strT[i]? with
    | none => exact ⟨(0, 0), fun q h => by cases h⟩
    | some q =>
      obtain ⟨g1, g2, g3⟩ := str_all q (List.mem_of_getElem? hq)
      obtain ⟨a, v, h⟩ := str_of (A := A) g1 (hts _ g2) (fun w h => hs w (nw_in (g3 w h))) hA
      exact ⟨(a, v), fun q' h' => by cases h'; exact h⟩
  obtain ⟨ad9, had⟩ := Classical.axiomOfChoice h0
  obtain ⟨d1, Z1, T1⟩ := dig_of (A := A) (nm := "DigitOnes") (f := dgO) (hts _ (bt_3 _ (List.mem_of_getElem? (i := 115) (by decide +kernel)))) (hts _ (bt_1 _ (List.mem_of_getElem? (i := 21) (by decide +kernel)))) (fun w h => hs w (nw_in (by rw [← dig_1] at h; exact List.mem_of_mem_drop (List.mem_of_mem_take h)))) hA
  obtain ⟨d2, Z2, T2⟩ := dig_of (A := A) (nm := "DigitTens") (f := dgT) (hts _ (bt_3 _ (List.mem_of_getElem? (i := 117) (by decide +kernel)))) (hts _ (bt_1 _ (List.mem_of_getElem? (i := 21) (by decide +kernel)))) (fun w h => hs w (nw_in (by rw [← dig_2] at h; exact List.mem_of_mem_drop (List.mem_of_mem_take h)))) hA
  refine ⟨fun i => if i = 100 then b else if i = 103 then d1 else if i = 104 then d2 else (ad9 i).1, fun i => if 1000 ≤ i then (xs (i - 1000)).toBitVec.toNat else if i = 100 then L else if i = 101 then 0 else (ad9 i).2, ⟨?_, ?_, ?_, ?_, fun q hq => va_Nw.of rfl (hts _ (nest_all q hq)), fun q hq => va_Nw.of rfl (hts _ (cast_all q hq)), fun q hq => va_Nc.of (hs _ (nc_all q hq)), fun i q hq => ?_, fun q hq => va_Nw.of rfl (hts _ (decl_all q hq)), start_AO hts, ?_, Z1, T1, Z2, T2, fun h => absurd (show (0 : Nat) = 1 from h) (by decide)⟩, rfl, rfl⟩
  · exact vx_Zqof (hts _ (bt_2 _ (List.mem_of_getElem? (i := 142) (by decide +kernel)))) (hts _ (bt_1 _ (List.mem_of_getElem? (i := 22) (by decide +kernel)))) (hs _ (nw_in (List.mem_of_getElem? (i := 4) (by decide +kernel)))) hA
  · exact vx_Zqof (hts _ (bt_2 _ (List.mem_of_getElem? (i := 144) (by decide +kernel)))) (hts _ (bt_1 _ (List.mem_of_getElem? (i := 22) (by decide +kernel)))) (hs _ (nw_in (List.mem_of_getElem? (i := 5) (by decide +kernel)))) hA
  · exact va_Zof (hts _ (bt_2 _ (List.mem_of_getElem? (i := 199) (by decide +kernel)))) (hts _ (bt_1 _ (List.mem_of_getElem? (i := 13) (by decide +kernel)))) (va_eqi (hs _ (nw_in (List.mem_of_getElem? (i := 6) (by decide +kernel))))) hA
  · exact va_Zqof (hts _ (bt_3 _ (List.mem_of_getElem? (i := 45) (by decide +kernel)))) (hts _ (bt_1 _ (List.mem_of_getElem? (i := 18) (by decide +kernel)))) (hs _ (nw_in (List.mem_of_getElem? (i := 7) (by decide +kernel)))) hA
  · have hi : i < 57 := (List.getElem?_eq_some_iff.mp hq).1
    have e1 : (if i = 100 then b else if i = 103 then d1 else if i = 104 then d2 else (ad9 i).1) = (ad9 i).1 := by rw [if_neg (by omega), if_neg (by omega), if_neg (by omega)]
    have e2 : (if 1000 ≤ i then (xs (i - 1000)).toBitVec.toNat else if i = 100 then L else if i = 101 then 0 else (ad9 i).2) = (ad9 i).2 := by rw [if_neg (by omega), if_neg (by omega), if_neg (by omega)]
    unfold strOK
    dsimp only
    rw [e1, e2]
    exact had i q hq
  · obtain ⟨scr, h1, h2, h3, h4, h5⟩ := hX
    refine ⟨scr, h1, h2, h3, Nat.le_of_eq h4.symm, by rw [h4]; rfl, fun j hj => ?_, hA b hbl⟩
    rw [h5 j hj]
    have e1 : (if 1000 ≤ 1000 + j then (xs (1000 + j - 1000)).toBitVec.toNat else if 1000 + j = 100 then L else if 1000 + j = 101 then 0 else (ad9 (1000 + j)).2) = (xs j).toBitVec.toNat := by rw [if_pos (by omega), Nat.add_sub_cancel_left]
    show _ = some (Value.int (Int32.ofNat (if 1000 ≤ 1000 + j then (xs (1000 + j - 1000)).toBitVec.toNat else if 1000 + j = 100 then L else if 1000 + j = 101 then 0 else (ad9 (1000 + j)).2)))
    rw [e1, i_back]
