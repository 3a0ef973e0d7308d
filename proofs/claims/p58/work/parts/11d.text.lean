/-! the builder: numbers, the text made -/
theorem numW_lt {g : Nat → Int32} {x idx j : Nat} (hj : j + dlen x < idx) : numW g x idx j = g j := by
  unfold dlen at hj
  unfold numW
  split
  · rename_i h; rw [if_pos h] at hj; unfold upd; rw [if_neg (by omega)]
  · rename_i h; rw [if_neg h] at hj; unfold upd; rw [if_neg (by omega), if_neg (by omega)]
theorem numW_at {g : Nat → Int32} {x n j : Nat} (hj : j < dlen x) : numW g x (n + dlen x) (n + j) = nI ((numT x).getD j 0) := by
  unfold dlen at hj ⊢
  unfold numW numT
  by_cases h : x < 10
  · rw [if_pos h] at hj ⊢
    rw [if_pos h, if_pos h]
    have e : j = 0 := by omega
    subst e
    unfold upd dgO
    rw [if_pos (by omega), Nat.mod_eq_of_lt h]
    rfl
  · rw [if_neg h] at hj ⊢
    rw [if_neg h, if_neg h]
    unfold upd dgO dgT
    by_cases e : j = 0
    · subst e
      rw [if_pos (by omega)]
      rfl
    · have e : j = 1 := by omega
      subst e
      rw [if_neg (by omega), if_pos (by omega)]
      rfl
set_option maxRecDepth 100000 in
set_option maxHeartbeats 4000000 in
theorem c_asbInt {l : Launch} (hl : l.stackTraces = false) {G : GG} {L : List Nat} {f : Nat → va_E} {B : List Nat} {h : Nat → va_E} {q : Nat} {t : List Nat} {m0 : Nat} (hS : SBW G B h q t m0 L f) {x : Nat} (hx : x < 100) (hm : t.length + 2 ≤ 400) : Ct l G yJ5_append_c97b9 (.code yJ5_append_c97b9 cJ5_append_c97b9 4 (some (.object "java/lang/AbstractStringBuilder"))) 4 112 1 802 [.ref q, .int (nI x)] L f px0 (fun r9 L1 f1 => r9 = some (.ref q) ∧ SBW G B h q (t ++ numT x) 0 L1 f1) := by
  have hd2 : dlen x ≤ 2 := by unfold dlen; split <;> omega
  obtain ⟨K0, r0, cap0, g0, e0, hB0, hq0, hqB0, hr0, hrB0, hf0, hfr0, hn0, hm00, hcap0, hfit0, hget0⟩ := id hS
  refine Ct.ofq (own := RJ5) hl rfl (by decide) [some (.ref q), some (.int (nI x)), none, none] rfl (Nat.le_of_ble_eq_true rfl) ?_
  intro p e s m below meth c A ar Q hQ X
  have hE := X.2.2.2.2.2.2.2.2.2.1
  refine j_aload_n X (i := 0) dJ5_append_c97b9_0 rfl rfl ?_
  refine j_getf X 10 3 rfl cw_J4 fl_J5_79 (by decide) dJ5_append_c97b9_1 hq0 hf0 rfl ?_
  refine j_istore_n X (i := 2) dJ5_append_c97b9_4 rfl (by decide) (by first | exact lvOK_0 | exact lvOK_s rfl okPrev_none | exact lvOK_s rfl okPrev_int | exact lvOK_s rfl okPrev_ref | exact lvOK_s rfl okPrev_null) ?_
  dsimp only [List.set]
  refine j_iload_n X (i := 2) dJ5_append_c97b9_5 rfl rfl ?_
  refine j_iload_n X (i := 1) dJ5_append_c97b9_6 rfl rfl ?_
  refine j_callS1 X (c_strSize hl hx) ml_J5_245 st_yJ6_stringSize_0f7a4 in_J6 cd_yJ6_stringSize_0f7a4 hz_yJ6_stringSize_0f7a4 dJ5_append_c97b9_7 ⟨(by decide), (by decide)⟩ ⟨(by decide), (by decide)⟩ (Nat.le_of_ble_eq_true rfl) (fun _ h => h.elim) (fun r9 L9 f9 h9 => ?_)
  obtain ⟨h91, h92, h93⟩ := h9
  subst r9
  subst f9
  subst L9
  dsimp only [Option.toList, List.cons_append, List.nil_append, List.append]
  refine j_iadd X dJ5_append_c97b9_10 ?_
  rw [nI_add]
  refine j_istore_n X (i := 3) dJ5_append_c97b9_11 rfl (by decide) (by first | exact lvOK_0 | exact lvOK_s rfl okPrev_none | exact lvOK_s rfl okPrev_int | exact lvOK_s rfl okPrev_ref | exact lvOK_s rfl okPrev_null) ?_
  dsimp only [List.set]
  refine j_aload_n X (i := 0) dJ5_append_c97b9_12 rfl rfl ?_
  refine j_iload_n X (i := 3) dJ5_append_c97b9_13 rfl rfl ?_
  refine j_callU1 X 10 (c_ensure hl hS (m1 := t.length + dlen x) (by omega)) ml_J5_100 sm_yJ5_ensureCapacityInternal_d00df se4_yJ5_ensureCapacityInternal_d00df im_yJ5_ensureCapacityInternal_d00df in_J5 cd_yJ5_ensureCapacityInternal_d00df hz_yJ5_ensureCapacityInternal_d00df hq0 hf0 rfl dJ5_append_c97b9_14 ⟨(by decide), (by decide)⟩ ⟨(by decide), (by decide)⟩ (Nat.le_of_ble_eq_true rfl) (fun r9 L9 f9 h9 => ?_)
  obtain ⟨rfl, K, r, cap, g, rfl, hB, hq, hqB, hr, hrB, hf, hfr, hn, hm0, hcap, hfit, hget⟩ := h9
  dsimp only [Option.toList, List.cons_append, List.nil_append, List.append]
  refine j_aload_n X (i := 0) dJ5_append_c97b9_17 rfl rfl ?_
  refine j_callU0 X 10 (c_sbLatin hl hq hf) ml_J5_83 sm_yJ5_isLatin1_aae02 se4_yJ5_isLatin1_aae02 im_yJ5_isLatin1_aae02 in_J5 cd_yJ5_isLatin1_aae02 hz_yJ5_isLatin1_aae02 hq hf rfl dJ5_append_c97b9_18 ⟨(by decide), (by decide)⟩ ⟨(by decide), (by decide)⟩ (Nat.le_of_ble_eq_true rfl) (fun r9 L9 f9 h9 => ?_)
  obtain ⟨h91, h92, h93⟩ := h9
  subst r9
  subst f9
  subst L9
  dsimp only [Option.toList, List.cons_append, List.nil_append, List.append]
  refine j_if_eq X (tgt := 37) dJ5_append_c97b9_21 (by decide) (fun h => absurd h (by decide)) (fun _ => ?_)
  refine j_iload_n X (i := 1) dJ5_append_c97b9_24 rfl rfl ?_
  refine j_iload_n X (i := 3) dJ5_append_c97b9_25 rfl rfl ?_
  refine j_aload_n X (i := 0) dJ5_append_c97b9_26 rfl rfl ?_
  refine j_getf X 10 0 rfl cw_J4 fl_J5_15 (by decide) dJ5_append_c97b9_27 hq hf rfl ?_
  refine j_callS3 X (c_getChars hl hx (by omega) hm0 hcap hr hfr) ml_J5_248 st_yJ6_getChars_ba4f3 in_J6 cd_yJ6_getChars_ba4f3 hz_yJ6_getChars_ba4f3 dJ5_append_c97b9_30 ⟨(by decide), (by decide)⟩ ⟨(by decide), (by decide)⟩ (Nat.le_of_ble_eq_true rfl) (fun _ h => h.elim) (fun r9 L9 f9 h9 => ?_)
  obtain ⟨rfl, ⟨v9, rfl⟩, rfl⟩ := h9
  dsimp only [Option.toList, List.cons_append, List.nil_append, List.append]
  refine j_popv X dJ5_append_c97b9_33 ?_
  refine j_goto X (tgt := 48) dJ5_append_c97b9_34 (by decide) ?_
  have n_qr : q ≠ r := sb_ne hf hfr
  refine j_aload_n X (i := 0) dJ5_append_c97b9_48 rfl rfl ?_
  refine j_iload_n X (i := 3) dJ5_append_c97b9_49 rfl rfl ?_
  refine j_putf X 10 3 rfl cw_J4 tyJ4 tyJ4_ok nmJ4 fl_J5_79 (by decide) rfl dJ5_append_c97b9_50 hq (up_n n_qr hf) rfl rfl (Nat.le_of_ble_eq_true rfl) ?_
  dsimp only [List.set]
  refine j_aload_n X (i := 0) dJ5_append_c97b9_53 rfl rfl ?_
  refine q_aret X hQ dJ5_append_c97b9_54 rfl (Or.inl ⟨_, rfl⟩) ⟨(by decide), (by decide)⟩ ⟨rfl, K, r, cap, numW g x (t.length + dlen x), rfl, fun y hy => up_n (nq_of hqB hy) (up_n (nq_of hrB hy) (hB y hy)), hq, hqB, hr, hrB, ?_, up_n (Ne.symm n_qr) up_s, ?_, by omega, hcap, numW_fit hx hfit, fun j hj => ?_⟩
  · rw [List.length_append, numT_len]
    exact up_s
  · rw [List.length_append, numT_len]
    exact hm0
  · rw [List.length_append, numT_len] at hj
    by_cases h7 : j < t.length
    · rw [numW_lt (by omega), hget j h7, gD_l h7]
    · obtain ⟨k, rfl⟩ := Nat.exists_eq_add_of_le (Nat.le_of_not_lt h7)
      rw [numW_at (by omega), gD_r (by omega), Nat.add_sub_cancel_left]
set_option maxRecDepth 100000 in
set_option maxHeartbeats 4000000 in
theorem c_appI {l : Launch} (hl : l.stackTraces = false) {G : GG} {L : List Nat} {f : Nat → va_E} {B : List Nat} {h : Nat → va_E} {q : Nat} {t : List Nat} {m0 : Nat} (hS : SBW G B h q t m0 L f) {x : Nat} (hx : x < 100) (hm : t.length + 2 ≤ 400) : Ct l G yJ4_append_bf812 (.code yJ4_append_bf812 cJ4_append_bf812 2 (some (.object "java/lang/StringBuilder"))) 5 135 1 802 [.ref q, .int (nI x)] L f px0 (fun r9 L1 f1 => r9 = some (.ref q) ∧ SBW G B h q (t ++ numT x) 0 L1 f1) := by
  obtain ⟨K0, r0, cap0, g0, e0, hB0, hq0, hqB0, hr0, hrB0, hf0, hfr0, hn0, hm00, hcap0, hfit0, hget0⟩ := id hS
  refine Ct.ofq (own := RJ4) hl rfl (by decide) [some (.ref q), some (.int (nI x))] rfl (Nat.le_of_ble_eq_true rfl) ?_
  intro p e s m below meth c A ar Q hQ X
  have hE := X.2.2.2.2.2.2.2.2.2.1
  refine j_aload_n X (i := 0) dJ4_append_bf812_0 rfl rfl ?_
  refine j_iload_n X (i := 1) dJ4_append_bf812_1 rfl rfl ?_
  refine j_callSU1 X 10 (c_asbInt hl hS hx hm) ml_J4_53 sm_yJ5_append_c97b9 sp_J4 im_yJ5_append_c97b9 in_J5 cd_yJ5_append_c97b9 hs_yJ5_append_c97b9 hq0 hf0 rfl dJ4_append_bf812_2 ⟨(by decide), (by decide)⟩ ⟨(by decide), (by decide)⟩ (Nat.le_of_ble_eq_true rfl) (fun r9 L9 f9 h9 => ?_)
  obtain ⟨rfl, h9⟩ := h9
  dsimp only [Option.toList, List.cons_append, List.nil_append, List.append]
  refine j_pop X dJ4_append_bf812_5 rfl ?_
  refine j_aload_n X (i := 0) dJ4_append_bf812_6 rfl rfl ?_
  exact q_aret X hQ dJ4_append_bf812_7 rfl (Or.inl ⟨_, rfl⟩) ⟨(by decide), (by decide)⟩ ⟨rfl, h9⟩
set_option maxRecDepth 100000 in
set_option maxHeartbeats 4000000 in
theorem c_strI2 {l : Launch} (hl : l.stackTraces = false) {G : GG} {L : List Nat} {f : Nat → va_E} {q r n cap w : Nat} {g : Nat → Int32} (hq : q ∈ L) (hf : f q = oSB r (nI n)) (hr : r ∈ L) (hfr : f r = aB G cap g) (hB : ∀ j, fits .byte (.int (g j)) = true) (hn : n ≤ cap) (hc : cap ≤ 802) (hw : w ∈ L) (hfw : f w = .inr (9, df10)) : Ct l G yJ0_init_db425 (.code yJ0_init_db425 cJ0_init_db425 5 none) 3 115 1 802 [.ref w, .ref q, .null] L f px0 (fun r9 L1 f1 => r9 = none ∧ ∃ k1 : Nat, k1 ∉ L ∧ L1 = L ++ [k1] ∧ ∃ g1 : Nat → Int32, (∀ j, j < n → g1 j = g j) ∧ f1 w = oStr k1 ∧ f1 k1 = aB G n g1 ∧ ∀ x, x ≠ k1 → x ≠ w → f1 x = f x) := by
  refine Ct.ofqn (own := RJ0) hl rfl (by decide) [some (.ref w), some (.ref q), some .null, none, none] rfl (Nat.le_of_ble_eq_true rfl) ?_
  intro p e s m below meth c A ar Q hQ hname X
  have hE := X.2.2.2.2.2.2.2.2.2.1
  refine j_aload_n X (i := 0) dJ0_init_db425_0 rfl rfl ?_
  refine j_objInit X ml_J0_1 dJ0_init_db425_1 ⟨(by decide), (Nat.le_of_ble_eq_true rfl)⟩ ?_
  refine j_aload_n X (i := 1) dJ0_init_db425_4 rfl rfl ?_
  refine j_callU0 X 10 (c_sbValue hl hq hf) ml_J0_552 sm_yJ5_getValue_6d5f1 se4_yJ5_getValue_6d5f1 im_yJ5_getValue_6d5f1 in_J5 cd_yJ5_getValue_6d5f1 hz_yJ5_getValue_6d5f1 hq hf rfl dJ0_init_db425_5 ⟨(by decide), (by decide)⟩ ⟨(by decide), (by decide)⟩ (Nat.le_of_ble_eq_true rfl) (fun r9 L9 f9 h9 => ?_)
  obtain ⟨h91, h92, h93⟩ := h9
  subst r9
  subst f9
  subst L9
  dsimp only [Option.toList, List.cons_append, List.nil_append, List.append]
  refine j_astore_n X (i := 3) dJ0_init_db425_8 rfl (by decide) (by first | exact lvOK_0 | exact lvOK_s rfl okPrev_none | exact lvOK_s rfl okPrev_int | exact lvOK_s rfl okPrev_ref | exact lvOK_s rfl okPrev_null) ?_
  dsimp only [List.set]
  refine j_aload_n X (i := 1) dJ0_init_db425_9 rfl rfl ?_
  refine j_callO0 X 10 (c_sbLen hl hq hf) ml_J0_549 sm_yJ5_length_8abf5 se4_yJ5_length_8abf5 im_yJ5_length_8abf5 cd_yJ5_length_8abf5 im_yJ4_length_8abf5 in_J4 cd_yJ4_length_8abf5 hz_yJ5_length_8abf5 hq hf rfl dJ0_init_db425_10 ⟨(by decide), (by decide)⟩ ⟨(by decide), (by decide)⟩ (Nat.le_of_ble_eq_true rfl) (fun r9 L9 f9 h9 => ?_)
  obtain ⟨h91, h92, h93⟩ := h9
  subst r9
  subst f9
  subst L9
  dsimp only [Option.toList, List.cons_append, List.nil_append, List.append]
  refine j_istore X (i := 4) dJ0_init_db425_13 (by decide) (by first | exact lvOK_0 | exact lvOK_s rfl okPrev_none | exact lvOK_s rfl okPrev_int | exact lvOK_s rfl okPrev_ref | exact lvOK_s rfl okPrev_null) ?_
  dsimp only [List.set]
  refine j_aload_n X (i := 1) dJ0_init_db425_15 rfl rfl ?_
  refine j_callU0 X 10 (c_sbLatin hl hq hf) ml_J0_1047 sm_yJ5_isLatin1_aae02 se4_yJ5_isLatin1_aae02 im_yJ5_isLatin1_aae02 in_J5 cd_yJ5_isLatin1_aae02 hz_yJ5_isLatin1_aae02 hq hf rfl dJ0_init_db425_16 ⟨(by decide), (by decide)⟩ ⟨(by decide), (by decide)⟩ (Nat.le_of_ble_eq_true rfl) (fun r9 L9 f9 h9 => ?_)
  obtain ⟨h91, h92, h93⟩ := h9
  subst r9
  subst f9
  subst L9
  dsimp only [Option.toList, List.cons_append, List.nil_append, List.append]
  refine j_if_eq X (tgt := 41) dJ0_init_db425_19 (by decide) (fun h => absurd h (by decide)) (fun _ => ?_)
  refine j_aload_n X (i := 0) dJ0_init_db425_22 rfl rfl ?_
  refine j_iconst X (0) dJ0_init_db425_23 (by decide) ?_
  refine j_putF X 9 1 rfl cw_J0 tyJ0 tyJ0_ok nmJ0 fl_J0_15 (by decide) rfl hname rfl dJ0_init_db425_24 hw hfw rfl rfl (Nat.le_of_ble_eq_true rfl) ?_
  dsimp only [List.set]
  have n_rw : r ≠ w := fun h => by subst h; rw [hfw] at hfr; cases hfr
  refine j_aload_n X (i := 0) dJ0_init_db425_27 rfl rfl ?_
  refine j_aload_n X (i := 3) dJ0_init_db425_28 rfl rfl ?_
  refine j_iconst X (0) dJ0_init_db425_29 (by decide) ?_
  refine j_iload X (i := 4) dJ0_init_db425_30 rfl ?_
  refine j_callS3 X (c_copyR hl hr (up_n n_rw hfr) hB hn hc) ml_J0_54 st_yJ7_copyOfRange_39247 in_J7 cd_yJ7_copyOfRange_39247 hz_yJ7_copyOfRange_39247 dJ0_init_db425_32 ⟨(by decide), (by decide)⟩ ⟨(by decide), (by decide)⟩ (Nat.le_of_ble_eq_true rfl) (fun _ h => h.elim) (fun r9 L9 f9 h9 => ?_)
  obtain ⟨k1, hk1, rfl, rfl, g1, hg1, rfl⟩ := h9
  dsimp only [Option.toList, List.cons_append, List.nil_append, List.append]
  have n_wk : w ≠ k1 := fun h => hk1 (h ▸ hw)
  refine j_putF X 9 0 rfl cw_J0 tyJ0 tyJ0_ok nmJ0 fl_J0_9 (by decide) rfl hname rfl dJ0_init_db425_35 (List.mem_append_left [k1] hw) (up_n n_wk up_s) rfl rfl (Nat.le_of_ble_eq_true rfl) ?_
  dsimp only [List.set]
  refine j_goto X (tgt := 97) dJ0_init_db425_38 (by decide) ?_
  refine q_vret X hQ dJ0_init_db425_97 rfl ⟨(by decide), (by decide)⟩ ⟨rfl, k1, hk1, rfl, g1, hg1, up_s, up_n (Ne.symm n_wk) up_s, fun x h1 h2 => up_n h2 (up_n h1 (up_n h2 rfl))⟩
set_option maxRecDepth 100000 in
set_option maxHeartbeats 4000000 in
theorem c_strI {l : Launch} (hl : l.stackTraces = false) {G : GG} {L : List Nat} {f : Nat → va_E} {q r n cap w : Nat} {g : Nat → Int32} (hq : q ∈ L) (hf : f q = oSB r (nI n)) (hr : r ∈ L) (hfr : f r = aB G cap g) (hB : ∀ j, fits .byte (.int (g j)) = true) (hn : n ≤ cap) (hc : cap ≤ 802) (hw : w ∈ L) (hfw : f w = .inr (9, df10)) : Ct l G yJ0_init_81219 (.code yJ0_init_81219 cJ0_init_81219 2 none) 4 139 1 802 [.ref w, .ref q] L f px0 (fun r9 L1 f1 => r9 = none ∧ ∃ k1 : Nat, k1 ∉ L ∧ L1 = L ++ [k1] ∧ ∃ g1 : Nat → Int32, (∀ j, j < n → g1 j = g j) ∧ f1 w = oStr k1 ∧ f1 k1 = aB G n g1 ∧ ∀ x, x ≠ k1 → x ≠ w → f1 x = f x) := by
  refine Ct.ofq (own := RJ0) hl rfl (by decide) [some (.ref w), some (.ref q)] rfl (Nat.le_of_ble_eq_true rfl) ?_
  intro p e s m below meth c A ar Q hQ X
  have hE := X.2.2.2.2.2.2.2.2.2.1
  refine j_aload_n X (i := 0) dJ0_init_81219_0 rfl rfl ?_
  refine j_aload_n X (i := 1) dJ0_init_81219_1 rfl rfl ?_
  refine j_null X dJ0_init_81219_2 ?_
  refine j_callI2 X (c_strI2 hl hq hf hr hfr hB hn hc hw hfw) ml_J0_489 im_yJ0_init_db425 in_J0 cd_yJ0_init_db425 rfl hz_yJ0_init_db425 dJ0_init_81219_3 ⟨(by decide), (by decide)⟩ ⟨(by decide), (by decide)⟩ (Nat.le_of_ble_eq_true rfl) (fun r9 L9 f9 h9 => ?_)
  obtain ⟨rfl, h9⟩ := h9
  dsimp only [Option.toList, List.cons_append, List.nil_append, List.append]
  exact q_vret X hQ dJ0_init_81219_6 rfl ⟨(by decide), (by decide)⟩ ⟨rfl, h9⟩
/-- a made text w over a world B, h -/
def STW (G : GG) (B : List Nat) (h : Nat → va_E) (w : Nat) (t : List Nat) (L : List Nat) (f : Nat → va_E) : Prop := ∃ (K : List Nat) (k : Nat) (g : Nat → Int32), L = B ++ K ∧ (∀ x ∈ B, f x = h x) ∧ w ∈ L ∧ w ∉ B ∧ k ∈ L ∧ k ∉ B ∧ f w = oStr k ∧ f k = aB G t.length g ∧ ∀ j, j < t.length → g j = nI (t.getD j 0)
set_option maxRecDepth 100000 in
set_option maxHeartbeats 4000000 in
theorem c_toStr {l : Launch} (hl : l.stackTraces = false) {G : GG} {L : List Nat} {f : Nat → va_E} {B : List Nat} {h : Nat → va_E} {q : Nat} {t : List Nat} {m0 : Nat} (hS : SBW G B h q t m0 L f) : Ct l G yJ4_toString_0e30d (.code yJ4_toString_0e30d cJ4_toString_0e30d 1 (some (.object "java/lang/String"))) 5 160 2 806 [.ref q] L f px0 (fun r9 L1 f1 => ∃ w : Nat, r9 = some (.ref w) ∧ STW G B h w t L1 f1) := by
  obtain ⟨K, r, cap, g, rfl, hB, hq, hqB, hr, hrB, hf, hfr, hn, hm0, hcap, hfit, hget⟩ := hS
  refine Ct.ofq (own := RJ4) hl rfl (by decide) [some (.ref q)] rfl (Nat.le_of_ble_eq_true rfl) ?_
  intro p e s m below meth c A ar Q hQ X
  have hE := X.2.2.2.2.2.2.2.2.2.1
  refine j_new X 9 cw_J0 tyJ0 tyJ0_ok cl_J4_18 is_J0 in_J0 rfl df09_ok ⟨(by decide), (by decide)⟩ dJ4_toString_0e30d_0 (fun w hw => ?_)
  refine j_dup X dJ4_toString_0e30d_3 rfl ?_
  refine j_aload_n X (i := 0) dJ4_toString_0e30d_4 rfl rfl ?_
  have m_w : w ∈ B ++ K ++ [w] := List.mem_append_right _ (List.mem_singleton.mpr rfl)
  have n_qw : q ≠ w := fun h => hw (h ▸ hq)
  have n_rw : r ≠ w := fun h => hw (h ▸ hr)
  refine j_callI1 X (c_strI hl (List.mem_append_left [w] hq) (up_n n_qw hf) (List.mem_append_left [w] hr) (up_n n_rw hfr) hfit hn hcap m_w up_s) ml_J4_137 im_yJ0_init_81219 in_J0 cd_yJ0_init_81219 rfl hz_yJ0_init_81219 dJ4_toString_0e30d_5 ⟨(by decide), (by decide)⟩ ⟨(by decide), (by decide)⟩ (Nat.le_of_ble_eq_true rfl) (fun r9 L9 f9 h9 => ?_)
  obtain ⟨rfl, k1, hk1, rfl, g1, hg1, e1, e2, e3⟩ := h9
  dsimp only [Option.toList, List.cons_append, List.nil_append, List.append]
  refine q_aret X hQ dJ4_toString_0e30d_8 rfl (Or.inl ⟨_, rfl⟩) ⟨(by decide), (by decide)⟩ ⟨w, rfl, K ++ [w] ++ [k1], k1, g1, by simp only [List.append_assoc], fun x hx => ?_, List.mem_append_left _ m_w, fun h => hw (List.mem_append_left _ h), List.mem_append_right _ (List.mem_singleton.mpr rfl), fun h => hk1 (List.mem_append_left _ (List.mem_append_left _ h)), e1, e2, fun j hj => (hg1 j hj).trans (hget j hj)⟩
  rw [e3 x (fun h => hk1 (h ▸ List.mem_append_left _ (List.mem_append_left _ hx))) (fun h => hw (h ▸ List.mem_append_left _ hx))]
  exact up_n (fun h => hw (h ▸ List.mem_append_left _ hx)) (hB x hx)
