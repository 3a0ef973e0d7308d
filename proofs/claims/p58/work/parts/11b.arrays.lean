/-! the builder: its methods, and what they call, by contract -/
abbrev oSB (r : Nat) (n : Int32) : va_E := .inr (10, [.ref r, .int 0, .int 0, .int n])
abbrev oStr (v : Nat) : va_E := .inr (9, [.ref v, .int 0, .int 0, .int 0])
theorem sr0 (x : Int32) : x >>> ((0 : Int32) &&& 31) = x := by rw [show ((0 : Int32) &&& 31) = 0 by decide]; exact Int32.shiftRight_zero
theorem sl0 (x : Int32) : x <<< ((0 : Int32) &&& 31) = x := by rw [show ((0 : Int32) &&& 31) = 0 by decide]; exact Int32.shiftLeft_zero
theorem i_sub0 (x : Int32) : x - 0 = x := Int32.sub_zero x
theorem nI_sub {a b : Nat} (h : b ≤ a) : nI a - nI b = nI (a - b) := by
  have e : nI a = nI (a - b) + nI b := by rw [nI_add, Nat.sub_add_cancel h]
  rw [e, Int32.add_sub_cancel]
theorem nI_dec {a : Nat} (h : 1 ≤ a) : nI a + Int32.ofInt (-1) = nI (a - 1) := by
  rw [← nI_sub h, Int32.sub_eq_add_neg]
  rfl
theorem mxn {a b : Nat} (ha : a < 2 ^ 31) (hb : b < 2 ^ 31) : (if nI a < nI b then nI b else nI a) = nI (max a b) := by
  by_cases h : a < b
  · rw [if_pos (nI_lt h hb), Nat.max_eq_right (by omega)]
  · rw [if_neg (nI_nlt (by omega) ha), Nat.max_eq_left (by omega)]
theorem mnn {a b : Nat} (h : a ≤ b) (hb : b < 2 ^ 31) : (if nI b < nI a then nI b else nI a) = nI a := if_neg (nI_nlt h hb)
theorem nI_sle {a b : Nat} (ha : a < 2 ^ 30) (hb : b < 2 ^ 30) : nI a - nI b ≤ 0 ↔ a ≤ b := by
  rw [Int32.le_iff_toInt_le, Int32.toInt_sub, nI_toInt (by omega), nI_toInt (by omega)]
  rw [Int.bmod_eq_of_le_mul_two (by omega) (by omega)]
  show (a : Int) - b ≤ 0 ↔ _
  omega
theorem nlt_big {a : Nat} (h : a ≤ 2 ^ 30) : ¬ (2147483639 : Int32) < nI a := by
  rw [Int32.lt_iff_toInt_lt, nI_toInt (by omega), show (2147483639 : Int32).toInt = 2147483639 by decide]
  omega
theorem ne_big {a : Nat} (h : a ≤ 2 ^ 30) : ¬ nI a = (2147483647 : Int32) := by
  rw [← Int32.toInt_inj, nI_toInt (by omega), show (2147483647 : Int32).toInt = 2147483647 by decide]
  omega
theorem t0n : (0 : Int32).toNatClampNeg = 0 := by decide
theorem n0 : ¬ (0 : Int32) < 0 := by decide
theorem str_fit : ∀ i, i < 57 → ∀ j, j < strLn i → fits .byte (.int (strCh i j)) = true := by decide +kernel
theorem z0_fit (j : Nat) : fits .byte (.int (z0 j)) = true := (by decide : fits .byte (.int 0) = true)
theorem cpy_fit {g0 g1 : Nat → Int32} {a b n : Nat} (h0 : ∀ j, a ≤ j → j < a + n → fits .byte (.int (g0 j)) = true) (h1 : ∀ j, fits .byte (.int (g1 j)) = true) (j : Nat) : fits .byte (.int (va_cpy g0 g1 a b n j)) = true := by
  unfold va_cpy
  split
  · exact h0 _ (by omega) (by omega)
  · exact h1 _
abbrev df10 : List Value := [.null, .int 0, .int 0, .int 0]
theorem df10_ok : ∀ j, j < 4 → defaultValue (tyJ4 j) = vp_V df10 j := by
  intro j h
  match j, h with
  | 0, _ => rfl
  | 1, _ => rfl
  | 2, _ => rfl
  | 3, _ => rfl
  | _ + 4, h => exact absurd h (by omega)
theorem df09_ok : ∀ j, j < 4 → defaultValue (tyJ0 j) = vp_V df10 j := by
  intro j h
  match j, h with
  | 0, _ => rfl
  | 1, _ => rfl
  | 2, _ => rfl
  | 3, _ => rfl
  | _ + 4, h => exact absurd h (by omega)
theorem hz_yJ5_init_d00df : yJ5_init_d00df.cls ≠ "java/lang/invoke/MethodHandle" ∧ yJ5_init_d00df.cls ≠ "java/lang/invoke/VarHandle" ∧ (parseMethodDescriptor yJ5_init_d00df.desc).map (fun d => d.parameters.length) = some 1 := by decide +kernel
theorem hz_yJ5_isLatin1_aae02 : yJ5_isLatin1_aae02.cls ≠ "java/lang/invoke/MethodHandle" ∧ yJ5_isLatin1_aae02.cls ≠ "java/lang/invoke/VarHandle" ∧ (parseMethodDescriptor yJ5_isLatin1_aae02.desc).map (fun d => d.parameters.length) = some 0 := by decide +kernel
theorem hz_yJ8_newLength_cabcc : yJ8_newLength_cabcc.cls ≠ "java/lang/invoke/MethodHandle" ∧ yJ8_newLength_cabcc.cls ≠ "java/lang/invoke/VarHandle" ∧ (parseMethodDescriptor yJ8_newLength_cabcc.desc).map (fun d => d.parameters.length) = some 3 := by decide +kernel
theorem hz_yJ5_newCapacity_0f7a4 : yJ5_newCapacity_0f7a4.cls ≠ "java/lang/invoke/MethodHandle" ∧ yJ5_newCapacity_0f7a4.cls ≠ "java/lang/invoke/VarHandle" ∧ (parseMethodDescriptor yJ5_newCapacity_0f7a4.desc).map (fun d => d.parameters.length) = some 1 := by decide +kernel
theorem hz_yJ7_copyOf_9075b : yJ7_copyOf_9075b.cls ≠ "java/lang/invoke/MethodHandle" ∧ yJ7_copyOf_9075b.cls ≠ "java/lang/invoke/VarHandle" ∧ (parseMethodDescriptor yJ7_copyOf_9075b.desc).map (fun d => d.parameters.length) = some 2 := by decide +kernel
theorem hz_yJ5_ensureCapacityInternal_d00df : yJ5_ensureCapacityInternal_d00df.cls ≠ "java/lang/invoke/MethodHandle" ∧ yJ5_ensureCapacityInternal_d00df.cls ≠ "java/lang/invoke/VarHandle" ∧ (parseMethodDescriptor yJ5_ensureCapacityInternal_d00df.desc).map (fun d => d.parameters.length) = some 1 := by decide +kernel
theorem hz_yJ5_inflateIfNeededFor_a7421 : yJ5_inflateIfNeededFor_a7421.cls ≠ "java/lang/invoke/MethodHandle" ∧ yJ5_inflateIfNeededFor_a7421.cls ≠ "java/lang/invoke/VarHandle" ∧ (parseMethodDescriptor yJ5_inflateIfNeededFor_a7421.desc).map (fun d => d.parameters.length) = some 1 := by decide +kernel
theorem hz_yJ5_putStringAt_47b60 : yJ5_putStringAt_47b60.cls ≠ "java/lang/invoke/MethodHandle" ∧ yJ5_putStringAt_47b60.cls ≠ "java/lang/invoke/VarHandle" ∧ (parseMethodDescriptor yJ5_putStringAt_47b60.desc).map (fun d => d.parameters.length) = some 2 := by decide +kernel
theorem hz_yJ6_stringSize_0f7a4 : yJ6_stringSize_0f7a4.cls ≠ "java/lang/invoke/MethodHandle" ∧ yJ6_stringSize_0f7a4.cls ≠ "java/lang/invoke/VarHandle" ∧ (parseMethodDescriptor yJ6_stringSize_0f7a4.desc).map (fun d => d.parameters.length) = some 1 := by decide +kernel
theorem hz_yJ6_getChars_ba4f3 : yJ6_getChars_ba4f3.cls ≠ "java/lang/invoke/MethodHandle" ∧ yJ6_getChars_ba4f3.cls ≠ "java/lang/invoke/VarHandle" ∧ (parseMethodDescriptor yJ6_getChars_ba4f3.desc).map (fun d => d.parameters.length) = some 3 := by decide +kernel
theorem hz_yJ5_getValue_6d5f1 : yJ5_getValue_6d5f1.cls ≠ "java/lang/invoke/MethodHandle" ∧ yJ5_getValue_6d5f1.cls ≠ "java/lang/invoke/VarHandle" ∧ (parseMethodDescriptor yJ5_getValue_6d5f1.desc).map (fun d => d.parameters.length) = some 0 := by decide +kernel
theorem hz_yJ5_length_8abf5 : yJ5_length_8abf5.cls ≠ "java/lang/invoke/MethodHandle" ∧ yJ5_length_8abf5.cls ≠ "java/lang/invoke/VarHandle" ∧ (parseMethodDescriptor yJ5_length_8abf5.desc).map (fun d => d.parameters.length) = some 0 := by decide +kernel
theorem hz_yJ7_checkLength_df160 : yJ7_checkLength_df160.cls ≠ "java/lang/invoke/MethodHandle" ∧ yJ7_checkLength_df160.cls ≠ "java/lang/invoke/VarHandle" ∧ (parseMethodDescriptor yJ7_checkLength_df160.desc).map (fun d => d.parameters.length) = some 2 := by decide +kernel
theorem hz_yJ7_copyOfRangeByte_39247 : yJ7_copyOfRangeByte_39247.cls ≠ "java/lang/invoke/MethodHandle" ∧ yJ7_copyOfRangeByte_39247.cls ≠ "java/lang/invoke/VarHandle" ∧ (parseMethodDescriptor yJ7_copyOfRangeByte_39247.desc).map (fun d => d.parameters.length) = some 3 := by decide +kernel
theorem hz_yJ7_copyOfRange_39247 : yJ7_copyOfRange_39247.cls ≠ "java/lang/invoke/MethodHandle" ∧ yJ7_copyOfRange_39247.cls ≠ "java/lang/invoke/VarHandle" ∧ (parseMethodDescriptor yJ7_copyOfRange_39247.desc).map (fun d => d.parameters.length) = some 3 := by decide +kernel
theorem hz_yJ0_init_db425 : yJ0_init_db425.cls ≠ "java/lang/invoke/MethodHandle" ∧ yJ0_init_db425.cls ≠ "java/lang/invoke/VarHandle" ∧ (parseMethodDescriptor yJ0_init_db425.desc).map (fun d => d.parameters.length) = some 2 := by decide +kernel
theorem hz_yJ0_init_81219 : yJ0_init_81219.cls ≠ "java/lang/invoke/MethodHandle" ∧ yJ0_init_81219.cls ≠ "java/lang/invoke/VarHandle" ∧ (parseMethodDescriptor yJ0_init_81219.desc).map (fun d => d.parameters.length) = some 1 := by decide +kernel
theorem hz_yJ4_init_da8c8 : yJ4_init_da8c8.cls ≠ "java/lang/invoke/MethodHandle" ∧ yJ4_init_da8c8.cls ≠ "java/lang/invoke/VarHandle" ∧ (parseMethodDescriptor yJ4_init_da8c8.desc).map (fun d => d.parameters.length) = some 0 := by decide +kernel
theorem hs_yJ5_append_cf1ce : yJ5_append_cf1ce.name ≠ "<init>" ∧ (parseMethodDescriptor yJ5_append_cf1ce.desc).map (fun d => d.parameters.length) = some 1 := by decide +kernel
theorem hs_yJ5_append_c97b9 : yJ5_append_c97b9.name ≠ "<init>" ∧ (parseMethodDescriptor yJ5_append_c97b9.desc).map (fun d => d.parameters.length) = some 1 := by decide +kernel
theorem hs_yJ5_length_8abf5 : yJ5_length_8abf5.name ≠ "<init>" ∧ (parseMethodDescriptor yJ5_length_8abf5.desc).map (fun d => d.parameters.length) = some 0 := by decide +kernel
theorem hy_yJ0_getBytes_840e7 : yJ0_getBytes_840e7.cls = RJ0 ∧ yJ0_getBytes_840e7.cls ≠ "java/lang/invoke/MethodHandle" ∧ yJ0_getBytes_840e7.cls ≠ "java/lang/invoke/VarHandle" ∧ (parseMethodDescriptor yJ0_getBytes_840e7.desc).map (fun d => d.parameters.length) = some 3 := by decide +kernel
theorem hy_yJ4_append_15ec4 : yJ4_append_15ec4.cls = RJ4 ∧ yJ4_append_15ec4.cls ≠ "java/lang/invoke/MethodHandle" ∧ yJ4_append_15ec4.cls ≠ "java/lang/invoke/VarHandle" ∧ (parseMethodDescriptor yJ4_append_15ec4.desc).map (fun d => d.parameters.length) = some 1 := by decide +kernel
theorem hy_yJ4_append_bf812 : yJ4_append_bf812.cls = RJ4 ∧ yJ4_append_bf812.cls ≠ "java/lang/invoke/MethodHandle" ∧ yJ4_append_bf812.cls ≠ "java/lang/invoke/VarHandle" ∧ (parseMethodDescriptor yJ4_append_bf812.desc).map (fun d => d.parameters.length) = some 1 := by decide +kernel
theorem hy_yJ4_toString_0e30d : yJ4_toString_0e30d.cls = RJ4 ∧ yJ4_toString_0e30d.cls ≠ "java/lang/invoke/MethodHandle" ∧ yJ4_toString_0e30d.cls ≠ "java/lang/invoke/VarHandle" ∧ (parseMethodDescriptor yJ4_toString_0e30d.desc).map (fun d => d.parameters.length) = some 0 := by decide +kernel
set_option maxRecDepth 100000 in
set_option maxHeartbeats 4000000 in
theorem c_sbLatin {l : Launch} (hl : l.stackTraces = false) {G : GG} {L : List Nat} {f : Nat → va_E} {q r : Nat} {n : Int32} (hq : q ∈ L) (hf : f q = oSB r n) : Ct l G yJ5_isLatin1_aae02 (.code yJ5_isLatin1_aae02 cJ5_isLatin1_aae02 1 (some .boolean)) 0 0 0 0 [.ref q] L f px0 (stay L (fun r9 f1 => f1 = f ∧ r9 = some (.int 1))) := by
  refine Ct.ofq (own := RJ5) hl rfl (by decide) [some (.ref q)] rfl (Nat.le_of_ble_eq_true rfl) ?_
  intro p e s m below meth c A ar Q hQ X
  have hE := X.2.2.2.2.2.2.2.2.2.1
  refine j_gets X hE.2.2.1 fl_J5_18 dJ5_isLatin1_aae02_0 ?_
  refine j_if_eq X (tgt := 17) dJ5_isLatin1_aae02_3 (by decide) (fun h => absurd h (by decide)) (fun _ => ?_)
  refine j_aload_n X (i := 0) dJ5_isLatin1_aae02_6 rfl rfl ?_
  refine j_getf X 10 1 rfl cw_J4 fl_J5_22 (by decide) dJ5_isLatin1_aae02_7 hq hf rfl ?_
  refine j_if_ne X (tgt := 17) dJ5_isLatin1_aae02_10 (by decide) (fun h => absurd rfl h) (fun _ => ?_)
  refine j_iconst X (1) dJ5_isLatin1_aae02_13 (by decide) ?_
  refine j_goto X (tgt := 18) dJ5_isLatin1_aae02_14 (by decide) ?_
  exact q_zret X hQ dJ5_isLatin1_aae02_18 rfl rfl ⟨(by decide), (by decide)⟩ ⟨rfl, rfl, rfl⟩
set_option maxRecDepth 100000 in
set_option maxHeartbeats 4000000 in
theorem c_sbValue {l : Launch} (hl : l.stackTraces = false) {G : GG} {L : List Nat} {f : Nat → va_E} {q r : Nat} {n : Int32} (hq : q ∈ L) (hf : f q = oSB r n) : Ct l G yJ5_getValue_6d5f1 (.code yJ5_getValue_6d5f1 cJ5_getValue_6d5f1 1 (some (.array .byte))) 0 0 0 0 [.ref q] L f px0 (stay L (fun r9 f1 => f1 = f ∧ r9 = some (.ref r))) := by
  refine Ct.ofq (own := RJ5) hl rfl (by decide) [some (.ref q)] rfl (Nat.le_of_ble_eq_true rfl) ?_
  intro p e s m below meth c A ar Q hQ X
  have hE := X.2.2.2.2.2.2.2.2.2.1
  refine j_aload_n X (i := 0) dJ5_getValue_6d5f1_0 rfl rfl ?_
  refine j_getf X 10 0 rfl cw_J4 fl_J5_15 (by decide) dJ5_getValue_6d5f1_1 hq hf rfl ?_
  exact q_aret X hQ dJ5_getValue_6d5f1_4 rfl (Or.inr ⟨_, rfl⟩) ⟨(by decide), (by decide)⟩ ⟨rfl, rfl, rfl⟩
set_option maxRecDepth 100000 in
set_option maxHeartbeats 4000000 in
theorem c_asbLen {l : Launch} (hl : l.stackTraces = false) {G : GG} {L : List Nat} {f : Nat → va_E} {q r : Nat} {n : Int32} (hq : q ∈ L) (hf : f q = oSB r n) : Ct l G yJ5_length_8abf5 (.code yJ5_length_8abf5 cJ5_length_8abf5 1 (some .int)) 0 0 0 0 [.ref q] L f px0 (stay L (fun r9 f1 => f1 = f ∧ r9 = some (.int n))) := by
  refine Ct.ofq (own := RJ5) hl rfl (by decide) [some (.ref q)] rfl (Nat.le_of_ble_eq_true rfl) ?_
  intro p e s m below meth c A ar Q hQ X
  have hE := X.2.2.2.2.2.2.2.2.2.1
  refine j_aload_n X (i := 0) dJ5_length_8abf5_0 rfl rfl ?_
  refine j_getf X 10 3 rfl cw_J4 fl_J5_79 (by decide) dJ5_length_8abf5_1 hq hf rfl ?_
  exact q_iret X hQ dJ5_length_8abf5_4 rfl ⟨(by decide), (by decide)⟩ ⟨rfl, rfl, rfl⟩
set_option maxRecDepth 100000 in
set_option maxHeartbeats 4000000 in
theorem c_sbLen {l : Launch} (hl : l.stackTraces = false) {G : GG} {L : List Nat} {f : Nat → va_E} {q r : Nat} {n : Int32} (hq : q ∈ L) (hf : f q = oSB r n) : Ct l G yJ4_length_8abf5 (.code yJ4_length_8abf5 cJ4_length_8abf5 1 (some .int)) 1 20 0 0 [.ref q] L f px0 (stay L (fun r9 f1 => f1 = f ∧ r9 = some (.int n))) := by
  refine Ct.ofq (own := RJ4) hl rfl (by decide) [some (.ref q)] rfl (Nat.le_of_ble_eq_true rfl) ?_
  intro p e s m below meth c A ar Q hQ X
  have hE := X.2.2.2.2.2.2.2.2.2.1
  refine j_aload_n X (i := 0) dJ4_length_8abf5_0 rfl rfl ?_
  refine j_callSU0 X 10 (c_asbLen hl hq hf) ml_J4_343 sm_yJ5_length_8abf5 sp_J4 im_yJ5_length_8abf5 in_J5 cd_yJ5_length_8abf5 hs_yJ5_length_8abf5 hq hf rfl dJ4_length_8abf5_1 ⟨(by decide), (by decide)⟩ ⟨(by decide), (by decide)⟩ (Nat.le_of_ble_eq_true rfl) (fun r9 L9 f9 h9 => ?_)
  obtain ⟨h91, h92, h93⟩ := h9
  subst r9
  subst f9
  subst L9
  dsimp only [Option.toList, List.cons_append, List.nil_append, List.append]
  exact q_iret X hQ dJ4_length_8abf5_4 rfl ⟨(by decide), (by decide)⟩ ⟨rfl, rfl, rfl⟩
set_option maxRecDepth 100000 in
set_option maxHeartbeats 4000000 in
theorem c_newLength {l : Launch} (hl : l.stackTraces = false) {G : GG} {L : List Nat} {f : Nat → va_E} {a b d : Nat} (ha : a ≤ 10000) (hb : b ≤ 10000) (hd : d ≤ 10000) (h0 : 0 < b) : Ct l G yJ8_newLength_cabcc (.code yJ8_newLength_cabcc cJ8_newLength_cabcc 4 (some .int)) 1 16 0 0 [.int (nI a), .int (nI b), .int (nI d)] L f px0 (stay L (fun r9 f1 => f1 = f ∧ r9 = some (.int (nI (a + max b d))))) := by
  refine Ct.ofq (own := RJ8) hl rfl (by decide) [some (.int (nI a)), some (.int (nI b)), some (.int (nI d)), none] rfl (Nat.le_of_ble_eq_true rfl) ?_
  intro p e s m below meth c A ar Q hQ X
  have hE := X.2.2.2.2.2.2.2.2.2.1
  refine j_iload_n X (i := 0) dJ8_newLength_cabcc_0 rfl rfl ?_
  refine j_iload_n X (i := 1) dJ8_newLength_cabcc_1 rfl rfl ?_
  refine j_iload_n X (i := 2) dJ8_newLength_cabcc_2 rfl rfl ?_
  refine j_mmax X ml_J8_194 dJ8_newLength_cabcc_3 ⟨(by decide), (Nat.le_of_ble_eq_true rfl)⟩ ⟨(by decide), (by decide)⟩ ?_
  rw [mxn (by omega) (by omega)]
  refine j_iadd X dJ8_newLength_cabcc_6 ?_
  rw [nI_add]
  refine j_istore_n X (i := 3) dJ8_newLength_cabcc_7 rfl (by decide) (by first | exact lvOK_0 | exact lvOK_s rfl okPrev_none | exact lvOK_s rfl okPrev_int | exact lvOK_s rfl okPrev_ref | exact lvOK_s rfl okPrev_null) ?_
  dsimp only [List.set]
  refine j_iconst X (0) dJ8_newLength_cabcc_8 (by decide) ?_
  refine j_iload_n X (i := 3) dJ8_newLength_cabcc_9 rfl rfl ?_
  refine j_icmp_ge X (tgt := 21) dJ8_newLength_cabcc_10 (by decide) (fun h => absurd h (nI_nle (by omega) (by omega))) (fun _ => ?_)
  refine j_iload_n X (i := 3) dJ8_newLength_cabcc_13 rfl rfl ?_
  refine j_ldc X dJ8_newLength_cabcc_14 co_J8_200 ?_
  refine j_icmp_gt X (tgt := 21) dJ8_newLength_cabcc_16 (by decide) (fun h => absurd h (nlt_big (by omega))) (fun _ => ?_)
  refine j_iload_n X (i := 3) dJ8_newLength_cabcc_19 rfl rfl ?_
  exact q_iret X hQ dJ8_newLength_cabcc_20 rfl ⟨(by decide), (by decide)⟩ ⟨rfl, rfl, rfl⟩
set_option maxRecDepth 100000 in
set_option maxHeartbeats 4000000 in
theorem c_newCap {l : Launch} (hl : l.stackTraces = false) {G : GG} {L : List Nat} {f : Nat → va_E} {q r n cap : Nat} {g : Nat → Int32} (hq : q ∈ L) (hf : f q = oSB r (nI n)) (hr : r ∈ L) (hfr : f r = aB G cap g) {m0 : Nat} (h1 : cap < m0) (h2 : m0 ≤ 1000) : Ct l G yJ5_newCapacity_0f7a4 (.code yJ5_newCapacity_0f7a4 cJ5_newCapacity_0f7a4 6 (some .int)) 2 39 0 0 [.ref q, .int (nI m0)] L f px0 (stay L (fun r9 f1 => f1 = f ∧ r9 = some (.int (nI (max m0 (2 * cap + 2)))))) := by
  refine Ct.ofq (own := RJ5) hl rfl (by decide) [some (.ref q), some (.int (nI m0)), none, none, none, none] rfl (Nat.le_of_ble_eq_true rfl) ?_
  intro p e s m below meth c A ar Q hQ X
  have hE := X.2.2.2.2.2.2.2.2.2.1
  refine j_aload_n X (i := 0) dJ5_newCapacity_0f7a4_0 rfl rfl ?_
  refine j_getf X 10 0 rfl cw_J4 fl_J5_15 (by decide) dJ5_newCapacity_0f7a4_1 hq hf rfl ?_
  refine j_alenN X (k9 := 1) dJ5_newCapacity_0f7a4_4 hr hfr rfl ?_
  refine j_istore_n X (i := 2) dJ5_newCapacity_0f7a4_5 rfl (by decide) (by first | exact lvOK_0 | exact lvOK_s rfl okPrev_none | exact lvOK_s rfl okPrev_int | exact lvOK_s rfl okPrev_ref | exact lvOK_s rfl okPrev_null) ?_
  dsimp only [List.set]
  refine j_iload_n X (i := 1) dJ5_newCapacity_0f7a4_6 rfl rfl ?_
  refine j_aload_n X (i := 0) dJ5_newCapacity_0f7a4_7 rfl rfl ?_
  refine j_getf X 10 1 rfl cw_J4 fl_J5_22 (by decide) dJ5_newCapacity_0f7a4_8 hq hf rfl ?_
  refine j_ishl X dJ5_newCapacity_0f7a4_11 ?_
  rw [sl0]
  refine j_istore_n X (i := 3) dJ5_newCapacity_0f7a4_12 rfl (by decide) (by first | exact lvOK_0 | exact lvOK_s rfl okPrev_none | exact lvOK_s rfl okPrev_int | exact lvOK_s rfl okPrev_ref | exact lvOK_s rfl okPrev_null) ?_
  dsimp only [List.set]
  refine j_iload_n X (i := 3) dJ5_newCapacity_0f7a4_13 rfl rfl ?_
  refine j_iload_n X (i := 2) dJ5_newCapacity_0f7a4_14 rfl rfl ?_
  refine j_isub X dJ5_newCapacity_0f7a4_15 ?_
  rw [nI_sub (by omega)]
  refine j_istore X (i := 4) dJ5_newCapacity_0f7a4_16 (by decide) (by first | exact lvOK_0 | exact lvOK_s rfl okPrev_none | exact lvOK_s rfl okPrev_int | exact lvOK_s rfl okPrev_ref | exact lvOK_s rfl okPrev_null) ?_
  dsimp only [List.set]
  refine j_iload_n X (i := 2) dJ5_newCapacity_0f7a4_18 rfl rfl ?_
  refine j_iload X (i := 4) dJ5_newCapacity_0f7a4_19 rfl ?_
  refine j_iload_n X (i := 2) dJ5_newCapacity_0f7a4_21 rfl rfl ?_
  refine j_iconst X (2) dJ5_newCapacity_0f7a4_22 (by decide) ?_
  refine j_aload_n X (i := 0) dJ5_newCapacity_0f7a4_23 rfl rfl ?_
  refine j_getf X 10 1 rfl cw_J4 fl_J5_22 (by decide) dJ5_newCapacity_0f7a4_24 hq hf rfl ?_
  refine j_ishl X dJ5_newCapacity_0f7a4_27 ?_
  rw [show ((2 : Int32) <<< ((0 : Int32) &&& 31)) = nI 2 by decide]
  refine j_iadd X dJ5_newCapacity_0f7a4_28 ?_
  rw [nI_add]
  refine j_callS3 X (c_newLength hl (by omega) (by omega) (by omega) (by omega)) ml_J5_114 st_yJ8_newLength_cabcc in_J8 cd_yJ8_newLength_cabcc hz_yJ8_newLength_cabcc dJ5_newCapacity_0f7a4_29 ⟨(by decide), (by decide)⟩ ⟨(by decide), (by decide)⟩ (Nat.le_of_ble_eq_true rfl) (fun _ h => h.elim) (fun r9 L9 f9 h9 => ?_)
  obtain ⟨h91, h92, h93⟩ := h9
  subst r9
  subst f9
  subst L9
  dsimp only [Option.toList, List.cons_append, List.nil_append, List.append]
  refine j_istore X (i := 5) dJ5_newCapacity_0f7a4_32 (by decide) (by first | exact lvOK_0 | exact lvOK_s rfl okPrev_none | exact lvOK_s rfl okPrev_int | exact lvOK_s rfl okPrev_ref | exact lvOK_s rfl okPrev_null) ?_
  dsimp only [List.set]
  refine j_iload X (i := 5) dJ5_newCapacity_0f7a4_34 rfl ?_
  refine j_ldc X dJ5_newCapacity_0f7a4_36 co_J5_39 ?_
  refine j_icmp_ne X (tgt := 51) dJ5_newCapacity_0f7a4_38 (by decide) (fun _ => ?_) (fun h => absurd h (ne_big (by omega)))
  refine j_iload X (i := 5) dJ5_newCapacity_0f7a4_51 rfl ?_
  refine j_aload_n X (i := 0) dJ5_newCapacity_0f7a4_53 rfl rfl ?_
  refine j_getf X 10 1 rfl cw_J4 fl_J5_22 (by decide) dJ5_newCapacity_0f7a4_54 hq hf rfl ?_
  refine j_ishr X dJ5_newCapacity_0f7a4_57 ?_
  rw [sr0]
  exact q_iret X hQ dJ5_newCapacity_0f7a4_58 rfl ⟨(by decide), (by decide)⟩ ⟨rfl, rfl, by rw [show cap + max (m0 - cap) (cap + 2) = max m0 (2 * cap + 2) by omega]⟩
set_option maxRecDepth 100000 in
set_option maxHeartbeats 4000000 in
theorem c_copyOf {l : Launch} (hl : l.stackTraces = false) {G : GG} {L : List Nat} {f : Nat → va_E} {r cap N : Nat} {g : Nat → Int32} (hr : r ∈ L) (hfr : f r = aB G cap g) (hB : ∀ j, fits .byte (.int (g j)) = true) (h1 : cap < N) (h2 : N ≤ 802) : Ct l G yJ7_copyOf_9075b (.code yJ7_copyOf_9075b cJ7_copyOf_9075b 3 (some (.array .byte))) 1 66 1 802 [.ref r, .int (nI N)] L f px0 (fun r9 L1 f1 => ∃ k1 : Nat, k1 ∉ L ∧ L1 = L ++ [k1] ∧ r9 = some (.ref k1) ∧ f1 = va_up f k1 (aB G N (va_cpy g z0 0 0 cap))) := by
  refine Ct.ofq (own := RJ7) hl rfl (by decide) [some (.ref r), some (.int (nI N)), none] rfl (Nat.le_of_ble_eq_true rfl) ?_
  intro p e s m below meth c A ar Q hQ X
  have hE := X.2.2.2.2.2.2.2.2.2.1
  refine j_iload_n X (i := 1) dJ7_copyOf_9075b_0 rfl rfl ?_
  refine j_aload_n X (i := 0) dJ7_copyOf_9075b_1 rfl rfl ?_
  refine j_alenN X (k9 := 1) dJ7_copyOf_9075b_2 hr hfr rfl ?_
  refine j_icmp_ne X (tgt := 14) dJ7_copyOf_9075b_3 (by decide) (fun _ => ?_) (fun h => absurd ((nI_eq (by omega) (by omega)).mp h) (by omega))
  refine j_iload_n X (i := 1) dJ7_copyOf_9075b_14 rfl rfl ?_
  refine j_newa X 1 (atype := .byte) rfl ac_byte rfl (az_byte N) (nI_pos (by omega)) (nI_clamp (by omega)) (by rw [show componentBytes .byte = 1 from rfl]; omega) ⟨(by first | omega | (dsimp only; omega) | decide), (by first | omega | (dsimp only; omega) | decide)⟩ dJ7_copyOf_9075b_15 (fun k1 hk1 => ?_)
  have n_rk : r ≠ k1 := fun h => hk1 (h ▸ hr)
  have m_r := List.mem_append_left [k1] hr
  have m_k : k1 ∈ L ++ [k1] := List.mem_append_right _ (List.mem_singleton.mpr rfl)
  refine j_astore_n X (i := 2) dJ7_copyOf_9075b_17 rfl (by decide) (by first | exact lvOK_0 | exact lvOK_s rfl okPrev_none | exact lvOK_s rfl okPrev_int | exact lvOK_s rfl okPrev_ref | exact lvOK_s rfl okPrev_null) ?_
  dsimp only [List.set]
  refine j_aload_n X (i := 0) dJ7_copyOf_9075b_18 rfl rfl ?_
  refine j_iconst X (0) dJ7_copyOf_9075b_19 (by decide) ?_
  refine j_aload_n X (i := 2) dJ7_copyOf_9075b_20 rfl rfl ?_
  refine j_iconst X (0) dJ7_copyOf_9075b_21 (by decide) ?_
  refine j_aload_n X (i := 0) dJ7_copyOf_9075b_22 rfl rfl ?_
  refine j_alenN X (k9 := 1) dJ7_copyOf_9075b_23 m_r (up_n n_rk hfr) rfl ?_
  refine j_iload_n X (i := 1) dJ7_copyOf_9075b_24 rfl rfl ?_
  refine j_mmin X ml_J7_304 dJ7_copyOf_9075b_25 ⟨(by decide), (Nat.le_of_ble_eq_true rfl)⟩ ⟨(by first | omega | (dsimp only; omega) | decide), (by first | omega | (dsimp only; omega) | decide)⟩ ?_
  rw [mnn (by omega) (by omega)]
  refine j_copyb X ml_J7_150 dJ7_copyOf_9075b_28 m_r (up_n n_rk hfr) m_k up_s hB n0 n0 (nI_pos (by omega)) (by rw [t0n, nI_clamp (by omega)]; omega) (by rw [t0n, nI_clamp (by omega)]; omega) ⟨(by decide), (Nat.le_of_ble_eq_true rfl)⟩ ?_
  rw [t0n, nI_clamp (by omega), up_up]
  refine j_aload_n X (i := 2) dJ7_copyOf_9075b_31 rfl rfl ?_
  exact q_aret X hQ dJ7_copyOf_9075b_32 rfl (Or.inr ⟨_, rfl⟩) ⟨(by first | omega | (dsimp only; omega) | decide), (by first | omega | (dsimp only; omega) | decide)⟩ ⟨k1, hk1, rfl, rfl, rfl⟩
set_option maxRecDepth 100000 in
set_option maxHeartbeats 4000000 in
theorem c_chkLen {l : Launch} (hl : l.stackTraces = false) {G : GG} {L : List Nat} {f : Nat → va_E} {a b : Nat} (h1 : a ≤ b) (h2 : b ≤ 10000) : Ct l G yJ7_checkLength_df160 (.code yJ7_checkLength_df160 cJ7_checkLength_df160 2 none) 0 0 0 0 [.int (nI a), .int (nI b)] L f px0 (stay L (fun r9 f1 => f1 = f ∧ r9 = none)) := by
  refine Ct.ofq (own := RJ7) hl rfl (by decide) [some (.int (nI a)), some (.int (nI b))] rfl (Nat.le_of_ble_eq_true rfl) ?_
  intro p e s m below meth c A ar Q hQ X
  have hE := X.2.2.2.2.2.2.2.2.2.1
  refine j_iload_n X (i := 1) dJ7_checkLength_df160_0 rfl rfl ?_
  refine j_iload_n X (i := 0) dJ7_checkLength_df160_1 rfl rfl ?_
  refine j_icmp_ge X (tgt := 37) dJ7_checkLength_df160_2 (by decide) (fun _ => ?_) (fun h => absurd (nI_le h1 (by omega)) h)
  exact q_vret X hQ dJ7_checkLength_df160_37 rfl ⟨(by decide), (by decide)⟩ ⟨rfl, rfl, rfl⟩
set_option maxRecDepth 100000 in
set_option maxHeartbeats 4000000 in
theorem c_copyRB {l : Launch} (hl : l.stackTraces = false) {G : GG} {L : List Nat} {f : Nat → va_E} {r cap N : Nat} {g : Nat → Int32} (hr : r ∈ L) (hfr : f r = aB G cap g) (hB : ∀ j, fits .byte (.int (g j)) = true) (h1 : N < cap) (h2 : cap ≤ 802) : Ct l G yJ7_copyOfRangeByte_39247 (.code yJ7_copyOfRangeByte_39247 cJ7_copyOfRangeByte_39247 5 (some (.array .byte))) 1 68 1 802 [.ref r, .int (nI 0), .int (nI N)] L f px0 (fun r9 L1 f1 => ∃ k1 : Nat, k1 ∉ L ∧ L1 = L ++ [k1] ∧ r9 = some (.ref k1) ∧ ∃ g1 : Nat → Int32, (∀ j, j < N → g1 j = g j) ∧ f1 = va_up f k1 (aB G N g1)) := by
  refine Ct.ofq (own := RJ7) hl rfl (by decide) [some (.ref r), some (.int (nI 0)), some (.int (nI N)), none, none] rfl (Nat.le_of_ble_eq_true rfl) ?_
  intro p e s m below meth c A ar Q hQ X
  have hE := X.2.2.2.2.2.2.2.2.2.1
  refine j_iload_n X (i := 1) dJ7_copyOfRangeByte_39247_0 rfl rfl ?_
  refine j_iload_n X (i := 2) dJ7_copyOfRangeByte_39247_1 rfl rfl ?_
  refine j_callS2 X (c_chkLen (a := 0) hl (by omega) (by omega)) ml_J7_343 st_yJ7_checkLength_df160 in_J7 cd_yJ7_checkLength_df160 hz_yJ7_checkLength_df160 dJ7_copyOfRangeByte_39247_2 ⟨(by decide), (by decide)⟩ ⟨(by decide), (by decide)⟩ (Nat.le_of_ble_eq_true rfl) (fun _ h => h.elim) (fun r9 L9 f9 h9 => ?_)
  obtain ⟨h91, h92, h93⟩ := h9
  subst r9
  subst f9
  subst L9
  dsimp only [Option.toList, List.cons_append, List.nil_append, List.append]
  refine j_iload_n X (i := 2) dJ7_copyOfRangeByte_39247_5 rfl rfl ?_
  refine j_iload_n X (i := 1) dJ7_copyOfRangeByte_39247_6 rfl rfl ?_
  refine j_isub X dJ7_copyOfRangeByte_39247_7 ?_
  rw [show nI N - (nI 0) = nI N from Int32.sub_zero _]
  refine j_istore_n X (i := 3) dJ7_copyOfRangeByte_39247_8 rfl (by decide) (by first | exact lvOK_0 | exact lvOK_s rfl okPrev_none | exact lvOK_s rfl okPrev_int | exact lvOK_s rfl okPrev_ref | exact lvOK_s rfl okPrev_null) ?_
  dsimp only [List.set]
  refine j_iload_n X (i := 3) dJ7_copyOfRangeByte_39247_9 rfl rfl ?_
  refine j_newa X 1 (atype := .byte) rfl ac_byte rfl (az_byte N) (nI_pos (by omega)) (nI_clamp (by omega)) (by rw [show componentBytes .byte = 1 from rfl]; omega) ⟨(by first | omega | (dsimp only; omega) | decide), (by first | omega | (dsimp only; omega) | decide)⟩ dJ7_copyOfRangeByte_39247_10 (fun k1 hk1 => ?_)
  have n_rk : r ≠ k1 := fun h => hk1 (h ▸ hr)
  have m_r := List.mem_append_left [k1] hr
  have m_k : k1 ∈ L ++ [k1] := List.mem_append_right _ (List.mem_singleton.mpr rfl)
  refine j_astore X (i := 4) dJ7_copyOfRangeByte_39247_12 (by decide) (by first | exact lvOK_0 | exact lvOK_s rfl okPrev_none | exact lvOK_s rfl okPrev_int | exact lvOK_s rfl okPrev_ref | exact lvOK_s rfl okPrev_null) ?_
  dsimp only [List.set]
  refine j_aload_n X (i := 0) dJ7_copyOfRangeByte_39247_14 rfl rfl ?_
  refine j_iload_n X (i := 1) dJ7_copyOfRangeByte_39247_15 rfl rfl ?_
  refine j_aload X (i := 4) dJ7_copyOfRangeByte_39247_16 rfl ?_
  refine j_iconst X (0) dJ7_copyOfRangeByte_39247_18 (by decide) ?_
  refine j_aload_n X (i := 0) dJ7_copyOfRangeByte_39247_19 rfl rfl ?_
  refine j_alenN X (k9 := 1) dJ7_copyOfRangeByte_39247_20 m_r (up_n n_rk hfr) rfl ?_
  refine j_iload_n X (i := 1) dJ7_copyOfRangeByte_39247_21 rfl rfl ?_
  refine j_isub X dJ7_copyOfRangeByte_39247_22 ?_
  rw [show nI cap - (nI 0) = nI cap from Int32.sub_zero _]
  refine j_iload_n X (i := 3) dJ7_copyOfRangeByte_39247_23 rfl rfl ?_
  refine j_mmin X ml_J7_304 dJ7_copyOfRangeByte_39247_24 ⟨(by decide), (Nat.le_of_ble_eq_true rfl)⟩ ⟨(by first | omega | (dsimp only; omega) | decide), (by first | omega | (dsimp only; omega) | decide)⟩ ?_
  rw [show (if nI N < nI cap then nI N else nI cap) = nI N by rw [if_pos (nI_lt h1 (by omega))]]
  refine j_copyb X ml_J7_150 dJ7_copyOfRangeByte_39247_27 m_r (up_n n_rk hfr) m_k up_s hB n0 n0 (nI_pos (by omega)) (by rw [show (nI 0).toNatClampNeg = 0 from t0n, nI_clamp (by omega)]; omega) (by rw [t0n, nI_clamp (by omega)]; omega) ⟨(by decide), (Nat.le_of_ble_eq_true rfl)⟩ ?_
  rw [show (nI 0).toNatClampNeg = 0 from t0n, t0n, nI_clamp (by omega), up_up]
  refine j_aload X (i := 4) dJ7_copyOfRangeByte_39247_30 rfl ?_
  exact q_aret X hQ dJ7_copyOfRangeByte_39247_32 rfl (Or.inr ⟨_, rfl⟩) ⟨(by first | omega | (dsimp only; omega) | decide), (by first | omega | (dsimp only; omega) | decide)⟩ ⟨k1, hk1, rfl, rfl, _, fun j hj => by unfold va_cpy; rw [if_pos (by omega), Nat.zero_add, Nat.sub_zero], rfl⟩
set_option maxRecDepth 100000 in
set_option maxHeartbeats 4000000 in
theorem c_copyR {l : Launch} (hl : l.stackTraces = false) {G : GG} {L : List Nat} {f : Nat → va_E} {r cap N : Nat} {g : Nat → Int32} (hr : r ∈ L) (hfr : f r = aB G cap g) (hB : ∀ j, fits .byte (.int (g j)) = true) (h0 : N ≤ cap) (h2 : cap ≤ 802) : Ct l G yJ7_copyOfRange_39247 (.code yJ7_copyOfRange_39247 cJ7_copyOfRange_39247 3 (some (.array .byte))) 2 92 1 802 [.ref r, .int (nI 0), .int (nI N)] L f px0 (fun r9 L1 f1 => ∃ k1 : Nat, k1 ∉ L ∧ L1 = L ++ [k1] ∧ r9 = some (.ref k1) ∧ ∃ g1 : Nat → Int32, (∀ j, j < N → g1 j = g j) ∧ f1 = va_up f k1 (aB G N g1)) := by
  refine Ct.ofq (own := RJ7) hl rfl (by decide) [some (.ref r), some (.int (nI 0)), some (.int (nI N))] rfl (Nat.le_of_ble_eq_true rfl) ?_
  intro p e s m below meth c A ar Q hQ X
  have hE := X.2.2.2.2.2.2.2.2.2.1
  refine j_iload_n X (i := 1) dJ7_copyOfRange_39247_0 rfl rfl ?_
  refine j_if_ne X (tgt := 10) dJ7_copyOfRange_39247_1 (by decide) (fun h => absurd (by decide) h) (fun _ => ?_)
  refine j_iload_n X (i := 2) dJ7_copyOfRange_39247_4 rfl rfl ?_
  refine j_aload_n X (i := 0) dJ7_copyOfRange_39247_5 rfl rfl ?_
  refine j_alenN X (k9 := 1) dJ7_copyOfRange_39247_6 hr hfr rfl ?_
  refine j_icmp_eq X (tgt := 17) dJ7_copyOfRange_39247_7 (by decide) (fun h => ?_) (fun h => ?_)
  · obtain rfl := (nI_eq (by omega) (by omega)).mp h
    refine j_aload_n X (i := 0) dJ7_copyOfRange_39247_17 rfl rfl ?_
    refine j_clone X clone_methodLink dJ7_copyOfRange_39247_18 hr hfr hB ⟨(by decide), (Nat.le_of_ble_eq_true rfl)⟩ ⟨(by first | omega | (dsimp only; omega) | decide), (by first | omega | (dsimp only; omega) | decide)⟩ (fun k1 hk1 => ?_)
    refine j_castB X cl_J7_311 dJ7_copyOfRange_39247_21 (List.mem_append_right _ (List.mem_singleton.mpr rfl)) up_s ?_
    exact q_aret X hQ dJ7_copyOfRange_39247_24 rfl (Or.inr ⟨_, rfl⟩) ⟨(by first | omega | (dsimp only; omega) | decide), (by first | omega | (dsimp only; omega) | decide)⟩ ⟨k1, hk1, rfl, rfl, g, fun _ _ => rfl, rfl⟩
  · have h1 : N < cap := Nat.lt_of_le_of_ne h0 (fun h9 => h (congrArg nI h9))
    refine j_aload_n X (i := 0) dJ7_copyOfRange_39247_10 rfl rfl ?_
    refine j_iload_n X (i := 1) dJ7_copyOfRange_39247_11 rfl rfl ?_
    refine j_iload_n X (i := 2) dJ7_copyOfRange_39247_12 rfl rfl ?_
    refine j_callS3 X (c_copyRB hl hr hfr hB h1 h2) ml_J7_339 st_yJ7_copyOfRangeByte_39247 in_J7 cd_yJ7_copyOfRangeByte_39247 hz_yJ7_copyOfRangeByte_39247 dJ7_copyOfRange_39247_13 ⟨(by decide), (by decide)⟩ ⟨(by decide), (by decide)⟩ (Nat.le_of_ble_eq_true rfl) (fun _ h => h.elim) (fun r9 L9 f9 h9 => ?_)
    obtain ⟨k1, hk1, rfl, rfl, g1, hg1, rfl⟩ := h9
    dsimp only [Option.toList, List.cons_append, List.nil_append, List.append]
    exact q_aret X hQ dJ7_copyOfRange_39247_16 rfl (Or.inr ⟨_, rfl⟩) ⟨(by decide), (by decide)⟩ ⟨k1, hk1, rfl, rfl, g1, hg1, rfl⟩
