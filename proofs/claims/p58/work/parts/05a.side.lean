def f_X4_setNumber (k : Nat) (p0 : Int32) (p1 : Int32) (p2 : Int32) (a : Mem) : Mem := bT (upR a (k + 1) (putI 25 (a (k + 1)) ((p0 * (5 : Int32)) + p1) p2)) fun a2 => a2
set_option maxRecDepth 100000 in
set_option maxHeartbeats 4000000 in
theorem m_X4_setNumber {l : Launch} (hl : l.stackTraces = false) {G : GG} {L : List Nat} (hL : LOK L) {a b c : Mem} {k : Nat} (hk : ty k = 4) {p0 : Int32} {p1 : Int32} {p2 : Int32} {a' : Mem} (hR : f_X4_setNumber k p0 p1 p2 a = a') : Ct l G yX4_setNumber (.code yX4_setNumber cX4_setNumber 4 none) 1 22 0 0 [.ref (ad L k), .int p0, .int p1, .int p2] L (FW G L a b c) px0 (stay L (fun r f1 => f1 = (FW G L a' b c) ∧ r = none)) := by
  refine Ct.ofq (own := RX4) hl rfl (by decide) [some (.ref (ad L k)), some (.int p0), some (.int p1), some (.int p2)] rfl (Nat.le_of_ble_eq_true rfl) ?_
  intro p e s m below meth c9 A ar Q hQ X
  unfold f_X4_setNumber at hR
  refine j_aload_n X (i := 0) dX4_setNumber_0 rfl rfl ?_
  refine j_getf X 4 0 rfl cw_X4 fl_X4_9 (by decide) dX4_setNumber_1 (inL hL hk (by decide)) (FW4 hL hk) rfl ?_
  refine j_iload_n X (i := 1) dX4_setNumber_4 rfl rfl ?_
  refine j_iconst X (5) dX4_setNumber_5 (by decide) ?_
  refine j_imul X dX4_setNumber_6 ?_
  refine j_iload_n X (i := 2) dX4_setNumber_7 rfl rfl ?_
  refine j_iadd X dX4_setNumber_8 ?_
  refine j_iload_n X (i := 3) dX4_setNumber_9 rfl rfl ?_
  obtain ⟨a2, h1, hR⟩ := bT_inv hR
  refine j_callSN3 X (c_sN_21 hl hL (ty4_0 hk) h1) (List.mem_of_getElem? (i := 7) rfl) st_yX8_setNumberAt in_X8 cd_yX8_setNumberAt hy_yX8_setNumberAt dX4_setNumber_10 ⟨(by decide), (by decide)⟩ ⟨(by decide), (by decide)⟩ (Nat.le_of_ble_eq_true rfl) (fun _ h => h.elim) (fun r9 L9 f9 h9 => ?_)
  obtain ⟨h91, h92, h93⟩ := h9
  subst r9
  subst f9
  subst L9
  dsimp only [Option.toList, List.cons_append, List.nil_append, List.append]
  exact q_vret X hQ dX4_setNumber_13 rfl ⟨(by decide), (by decide)⟩ ⟨rfl, congrArg (fun z => FW G L z b c) hR, rfl⟩
def f_X4_number (k : Nat) (p0 : Int32) (p1 : Int32) (a : Mem) : Int32 := bT ((p0 * (5 : Int32)) + p1) fun x1 => if x1 < 0 then ((0 : Int32)) else (if (nI 25) ≤ x1 then ((0 : Int32)) else ((a (k + 1) (x1).toNatClampNeg)))
set_option maxRecDepth 100000 in
set_option maxHeartbeats 4000000 in
theorem m_X4_number {l : Launch} (hl : l.stackTraces = false) {G : GG} {L : List Nat} (hL : LOK L) {a b c : Mem} {k : Nat} (hk : ty k = 4) {p0 : Int32} {p1 : Int32} {v : Int32} (hR : f_X4_number k p0 p1 a = v) : Ct l G yX4_number (.code yX4_number cX4_number 4 (some .int)) 0 0 0 0 [.ref (ad L k), .int p0, .int p1] L (FW G L a b c) px0 (stay L (fun r f1 => f1 = (FW G L a b c) ∧ r = some (.int v))) := by
  refine Ct.ofq (own := RX4) hl rfl (by decide) [some (.ref (ad L k)), some (.int p0), some (.int p1), none] rfl (Nat.le_of_ble_eq_true rfl) ?_
  intro p e s m below meth c9 A ar Q hQ X
  unfold f_X4_number at hR
  refine j_iload_n X (i := 1) dX4_number_0 rfl rfl ?_
  refine j_iconst X (5) dX4_number_1 (by decide) ?_
  refine j_imul X dX4_number_2 ?_
  refine j_iload_n X (i := 2) dX4_number_3 rfl rfl ?_
  refine j_iadd X dX4_number_4 ?_
  obtain ⟨x1, h2, hR⟩ := bT_inv hR
  refine J.eqi h2 ?_
  refine j_istore_n X (i := 3) dX4_number_5 rfl (by decide) (lvOK_s rfl okPrev_int) ?_
  dsimp only [List.set]
  refine j_iload_n X (i := 3) dX4_number_6 rfl rfl ?_
  refine j_if_lt X (tgt := 28) dX4_number_7 (by decide) (fun h3 => ?_) (fun h3 => ?_)
  · replace hR := (if_pos h3).symm.trans hR
    refine j_iconst X (0) dX4_number_28 (by decide) ?_
    exact q_iret X hQ dX4_number_29 rfl ⟨(by decide), (by decide)⟩ ⟨rfl, rfl, congrArg (fun z => some (Value.int z)) hR⟩
  · replace hR := (if_neg h3).symm.trans hR
    refine j_iload_n X (i := 3) dX4_number_10 rfl rfl ?_
    refine j_aload_n X (i := 0) dX4_number_11 rfl rfl ?_
    refine j_getf X 4 0 rfl cw_X4 fl_X4_9 (by decide) dX4_number_12 (inL hL hk (by decide)) (FW4 hL hk) rfl ?_
    refine j_alenN X (k9 := 0) dX4_number_15 (inL hL (ty4_0 hk) (by decide)) (FW21 hL (ty4_0 hk)) rfl ?_
    refine j_icmp_ge X (tgt := 28) dX4_number_16 (by decide) (fun h4 => ?_) (fun h4 => ?_)
    · replace hR := (if_pos h4).symm.trans hR
      refine j_iconst X (0) dX4_number_28 (by decide) ?_
      exact q_iret X hQ dX4_number_29 rfl ⟨(by decide), (by decide)⟩ ⟨rfl, rfl, congrArg (fun z => some (Value.int z)) hR⟩
    · replace hR := (if_neg h4).symm.trans hR
      refine j_aload_n X (i := 0) dX4_number_19 rfl rfl ?_
      refine j_getf X 4 0 rfl cw_X4 fl_X4_9 (by decide) dX4_number_20 (inL hL hk (by decide)) (FW4 hL hk) rfl ?_
      refine j_iload_n X (i := 3) dX4_number_23 rfl rfl ?_
      refine j_iald X dX4_number_24 (inL hL (ty4_0 hk) (by decide)) (FW21 hL (ty4_0 hk)) (in_ge (by assumption) (by assumption) (by decide)) ?_
      refine j_goto X (tgt := 29) dX4_number_25 (by decide) ?_
      exact q_iret X hQ dX4_number_29 rfl ⟨(by decide), (by decide)⟩ ⟨rfl, rfl, congrArg (fun z => some (Value.int z)) hR⟩
def f_X5_setUp (k : Nat) (r0 : Nat) (a : Mem) : Mem := bT (upR a (k + 1) (fillI 5 (a (k + 1)) (0 : Int32))) fun a2 => bT (f_X4_number r0 (0 : Int32) (1 : Int32) a2) fun x5 => bT (up2 a2 k 1 x5) fun a7 => bT (up2 a7 k 2 (0 : Int32)) fun a9 => bT (up2 a9 k 3 (0 : Int32)) fun a11 => bT (up2 a11 k 4 (0 : Int32)) fun a13 => bT (up2 a13 k 5 (a13 r0 2)) fun a15 => bT (up2 a15 k 6 (0 : Int32)) fun a17 => bT (up2 a17 k 7 (0 : Int32)) fun a19 => bT (up2 a19 k 8 (0 : Int32)) fun a21 => bT (up2 a21 k 9 (0 : Int32)) fun a23 => bT (up2 a23 k 10 (0 : Int32)) fun a25 => bT (up2 a25 k 11 (0 : Int32)) fun a27 => bT (up2 a27 k 12 (0 : Int32)) fun a29 => a29
set_option maxRecDepth 100000 in
set_option maxHeartbeats 4000000 in
theorem m_X5_setUp {l : Launch} (hl : l.stackTraces = false) {G : GG} {L : List Nat} (hL : LOK L) {a b c : Mem} {k : Nat} (hk : ty k = 5) {r0 : Nat} (hr0 : ty r0 = 4) {a' : Mem} (hR : f_X5_setUp k r0 a = a') : Ct l G yX5_setUp (.code yX5_setUp cX5_setUp 2 none) 1 23 0 0 [.ref (ad L k), .ref (ad L r0)] L (FW G L a b c) px0 (stay L (fun r f1 => f1 = (FW G L a' b c) ∧ r = none)) := by
  refine Ct.ofq (own := RX5) hl rfl (by decide) [some (.ref (ad L k)), some (.ref (ad L r0))] rfl (Nat.le_of_ble_eq_true rfl) ?_
  intro p e s m below meth c9 A ar Q hQ X
  unfold f_X5_setUp at hR
  refine j_aload_n X (i := 0) dX5_setUp_0 rfl rfl ?_
  refine j_getf X 5 0 rfl cw_X5 fl_X5_9 (by decide) dX5_setUp_1 (inL hL hk (by decide)) (FW5 hL hk) rfl ?_
  refine j_iconst X (0) dX5_setUp_4 (by decide) ?_
  obtain ⟨a2, h1, hR⟩ := bT_inv hR
  refine j_callS2 X (c_fI_23 hl hL (ty5_0 hk) h1) ml_X5_15 st_yJ7_fill_53178 in_J7 cd_yJ7_fill_53178 hy_yJ7_fill_53178 dX5_setUp_5 ⟨(by decide), (by decide)⟩ ⟨(by decide), (by decide)⟩ (Nat.le_of_ble_eq_true rfl) (fun _ h => h.elim) (fun r9 L9 f9 h9 => ?_)
  obtain ⟨h91, h92, h93⟩ := h9
  subst r9
  subst f9
  subst L9
  dsimp only [Option.toList, List.cons_append, List.nil_append, List.append]
  refine j_aload_n X (i := 0) dX5_setUp_8 rfl rfl ?_
  refine j_aload_n X (i := 1) dX5_setUp_9 rfl rfl ?_
  refine j_iconst X (0) dX5_setUp_10 (by decide) ?_
  refine j_iconst X (1) dX5_setUp_11 (by decide) ?_
  obtain ⟨x5, h4, hR⟩ := bT_inv hR
  refine j_callV2 X 4 (m_X4_number hl hL hr0 h4) ml_X5_21 im_yX4_number se_yX4_number in_X4 cd_yX4_number hy_yX4_number dX5_setUp_12 rfl (inL hL hr0 (by decide)) (FW4 hL hr0) ⟨(by decide), (by decide)⟩ ⟨(by decide), (by decide)⟩ (Nat.le_of_ble_eq_true rfl) (fun _ h => h.elim) (fun r9 L9 f9 h9 => ?_)
  obtain ⟨h91, h92, h93⟩ := h9
  subst r9
  subst f9
  subst L9
  dsimp only [Option.toList, List.cons_append, List.nil_append, List.append]
  obtain ⟨a7, h8, hR⟩ := bT_inv hR
  refine tp_X5_1 X hL hk h8 fl_X5_27 dX5_setUp_15 ?_
  refine j_aload_n X (i := 0) dX5_setUp_18 rfl rfl ?_
  refine j_iconst X (0) dX5_setUp_19 (by decide) ?_
  obtain ⟨a9, h10, hR⟩ := bT_inv hR
  refine tp_X5_2 X hL hk h10 fl_X5_31 dX5_setUp_20 ?_
  refine j_aload_n X (i := 0) dX5_setUp_23 rfl rfl ?_
  refine j_iconst X (0) dX5_setUp_24 (by decide) ?_
  obtain ⟨a11, h12, hR⟩ := bT_inv hR
  refine tp_X5_3 X hL hk h12 fl_X5_34 dX5_setUp_25 ?_
  refine j_aload_n X (i := 0) dX5_setUp_28 rfl rfl ?_
  refine j_iconst X (0) dX5_setUp_29 (by decide) ?_
  obtain ⟨a13, h14, hR⟩ := bT_inv hR
  refine tp_X5_4 X hL hk h14 fl_X5_37 dX5_setUp_30 ?_
  refine j_aload_n X (i := 0) dX5_setUp_33 rfl rfl ?_
  refine j_aload_n X (i := 1) dX5_setUp_34 rfl rfl ?_
  refine j_getf X 4 2 rfl cw_X4 fl_X5_40 (by decide) dX5_setUp_35 (inL hL hr0 (by decide)) (FW4 hL hr0) rfl ?_
  obtain ⟨a15, h16, hR⟩ := bT_inv hR
  refine tp_X5_5 X hL hk h16 fl_X5_43 dX5_setUp_38 ?_
  refine j_aload_n X (i := 0) dX5_setUp_41 rfl rfl ?_
  refine j_iconst X (0) dX5_setUp_42 (by decide) ?_
  obtain ⟨a17, h18, hR⟩ := bT_inv hR
  refine tp_X5_6 X hL hk isB_0 h18 fl_X5_44 dX5_setUp_43 ?_
  refine j_aload_n X (i := 0) dX5_setUp_46 rfl rfl ?_
  refine j_iconst X (0) dX5_setUp_47 (by decide) ?_
  obtain ⟨a19, h20, hR⟩ := bT_inv hR
  refine tp_X5_7 X hL hk h20 fl_X5_48 dX5_setUp_48 ?_
  refine j_aload_n X (i := 0) dX5_setUp_51 rfl rfl ?_
  refine j_iconst X (0) dX5_setUp_52 (by decide) ?_
  obtain ⟨a21, h22, hR⟩ := bT_inv hR
  refine tp_X5_8 X hL hk h22 fl_X5_51 dX5_setUp_53 ?_
  refine j_aload_n X (i := 0) dX5_setUp_56 rfl rfl ?_
  refine j_iconst X (0) dX5_setUp_57 (by decide) ?_
  obtain ⟨a23, h24, hR⟩ := bT_inv hR
  refine tp_X5_9 X hL hk isB_0 h24 fl_X5_54 dX5_setUp_58 ?_
  refine j_aload_n X (i := 0) dX5_setUp_61 rfl rfl ?_
  refine j_iconst X (0) dX5_setUp_62 (by decide) ?_
  obtain ⟨a25, h26, hR⟩ := bT_inv hR
  refine tp_X5_10 X hL hk isB_0 h26 fl_X5_57 dX5_setUp_63 ?_
  refine j_aload_n X (i := 0) dX5_setUp_66 rfl rfl ?_
  refine j_iconst X (0) dX5_setUp_67 (by decide) ?_
  obtain ⟨a27, h28, hR⟩ := bT_inv hR
  refine tp_X5_11 X hL hk h28 fl_X5_60 dX5_setUp_68 ?_
  refine j_aload_n X (i := 0) dX5_setUp_71 rfl rfl ?_
  refine j_iconst X (0) dX5_setUp_72 (by decide) ?_
  obtain ⟨a29, h30, hR⟩ := bT_inv hR
  refine tp_X5_12 X hL hk h30 fl_X5_63 dX5_setUp_73 ?_
  exact q_vret X hQ dX5_setUp_76 rfl ⟨(by decide), (by decide)⟩ ⟨rfl, congrArg (fun z => FW G L z b c) hR, rfl⟩
def f_X4_clear (k : Nat) (a : Mem) : Mem := bT (upR a (k + 1) (fillI 25 (a (k + 1)) (0 : Int32))) fun a2 => bT (up2 a2 k 1 (0 : Int32)) fun a4 => bT (up2 a4 k 2 (0 : Int32)) fun a6 => bT (up2 a6 k 3 (0 : Int32)) fun a8 => bT (up2 a8 k 4 (-1 : Int32)) fun a10 => a10
set_option maxRecDepth 100000 in
set_option maxHeartbeats 4000000 in
theorem m_X4_clear {l : Launch} (hl : l.stackTraces = false) {G : GG} {L : List Nat} (hL : LOK L) {a b c : Mem} {k : Nat} (hk : ty k = 4) {a' : Mem} (hR : f_X4_clear k a = a') : Ct l G yX4_clear (.code yX4_clear cX4_clear 1 none) 1 23 0 0 [.ref (ad L k)] L (FW G L a b c) px0 (stay L (fun r f1 => f1 = (FW G L a' b c) ∧ r = none)) := by
  refine Ct.ofq (own := RX4) hl rfl (by decide) [some (.ref (ad L k))] rfl (Nat.le_of_ble_eq_true rfl) ?_
  intro p e s m below meth c9 A ar Q hQ X
  unfold f_X4_clear at hR
  refine j_aload_n X (i := 0) dX4_clear_0 rfl rfl ?_
  refine j_getf X 4 0 rfl cw_X4 fl_X4_9 (by decide) dX4_clear_1 (inL hL hk (by decide)) (FW4 hL hk) rfl ?_
  refine j_iconst X (0) dX4_clear_4 (by decide) ?_
  obtain ⟨a2, h1, hR⟩ := bT_inv hR
  refine j_callS2 X (c_fI_21 hl hL (ty4_0 hk) h1) ml_X4_19 st_yJ7_fill_53178 in_J7 cd_yJ7_fill_53178 hy_yJ7_fill_53178 dX4_clear_5 ⟨(by decide), (by decide)⟩ ⟨(by decide), (by decide)⟩ (Nat.le_of_ble_eq_true rfl) (fun _ h => h.elim) (fun r9 L9 f9 h9 => ?_)
  obtain ⟨h91, h92, h93⟩ := h9
  subst r9
  subst f9
  subst L9
  dsimp only [Option.toList, List.cons_append, List.nil_append, List.append]
  refine j_aload_n X (i := 0) dX4_clear_8 rfl rfl ?_
  refine j_iconst X (0) dX4_clear_9 (by decide) ?_
  obtain ⟨a4, h5, hR⟩ := bT_inv hR
  refine tp_X4_1 X hL hk h5 fl_X4_25 dX4_clear_10 ?_
  refine j_aload_n X (i := 0) dX4_clear_13 rfl rfl ?_
  refine j_iconst X (0) dX4_clear_14 (by decide) ?_
  obtain ⟨a6, h7, hR⟩ := bT_inv hR
  refine tp_X4_2 X hL hk h7 fl_X4_28 dX4_clear_15 ?_
  refine j_aload_n X (i := 0) dX4_clear_18 rfl rfl ?_
  refine j_iconst X (0) dX4_clear_19 (by decide) ?_
  obtain ⟨a8, h9, hR⟩ := bT_inv hR
  refine tp_X4_3 X hL hk h9 fl_X4_31 dX4_clear_20 ?_
  refine j_aload_n X (i := 0) dX4_clear_23 rfl rfl ?_
  refine j_iconst X (-1) dX4_clear_24 (by decide) ?_
  obtain ⟨a10, h11, hR⟩ := bT_inv hR
  refine tp_X4_4 X hL hk h11 fl_X4_15 dX4_clear_25 ?_
  exact q_vret X hQ dX4_clear_28 rfl ⟨(by decide), (by decide)⟩ ⟨rfl, congrArg (fun z => FW G L z b c) hR, rfl⟩
def f_X4_isEndless (k : Nat) (p0 : Int32) (a : Mem) : Int32 := bT (f_X4_number k p0 (0 : Int32) a) fun x2 => if x2 = 0 then ((1 : Int32)) else ((0 : Int32))
set_option maxRecDepth 100000 in
set_option maxHeartbeats 4000000 in
theorem m_X4_isEndless {l : Launch} (hl : l.stackTraces = false) {G : GG} {L : List Nat} (hL : LOK L) {a b c : Mem} {k : Nat} (hk : ty k = 4) {p0 : Int32} {v : Int32} (hR : f_X4_isEndless k p0 a = v) : Ct l G yX4_isEndless (.code yX4_isEndless cX4_isEndless 2 (some .boolean)) 1 23 0 0 [.ref (ad L k), .int p0] L (FW G L a b c) px0 (stay L (fun r f1 => f1 = (FW G L a b c) ∧ r = some (.int v) ∧ isB v)) := by
  refine Ct.ofq (own := RX4) hl rfl (by decide) [some (.ref (ad L k)), some (.int p0)] rfl (Nat.le_of_ble_eq_true rfl) ?_
  intro p e s m below meth c9 A ar Q hQ X
  unfold f_X4_isEndless at hR
  refine j_aload_n X (i := 0) dX4_isEndless_0 rfl rfl ?_
  refine j_iload_n X (i := 1) dX4_isEndless_1 rfl rfl ?_
  refine j_iconst X (0) dX4_isEndless_2 (by decide) ?_
  obtain ⟨x2, h1, hR⟩ := bT_inv hR
  refine j_callV2 X 4 (m_X4_number hl hL hk h1) ml_X4_42 im_yX4_number se_yX4_number in_X4 cd_yX4_number hy_yX4_number dX4_isEndless_3 rfl (inL hL hk (by decide)) (FW4 hL hk) ⟨(by decide), (by decide)⟩ ⟨(by decide), (by decide)⟩ (Nat.le_of_ble_eq_true rfl) (fun _ h => h.elim) (fun r9 L9 f9 h9 => ?_)
  obtain ⟨h91, h92, h93⟩ := h9
  subst r9
  subst f9
  subst L9
  dsimp only [Option.toList, List.cons_append, List.nil_append, List.append]
  refine j_if_ne X (tgt := 13) dX4_isEndless_6 (by decide) (fun h4 => ?_) (fun h4 => ?_)
  · replace hR := (if_neg h4).symm.trans hR
    refine j_iconst X (0) dX4_isEndless_13 (by decide) ?_
    exact q_zret X hQ dX4_isEndless_14 rfl (nar_B isB_0) ⟨(by decide), (by decide)⟩ ⟨rfl, rfl, congrArg (fun z => some (Value.int z)) hR, hR ▸ isB_0⟩
  · replace hR := (if_pos h4).symm.trans hR
    refine j_iconst X (1) dX4_isEndless_9 (by decide) ?_
    refine j_goto X (tgt := 14) dX4_isEndless_10 (by decide) ?_
    exact q_zret X hQ dX4_isEndless_14 rfl (nar_B isB_1) ⟨(by decide), (by decide)⟩ ⟨rfl, rfl, congrArg (fun z => some (Value.int z)) hR, hR ▸ isB_1⟩
def f_X4_copyFrom (k : Nat) (r0 : Nat) (a : Mem) : Mem := bT (upR a (k + 1) (va_cpy (a (r0 + 1)) (a (k + 1)) 0 0 25)) fun a2 => bT (up2 a2 k 1 (a2 r0 1)) fun a4 => bT (up2 a4 k 2 (a4 r0 2)) fun a6 => bT (up2 a6 k 3 (a6 r0 3)) fun a8 => bT (up2 a8 k 4 (a8 r0 4)) fun a10 => a10
set_option maxRecDepth 100000 in
set_option maxHeartbeats 4000000 in
theorem m_X4_copyFrom {l : Launch} (hl : l.stackTraces = false) {G : GG} {L : List Nat} (hL : LOK L) {a b c : Mem} {k : Nat} (hk : ty k = 4) {r0 : Nat} (hr0 : ty r0 = 4) {a' : Mem} (hR : f_X4_copyFrom k r0 a = a') : Ct l G yX4_copyFrom (.code yX4_copyFrom cX4_copyFrom 2 none) 2 81 0 0 [.ref (ad L k), .ref (ad L r0)] L (FW G L a b c) px0 (stay L (fun r f1 => f1 = (FW G L a' b c) ∧ r = none)) := by
  refine Ct.ofq (own := RX4) hl rfl (by decide) [some (.ref (ad L k)), some (.ref (ad L r0))] rfl (Nat.le_of_ble_eq_true rfl) ?_
  intro p e s m below meth c9 A ar Q hQ X
  unfold f_X4_copyFrom at hR
  refine j_aload_n X (i := 1) dX4_copyFrom_0 rfl rfl ?_
  refine j_getf X 4 0 rfl cw_X4 fl_X4_9 (by decide) dX4_copyFrom_1 (inL hL hr0 (by decide)) (FW4 hL hr0) rfl ?_
  refine j_aload_n X (i := 0) dX4_copyFrom_4 rfl rfl ?_
  refine j_getf X 4 0 rfl cw_X4 fl_X4_9 (by decide) dX4_copyFrom_5 (inL hL hk (by decide)) (FW4 hL hk) rfl ?_
  obtain ⟨a2, h1, hR⟩ := bT_inv hR
  refine j_callSN2 X (c_cR_21 hl hL (ty4_0 hr0) (ty4_0 hk) h1) (List.mem_of_getElem? (i := 10) rfl) st_yX8_copyRow in_X8 cd_yX8_copyRow hy_yX8_copyRow dX4_copyFrom_8 ⟨(by decide), (by decide)⟩ ⟨(by decide), (by decide)⟩ (Nat.le_of_ble_eq_true rfl) (fun _ h => h.elim) (fun r9 L9 f9 h9 => ?_)
  obtain ⟨h91, h92, h93⟩ := h9
  subst r9
  subst f9
  subst L9
  dsimp only [Option.toList, List.cons_append, List.nil_append, List.append]
  refine j_aload_n X (i := 0) dX4_copyFrom_11 rfl rfl ?_
  refine j_aload_n X (i := 1) dX4_copyFrom_12 rfl rfl ?_
  refine j_getf X 4 1 rfl cw_X4 fl_X4_25 (by decide) dX4_copyFrom_13 (inL hL hr0 (by decide)) (FW4 hL hr0) rfl ?_
  obtain ⟨a4, h5, hR⟩ := bT_inv hR
  refine tp_X4_1 X hL hk h5 fl_X4_25 dX4_copyFrom_16 ?_
  refine j_aload_n X (i := 0) dX4_copyFrom_19 rfl rfl ?_
  refine j_aload_n X (i := 1) dX4_copyFrom_20 rfl rfl ?_
  refine j_getf X 4 2 rfl cw_X4 fl_X4_28 (by decide) dX4_copyFrom_21 (inL hL hr0 (by decide)) (FW4 hL hr0) rfl ?_
  obtain ⟨a6, h7, hR⟩ := bT_inv hR
  refine tp_X4_2 X hL hk h7 fl_X4_28 dX4_copyFrom_24 ?_
  refine j_aload_n X (i := 0) dX4_copyFrom_27 rfl rfl ?_
  refine j_aload_n X (i := 1) dX4_copyFrom_28 rfl rfl ?_
  refine j_getf X 4 3 rfl cw_X4 fl_X4_31 (by decide) dX4_copyFrom_29 (inL hL hr0 (by decide)) (FW4 hL hr0) rfl ?_
  obtain ⟨a8, h9, hR⟩ := bT_inv hR
  refine tp_X4_3 X hL hk h9 fl_X4_31 dX4_copyFrom_32 ?_
  refine j_aload_n X (i := 0) dX4_copyFrom_35 rfl rfl ?_
  refine j_aload_n X (i := 1) dX4_copyFrom_36 rfl rfl ?_
  refine j_getf X 4 4 rfl cw_X4 fl_X4_15 (by decide) dX4_copyFrom_37 (inL hL hr0 (by decide)) (FW4 hL hr0) rfl ?_
  obtain ⟨a10, h11, hR⟩ := bT_inv hR
  refine tp_X4_4 X hL hk h11 fl_X4_15 dX4_copyFrom_40 ?_
  exact q_vret X hQ dX4_copyFrom_43 rfl ⟨(by decide), (by decide)⟩ ⟨rfl, congrArg (fun z => FW G L z b c) hR, rfl⟩
def f_X1_copyFrom (k : Nat) (r0 : Nat) (a : Mem) : Mem := bT (upR a (k + 1) (va_cpy (a (r0 + 1)) (a (k + 1)) 0 0 240)) fun a2 => bT (up2 a2 k 1 (a2 r0 1)) fun a4 => bT (up2 a4 k 2 (a4 r0 2)) fun a6 => a6
set_option maxRecDepth 100000 in
set_option maxHeartbeats 4000000 in
theorem m_X1_copyFrom {l : Launch} (hl : l.stackTraces = false) {G : GG} {L : List Nat} (hL : LOK L) {a b c : Mem} {k : Nat} (hk : ty k = 1) {r0 : Nat} (hr0 : ty r0 = 1) {a' : Mem} (hR : f_X1_copyFrom k r0 a = a') : Ct l G yX1_copyFrom (.code yX1_copyFrom cX1_copyFrom 2 none) 2 81 0 0 [.ref (ad L k), .ref (ad L r0)] L (FW G L a b c) px0 (stay L (fun r f1 => f1 = (FW G L a' b c) ∧ r = none)) := by
  refine Ct.ofq (own := RX1) hl rfl (by decide) [some (.ref (ad L k)), some (.ref (ad L r0))] rfl (Nat.le_of_ble_eq_true rfl) ?_
  intro p e s m below meth c9 A ar Q hQ X
  unfold f_X1_copyFrom at hR
  refine j_aload_n X (i := 1) dX1_copyFrom_0 rfl rfl ?_
  refine j_getf X 1 0 rfl cw_X1 fl_X1_9 (by decide) dX1_copyFrom_1 (inL hL hr0 (by decide)) (FW1 hL hr0) rfl ?_
  refine j_aload_n X (i := 0) dX1_copyFrom_4 rfl rfl ?_
  refine j_getf X 1 0 rfl cw_X1 fl_X1_9 (by decide) dX1_copyFrom_5 (inL hL hk (by decide)) (FW1 hL hk) rfl ?_
  obtain ⟨a2, h1, hR⟩ := bT_inv hR
  refine j_callSN2 X (c_cR_22 hl hL (ty1_0 hr0) (ty1_0 hk) h1) (List.mem_of_getElem? (i := 11) rfl) st_yX8_copyRow in_X8 cd_yX8_copyRow hy_yX8_copyRow dX1_copyFrom_8 ⟨(by decide), (by decide)⟩ ⟨(by decide), (by decide)⟩ (Nat.le_of_ble_eq_true rfl) (fun _ h => h.elim) (fun r9 L9 f9 h9 => ?_)
  obtain ⟨h91, h92, h93⟩ := h9
  subst r9
  subst f9
  subst L9
  dsimp only [Option.toList, List.cons_append, List.nil_append, List.append]
  refine j_aload_n X (i := 0) dX1_copyFrom_11 rfl rfl ?_
  refine j_aload_n X (i := 1) dX1_copyFrom_12 rfl rfl ?_
  refine j_getf X 1 1 rfl cw_X1 fl_X1_15 (by decide) dX1_copyFrom_13 (inL hL hr0 (by decide)) (FW1 hL hr0) rfl ?_
  obtain ⟨a4, h5, hR⟩ := bT_inv hR
  refine tp_X1_1 X hL hk h5 fl_X1_15 dX1_copyFrom_16 ?_
  refine j_aload_n X (i := 0) dX1_copyFrom_19 rfl rfl ?_
  refine j_aload_n X (i := 1) dX1_copyFrom_20 rfl rfl ?_
  refine j_getf X 1 2 rfl cw_X1 fl_X1_19 (by decide) dX1_copyFrom_21 (inL hL hr0 (by decide)) (FW1 hL hr0) rfl ?_
  obtain ⟨a6, h7, hR⟩ := bT_inv hR
  refine tp_X1_2 X hL hk h7 fl_X1_19 dX1_copyFrom_24 ?_
  exact q_vret X hQ dX1_copyFrom_27 rfl ⟨(by decide), (by decide)⟩ ⟨rfl, congrArg (fun z => FW G L z b c) hR, rfl⟩
def f_X5_copyFrom (k : Nat) (r0 : Nat) (a : Mem) : Mem := bT (upR a (k + 1) (va_cpy (a (r0 + 1)) (a (k + 1)) 0 0 5)) fun a2 => bT (up2 a2 k 1 (a2 r0 1)) fun a4 => bT (up2 a4 k 2 (a4 r0 2)) fun a6 => bT (up2 a6 k 3 (a6 r0 3)) fun a8 => bT (up2 a8 k 4 (a8 r0 4)) fun a10 => bT (up2 a10 k 5 (a10 r0 5)) fun a12 => bT (up2 a12 k 6 (nb (a12 r0 6))) fun a14 => bT (up2 a14 k 7 (a14 r0 7)) fun a16 => bT (up2 a16 k 8 (a16 r0 8)) fun a18 => bT (up2 a18 k 9 (nb (a18 r0 9))) fun a20 => bT (up2 a20 k 10 (nb (a20 r0 10))) fun a22 => bT (up2 a22 k 11 (a22 r0 11)) fun a24 => bT (up2 a24 k 12 (a24 r0 12)) fun a26 => a26
set_option maxRecDepth 100000 in
set_option maxHeartbeats 4000000 in
theorem m_X5_copyFrom {l : Launch} (hl : l.stackTraces = false) {G : GG} {L : List Nat} (hL : LOK L) {a b c : Mem} {k : Nat} (hk : ty k = 5) {r0 : Nat} (hr0 : ty r0 = 5) {a' : Mem} (hR : f_X5_copyFrom k r0 a = a') : Ct l G yX5_copyFrom (.code yX5_copyFrom cX5_copyFrom 2 none) 2 81 0 0 [.ref (ad L k), .ref (ad L r0)] L (FW G L a b c) px0 (stay L (fun r f1 => f1 = (FW G L a' b c) ∧ r = none)) := by
  refine Ct.ofq (own := RX5) hl rfl (by decide) [some (.ref (ad L k)), some (.ref (ad L r0))] rfl (Nat.le_of_ble_eq_true rfl) ?_
  intro p e s m below meth c9 A ar Q hQ X
  unfold f_X5_copyFrom at hR
  refine j_aload_n X (i := 1) dX5_copyFrom_0 rfl rfl ?_
  refine j_getf X 5 0 rfl cw_X5 fl_X5_9 (by decide) dX5_copyFrom_1 (inL hL hr0 (by decide)) (FW5 hL hr0) rfl ?_
  refine j_aload_n X (i := 0) dX5_copyFrom_4 rfl rfl ?_
  refine j_getf X 5 0 rfl cw_X5 fl_X5_9 (by decide) dX5_copyFrom_5 (inL hL hk (by decide)) (FW5 hL hk) rfl ?_
  obtain ⟨a2, h1, hR⟩ := bT_inv hR
  refine j_callSN2 X (c_cR_23 hl hL (ty5_0 hr0) (ty5_0 hk) h1) (List.mem_of_getElem? (i := 12) rfl) st_yX8_copyRow in_X8 cd_yX8_copyRow hy_yX8_copyRow dX5_copyFrom_8 ⟨(by decide), (by decide)⟩ ⟨(by decide), (by decide)⟩ (Nat.le_of_ble_eq_true rfl) (fun _ h => h.elim) (fun r9 L9 f9 h9 => ?_)
  obtain ⟨h91, h92, h93⟩ := h9
  subst r9
  subst f9
  subst L9
  dsimp only [Option.toList, List.cons_append, List.nil_append, List.append]
  refine j_aload_n X (i := 0) dX5_copyFrom_11 rfl rfl ?_
  refine j_aload_n X (i := 1) dX5_copyFrom_12 rfl rfl ?_
  refine j_getf X 5 1 rfl cw_X5 fl_X5_27 (by decide) dX5_copyFrom_13 (inL hL hr0 (by decide)) (FW5 hL hr0) rfl ?_
  obtain ⟨a4, h5, hR⟩ := bT_inv hR
  refine tp_X5_1 X hL hk h5 fl_X5_27 dX5_copyFrom_16 ?_
  refine j_aload_n X (i := 0) dX5_copyFrom_19 rfl rfl ?_
  refine j_aload_n X (i := 1) dX5_copyFrom_20 rfl rfl ?_
  refine j_getf X 5 2 rfl cw_X5 fl_X5_31 (by decide) dX5_copyFrom_21 (inL hL hr0 (by decide)) (FW5 hL hr0) rfl ?_
  obtain ⟨a6, h7, hR⟩ := bT_inv hR
  refine tp_X5_2 X hL hk h7 fl_X5_31 dX5_copyFrom_24 ?_
  refine j_aload_n X (i := 0) dX5_copyFrom_27 rfl rfl ?_
  refine j_aload_n X (i := 1) dX5_copyFrom_28 rfl rfl ?_
  refine j_getf X 5 3 rfl cw_X5 fl_X5_34 (by decide) dX5_copyFrom_29 (inL hL hr0 (by decide)) (FW5 hL hr0) rfl ?_
  obtain ⟨a8, h9, hR⟩ := bT_inv hR
  refine tp_X5_3 X hL hk h9 fl_X5_34 dX5_copyFrom_32 ?_
  refine j_aload_n X (i := 0) dX5_copyFrom_35 rfl rfl ?_
  refine j_aload_n X (i := 1) dX5_copyFrom_36 rfl rfl ?_
  refine j_getf X 5 4 rfl cw_X5 fl_X5_37 (by decide) dX5_copyFrom_37 (inL hL hr0 (by decide)) (FW5 hL hr0) rfl ?_
  obtain ⟨a10, h11, hR⟩ := bT_inv hR
  refine tp_X5_4 X hL hk h11 fl_X5_37 dX5_copyFrom_40 ?_
  refine j_aload_n X (i := 0) dX5_copyFrom_43 rfl rfl ?_
  refine j_aload_n X (i := 1) dX5_copyFrom_44 rfl rfl ?_
  refine j_getf X 5 5 rfl cw_X5 fl_X5_43 (by decide) dX5_copyFrom_45 (inL hL hr0 (by decide)) (FW5 hL hr0) rfl ?_
  obtain ⟨a12, h13, hR⟩ := bT_inv hR
  refine tp_X5_5 X hL hk h13 fl_X5_43 dX5_copyFrom_48 ?_
  refine j_aload_n X (i := 0) dX5_copyFrom_51 rfl rfl ?_
  refine j_aload_n X (i := 1) dX5_copyFrom_52 rfl rfl ?_
  refine j_getf X 5 6 rfl cw_X5 fl_X5_44 (by decide) dX5_copyFrom_53 (inL hL hr0 (by decide)) (FW5 hL hr0) rfl ?_
  obtain ⟨a14, h15, hR⟩ := bT_inv hR
  refine tp_X5_6 X hL hk nb_B h15 fl_X5_44 dX5_copyFrom_56 ?_
  refine j_aload_n X (i := 0) dX5_copyFrom_59 rfl rfl ?_
  refine j_aload_n X (i := 1) dX5_copyFrom_60 rfl rfl ?_
  refine j_getf X 5 7 rfl cw_X5 fl_X5_48 (by decide) dX5_copyFrom_61 (inL hL hr0 (by decide)) (FW5 hL hr0) rfl ?_
  obtain ⟨a16, h17, hR⟩ := bT_inv hR
  refine tp_X5_7 X hL hk h17 fl_X5_48 dX5_copyFrom_64 ?_
  refine j_aload_n X (i := 0) dX5_copyFrom_67 rfl rfl ?_
  refine j_aload_n X (i := 1) dX5_copyFrom_68 rfl rfl ?_
  refine j_getf X 5 8 rfl cw_X5 fl_X5_51 (by decide) dX5_copyFrom_69 (inL hL hr0 (by decide)) (FW5 hL hr0) rfl ?_
  obtain ⟨a18, h19, hR⟩ := bT_inv hR
  refine tp_X5_8 X hL hk h19 fl_X5_51 dX5_copyFrom_72 ?_
  refine j_aload_n X (i := 0) dX5_copyFrom_75 rfl rfl ?_
  refine j_aload_n X (i := 1) dX5_copyFrom_76 rfl rfl ?_
  refine j_getf X 5 9 rfl cw_X5 fl_X5_54 (by decide) dX5_copyFrom_77 (inL hL hr0 (by decide)) (FW5 hL hr0) rfl ?_
  obtain ⟨a20, h21, hR⟩ := bT_inv hR
  refine tp_X5_9 X hL hk nb_B h21 fl_X5_54 dX5_copyFrom_80 ?_
  refine j_aload_n X (i := 0) dX5_copyFrom_83 rfl rfl ?_
  refine j_aload_n X (i := 1) dX5_copyFrom_84 rfl rfl ?_
  refine j_getf X 5 10 rfl cw_X5 fl_X5_57 (by decide) dX5_copyFrom_85 (inL hL hr0 (by decide)) (FW5 hL hr0) rfl ?_
  obtain ⟨a22, h23, hR⟩ := bT_inv hR
  refine tp_X5_10 X hL hk nb_B h23 fl_X5_57 dX5_copyFrom_88 ?_
  refine j_aload_n X (i := 0) dX5_copyFrom_91 rfl rfl ?_
  refine j_aload_n X (i := 1) dX5_copyFrom_92 rfl rfl ?_
  refine j_getf X 5 11 rfl cw_X5 fl_X5_60 (by decide) dX5_copyFrom_93 (inL hL hr0 (by decide)) (FW5 hL hr0) rfl ?_
  obtain ⟨a24, h25, hR⟩ := bT_inv hR
  refine tp_X5_11 X hL hk h25 fl_X5_60 dX5_copyFrom_96 ?_
  refine j_aload_n X (i := 0) dX5_copyFrom_99 rfl rfl ?_
  refine j_aload_n X (i := 1) dX5_copyFrom_100 rfl rfl ?_
  refine j_getf X 5 12 rfl cw_X5 fl_X5_63 (by decide) dX5_copyFrom_101 (inL hL hr0 (by decide)) (FW5 hL hr0) rfl ?_
  obtain ⟨a26, h27, hR⟩ := bT_inv hR
  refine tp_X5_12 X hL hk h27 fl_X5_63 dX5_copyFrom_104 ?_
  exact q_vret X hQ dX5_copyFrom_107 rfl ⟨(by decide), (by decide)⟩ ⟨rfl, congrArg (fun z => FW G L z b c) hR, rfl⟩
def f_X1_clear (k : Nat) (a : Mem) : Mem := bT (up2 a k 1 (0 : Int32)) fun a1 => bT (up2 a1 k 2 (0 : Int32)) fun a3 => a3
set_option maxRecDepth 100000 in
set_option maxHeartbeats 4000000 in
theorem m_X1_clear {l : Launch} (hl : l.stackTraces = false) {G : GG} {L : List Nat} (hL : LOK L) {a b c : Mem} {k : Nat} (hk : ty k = 1) {a' : Mem} (hR : f_X1_clear k a = a') : Ct l G yX1_clear (.code yX1_clear cX1_clear 1 none) 0 0 0 0 [.ref (ad L k)] L (FW G L a b c) px0 (stay L (fun r f1 => f1 = (FW G L a' b c) ∧ r = none)) := by
  refine Ct.ofq (own := RX1) hl rfl (by decide) [some (.ref (ad L k))] rfl (Nat.le_of_ble_eq_true rfl) ?_
  intro p e s m below meth c9 A ar Q hQ X
  unfold f_X1_clear at hR
  refine j_aload_n X (i := 0) dX1_clear_0 rfl rfl ?_
  refine j_iconst X (0) dX1_clear_1 (by decide) ?_
  obtain ⟨a1, h2, hR⟩ := bT_inv hR
  refine tp_X1_1 X hL hk h2 fl_X1_15 dX1_clear_2 ?_
  refine j_aload_n X (i := 0) dX1_clear_5 rfl rfl ?_
  refine j_iconst X (0) dX1_clear_6 (by decide) ?_
  obtain ⟨a3, h4, hR⟩ := bT_inv hR
  refine tp_X1_2 X hL hk h4 fl_X1_19 dX1_clear_7 ?_
  exact q_vret X hQ dX1_clear_10 rfl ⟨(by decide), (by decide)⟩ ⟨rfl, congrArg (fun z => FW G L z b c) hR, rfl⟩
def f_X1_number (k : Nat) (p0 : Int32) (p1 : Int32) (a : Mem) : Int32 := bT ((((a k 2) + (40 : Int32)) - p0) - (((a k 2) + (40 : Int32)) - p0) / (40 : Int32) * (40 : Int32)) fun x1 => bT (atI 240 (a (k + 1)) ((x1 * (6 : Int32)) + p1)) fun x4 => x4
set_option maxRecDepth 100000 in
set_option maxHeartbeats 4000000 in
theorem m_X1_number {l : Launch} (hl : l.stackTraces = false) {G : GG} {L : List Nat} (hL : LOK L) {a b c : Mem} {k : Nat} (hk : ty k = 1) {p0 : Int32} {p1 : Int32} {v : Int32} (hR : f_X1_number k p0 p1 a = v) : Ct l G yX1_number (.code yX1_number cX1_number 4 (some .int)) 1 21 0 0 [.ref (ad L k), .int p0, .int p1] L (FW G L a b c) px0 (stay L (fun r f1 => f1 = (FW G L a b c) ∧ r = some (.int v))) := by
  refine Ct.ofq (own := RX1) hl rfl (by decide) [some (.ref (ad L k)), some (.int p0), some (.int p1), none] rfl (Nat.le_of_ble_eq_true rfl) ?_
  intro p e s m below meth c9 A ar Q hQ X
  unfold f_X1_number at hR
  refine j_aload_n X (i := 0) dX1_number_0 rfl rfl ?_
  refine j_getf X 1 2 rfl cw_X1 fl_X1_19 (by decide) dX1_number_1 (inL hL hk (by decide)) (FW1 hL hk) rfl ?_
  refine j_bipush X (40) dX1_number_4 (by decide) ?_
  refine j_iadd X dX1_number_6 ?_
  refine j_iload_n X (i := 1) dX1_number_7 rfl rfl ?_
  refine j_isub X dX1_number_8 ?_
  refine j_bipush X (40) dX1_number_9 (by decide) ?_
  refine j_irem X dX1_number_11 (by decide) ?_
  obtain ⟨x1, h2, hR⟩ := bT_inv hR
  refine J.eqi h2 ?_
  refine j_istore_n X (i := 3) dX1_number_12 rfl (by decide) (lvOK_s rfl okPrev_int) ?_
  dsimp only [List.set]
  refine j_aload_n X (i := 0) dX1_number_13 rfl rfl ?_
  refine j_getf X 1 0 rfl cw_X1 fl_X1_9 (by decide) dX1_number_14 (inL hL hk (by decide)) (FW1 hL hk) rfl ?_
  refine j_iload_n X (i := 3) dX1_number_17 rfl rfl ?_
  refine j_bipush X (6) dX1_number_18 (by decide) ?_
  refine j_imul X dX1_number_20 ?_
  refine j_iload_n X (i := 2) dX1_number_21 rfl rfl ?_
  refine j_iadd X dX1_number_22 ?_
  obtain ⟨x4, h3, hR⟩ := bT_inv hR
  refine j_callSN2 X (c_nA_22 hl hL (ty1_0 hk) h3) (List.mem_of_getElem? (i := 13) rfl) st_yX8_numberAt in_X8 cd_yX8_numberAt hy_yX8_numberAt dX1_number_23 ⟨(by decide), (by decide)⟩ ⟨(by decide), (by decide)⟩ (Nat.le_of_ble_eq_true rfl) (fun _ h => h.elim) (fun r9 L9 f9 h9 => ?_)
  obtain ⟨h91, h92, h93⟩ := h9
  subst r9
  subst f9
  subst L9
  dsimp only [Option.toList, List.cons_append, List.nil_append, List.append]
  exact q_iret X hQ dX1_number_26 rfl ⟨(by decide), (by decide)⟩ ⟨rfl, rfl, congrArg (fun z => some (Value.int z)) hR⟩
def f_X1_slowestIndex_4 (N : Nat) (k : Nat) (a : Mem) : Nat → Int32 → Int32 → Option Int32
  | 0, _, _ => none
  | fu + 1, x1, x2 => if (a k 1) ≤ x2 then (some x1) else (if x1 = (-1 : Int32) then (bT (x2 + (1 : Int32)) fun x5 => f_X1_slowestIndex_4 N k a fu x2 x5) else (bT (f_X1_number k x2 (1 : Int32) a) fun x8 => bT (f_X1_number k x1 (1 : Int32) a) fun x11 => if x8 ≤ x11 then (bT (x2 + (1 : Int32)) fun x14 => f_X1_slowestIndex_4 N k a fu x1 x14) else (bT (x2 + (1 : Int32)) fun x16 => f_X1_slowestIndex_4 N k a fu x2 x16)))
theorem f_X1_slowestIndex_4_s (N : Nat) (k : Nat) (a : Mem) {fu : Nat} {x1 : Int32} {x2 : Int32} : f_X1_slowestIndex_4 N k a (fu + 1) x1 x2 = (if (a k 1) ≤ x2 then (some x1) else (if x1 = (-1 : Int32) then (bT (x2 + (1 : Int32)) fun x5 => f_X1_slowestIndex_4 N k a fu x2 x5) else (bT (f_X1_number k x2 (1 : Int32) a) fun x8 => bT (f_X1_number k x1 (1 : Int32) a) fun x11 => if x8 ≤ x11 then (bT (x2 + (1 : Int32)) fun x14 => f_X1_slowestIndex_4 N k a fu x1 x14) else (bT (x2 + (1 : Int32)) fun x16 => f_X1_slowestIndex_4 N k a fu x2 x16)))) := rfl
def f_X1_slowestIndex (N : Nat) (k : Nat) (a : Mem) : Option Int32 := f_X1_slowestIndex_4 N k a N (-1 : Int32) (0 : Int32)
def f_X5_freeTicks (k : Nat) (r0 : Nat) (a : Mem) : Int32 := bT (f_X4_number r0 (a k 2) (3 : Int32) a) fun x2 => (mxI (0 : Int32) (x2 - (a k 7)))
set_option maxRecDepth 100000 in
set_option maxHeartbeats 4000000 in
theorem m_X5_freeTicks {l : Launch} (hl : l.stackTraces = false) {G : GG} {L : List Nat} (hL : LOK L) {a b c : Mem} {k : Nat} (hk : ty k = 5) {r0 : Nat} (hr0 : ty r0 = 4) {v : Int32} (hR : f_X5_freeTicks k r0 a = v) : Ct l G yX5_freeTicks (.code yX5_freeTicks cX5_freeTicks 2 (some .int)) 1 24 0 0 [.ref (ad L k), .ref (ad L r0)] L (FW G L a b c) px0 (stay L (fun r f1 => f1 = (FW G L a b c) ∧ r = some (.int v))) := by
  refine Ct.ofq (own := RX5) hl rfl (by decide) [some (.ref (ad L k)), some (.ref (ad L r0))] rfl (Nat.le_of_ble_eq_true rfl) ?_
  intro p e s m below meth c9 A ar Q hQ X
  unfold f_X5_freeTicks at hR
  refine j_iconst X (0) dX5_freeTicks_0 (by decide) ?_
  refine j_aload_n X (i := 1) dX5_freeTicks_1 rfl rfl ?_
  refine j_aload_n X (i := 0) dX5_freeTicks_2 rfl rfl ?_
  refine j_getf X 5 2 rfl cw_X5 fl_X5_31 (by decide) dX5_freeTicks_3 (inL hL hk (by decide)) (FW5 hL hk) rfl ?_
  refine j_iconst X (3) dX5_freeTicks_6 (by decide) ?_
  obtain ⟨x2, h1, hR⟩ := bT_inv hR
  refine j_callV2 X 4 (m_X4_number hl hL hr0 h1) ml_X5_21 im_yX4_number se_yX4_number in_X4 cd_yX4_number hy_yX4_number dX5_freeTicks_7 rfl (inL hL hr0 (by decide)) (FW4 hL hr0) ⟨(by decide), (by decide)⟩ ⟨(by decide), (by decide)⟩ (Nat.le_of_ble_eq_true rfl) (fun _ h => h.elim) (fun r9 L9 f9 h9 => ?_)
  obtain ⟨h91, h92, h93⟩ := h9
  subst r9
  subst f9
  subst L9
  dsimp only [Option.toList, List.cons_append, List.nil_append, List.append]
  refine j_aload_n X (i := 0) dX5_freeTicks_10 rfl rfl ?_
  refine j_getf X 5 7 rfl cw_X5 fl_X5_48 (by decide) dX5_freeTicks_11 (inL hL hk (by decide)) (FW5 hL hk) rfl ?_
  refine j_isub X dX5_freeTicks_14 ?_
  refine j_mmax X ml_X5_74 dX5_freeTicks_15 ⟨(by decide), (Nat.le_of_ble_eq_true rfl)⟩ ⟨(by decide), (by decide)⟩ ?_
  exact q_iret X hQ dX5_freeTicks_18 rfl ⟨(by decide), (by decide)⟩ ⟨rfl, rfl, congrArg (fun z => some (Value.int z)) hR⟩
def f_X5_ticksToFall_33 (k : Nat) (r0 : Nat) (a : Mem) (x5 : Int32) : Int32 := bT (f_X5_freeTicks k r0 a) fun x7 => ((x7 + (a k 1)) + x5)
def f_X5_ticksToFall (k : Nat) (r0 : Nat) (a : Mem) : Int32 := if (nb (a k 9)) = 0 then (bT (f_X4_isEndless r0 (a k 2) a) fun x3 => if x3 = 0 then (f_X5_ticksToFall_33 k r0 a (0 : Int32)) else (f_X5_ticksToFall_33 k r0 a ((a k 5) * (a r0 3)))) else ((0 : Int32))
set_option maxRecDepth 100000 in
set_option maxHeartbeats 4000000 in
theorem m_X5_ticksToFall {l : Launch} (hl : l.stackTraces = false) {G : GG} {L : List Nat} (hL : LOK L) {a b c : Mem} {k : Nat} (hk : ty k = 5) {r0 : Nat} (hr0 : ty r0 = 4) {v : Int32} (hR : f_X5_ticksToFall k r0 a = v) : Ct l G yX5_ticksToFall (.code yX5_ticksToFall cX5_ticksToFall 3 (some .int)) 2 45 0 0 [.ref (ad L k), .ref (ad L r0)] L (FW G L a b c) px0 (stay L (fun r f1 => f1 = (FW G L a b c) ∧ r = some (.int v))) := by
  refine Ct.ofq (own := RX5) hl rfl (by decide) [some (.ref (ad L k)), some (.ref (ad L r0)), none] rfl (Nat.le_of_ble_eq_true rfl) ?_
  intro p e s m below meth c9 A ar Q hQ X
  unfold f_X5_ticksToFall at hR
  refine j_aload_n X (i := 0) dX5_ticksToFall_0 rfl rfl ?_
  refine j_getf X 5 9 rfl cw_X5 fl_X5_54 (by decide) dX5_ticksToFall_1 (inL hL hk (by decide)) (FW5 hL hk) rfl ?_
  refine j_if_eq X (tgt := 9) dX5_ticksToFall_4 (by decide) (fun h1 => ?_) (fun h1 => ?_)
  · replace hR := (if_pos h1).symm.trans hR
    refine j_aload_n X (i := 1) dX5_ticksToFall_9 rfl rfl ?_
    refine j_aload_n X (i := 0) dX5_ticksToFall_10 rfl rfl ?_
    refine j_getf X 5 2 rfl cw_X5 fl_X5_31 (by decide) dX5_ticksToFall_11 (inL hL hk (by decide)) (FW5 hL hk) rfl ?_
    obtain ⟨x3, h2, hR⟩ := bT_inv hR
    refine j_callV1 X 4 (m_X4_isEndless hl hL hr0 h2) ml_X5_70 im_yX4_isEndless se_yX4_isEndless in_X4 cd_yX4_isEndless hy_yX4_isEndless dX5_ticksToFall_14 rfl (inL hL hr0 (by decide)) (FW4 hL hr0) ⟨(by decide), (by decide)⟩ ⟨(by decide), (by decide)⟩ (Nat.le_of_ble_eq_true rfl) (fun _ h => h.elim) (fun r9 L9 f9 h9 => ?_)
    obtain ⟨h91, h92, h93, h4⟩ := h9
    subst r9
    subst f9
    subst L9
    dsimp only [Option.toList, List.cons_append, List.nil_append, List.append]
    have hb33 : ∀ (x5 : Int32) , f_X5_ticksToFall_33 k r0 a x5 = v → J G p l e ({ frames := 2, cells := 0, slots := 0, locals := 45 } : Room) s m ar below meth c9 A Q 3 0 0 33 [some (.ref (ad L k)), some (.ref (ad L r0)), none] [.int x5] L (FW G L a b c) := by
      intro x5 hR
      unfold f_X5_ticksToFall_33 at hR
      refine j_istore_n X (i := 2) dX5_ticksToFall_33 rfl (by decide) (lvOK_s rfl okPrev_ref) ?_
      dsimp only [List.set]
      refine j_aload_n X (i := 0) dX5_ticksToFall_34 rfl rfl ?_
      refine j_aload_n X (i := 1) dX5_ticksToFall_35 rfl rfl ?_
      obtain ⟨x7, h6, hR⟩ := bT_inv hR
      refine j_callV1 X 5 (m_X5_freeTicks hl hL hk hr0 h6) ml_X5_82 im_yX5_freeTicks se_yX5_freeTicks in_X5 cd_yX5_freeTicks hy_yX5_freeTicks dX5_ticksToFall_36 rfl (inL hL hk (by decide)) (FW5 hL hk) ⟨(by decide), (by decide)⟩ ⟨(by decide), (by decide)⟩ (Nat.le_of_ble_eq_true rfl) (fun _ h => h.elim) (fun r9 L9 f9 h9 => ?_)
      obtain ⟨h91, h92, h93⟩ := h9
      subst r9
      subst f9
      subst L9
      dsimp only [Option.toList, List.cons_append, List.nil_append, List.append]
      refine j_aload_n X (i := 0) dX5_ticksToFall_39 rfl rfl ?_
      refine j_getf X 5 1 rfl cw_X5 fl_X5_27 (by decide) dX5_ticksToFall_40 (inL hL hk (by decide)) (FW5 hL hk) rfl ?_
      refine j_iadd X dX5_ticksToFall_43 ?_
      refine j_iload_n X (i := 2) dX5_ticksToFall_44 rfl rfl ?_
      refine j_iadd X dX5_ticksToFall_45 ?_
      exact q_iret X hQ dX5_ticksToFall_46 rfl ⟨(by decide), (by decide)⟩ ⟨rfl, rfl, congrArg (fun z => some (Value.int z)) hR⟩
    refine j_if_eq X (tgt := 32) dX5_ticksToFall_17 (by decide) (fun h9 => ?_) (fun h9 => ?_)
    · replace hR := (if_pos h9).symm.trans hR
      refine j_iconst X (0) dX5_ticksToFall_32 (by decide) ?_
      exact J.sub (lvle_of (by simp only [lvle, and_self])) (hb33 _  hR)
    · replace hR := (if_neg h9).symm.trans hR
      refine j_aload_n X (i := 0) dX5_ticksToFall_20 rfl rfl ?_
      refine j_getf X 5 5 rfl cw_X5 fl_X5_43 (by decide) dX5_ticksToFall_21 (inL hL hk (by decide)) (FW5 hL hk) rfl ?_
      refine j_aload_n X (i := 1) dX5_ticksToFall_24 rfl rfl ?_
      refine j_getf X 4 3 rfl cw_X4 fl_X5_79 (by decide) dX5_ticksToFall_25 (inL hL hr0 (by decide)) (FW4 hL hr0) rfl ?_
      refine j_imul X dX5_ticksToFall_28 ?_
      refine j_goto X (tgt := 33) dX5_ticksToFall_29 (by decide) ?_
      exact J.sub (lvle_of (by simp only [lvle, and_self])) (hb33 _  hR)
  · replace hR := (if_neg h1).symm.trans hR
    refine j_iconst X (0) dX5_ticksToFall_7 (by decide) ?_
    exact q_iret X hQ dX5_ticksToFall_8 rfl ⟨(by decide), (by decide)⟩ ⟨rfl, rfl, congrArg (fun z => some (Value.int z)) hR⟩
def f_X5_secondsLeft (k : Nat) (a : Mem) : Int32 := if ((a k 1) - (a k 1) / (10 : Int32) * (10 : Int32)) ≤ 0 then ((((a k 1) / (10 : Int32)) + (0 : Int32))) else ((((a k 1) / (10 : Int32)) + (1 : Int32)))
def f_X5_movesToPeriodEnd (k : Nat) (r0 : Nat) (a : Mem) : Int32 := bT (f_X4_isEndless r0 (a k 2) a) fun x2 => if x2 = 0 then (bT (f_X4_number r0 (a k 2) (0 : Int32) a) fun x6 => (x6 - (a k 4))) else ((-1 : Int32))
set_option maxRecDepth 100000 in
set_option maxHeartbeats 4000000 in
theorem m_X5_movesToPeriodEnd {l : Launch} (hl : l.stackTraces = false) {G : GG} {L : List Nat} (hL : LOK L) {a b c : Mem} {k : Nat} (hk : ty k = 5) {r0 : Nat} (hr0 : ty r0 = 4) {v : Int32} (hR : f_X5_movesToPeriodEnd k r0 a = v) : Ct l G yX5_movesToPeriodEnd (.code yX5_movesToPeriodEnd cX5_movesToPeriodEnd 2 (some .int)) 2 44 0 0 [.ref (ad L k), .ref (ad L r0)] L (FW G L a b c) px0 (stay L (fun r f1 => f1 = (FW G L a b c) ∧ r = some (.int v))) := by
  refine Ct.ofq (own := RX5) hl rfl (by decide) [some (.ref (ad L k)), some (.ref (ad L r0))] rfl (Nat.le_of_ble_eq_true rfl) ?_
  intro p e s m below meth c9 A ar Q hQ X
  unfold f_X5_movesToPeriodEnd at hR
  refine j_aload_n X (i := 1) dX5_movesToPeriodEnd_0 rfl rfl ?_
  refine j_aload_n X (i := 0) dX5_movesToPeriodEnd_1 rfl rfl ?_
  refine j_getf X 5 2 rfl cw_X5 fl_X5_31 (by decide) dX5_movesToPeriodEnd_2 (inL hL hk (by decide)) (FW5 hL hk) rfl ?_
  obtain ⟨x2, h1, hR⟩ := bT_inv hR
  refine j_callV1 X 4 (m_X4_isEndless hl hL hr0 h1) ml_X5_70 im_yX4_isEndless se_yX4_isEndless in_X4 cd_yX4_isEndless hy_yX4_isEndless dX5_movesToPeriodEnd_5 rfl (inL hL hr0 (by decide)) (FW4 hL hr0) ⟨(by decide), (by decide)⟩ ⟨(by decide), (by decide)⟩ (Nat.le_of_ble_eq_true rfl) (fun _ h => h.elim) (fun r9 L9 f9 h9 => ?_)
  obtain ⟨h91, h92, h93, h3⟩ := h9
  subst r9
  subst f9
  subst L9
  dsimp only [Option.toList, List.cons_append, List.nil_append, List.append]
  refine j_if_eq X (tgt := 15) dX5_movesToPeriodEnd_8 (by decide) (fun h4 => ?_) (fun h4 => ?_)
  · replace hR := (if_pos h4).symm.trans hR
    refine j_aload_n X (i := 1) dX5_movesToPeriodEnd_15 rfl rfl ?_
    refine j_aload_n X (i := 0) dX5_movesToPeriodEnd_16 rfl rfl ?_
    refine j_getf X 5 2 rfl cw_X5 fl_X5_31 (by decide) dX5_movesToPeriodEnd_17 (inL hL hk (by decide)) (FW5 hL hk) rfl ?_
    refine j_iconst X (0) dX5_movesToPeriodEnd_20 (by decide) ?_
    obtain ⟨x6, h5, hR⟩ := bT_inv hR
    refine j_callV2 X 4 (m_X4_number hl hL hr0 h5) ml_X5_21 im_yX4_number se_yX4_number in_X4 cd_yX4_number hy_yX4_number dX5_movesToPeriodEnd_21 rfl (inL hL hr0 (by decide)) (FW4 hL hr0) ⟨(by decide), (by decide)⟩ ⟨(by decide), (by decide)⟩ (Nat.le_of_ble_eq_true rfl) (fun _ h => h.elim) (fun r9 L9 f9 h9 => ?_)
    obtain ⟨h91, h92, h93⟩ := h9
    subst r9
    subst f9
    subst L9
    dsimp only [Option.toList, List.cons_append, List.nil_append, List.append]
    refine j_aload_n X (i := 0) dX5_movesToPeriodEnd_24 rfl rfl ?_
    refine j_getf X 5 4 rfl cw_X5 fl_X5_37 (by decide) dX5_movesToPeriodEnd_25 (inL hL hk (by decide)) (FW5 hL hk) rfl ?_
    refine j_isub X dX5_movesToPeriodEnd_28 ?_
    exact q_iret X hQ dX5_movesToPeriodEnd_29 rfl ⟨(by decide), (by decide)⟩ ⟨rfl, rfl, congrArg (fun z => some (Value.int z)) hR⟩
  · replace hR := (if_neg h4).symm.trans hR
    refine j_iconst X (-1) dX5_movesToPeriodEnd_11 (by decide) ?_
    refine j_goto X (tgt := 29) dX5_movesToPeriodEnd_12 (by decide) ?_
    exact q_iret X hQ dX5_movesToPeriodEnd_29 rfl ⟨(by decide), (by decide)⟩ ⟨rfl, rfl, congrArg (fun z => some (Value.int z)) hR⟩
def f_X5_dropMove (k : Nat) (a : Mem) : Mem := bT (up2 a k 7 (0 : Int32)) fun a1 => bT (up2 a1 k 8 (0 : Int32)) fun a3 => a3
set_option maxRecDepth 100000 in
set_option maxHeartbeats 4000000 in
theorem m_X5_dropMove {l : Launch} (hl : l.stackTraces = false) {G : GG} {L : List Nat} (hL : LOK L) {a b c : Mem} {k : Nat} (hk : ty k = 5) {a' : Mem} (hR : f_X5_dropMove k a = a') : Ct l G yX5_dropMove (.code yX5_dropMove cX5_dropMove 1 none) 0 0 0 0 [.ref (ad L k)] L (FW G L a b c) px0 (stay L (fun r f1 => f1 = (FW G L a' b c) ∧ r = none)) := by
  refine Ct.ofq (own := RX5) hl rfl (by decide) [some (.ref (ad L k))] rfl (Nat.le_of_ble_eq_true rfl) ?_
  intro p e s m below meth c9 A ar Q hQ X
  unfold f_X5_dropMove at hR
  refine j_aload_n X (i := 0) dX5_dropMove_0 rfl rfl ?_
  refine j_iconst X (0) dX5_dropMove_1 (by decide) ?_
  obtain ⟨a1, h2, hR⟩ := bT_inv hR
  refine tp_X5_7 X hL hk h2 fl_X5_48 dX5_dropMove_2 ?_
  refine j_aload_n X (i := 0) dX5_dropMove_5 rfl rfl ?_
  refine j_iconst X (0) dX5_dropMove_6 (by decide) ?_
  obtain ⟨a3, h4, hR⟩ := bT_inv hR
  refine tp_X5_8 X hL hk h4 fl_X5_51 dX5_dropMove_7 ?_
  exact q_vret X hQ dX5_dropMove_10 rfl ⟨(by decide), (by decide)⟩ ⟨rfl, congrArg (fun z => FW G L z b c) hR, rfl⟩
def f_X5_runOut (k : Nat) (r0 : Nat) (a : Mem) : Mem := bT (f_X4_isEndless r0 (a k 2) a) fun x2 => if x2 = 0 then (bT (up2 a k 9 (1 : Int32)) fun a5 => a5) else (if (a k 5) ≤ 0 then (bT (up2 a k 9 (1 : Int32)) fun a8 => a8) else (bT (up2 a k 5 ((a k 5) - (1 : Int32))) fun a10 => bT (up2 a10 k 6 (1 : Int32)) fun a12 => bT (up2 a12 k 1 (a12 r0 3)) fun a14 => a14))
set_option maxRecDepth 100000 in
set_option maxHeartbeats 4000000 in
theorem m_X5_runOut {l : Launch} (hl : l.stackTraces = false) {G : GG} {L : List Nat} (hL : LOK L) {a b c : Mem} {k : Nat} (hk : ty k = 5) {r0 : Nat} (hr0 : ty r0 = 4) {a' : Mem} (hR : f_X5_runOut k r0 a = a') : Ct l G yX5_runOut (.code yX5_runOut cX5_runOut 2 none) 2 44 0 0 [.ref (ad L k), .ref (ad L r0)] L (FW G L a b c) px0 (stay L (fun r f1 => f1 = (FW G L a' b c) ∧ r = none)) := by
  refine Ct.ofq (own := RX5) hl rfl (by decide) [some (.ref (ad L k)), some (.ref (ad L r0))] rfl (Nat.le_of_ble_eq_true rfl) ?_
  intro p e s m below meth c9 A ar Q hQ X
  unfold f_X5_runOut at hR
  refine j_aload_n X (i := 1) dX5_runOut_0 rfl rfl ?_
  refine j_aload_n X (i := 0) dX5_runOut_1 rfl rfl ?_
  refine j_getf X 5 2 rfl cw_X5 fl_X5_31 (by decide) dX5_runOut_2 (inL hL hk (by decide)) (FW5 hL hk) rfl ?_
  obtain ⟨x2, h1, hR⟩ := bT_inv hR
  refine j_callV1 X 4 (m_X4_isEndless hl hL hr0 h1) ml_X5_70 im_yX4_isEndless se_yX4_isEndless in_X4 cd_yX4_isEndless hy_yX4_isEndless dX5_runOut_5 rfl (inL hL hr0 (by decide)) (FW4 hL hr0) ⟨(by decide), (by decide)⟩ ⟨(by decide), (by decide)⟩ (Nat.le_of_ble_eq_true rfl) (fun _ h => h.elim) (fun r9 L9 f9 h9 => ?_)
  obtain ⟨h91, h92, h93, h3⟩ := h9
  subst r9
  subst f9
  subst L9
  dsimp only [Option.toList, List.cons_append, List.nil_append, List.append]
  refine j_if_eq X (tgt := 44) dX5_runOut_8 (by decide) (fun h4 => ?_) (fun h4 => ?_)
  · replace hR := (if_pos h4).symm.trans hR
    refine j_aload_n X (i := 0) dX5_runOut_44 rfl rfl ?_
    refine j_iconst X (1) dX5_runOut_45 (by decide) ?_
    obtain ⟨a5, h6, hR⟩ := bT_inv hR
    refine tp_X5_9 X hL hk isB_1 h6 fl_X5_54 dX5_runOut_46 ?_
    exact q_vret X hQ dX5_runOut_49 rfl ⟨(by decide), (by decide)⟩ ⟨rfl, congrArg (fun z => FW G L z b c) hR, rfl⟩
  · replace hR := (if_neg h4).symm.trans hR
    refine j_aload_n X (i := 0) dX5_runOut_11 rfl rfl ?_
    refine j_getf X 5 5 rfl cw_X5 fl_X5_43 (by decide) dX5_runOut_12 (inL hL hk (by decide)) (FW5 hL hk) rfl ?_
    refine j_if_le X (tgt := 44) dX5_runOut_15 (by decide) (fun h7 => ?_) (fun h7 => ?_)
    · replace hR := (if_pos h7).symm.trans hR
      refine j_aload_n X (i := 0) dX5_runOut_44 rfl rfl ?_
      refine j_iconst X (1) dX5_runOut_45 (by decide) ?_
      obtain ⟨a8, h9, hR⟩ := bT_inv hR
      refine tp_X5_9 X hL hk isB_1 h9 fl_X5_54 dX5_runOut_46 ?_
      exact q_vret X hQ dX5_runOut_49 rfl ⟨(by decide), (by decide)⟩ ⟨rfl, congrArg (fun z => FW G L z b c) hR, rfl⟩
    · replace hR := (if_neg h7).symm.trans hR
      refine j_aload_n X (i := 0) dX5_runOut_18 rfl rfl ?_
      refine j_dup X dX5_runOut_19 rfl ?_
      refine j_getf X 5 5 rfl cw_X5 fl_X5_43 (by decide) dX5_runOut_20 (inL hL hk (by decide)) (FW5 hL hk) rfl ?_
      refine j_iconst X (1) dX5_runOut_23 (by decide) ?_
      refine j_isub X dX5_runOut_24 ?_
      obtain ⟨a10, h11, hR⟩ := bT_inv hR
      refine tp_X5_5 X hL hk h11 fl_X5_43 dX5_runOut_25 ?_
      refine j_aload_n X (i := 0) dX5_runOut_28 rfl rfl ?_
      refine j_iconst X (1) dX5_runOut_29 (by decide) ?_
      obtain ⟨a12, h13, hR⟩ := bT_inv hR
      refine tp_X5_6 X hL hk isB_1 h13 fl_X5_44 dX5_runOut_30 ?_
      refine j_aload_n X (i := 0) dX5_runOut_33 rfl rfl ?_
      refine j_aload_n X (i := 1) dX5_runOut_34 rfl rfl ?_
      refine j_getf X 4 3 rfl cw_X4 fl_X5_79 (by decide) dX5_runOut_35 (inL hL hr0 (by decide)) (FW4 hL hr0) rfl ?_
      obtain ⟨a14, h15, hR⟩ := bT_inv hR
      refine tp_X5_1 X hL hk h15 fl_X5_27 dX5_runOut_38 ?_
      refine j_goto X (tgt := 49) dX5_runOut_41 (by decide) ?_
      exact q_vret X hQ dX5_runOut_49 rfl ⟨(by decide), (by decide)⟩ ⟨rfl, congrArg (fun z => FW G L z b c) hR, rfl⟩
def f_X5_run_35 (N : Nat) (k : Nat) (r0 : Nat) : Nat → Int32 → Int32 → Mem → Option Mem
  | 0, _, _, _ => none
  | fu + 1, x10, x11, a12 => if (9 : Int32) < x11 then (some a12) else (if x10 ≤ 0 then (some a12) else (if (a12 k 1) ≤ 0 then (some a12) else (bT (mnI x10 (a12 k 1)) fun x16 => bT (x10 - x16) fun x18 => bT (up2 a12 k 1 ((a12 k 1) - x16)) fun a20 => bT (up2 a20 k 8 ((a20 k 8) + x16)) fun a22 => bT (atI 5 (a22 (k + 1)) (a22 k 2)) fun x25 => bT (upR a22 (k + 1) (putI 5 (a22 (k + 1)) (a22 k 2) (x25 + x16))) fun a28 => if (a28 k 1) = 0 then (bT (f_X5_runOut k r0 a28) fun a34 => bT (x11 + (1 : Int32)) fun x36 => f_X5_run_35 N k r0 fu x18 x36 a34) else (bT (x11 + (1 : Int32)) fun x31 => f_X5_run_35 N k r0 fu x18 x31 a28))))
theorem f_X5_run_35_s (N : Nat) (k : Nat) (r0 : Nat) {fu : Nat} {x10 : Int32} {x11 : Int32} {a12 : Mem} : f_X5_run_35 N k r0 (fu + 1) x10 x11 a12 = (if (9 : Int32) < x11 then (some a12) else (if x10 ≤ 0 then (some a12) else (if (a12 k 1) ≤ 0 then (some a12) else (bT (mnI x10 (a12 k 1)) fun x16 => bT (x10 - x16) fun x18 => bT (up2 a12 k 1 ((a12 k 1) - x16)) fun a20 => bT (up2 a20 k 8 ((a20 k 8) + x16)) fun a22 => bT (atI 5 (a22 (k + 1)) (a22 k 2)) fun x25 => bT (upR a22 (k + 1) (putI 5 (a22 (k + 1)) (a22 k 2) (x25 + x16))) fun a28 => if (a28 k 1) = 0 then (bT (f_X5_runOut k r0 a28) fun a34 => bT (x11 + (1 : Int32)) fun x36 => f_X5_run_35 N k r0 fu x18 x36 a34) else (bT (x11 + (1 : Int32)) fun x31 => f_X5_run_35 N k r0 fu x18 x31 a28))))) := rfl
def f_X5_run (N : Nat) (k : Nat) (r0 : Nat) (p1 : Int32) (a : Mem) : Option Mem := bT (f_X5_freeTicks k r0 a) fun x2 => bT (mxI (0 : Int32) (p1 - x2)) fun x4 => bT (up2 a k 7 ((a k 7) + p1)) fun a6 => bT (up2 a6 k 11 ((a6 k 11) + p1)) fun a8 => f_X5_run_35 N k r0 N x4 (0 : Int32) a8
set_option maxRecDepth 100000 in
set_option maxHeartbeats 4000000 in
theorem m_X5_run {l : Launch} (hl : l.stackTraces = false) {G : GG} {L : List Nat} (hL : LOK L) {a b c : Mem} {N : Nat} {k : Nat} (hk : ty k = 5) {r0 : Nat} (hr0 : ty r0 = 4) {p1 : Int32} {a' : Mem} (hR : f_X5_run N k r0 p1 a = some a') : Ct l G yX5_run (.code yX5_run cX5_run 6 none) 3 65 0 0 [.ref (ad L k), .ref (ad L r0), .int p1] L (FW G L a b c) px0 (stay L (fun r f1 => f1 = (FW G L a' b c) ∧ r = none)) := by
  refine Ct.ofq (own := RX5) hl rfl (by decide) [some (.ref (ad L k)), some (.ref (ad L r0)), some (.int p1), none, none, none] rfl (Nat.le_of_ble_eq_true rfl) ?_
  intro p e s m below meth c9 A ar Q hQ X
  unfold f_X5_run at hR
  refine j_iconst X (0) dX5_run_0 (by decide) ?_
  refine j_iload_n X (i := 2) dX5_run_1 rfl rfl ?_
  refine j_aload_n X (i := 0) dX5_run_2 rfl rfl ?_
  refine j_aload_n X (i := 1) dX5_run_3 rfl rfl ?_
  obtain ⟨x2, h1, hR⟩ := bT_inv hR
  refine j_callV1 X 5 (m_X5_freeTicks hl hL hk hr0 h1) ml_X5_82 im_yX5_freeTicks se_yX5_freeTicks in_X5 cd_yX5_freeTicks hy_yX5_freeTicks dX5_run_4 rfl (inL hL hk (by decide)) (FW5 hL hk) ⟨(by decide), (by decide)⟩ ⟨(by decide), (by decide)⟩ (Nat.le_of_ble_eq_true rfl) (fun _ h => h.elim) (fun r9 L9 f9 h9 => ?_)
  obtain ⟨h91, h92, h93⟩ := h9
  subst r9
  subst f9
  subst L9
  dsimp only [Option.toList, List.cons_append, List.nil_append, List.append]
  refine j_isub X dX5_run_7 ?_
  refine j_mmax X ml_X5_74 dX5_run_8 ⟨(by decide), (Nat.le_of_ble_eq_true rfl)⟩ ⟨(by decide), (by decide)⟩ ?_
  obtain ⟨x4, h5, hR⟩ := bT_inv hR
  refine J.eqi h5 ?_
  refine j_istore_n X (i := 3) dX5_run_11 rfl (by decide) (lvOK_s rfl okPrev_int) ?_
  dsimp only [List.set]
  refine j_aload_n X (i := 0) dX5_run_12 rfl rfl ?_
  refine j_dup X dX5_run_13 rfl ?_
  refine j_getf X 5 7 rfl cw_X5 fl_X5_48 (by decide) dX5_run_14 (inL hL hk (by decide)) (FW5 hL hk) rfl ?_
  refine j_iload_n X (i := 2) dX5_run_17 rfl rfl ?_
  refine j_iadd X dX5_run_18 ?_
  obtain ⟨a6, h7, hR⟩ := bT_inv hR
  refine tp_X5_7 X hL hk h7 fl_X5_48 dX5_run_19 ?_
  refine j_aload_n X (i := 0) dX5_run_22 rfl rfl ?_
  refine j_dup X dX5_run_23 rfl ?_
  refine j_getf X 5 11 rfl cw_X5 fl_X5_60 (by decide) dX5_run_24 (inL hL hk (by decide)) (FW5 hL hk) rfl ?_
  refine j_iload_n X (i := 2) dX5_run_27 rfl rfl ?_
  refine j_iadd X dX5_run_28 ?_
  obtain ⟨a8, h9, hR⟩ := bT_inv hR
  refine tp_X5_11 X hL hk h9 fl_X5_60 dX5_run_29 ?_
  refine j_iconst X (0) dX5_run_32 (by decide) ?_
  refine j_istore X dX5_run_33 (by decide) (lvOK_s rfl okPrev_int) ?_
  dsimp only [List.set]
  have hb35 : ∀ (fu : Nat) (x10 : Int32) (x11 : Int32) (a12 : Mem) , f_X5_run_35 N k r0 fu x10 x11 a12 = some a' → J G p l e ({ frames := 3, cells := 0, slots := 0, locals := 65 } : Room) s m ar below meth c9 A Q 6 0 0 35 [some (.ref (ad L k)), some (.ref (ad L r0)), none, some (.int x10), some (.int x11), none] [] L (FW G L a12 b c) := by
    intro fu
    induction fu with
    | zero =>
      intro x10 x11 a12 hR
      cases hR
    | succ fu ih =>
      intro x10 x11 a12 hR
      replace hR := (f_X5_run_35_s N k r0).symm.trans hR
      refine j_iload X dX5_run_35 rfl ?_
      refine j_bipush X (9) dX5_run_37 (by decide) ?_
      refine j_icmp_gt X (tgt := 133) dX5_run_39 (by decide) (fun h13 => ?_) (fun h13 => ?_)
      · replace hR := (if_pos h13).symm.trans hR
        exact q_vret X hQ dX5_run_133 rfl ⟨(by decide), (by decide)⟩ ⟨rfl, congrArg (fun z => FW G L z b c) (Option.some.inj hR), rfl⟩
      · replace hR := (if_neg h13).symm.trans hR
        refine j_iload_n X (i := 3) dX5_run_42 rfl rfl ?_
        refine j_if_le X (tgt := 133) dX5_run_43 (by decide) (fun h14 => ?_) (fun h14 => ?_)
        · replace hR := (if_pos h14).symm.trans hR
          exact q_vret X hQ dX5_run_133 rfl ⟨(by decide), (by decide)⟩ ⟨rfl, congrArg (fun z => FW G L z b c) (Option.some.inj hR), rfl⟩
        · replace hR := (if_neg h14).symm.trans hR
          refine j_aload_n X (i := 0) dX5_run_46 rfl rfl ?_
          refine j_getf X 5 1 rfl cw_X5 fl_X5_27 (by decide) dX5_run_47 (inL hL hk (by decide)) (FW5 hL hk) rfl ?_
          refine j_if_le X (tgt := 133) dX5_run_50 (by decide) (fun h15 => ?_) (fun h15 => ?_)
          · replace hR := (if_pos h15).symm.trans hR
            exact q_vret X hQ dX5_run_133 rfl ⟨(by decide), (by decide)⟩ ⟨rfl, congrArg (fun z => FW G L z b c) (Option.some.inj hR), rfl⟩
          · replace hR := (if_neg h15).symm.trans hR
            refine j_iload_n X (i := 3) dX5_run_53 rfl rfl ?_
            refine j_aload_n X (i := 0) dX5_run_54 rfl rfl ?_
            refine j_getf X 5 1 rfl cw_X5 fl_X5_27 (by decide) dX5_run_55 (inL hL hk (by decide)) (FW5 hL hk) rfl ?_
            refine j_mmin X ml_X5_86 dX5_run_58 ⟨(by decide), (Nat.le_of_ble_eq_true rfl)⟩ ⟨(by decide), (by decide)⟩ ?_
            obtain ⟨x16, h17, hR⟩ := bT_inv hR
            refine J.eqi h17 ?_
            refine j_istore X dX5_run_61 (by decide) (lvOK_s rfl okPrev_int) ?_
            dsimp only [List.set]
            refine j_iload_n X (i := 3) dX5_run_63 rfl rfl ?_
            refine j_iload X dX5_run_64 rfl ?_
            refine j_isub X dX5_run_66 ?_
            obtain ⟨x18, h19, hR⟩ := bT_inv hR
            refine J.eqi h19 ?_
            refine j_istore_n X (i := 3) dX5_run_67 rfl (by decide) (lvOK_s rfl okPrev_none) ?_
            dsimp only [List.set]
            refine j_aload_n X (i := 0) dX5_run_68 rfl rfl ?_
            refine j_dup X dX5_run_69 rfl ?_
            refine j_getf X 5 1 rfl cw_X5 fl_X5_27 (by decide) dX5_run_70 (inL hL hk (by decide)) (FW5 hL hk) rfl ?_
            refine j_iload X dX5_run_73 rfl ?_
            refine j_isub X dX5_run_75 ?_
            obtain ⟨a20, h21, hR⟩ := bT_inv hR
            refine tp_X5_1 X hL hk h21 fl_X5_27 dX5_run_76 ?_
            refine j_aload_n X (i := 0) dX5_run_79 rfl rfl ?_
            refine j_dup X dX5_run_80 rfl ?_
            refine j_getf X 5 8 rfl cw_X5 fl_X5_51 (by decide) dX5_run_81 (inL hL hk (by decide)) (FW5 hL hk) rfl ?_
            refine j_iload X dX5_run_84 rfl ?_
            refine j_iadd X dX5_run_86 ?_
            obtain ⟨a22, h23, hR⟩ := bT_inv hR
            refine tp_X5_8 X hL hk h23 fl_X5_51 dX5_run_87 ?_
            refine j_aload_n X (i := 0) dX5_run_90 rfl rfl ?_
            refine j_getf X 5 0 rfl cw_X5 fl_X5_9 (by decide) dX5_run_91 (inL hL hk (by decide)) (FW5 hL hk) rfl ?_
            refine j_aload_n X (i := 0) dX5_run_94 rfl rfl ?_
            refine j_getf X 5 2 rfl cw_X5 fl_X5_31 (by decide) dX5_run_95 (inL hL hk (by decide)) (FW5 hL hk) rfl ?_
            refine j_aload_n X (i := 0) dX5_run_98 rfl rfl ?_
            refine j_getf X 5 0 rfl cw_X5 fl_X5_9 (by decide) dX5_run_99 (inL hL hk (by decide)) (FW5 hL hk) rfl ?_
            refine j_aload_n X (i := 0) dX5_run_102 rfl rfl ?_
            refine j_getf X 5 2 rfl cw_X5 fl_X5_31 (by decide) dX5_run_103 (inL hL hk (by decide)) (FW5 hL hk) rfl ?_
            obtain ⟨x25, h24, hR⟩ := bT_inv hR
            refine j_callSN2 X (c_nA_23 hl hL (ty5_0 hk) h24) (List.mem_of_getElem? (i := 14) rfl) st_yX8_numberAt in_X8 cd_yX8_numberAt hy_yX8_numberAt dX5_run_106 ⟨(by decide), (by decide)⟩ ⟨(by decide), (by decide)⟩ (Nat.le_of_ble_eq_true rfl) (fun _ h => h.elim) (fun r9 L9 f9 h9 => ?_)
            obtain ⟨h91, h92, h93⟩ := h9
            subst r9
            subst f9
            subst L9
            dsimp only [Option.toList, List.cons_append, List.nil_append, List.append]
            refine j_iload X dX5_run_109 rfl ?_
            refine j_iadd X dX5_run_111 ?_
            obtain ⟨a28, h27, hR⟩ := bT_inv hR
            refine j_callSN3 X (c_sN_23 hl hL (ty5_0 hk) h27) (List.mem_of_getElem? (i := 15) rfl) st_yX8_setNumberAt in_X8 cd_yX8_setNumberAt hy_yX8_setNumberAt dX5_run_112 ⟨(by decide), (by decide)⟩ ⟨(by decide), (by decide)⟩ (Nat.le_of_ble_eq_true rfl) (fun _ h => h.elim) (fun r9 L9 f9 h9 => ?_)
            obtain ⟨h91, h92, h93⟩ := h9
            subst r9
            subst f9
            subst L9
            dsimp only [Option.toList, List.cons_append, List.nil_append, List.append]
            refine j_aload_n X (i := 0) dX5_run_115 rfl rfl ?_
            refine j_getf X 5 1 rfl cw_X5 fl_X5_27 (by decide) dX5_run_116 (inL hL hk (by decide)) (FW5 hL hk) rfl ?_
            refine j_if_ne X (tgt := 127) dX5_run_119 (by decide) (fun h30 => ?_) (fun h30 => ?_)
            · replace hR := (if_neg h30).symm.trans hR
              obtain ⟨x31, h32, hR⟩ := bT_inv hR
              refine j_iinc X x31 dX5_run_127 rfl h32 (by decide) (lvOK_s rfl okPrev_int) ?_
              dsimp only [List.set]
              refine j_goto X (tgt := 35) dX5_run_130 (by decide) ?_
              exact J.sub (lvle_of (by simp only [lvle, and_self])) (ih _ _ _  hR)
            · replace hR := (if_pos h30).symm.trans hR
              refine j_aload_n X (i := 0) dX5_run_122 rfl rfl ?_
              refine j_aload_n X (i := 1) dX5_run_123 rfl rfl ?_
              obtain ⟨a34, h33, hR⟩ := bT_inv hR
              refine j_callV1 X 5 (m_X5_runOut hl hL hk hr0 h33) ml_X5_97 im_yX5_runOut se_yX5_runOut in_X5 cd_yX5_runOut hy_yX5_runOut dX5_run_124 rfl (inL hL hk (by decide)) (FW5 hL hk) ⟨(by decide), (by decide)⟩ ⟨(by decide), (by decide)⟩ (Nat.le_of_ble_eq_true rfl) (fun _ h => h.elim) (fun r9 L9 f9 h9 => ?_)
              obtain ⟨h91, h92, h93⟩ := h9
              subst r9
              subst f9
              subst L9
              dsimp only [Option.toList, List.cons_append, List.nil_append, List.append]
              obtain ⟨x36, h37, hR⟩ := bT_inv hR
              refine j_iinc X x36 dX5_run_127 rfl h37 (by decide) (lvOK_s rfl okPrev_int) ?_
              dsimp only [List.set]
              refine j_goto X (tgt := 35) dX5_run_130 (by decide) ?_
              exact J.sub (lvle_of (by simp only [lvle, and_self])) (ih _ _ _  hR)
  exact J.sub (lvle_of (by simp only [lvle, and_self])) (hb35 _ _ _ _  hR)
def f_X5_gains (k : Nat) (r0 : Nat) (a : Mem) : Int32 := if (nb (a k 9)) = 0 then (if (nb (a k 6)) = 0 then (bT (f_X4_number r0 (a k 2) (2 : Int32) a) fun x4 => bT (f_X4_number r0 (a k 2) (4 : Int32) a) fun x7 => (x4 + (mnI (a k 8) x7))) else (((a r0 3) - (a k 1)))) else ((0 : Int32))
set_option maxRecDepth 100000 in
set_option maxHeartbeats 4000000 in
theorem m_X5_gains {l : Launch} (hl : l.stackTraces = false) {G : GG} {L : List Nat} (hL : LOK L) {a b c : Mem} {k : Nat} (hk : ty k = 5) {r0 : Nat} (hr0 : ty r0 = 4) {v : Int32} (hR : f_X5_gains k r0 a = v) : Ct l G yX5_gains (.code yX5_gains cX5_gains 2 (some .int)) 1 24 0 0 [.ref (ad L k), .ref (ad L r0)] L (FW G L a b c) px0 (stay L (fun r f1 => f1 = (FW G L a b c) ∧ r = some (.int v))) := by
  refine Ct.ofq (own := RX5) hl rfl (by decide) [some (.ref (ad L k)), some (.ref (ad L r0))] rfl (Nat.le_of_ble_eq_true rfl) ?_
  intro p e s m below meth c9 A ar Q hQ X
  unfold f_X5_gains at hR
  refine j_aload_n X (i := 0) dX5_gains_0 rfl rfl ?_
  refine j_getf X 5 9 rfl cw_X5 fl_X5_54 (by decide) dX5_gains_1 (inL hL hk (by decide)) (FW5 hL hk) rfl ?_
  refine j_if_eq X (tgt := 9) dX5_gains_4 (by decide) (fun h1 => ?_) (fun h1 => ?_)
  · replace hR := (if_pos h1).symm.trans hR
    refine j_aload_n X (i := 0) dX5_gains_9 rfl rfl ?_
    refine j_getf X 5 6 rfl cw_X5 fl_X5_44 (by decide) dX5_gains_10 (inL hL hk (by decide)) (FW5 hL hk) rfl ?_
    refine j_if_eq X (tgt := 26) dX5_gains_13 (by decide) (fun h2 => ?_) (fun h2 => ?_)
    · replace hR := (if_pos h2).symm.trans hR
      refine j_aload_n X (i := 1) dX5_gains_26 rfl rfl ?_
      refine j_aload_n X (i := 0) dX5_gains_27 rfl rfl ?_
      refine j_getf X 5 2 rfl cw_X5 fl_X5_31 (by decide) dX5_gains_28 (inL hL hk (by decide)) (FW5 hL hk) rfl ?_
      refine j_iconst X (2) dX5_gains_31 (by decide) ?_
      obtain ⟨x4, h3, hR⟩ := bT_inv hR
      refine j_callV2 X 4 (m_X4_number hl hL hr0 h3) ml_X5_21 im_yX4_number se_yX4_number in_X4 cd_yX4_number hy_yX4_number dX5_gains_32 rfl (inL hL hr0 (by decide)) (FW4 hL hr0) ⟨(by decide), (by decide)⟩ ⟨(by decide), (by decide)⟩ (Nat.le_of_ble_eq_true rfl) (fun _ h => h.elim) (fun r9 L9 f9 h9 => ?_)
      obtain ⟨h91, h92, h93⟩ := h9
      subst r9
      subst f9
      subst L9
      dsimp only [Option.toList, List.cons_append, List.nil_append, List.append]
      refine j_aload_n X (i := 0) dX5_gains_35 rfl rfl ?_
      refine j_getf X 5 8 rfl cw_X5 fl_X5_51 (by decide) dX5_gains_36 (inL hL hk (by decide)) (FW5 hL hk) rfl ?_
      refine j_aload_n X (i := 1) dX5_gains_39 rfl rfl ?_
      refine j_aload_n X (i := 0) dX5_gains_40 rfl rfl ?_
      refine j_getf X 5 2 rfl cw_X5 fl_X5_31 (by decide) dX5_gains_41 (inL hL hk (by decide)) (FW5 hL hk) rfl ?_
      refine j_iconst X (4) dX5_gains_44 (by decide) ?_
      obtain ⟨x7, h6, hR⟩ := bT_inv hR
      refine j_callV2 X 4 (m_X4_number hl hL hr0 h6) ml_X5_21 im_yX4_number se_yX4_number in_X4 cd_yX4_number hy_yX4_number dX5_gains_45 rfl (inL hL hr0 (by decide)) (FW4 hL hr0) ⟨(by decide), (by decide)⟩ ⟨(by decide), (by decide)⟩ (Nat.le_of_ble_eq_true rfl) (fun _ h => h.elim) (fun r9 L9 f9 h9 => ?_)
      obtain ⟨h91, h92, h93⟩ := h9
      subst r9
      subst f9
      subst L9
      dsimp only [Option.toList, List.cons_append, List.nil_append, List.append]
      refine j_mmin X ml_X5_86 dX5_gains_48 ⟨(by decide), (Nat.le_of_ble_eq_true rfl)⟩ ⟨(by decide), (by decide)⟩ ?_
      refine j_iadd X dX5_gains_51 ?_
      exact q_iret X hQ dX5_gains_52 rfl ⟨(by decide), (by decide)⟩ ⟨rfl, rfl, congrArg (fun z => some (Value.int z)) hR⟩
    · replace hR := (if_neg h2).symm.trans hR
      refine j_aload_n X (i := 1) dX5_gains_16 rfl rfl ?_
      refine j_getf X 4 3 rfl cw_X4 fl_X5_79 (by decide) dX5_gains_17 (inL hL hr0 (by decide)) (FW4 hL hr0) rfl ?_
      refine j_aload_n X (i := 0) dX5_gains_20 rfl rfl ?_
      refine j_getf X 5 1 rfl cw_X5 fl_X5_27 (by decide) dX5_gains_21 (inL hL hk (by decide)) (FW5 hL hk) rfl ?_
      refine j_isub X dX5_gains_24 ?_
      exact q_iret X hQ dX5_gains_25 rfl ⟨(by decide), (by decide)⟩ ⟨rfl, rfl, congrArg (fun z => some (Value.int z)) hR⟩
  · replace hR := (if_neg h1).symm.trans hR
    refine j_iconst X (0) dX5_gains_7 (by decide) ?_
    exact q_iret X hQ dX5_gains_8 rfl ⟨(by decide), (by decide)⟩ ⟨rfl, rfl, congrArg (fun z => some (Value.int z)) hR⟩
def f_X5_beginNextPeriod (k : Nat) (r0 : Nat) (a : Mem) : Mem := bT (up2 a k 12 ((a k 12) + (1 : Int32))) fun a1 => bT (up2 a1 k 2 (mnI ((a1 k 2) + (1 : Int32)) ((a1 r0 1) - (1 : Int32)))) fun a3 => bT (up2 a3 k 4 (0 : Int32)) fun a5 => if (nb (a5 k 9)) = 0 then (bT (f_X4_number r0 (a5 k 2) (1 : Int32) a5) fun x9 => bT (up2 a5 k 1 ((a5 k 1) + x9)) fun a11 => a11) else (a5)
set_option maxRecDepth 100000 in
set_option maxHeartbeats 4000000 in
theorem m_X5_beginNextPeriod {l : Launch} (hl : l.stackTraces = false) {G : GG} {L : List Nat} (hL : LOK L) {a b c : Mem} {k : Nat} (hk : ty k = 5) {r0 : Nat} (hr0 : ty r0 = 4) {a' : Mem} (hR : f_X5_beginNextPeriod k r0 a = a') : Ct l G yX5_beginNextPeriod (.code yX5_beginNextPeriod cX5_beginNextPeriod 2 none) 1 24 0 0 [.ref (ad L k), .ref (ad L r0)] L (FW G L a b c) px0 (stay L (fun r f1 => f1 = (FW G L a' b c) ∧ r = none)) := by
  refine Ct.ofq (own := RX5) hl rfl (by decide) [some (.ref (ad L k)), some (.ref (ad L r0))] rfl (Nat.le_of_ble_eq_true rfl) ?_
  intro p e s m below meth c9 A ar Q hQ X
  unfold f_X5_beginNextPeriod at hR
  refine j_aload_n X (i := 0) dX5_beginNextPeriod_0 rfl rfl ?_
  refine j_dup X dX5_beginNextPeriod_1 rfl ?_
  refine j_getf X 5 12 rfl cw_X5 fl_X5_63 (by decide) dX5_beginNextPeriod_2 (inL hL hk (by decide)) (FW5 hL hk) rfl ?_
  refine j_iconst X (1) dX5_beginNextPeriod_5 (by decide) ?_
  refine j_iadd X dX5_beginNextPeriod_6 ?_
  obtain ⟨a1, h2, hR⟩ := bT_inv hR
  refine tp_X5_12 X hL hk h2 fl_X5_63 dX5_beginNextPeriod_7 ?_
  refine j_aload_n X (i := 0) dX5_beginNextPeriod_10 rfl rfl ?_
  refine j_aload_n X (i := 0) dX5_beginNextPeriod_11 rfl rfl ?_
  refine j_getf X 5 2 rfl cw_X5 fl_X5_31 (by decide) dX5_beginNextPeriod_12 (inL hL hk (by decide)) (FW5 hL hk) rfl ?_
  refine j_iconst X (1) dX5_beginNextPeriod_15 (by decide) ?_
  refine j_iadd X dX5_beginNextPeriod_16 ?_
  refine j_aload_n X (i := 1) dX5_beginNextPeriod_17 rfl rfl ?_
  refine j_getf X 4 1 rfl cw_X4 fl_X5_113 (by decide) dX5_beginNextPeriod_18 (inL hL hr0 (by decide)) (FW4 hL hr0) rfl ?_
  refine j_iconst X (1) dX5_beginNextPeriod_21 (by decide) ?_
  refine j_isub X dX5_beginNextPeriod_22 ?_
  refine j_mmin X ml_X5_86 dX5_beginNextPeriod_23 ⟨(by decide), (Nat.le_of_ble_eq_true rfl)⟩ ⟨(by decide), (by decide)⟩ ?_
  obtain ⟨a3, h4, hR⟩ := bT_inv hR
  refine tp_X5_2 X hL hk h4 fl_X5_31 dX5_beginNextPeriod_26 ?_
  refine j_aload_n X (i := 0) dX5_beginNextPeriod_29 rfl rfl ?_
  refine j_iconst X (0) dX5_beginNextPeriod_30 (by decide) ?_
  obtain ⟨a5, h6, hR⟩ := bT_inv hR
  refine tp_X5_4 X hL hk h6 fl_X5_37 dX5_beginNextPeriod_31 ?_
  refine j_aload_n X (i := 0) dX5_beginNextPeriod_34 rfl rfl ?_
  refine j_getf X 5 9 rfl cw_X5 fl_X5_54 (by decide) dX5_beginNextPeriod_35 (inL hL hk (by decide)) (FW5 hL hk) rfl ?_
  refine j_if_ne X (tgt := 59) dX5_beginNextPeriod_38 (by decide) (fun h7 => ?_) (fun h7 => ?_)
  · replace hR := (if_neg h7).symm.trans hR
    exact q_vret X hQ dX5_beginNextPeriod_59 rfl ⟨(by decide), (by decide)⟩ ⟨rfl, congrArg (fun z => FW G L z b c) hR, rfl⟩
  · replace hR := (if_pos h7).symm.trans hR
    refine j_aload_n X (i := 0) dX5_beginNextPeriod_41 rfl rfl ?_
    refine j_dup X dX5_beginNextPeriod_42 rfl ?_
    refine j_getf X 5 1 rfl cw_X5 fl_X5_27 (by decide) dX5_beginNextPeriod_43 (inL hL hk (by decide)) (FW5 hL hk) rfl ?_
    refine j_aload_n X (i := 1) dX5_beginNextPeriod_46 rfl rfl ?_
    refine j_aload_n X (i := 0) dX5_beginNextPeriod_47 rfl rfl ?_
    refine j_getf X 5 2 rfl cw_X5 fl_X5_31 (by decide) dX5_beginNextPeriod_48 (inL hL hk (by decide)) (FW5 hL hk) rfl ?_
    refine j_iconst X (1) dX5_beginNextPeriod_51 (by decide) ?_
    obtain ⟨x9, h8, hR⟩ := bT_inv hR
    refine j_callV2 X 4 (m_X4_number hl hL hr0 h8) ml_X5_21 im_yX4_number se_yX4_number in_X4 cd_yX4_number hy_yX4_number dX5_beginNextPeriod_52 rfl (inL hL hr0 (by decide)) (FW4 hL hr0) ⟨(by decide), (by decide)⟩ ⟨(by decide), (by decide)⟩ (Nat.le_of_ble_eq_true rfl) (fun _ h => h.elim) (fun r9 L9 f9 h9 => ?_)
    obtain ⟨h91, h92, h93⟩ := h9
    subst r9
    subst f9
    subst L9
    dsimp only [Option.toList, List.cons_append, List.nil_append, List.append]
    refine j_iadd X dX5_beginNextPeriod_55 ?_
    obtain ⟨a11, h12, hR⟩ := bT_inv hR
    refine tp_X5_1 X hL hk h12 fl_X5_27 dX5_beginNextPeriod_56 ?_
    exact q_vret X hQ dX5_beginNextPeriod_59 rfl ⟨(by decide), (by decide)⟩ ⟨rfl, congrArg (fun z => FW G L z b c) hR, rfl⟩
def f_X5_finishMove (k : Nat) (r0 : Nat) (a : Mem) : (Int32 × Mem) := bT (f_X5_gains k r0 a) fun x2 => bT (up2 a k 1 ((a k 1) + x2)) fun a4 => bT (up2 a4 k 3 ((a4 k 3) + (1 : Int32))) fun a6 => bT (up2 a6 k 4 ((a6 k 4) + (1 : Int32))) fun a8 => bT (f_X5_movesToPeriodEnd k r0 a8) fun x11 => if x11 = 0 then (bT (f_X5_beginNextPeriod k r0 a8) fun a18 => bT (f_X5_dropMove k a18) fun a21 => (x2, a21)) else (bT (f_X5_dropMove k a8) fun a15 => (x2, a15))
set_option maxRecDepth 100000 in
set_option maxHeartbeats 4000000 in
theorem m_X5_finishMove {l : Launch} (hl : l.stackTraces = false) {G : GG} {L : List Nat} (hL : LOK L) {a b c : Mem} {k : Nat} (hk : ty k = 5) {r0 : Nat} (hr0 : ty r0 = 4) {v : Int32} {a' : Mem} (hR : f_X5_finishMove k r0 a = (v, a')) : Ct l G yX5_finishMove (.code yX5_finishMove cX5_finishMove 3 (some .int)) 3 65 0 0 [.ref (ad L k), .ref (ad L r0)] L (FW G L a b c) px0 (stay L (fun r f1 => f1 = (FW G L a' b c) ∧ r = some (.int v))) := by
  refine Ct.ofq (own := RX5) hl rfl (by decide) [some (.ref (ad L k)), some (.ref (ad L r0)), none] rfl (Nat.le_of_ble_eq_true rfl) ?_
  intro p e s m below meth c9 A ar Q hQ X
  unfold f_X5_finishMove at hR
  refine j_aload_n X (i := 0) dX5_finishMove_0 rfl rfl ?_
  refine j_aload_n X (i := 1) dX5_finishMove_1 rfl rfl ?_
  obtain ⟨x2, h1, hR⟩ := bT_inv hR
  refine j_callV1 X 5 (m_X5_gains hl hL hk hr0 h1) ml_X5_101 im_yX5_gains se_yX5_gains in_X5 cd_yX5_gains hy_yX5_gains dX5_finishMove_2 rfl (inL hL hk (by decide)) (FW5 hL hk) ⟨(by decide), (by decide)⟩ ⟨(by decide), (by decide)⟩ (Nat.le_of_ble_eq_true rfl) (fun _ h => h.elim) (fun r9 L9 f9 h9 => ?_)
  obtain ⟨h91, h92, h93⟩ := h9
  subst r9
  subst f9
  subst L9
  dsimp only [Option.toList, List.cons_append, List.nil_append, List.append]
  refine j_istore_n X (i := 2) dX5_finishMove_5 rfl (by decide) (lvOK_s rfl okPrev_ref) ?_
  dsimp only [List.set]
  refine j_aload_n X (i := 0) dX5_finishMove_6 rfl rfl ?_
  refine j_dup X dX5_finishMove_7 rfl ?_
  refine j_getf X 5 1 rfl cw_X5 fl_X5_27 (by decide) dX5_finishMove_8 (inL hL hk (by decide)) (FW5 hL hk) rfl ?_
  refine j_iload_n X (i := 2) dX5_finishMove_11 rfl rfl ?_
  refine j_iadd X dX5_finishMove_12 ?_
  obtain ⟨a4, h5, hR⟩ := bT_inv hR
  refine tp_X5_1 X hL hk h5 fl_X5_27 dX5_finishMove_13 ?_
  refine j_aload_n X (i := 0) dX5_finishMove_16 rfl rfl ?_
  refine j_dup X dX5_finishMove_17 rfl ?_
  refine j_getf X 5 3 rfl cw_X5 fl_X5_34 (by decide) dX5_finishMove_18 (inL hL hk (by decide)) (FW5 hL hk) rfl ?_
  refine j_iconst X (1) dX5_finishMove_21 (by decide) ?_
  refine j_iadd X dX5_finishMove_22 ?_
  obtain ⟨a6, h7, hR⟩ := bT_inv hR
  refine tp_X5_3 X hL hk h7 fl_X5_34 dX5_finishMove_23 ?_
  refine j_aload_n X (i := 0) dX5_finishMove_26 rfl rfl ?_
  refine j_dup X dX5_finishMove_27 rfl ?_
  refine j_getf X 5 4 rfl cw_X5 fl_X5_37 (by decide) dX5_finishMove_28 (inL hL hk (by decide)) (FW5 hL hk) rfl ?_
  refine j_iconst X (1) dX5_finishMove_31 (by decide) ?_
  refine j_iadd X dX5_finishMove_32 ?_
  obtain ⟨a8, h9, hR⟩ := bT_inv hR
  refine tp_X5_4 X hL hk h9 fl_X5_37 dX5_finishMove_33 ?_
  refine j_aload_n X (i := 0) dX5_finishMove_36 rfl rfl ?_
  refine j_aload_n X (i := 1) dX5_finishMove_37 rfl rfl ?_
  obtain ⟨x11, h10, hR⟩ := bT_inv hR
  refine j_callV1 X 5 (m_X5_movesToPeriodEnd hl hL hk hr0 h10) ml_X5_104 im_yX5_movesToPeriodEnd se_yX5_movesToPeriodEnd in_X5 cd_yX5_movesToPeriodEnd hy_yX5_movesToPeriodEnd dX5_finishMove_38 rfl (inL hL hk (by decide)) (FW5 hL hk) ⟨(by decide), (by decide)⟩ ⟨(by decide), (by decide)⟩ (Nat.le_of_ble_eq_true rfl) (fun _ h => h.elim) (fun r9 L9 f9 h9 => ?_)
  obtain ⟨h91, h92, h93⟩ := h9
  subst r9
  subst f9
  subst L9
  dsimp only [Option.toList, List.cons_append, List.nil_append, List.append]
  refine j_if_ne X (tgt := 49) dX5_finishMove_41 (by decide) (fun h13 => ?_) (fun h13 => ?_)
  · replace hR := (if_neg h13).symm.trans hR
    refine j_aload_n X (i := 0) dX5_finishMove_49 rfl rfl ?_
    obtain ⟨a15, h14, hR⟩ := bT_inv hR
    refine j_callV0 X 5 (m_X5_dropMove hl hL hk h14) ml_X5_110 im_yX5_dropMove se_yX5_dropMove in_X5 cd_yX5_dropMove hy_yX5_dropMove dX5_finishMove_50 rfl (inL hL hk (by decide)) (FW5 hL hk) ⟨(by decide), (by decide)⟩ ⟨(by decide), (by decide)⟩ (Nat.le_of_ble_eq_true rfl) (fun _ h => h.elim) (fun r9 L9 f9 h9 => ?_)
    obtain ⟨h91, h92, h93⟩ := h9
    subst r9
    subst f9
    subst L9
    dsimp only [Option.toList, List.cons_append, List.nil_append, List.append]
    refine j_iload_n X (i := 2) dX5_finishMove_53 rfl rfl ?_
    exact q_iret X hQ dX5_finishMove_54 rfl ⟨(by decide), (by decide)⟩ ⟨rfl, congrArg (fun z => FW G L z b c) (Prod.mk.inj hR).2, congrArg (fun z => some (Value.int z)) (Prod.mk.inj hR).1⟩
  · replace hR := (if_pos h13).symm.trans hR
    refine j_aload_n X (i := 0) dX5_finishMove_44 rfl rfl ?_
    refine j_aload_n X (i := 1) dX5_finishMove_45 rfl rfl ?_
    obtain ⟨a18, h17, hR⟩ := bT_inv hR
    refine j_callV1 X 5 (m_X5_beginNextPeriod hl hL hk hr0 h17) ml_X5_107 im_yX5_beginNextPeriod se_yX5_beginNextPeriod in_X5 cd_yX5_beginNextPeriod hy_yX5_beginNextPeriod dX5_finishMove_46 rfl (inL hL hk (by decide)) (FW5 hL hk) ⟨(by decide), (by decide)⟩ ⟨(by decide), (by decide)⟩ (Nat.le_of_ble_eq_true rfl) (fun _ h => h.elim) (fun r9 L9 f9 h9 => ?_)
    obtain ⟨h91, h92, h93⟩ := h9
    subst r9
    subst f9
    subst L9
    dsimp only [Option.toList, List.cons_append, List.nil_append, List.append]
    refine j_aload_n X (i := 0) dX5_finishMove_49 rfl rfl ?_
    obtain ⟨a21, h20, hR⟩ := bT_inv hR
    refine j_callV0 X 5 (m_X5_dropMove hl hL hk h20) ml_X5_110 im_yX5_dropMove se_yX5_dropMove in_X5 cd_yX5_dropMove hy_yX5_dropMove dX5_finishMove_50 rfl (inL hL hk (by decide)) (FW5 hL hk) ⟨(by decide), (by decide)⟩ ⟨(by decide), (by decide)⟩ (Nat.le_of_ble_eq_true rfl) (fun _ h => h.elim) (fun r9 L9 f9 h9 => ?_)
    obtain ⟨h91, h92, h93⟩ := h9
    subst r9
    subst f9
    subst L9
    dsimp only [Option.toList, List.cons_append, List.nil_append, List.append]
    refine j_iload_n X (i := 2) dX5_finishMove_53 rfl rfl ?_
    exact q_iret X hQ dX5_finishMove_54 rfl ⟨(by decide), (by decide)⟩ ⟨rfl, congrArg (fun z => FW G L z b c) (Prod.mk.inj hR).2, congrArg (fun z => some (Value.int z)) (Prod.mk.inj hR).1⟩
def f_X1_greatestThink_4 (N : Nat) (k : Nat) (p0 : Int32) (a : Mem) : Nat → Int32 → Int32 → Option Int32
  | 0, _, _ => none
  | fu + 1, x1, x2 => if (a k 1) ≤ x2 then (some x1) else (bT (f_X1_number k x2 (0 : Int32) a) fun x5 => if x5 = p0 then (bT (f_X1_number k x2 (1 : Int32) a) fun x11 => bT (mxI x1 x11) fun x13 => bT (x2 + (1 : Int32)) fun x15 => f_X1_greatestThink_4 N k p0 a fu x13 x15) else (bT (x2 + (1 : Int32)) fun x8 => f_X1_greatestThink_4 N k p0 a fu x1 x8))
theorem f_X1_greatestThink_4_s (N : Nat) (k : Nat) (p0 : Int32) (a : Mem) {fu : Nat} {x1 : Int32} {x2 : Int32} : f_X1_greatestThink_4 N k p0 a (fu + 1) x1 x2 = (if (a k 1) ≤ x2 then (some x1) else (bT (f_X1_number k x2 (0 : Int32) a) fun x5 => if x5 = p0 then (bT (f_X1_number k x2 (1 : Int32) a) fun x11 => bT (mxI x1 x11) fun x13 => bT (x2 + (1 : Int32)) fun x15 => f_X1_greatestThink_4 N k p0 a fu x13 x15) else (bT (x2 + (1 : Int32)) fun x8 => f_X1_greatestThink_4 N k p0 a fu x1 x8))) := rfl
def f_X1_greatestThink (N : Nat) (k : Nat) (p0 : Int32) (a : Mem) : Option Int32 := f_X1_greatestThink_4 N k p0 a N (0 : Int32) (0 : Int32)
def f_X1_movesOf_4 (N : Nat) (k : Nat) (p0 : Int32) (a : Mem) : Nat → Int32 → Int32 → Option Int32
  | 0, _, _ => none
  | fu + 1, x1, x2 => if (a k 1) ≤ x2 then (some x1) else (bT (f_X1_number k x2 (0 : Int32) a) fun x5 => if x5 = p0 then (bT (x1 + (1 : Int32)) fun x10 => bT (x2 + (1 : Int32)) fun x12 => f_X1_movesOf_4 N k p0 a fu x10 x12) else (bT (x2 + (1 : Int32)) fun x8 => f_X1_movesOf_4 N k p0 a fu x1 x8))
theorem f_X1_movesOf_4_s (N : Nat) (k : Nat) (p0 : Int32) (a : Mem) {fu : Nat} {x1 : Int32} {x2 : Int32} : f_X1_movesOf_4 N k p0 a (fu + 1) x1 x2 = (if (a k 1) ≤ x2 then (some x1) else (bT (f_X1_number k x2 (0 : Int32) a) fun x5 => if x5 = p0 then (bT (x1 + (1 : Int32)) fun x10 => bT (x2 + (1 : Int32)) fun x12 => f_X1_movesOf_4 N k p0 a fu x10 x12) else (bT (x2 + (1 : Int32)) fun x8 => f_X1_movesOf_4 N k p0 a fu x1 x8))) := rfl
def f_X1_movesOf (N : Nat) (k : Nat) (p0 : Int32) (a : Mem) : Option Int32 := f_X1_movesOf_4 N k p0 a N (0 : Int32) (0 : Int32)
def f_X1_sumOf_5 (N : Nat) (k : Nat) (p0 : Int32) (p1 : Int32) (a : Mem) : Nat → Int32 → Int32 → Option Int32
  | 0, _, _ => none
  | fu + 1, x1, x2 => if (a k 1) ≤ x2 then (some x1) else (bT (f_X1_number k x2 (0 : Int32) a) fun x5 => if x5 = p0 then (bT (f_X1_number k x2 p1 a) fun x11 => bT (x1 + x11) fun x13 => bT (x2 + (1 : Int32)) fun x15 => f_X1_sumOf_5 N k p0 p1 a fu x13 x15) else (bT (x2 + (1 : Int32)) fun x8 => f_X1_sumOf_5 N k p0 p1 a fu x1 x8))
theorem f_X1_sumOf_5_s (N : Nat) (k : Nat) (p0 : Int32) (p1 : Int32) (a : Mem) {fu : Nat} {x1 : Int32} {x2 : Int32} : f_X1_sumOf_5 N k p0 p1 a (fu + 1) x1 x2 = (if (a k 1) ≤ x2 then (some x1) else (bT (f_X1_number k x2 (0 : Int32) a) fun x5 => if x5 = p0 then (bT (f_X1_number k x2 p1 a) fun x11 => bT (x1 + x11) fun x13 => bT (x2 + (1 : Int32)) fun x15 => f_X1_sumOf_5 N k p0 p1 a fu x13 x15) else (bT (x2 + (1 : Int32)) fun x8 => f_X1_sumOf_5 N k p0 p1 a fu x1 x8))) := rfl
def f_X1_sumOf (N : Nat) (k : Nat) (p0 : Int32) (p1 : Int32) (a : Mem) : Option Int32 := f_X1_sumOf_5 N k p0 p1 a N (0 : Int32) (0 : Int32)
def f_X1_movesWithin_5 (N : Nat) (k : Nat) (p0 : Int32) (p1 : Int32) (a : Mem) : Nat → Int32 → Int32 → Option Int32
  | 0, _, _ => none
  | fu + 1, x1, x2 => if (a k 1) ≤ x2 then (some x1) else (bT (f_X1_number k x2 (0 : Int32) a) fun x5 => if x5 = p0 then (bT (f_X1_number k x2 (1 : Int32) a) fun x11 => if p1 < x11 then (bT (x2 + (1 : Int32)) fun x14 => f_X1_movesWithin_5 N k p0 p1 a fu x1 x14) else (bT (x1 + (1 : Int32)) fun x16 => bT (x2 + (1 : Int32)) fun x18 => f_X1_movesWithin_5 N k p0 p1 a fu x16 x18)) else (bT (x2 + (1 : Int32)) fun x8 => f_X1_movesWithin_5 N k p0 p1 a fu x1 x8))
theorem f_X1_movesWithin_5_s (N : Nat) (k : Nat) (p0 : Int32) (p1 : Int32) (a : Mem) {fu : Nat} {x1 : Int32} {x2 : Int32} : f_X1_movesWithin_5 N k p0 p1 a (fu + 1) x1 x2 = (if (a k 1) ≤ x2 then (some x1) else (bT (f_X1_number k x2 (0 : Int32) a) fun x5 => if x5 = p0 then (bT (f_X1_number k x2 (1 : Int32) a) fun x11 => if p1 < x11 then (bT (x2 + (1 : Int32)) fun x14 => f_X1_movesWithin_5 N k p0 p1 a fu x1 x14) else (bT (x1 + (1 : Int32)) fun x16 => bT (x2 + (1 : Int32)) fun x18 => f_X1_movesWithin_5 N k p0 p1 a fu x16 x18)) else (bT (x2 + (1 : Int32)) fun x8 => f_X1_movesWithin_5 N k p0 p1 a fu x1 x8))) := rfl
def f_X1_movesWithin (N : Nat) (k : Nat) (p0 : Int32) (p1 : Int32) (a : Mem) : Option Int32 := f_X1_movesWithin_5 N k p0 p1 a N (0 : Int32) (0 : Int32)
def f_X1_add (k : Nat) (p0 : Int32) (p1 : Int32) (p2 : Int32) (p3 : Int32) (p4 : Int32) (p5 : Int32) (a : Mem) : Mem := bT (up2 a k 2 (((a k 2) + (1 : Int32)) - ((a k 2) + (1 : Int32)) / (40 : Int32) * (40 : Int32))) fun a1 => bT (up2 a1 k 1 (mnI ((a1 k 1) + (1 : Int32)) (40 : Int32))) fun a3 => bT ((a3 k 2) * (6 : Int32)) fun x5 => bT (upR a3 (k + 1) (putI 240 (a3 (k + 1)) (x5 + (0 : Int32)) p0)) fun a8 => bT (upR a8 (k + 1) (putI 240 (a8 (k + 1)) (x5 + (1 : Int32)) p1)) fun a11 => bT (upR a11 (k + 1) (putI 240 (a11 (k + 1)) (x5 + (2 : Int32)) p2)) fun a14 => bT (upR a14 (k + 1) (putI 240 (a14 (k + 1)) (x5 + (3 : Int32)) p3)) fun a17 => bT (upR a17 (k + 1) (putI 240 (a17 (k + 1)) (x5 + (4 : Int32)) p4)) fun a20 => bT (upR a20 (k + 1) (putI 240 (a20 (k + 1)) (x5 + (5 : Int32)) p5)) fun a23 => a23
set_option maxRecDepth 100000 in
set_option maxHeartbeats 4000000 in
theorem m_X1_add {l : Launch} (hl : l.stackTraces = false) {G : GG} {L : List Nat} (hL : LOK L) {a b c : Mem} {k : Nat} (hk : ty k = 1) {p0 : Int32} {p1 : Int32} {p2 : Int32} {p3 : Int32} {p4 : Int32} {p5 : Int32} {a' : Mem} (hR : f_X1_add k p0 p1 p2 p3 p4 p5 a = a') : Ct l G yX1_add (.code yX1_add cX1_add 8 none) 1 24 0 0 [.ref (ad L k), .int p0, .int p1, .int p2, .int p3, .int p4, .int p5] L (FW G L a b c) px0 (stay L (fun r f1 => f1 = (FW G L a' b c) ∧ r = none)) := by
  refine Ct.ofq (own := RX1) hl rfl (by decide) [some (.ref (ad L k)), some (.int p0), some (.int p1), some (.int p2), some (.int p3), some (.int p4), some (.int p5), none] rfl (Nat.le_of_ble_eq_true rfl) ?_
  intro p e s m below meth c9 A ar Q hQ X
  unfold f_X1_add at hR
  refine j_aload_n X (i := 0) dX1_add_0 rfl rfl ?_
  refine j_aload_n X (i := 0) dX1_add_1 rfl rfl ?_
  refine j_getf X 1 2 rfl cw_X1 fl_X1_19 (by decide) dX1_add_2 (inL hL hk (by decide)) (FW1 hL hk) rfl ?_
  refine j_iconst X (1) dX1_add_5 (by decide) ?_
  refine j_iadd X dX1_add_6 ?_
  refine j_bipush X (40) dX1_add_7 (by decide) ?_
  refine j_irem X dX1_add_9 (by decide) ?_
  obtain ⟨a1, h2, hR⟩ := bT_inv hR
  refine tp_X1_2 X hL hk h2 fl_X1_19 dX1_add_10 ?_
  refine j_aload_n X (i := 0) dX1_add_13 rfl rfl ?_
  refine j_aload_n X (i := 0) dX1_add_14 rfl rfl ?_
  refine j_getf X 1 1 rfl cw_X1 fl_X1_15 (by decide) dX1_add_15 (inL hL hk (by decide)) (FW1 hL hk) rfl ?_
  refine j_iconst X (1) dX1_add_18 (by decide) ?_
  refine j_iadd X dX1_add_19 ?_
  refine j_bipush X (40) dX1_add_20 (by decide) ?_
  refine j_mmin X ml_X1_26 dX1_add_22 ⟨(by decide), (Nat.le_of_ble_eq_true rfl)⟩ ⟨(by decide), (by decide)⟩ ?_
  obtain ⟨a3, h4, hR⟩ := bT_inv hR
  refine tp_X1_1 X hL hk h4 fl_X1_15 dX1_add_25 ?_
  refine j_aload_n X (i := 0) dX1_add_28 rfl rfl ?_
  refine j_getf X 1 2 rfl cw_X1 fl_X1_19 (by decide) dX1_add_29 (inL hL hk (by decide)) (FW1 hL hk) rfl ?_
  refine j_bipush X (6) dX1_add_32 (by decide) ?_
  refine j_imul X dX1_add_34 ?_
  obtain ⟨x5, h6, hR⟩ := bT_inv hR
  refine J.eqi h6 ?_
  refine j_istore X dX1_add_35 (by decide) (lvOK_s rfl okPrev_int) ?_
  dsimp only [List.set]
  refine j_aload_n X (i := 0) dX1_add_37 rfl rfl ?_
  refine j_getf X 1 0 rfl cw_X1 fl_X1_9 (by decide) dX1_add_38 (inL hL hk (by decide)) (FW1 hL hk) rfl ?_
  refine j_iload X dX1_add_41 rfl ?_
  refine j_iconst X (0) dX1_add_43 (by decide) ?_
  refine j_iadd X dX1_add_44 ?_
  refine j_iload_n X (i := 1) dX1_add_45 rfl rfl ?_
  obtain ⟨a8, h7, hR⟩ := bT_inv hR
  refine j_callSN3 X (c_sN_22 hl hL (ty1_0 hk) h7) (List.mem_of_getElem? (i := 18) rfl) st_yX8_setNumberAt in_X8 cd_yX8_setNumberAt hy_yX8_setNumberAt dX1_add_46 ⟨(by decide), (by decide)⟩ ⟨(by decide), (by decide)⟩ (Nat.le_of_ble_eq_true rfl) (fun _ h => h.elim) (fun r9 L9 f9 h9 => ?_)
  obtain ⟨h91, h92, h93⟩ := h9
  subst r9
  subst f9
  subst L9
  dsimp only [Option.toList, List.cons_append, List.nil_append, List.append]
  refine j_aload_n X (i := 0) dX1_add_49 rfl rfl ?_
  refine j_getf X 1 0 rfl cw_X1 fl_X1_9 (by decide) dX1_add_50 (inL hL hk (by decide)) (FW1 hL hk) rfl ?_
  refine j_iload X dX1_add_53 rfl ?_
  refine j_iconst X (1) dX1_add_55 (by decide) ?_
  refine j_iadd X dX1_add_56 ?_
  refine j_iload_n X (i := 2) dX1_add_57 rfl rfl ?_
  obtain ⟨a11, h10, hR⟩ := bT_inv hR
  refine j_callSN3 X (c_sN_22 hl hL (ty1_0 hk) h10) (List.mem_of_getElem? (i := 18) rfl) st_yX8_setNumberAt in_X8 cd_yX8_setNumberAt hy_yX8_setNumberAt dX1_add_58 ⟨(by decide), (by decide)⟩ ⟨(by decide), (by decide)⟩ (Nat.le_of_ble_eq_true rfl) (fun _ h => h.elim) (fun r9 L9 f9 h9 => ?_)
  obtain ⟨h91, h92, h93⟩ := h9
  subst r9
  subst f9
  subst L9
  dsimp only [Option.toList, List.cons_append, List.nil_append, List.append]
  refine j_aload_n X (i := 0) dX1_add_61 rfl rfl ?_
  refine j_getf X 1 0 rfl cw_X1 fl_X1_9 (by decide) dX1_add_62 (inL hL hk (by decide)) (FW1 hL hk) rfl ?_
  refine j_iload X dX1_add_65 rfl ?_
  refine j_iconst X (2) dX1_add_67 (by decide) ?_
  refine j_iadd X dX1_add_68 ?_
  refine j_iload_n X (i := 3) dX1_add_69 rfl rfl ?_
  obtain ⟨a14, h13, hR⟩ := bT_inv hR
  refine j_callSN3 X (c_sN_22 hl hL (ty1_0 hk) h13) (List.mem_of_getElem? (i := 18) rfl) st_yX8_setNumberAt in_X8 cd_yX8_setNumberAt hy_yX8_setNumberAt dX1_add_70 ⟨(by decide), (by decide)⟩ ⟨(by decide), (by decide)⟩ (Nat.le_of_ble_eq_true rfl) (fun _ h => h.elim) (fun r9 L9 f9 h9 => ?_)
  obtain ⟨h91, h92, h93⟩ := h9
  subst r9
  subst f9
  subst L9
  dsimp only [Option.toList, List.cons_append, List.nil_append, List.append]
  refine j_aload_n X (i := 0) dX1_add_73 rfl rfl ?_
  refine j_getf X 1 0 rfl cw_X1 fl_X1_9 (by decide) dX1_add_74 (inL hL hk (by decide)) (FW1 hL hk) rfl ?_
  refine j_iload X dX1_add_77 rfl ?_
  refine j_iconst X (3) dX1_add_79 (by decide) ?_
  refine j_iadd X dX1_add_80 ?_
  refine j_iload X dX1_add_81 rfl ?_
  obtain ⟨a17, h16, hR⟩ := bT_inv hR
  refine j_callSN3 X (c_sN_22 hl hL (ty1_0 hk) h16) (List.mem_of_getElem? (i := 18) rfl) st_yX8_setNumberAt in_X8 cd_yX8_setNumberAt hy_yX8_setNumberAt dX1_add_83 ⟨(by decide), (by decide)⟩ ⟨(by decide), (by decide)⟩ (Nat.le_of_ble_eq_true rfl) (fun _ h => h.elim) (fun r9 L9 f9 h9 => ?_)
  obtain ⟨h91, h92, h93⟩ := h9
  subst r9
  subst f9
  subst L9
  dsimp only [Option.toList, List.cons_append, List.nil_append, List.append]
  refine j_aload_n X (i := 0) dX1_add_86 rfl rfl ?_
  refine j_getf X 1 0 rfl cw_X1 fl_X1_9 (by decide) dX1_add_87 (inL hL hk (by decide)) (FW1 hL hk) rfl ?_
  refine j_iload X dX1_add_90 rfl ?_
  refine j_iconst X (4) dX1_add_92 (by decide) ?_
  refine j_iadd X dX1_add_93 ?_
  refine j_iload X dX1_add_94 rfl ?_
  obtain ⟨a20, h19, hR⟩ := bT_inv hR
  refine j_callSN3 X (c_sN_22 hl hL (ty1_0 hk) h19) (List.mem_of_getElem? (i := 18) rfl) st_yX8_setNumberAt in_X8 cd_yX8_setNumberAt hy_yX8_setNumberAt dX1_add_96 ⟨(by decide), (by decide)⟩ ⟨(by decide), (by decide)⟩ (Nat.le_of_ble_eq_true rfl) (fun _ h => h.elim) (fun r9 L9 f9 h9 => ?_)
  obtain ⟨h91, h92, h93⟩ := h9
  subst r9
  subst f9
  subst L9
  dsimp only [Option.toList, List.cons_append, List.nil_append, List.append]
  refine j_aload_n X (i := 0) dX1_add_99 rfl rfl ?_
  refine j_getf X 1 0 rfl cw_X1 fl_X1_9 (by decide) dX1_add_100 (inL hL hk (by decide)) (FW1 hL hk) rfl ?_
  refine j_iload X dX1_add_103 rfl ?_
  refine j_iconst X (5) dX1_add_105 (by decide) ?_
  refine j_iadd X dX1_add_106 ?_
  refine j_iload X dX1_add_107 rfl ?_
  obtain ⟨a23, h22, hR⟩ := bT_inv hR
  refine j_callSN3 X (c_sN_22 hl hL (ty1_0 hk) h22) (List.mem_of_getElem? (i := 18) rfl) st_yX8_setNumberAt in_X8 cd_yX8_setNumberAt hy_yX8_setNumberAt dX1_add_109 ⟨(by decide), (by decide)⟩ ⟨(by decide), (by decide)⟩ (Nat.le_of_ble_eq_true rfl) (fun _ h => h.elim) (fun r9 L9 f9 h9 => ?_)
  obtain ⟨h91, h92, h93⟩ := h9
  subst r9
  subst f9
  subst L9
  dsimp only [Option.toList, List.cons_append, List.nil_append, List.append]
  exact q_vret X hQ dX1_add_112 rfl ⟨(by decide), (by decide)⟩ ⟨rfl, congrArg (fun z => FW G L z b c) hR, rfl⟩
def f_X8_other (p0 : Int32) (a : Mem) : Int32 := ((1 : Int32) - p0)
set_option maxRecDepth 100000 in
set_option maxHeartbeats 4000000 in
theorem m_X8_other {l : Launch} (hl : l.stackTraces = false) {G : GG} {L : List Nat} (hL : LOK L) {a b c : Mem} {p0 : Int32} {v : Int32} (hR : f_X8_other p0 a = v) : Ct l G yX8_other (.code yX8_other cX8_other 1 (some .int)) 0 0 0 0 [.int p0] L (FW G L a b c) px0 (stay L (fun r f1 => f1 = (FW G L a b c) ∧ r = some (.int v))) := by
  refine Ct.ofq (own := RX8) hl rfl (by decide) [some (.int p0)] rfl (Nat.le_of_ble_eq_true rfl) ?_
  intro p e s m below meth c9 A ar Q hQ X
  unfold f_X8_other at hR
  refine j_iconst X (1) dX8_other_0 (by decide) ?_
  refine j_iload_n X (i := 0) dX8_other_1 rfl rfl ?_
  refine j_isub X dX8_other_2 ?_
  exact q_iret X hQ dX8_other_3 rfl ⟨(by decide), (by decide)⟩ ⟨rfl, rfl, congrArg (fun z => some (Value.int z)) hR⟩

