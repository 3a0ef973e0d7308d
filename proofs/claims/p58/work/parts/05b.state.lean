def f_X0_byteAt (p0 : Int32) (a : Mem) : Int32 := if p0 < 0 then ((0 : Int32)) else (if (a 2 1) ≤ p0 then ((0 : Int32)) else (if (nI 400) ≤ p0 then ((0 : Int32)) else (((a 3 (p0).toNatClampNeg) &&& (255 : Int32)))))
set_option maxRecDepth 100000 in
set_option maxHeartbeats 4000000 in
theorem m_X0_byteAt {l : Launch} (hl : l.stackTraces = false) {G : GG} {L : List Nat} (hL : LOK L) {a b c : Mem} {p0 : Int32} {v : Int32} (hR : f_X0_byteAt p0 a = v) : Ct l G yX0_byteAt (.code yX0_byteAt cX0_byteAt 2 (some .int)) 0 0 0 0 [.ref (ad L 2), .int p0] L (FW G L a b c) px0 (stay L (fun r f1 => f1 = (FW G L a b c) ∧ r = some (.int v))) := by
  refine Ct.ofq (own := RX0) hl rfl (by decide) [some (.ref (ad L 2)), some (.int p0)] rfl (Nat.le_of_ble_eq_true rfl) ?_
  intro p e s m below meth c9 A ar Q hQ X
  unfold f_X0_byteAt at hR
  refine j_iload_n X (i := 1) dX0_byteAt_0 rfl rfl ?_
  refine j_if_lt X (tgt := 34) dX0_byteAt_1 (by decide) (fun h1 => ?_) (fun h1 => ?_)
  · replace hR := (if_pos h1).symm.trans hR
    refine j_iconst X (0) dX0_byteAt_34 (by decide) ?_
    exact q_iret X hQ dX0_byteAt_35 rfl ⟨(by decide), (by decide)⟩ ⟨rfl, rfl, congrArg (fun z => some (Value.int z)) hR⟩
  · replace hR := (if_neg h1).symm.trans hR
    refine j_iload_n X (i := 1) dX0_byteAt_4 rfl rfl ?_
    refine j_aload_n X (i := 0) dX0_byteAt_5 rfl rfl ?_
    refine j_getf X 0 1 rfl cw_X0 fl_X0_15 (by decide) dX0_byteAt_6 (inL hL t_2 (by decide)) (FW0 hL t_2) rfl ?_
    refine j_icmp_ge X (tgt := 34) dX0_byteAt_9 (by decide) (fun h2 => ?_) (fun h2 => ?_)
    · replace hR := (if_pos h2).symm.trans hR
      refine j_iconst X (0) dX0_byteAt_34 (by decide) ?_
      exact q_iret X hQ dX0_byteAt_35 rfl ⟨(by decide), (by decide)⟩ ⟨rfl, rfl, congrArg (fun z => some (Value.int z)) hR⟩
    · replace hR := (if_neg h2).symm.trans hR
      refine j_iload_n X (i := 1) dX0_byteAt_12 rfl rfl ?_
      refine j_aload_n X (i := 0) dX0_byteAt_13 rfl rfl ?_
      refine j_getf X 0 0 rfl cw_X0 fl_X0_9 (by decide) dX0_byteAt_14 (inL hL t_2 (by decide)) (FW0 hL t_2) rfl ?_
      refine j_alenN X (k9 := 1) dX0_byteAt_17 (inL hL t_3 (by decide)) (FW24 hL t_3) rfl ?_
      refine j_icmp_ge X (tgt := 34) dX0_byteAt_18 (by decide) (fun h3 => ?_) (fun h3 => ?_)
      · replace hR := (if_pos h3).symm.trans hR
        refine j_iconst X (0) dX0_byteAt_34 (by decide) ?_
        exact q_iret X hQ dX0_byteAt_35 rfl ⟨(by decide), (by decide)⟩ ⟨rfl, rfl, congrArg (fun z => some (Value.int z)) hR⟩
      · replace hR := (if_neg h3).symm.trans hR
        refine j_aload_n X (i := 0) dX0_byteAt_21 rfl rfl ?_
        refine j_getf X 0 0 rfl cw_X0 fl_X0_9 (by decide) dX0_byteAt_22 (inL hL t_2 (by decide)) (FW0 hL t_2) rfl ?_
        refine j_iload_n X (i := 1) dX0_byteAt_25 rfl rfl ?_
        refine j_bald X dX0_byteAt_26 (inL hL t_3 (by decide)) (FW24 hL t_3) (in_ge (by assumption) (by assumption) (by decide)) ?_
        refine j_sipush X (255) dX0_byteAt_27 (by decide) ?_
        refine j_iand X dX0_byteAt_30 ?_
        refine j_goto X (tgt := 35) dX0_byteAt_31 (by decide) ?_
        exact q_iret X hQ dX0_byteAt_35 rfl ⟨(by decide), (by decide)⟩ ⟨rfl, rfl, congrArg (fun z => some (Value.int z)) hR⟩
def f_X6_copyFrom (k : Nat) (r0 : Nat) (a : Mem) : Mem := bT (f_X4_copyFrom (k + 1) (r0 + 1) a) fun a2 => bT (f_X1_copyFrom (k + 3) (r0 + 3) a2) fun a5 => bT (f_X5_copyFrom (sdr k (a5 k 2)) (sdr r0 (a5 r0 2)) a5) fun a8 => bT (f_X5_copyFrom (sdr k (a8 k 3)) (sdr r0 (a8 r0 3)) a8) fun a11 => bT (up2 a11 k 4 (nb (a11 r0 4))) fun a13 => bT (up2 a13 k 5 (a13 r0 5)) fun a15 => bT (up2 a15 k 6 (a15 r0 6)) fun a17 => bT (up2 a17 k 7 (a17 r0 7)) fun a19 => bT (up2 a19 k 8 (a19 r0 8)) fun a21 => bT (up2 a21 k 9 (a21 r0 9)) fun a23 => bT (up2 a23 k 10 (a23 r0 10)) fun a25 => a25
set_option maxRecDepth 100000 in
set_option maxHeartbeats 4000000 in
theorem m_X6_copyFrom {l : Launch} (hl : l.stackTraces = false) {G : GG} {L : List Nat} (hL : LOK L) {a b c : Mem} {k : Nat} (hk : ty k = 6) {r0 : Nat} (hr0 : ty r0 = 6) {a' : Mem} (hR : f_X6_copyFrom k r0 a = a') : Ct l G yX6_copyFrom (.code yX6_copyFrom cX6_copyFrom 2 none) 3 102 0 0 [.ref (ad L k), .ref (ad L r0)] L (FW G L a b c) px0 (stay L (fun r f1 => f1 = (FW G L a' b c) ∧ r = none)) := by
  refine Ct.ofq (own := RX6) hl rfl (by decide) [some (.ref (ad L k)), some (.ref (ad L r0))] rfl (Nat.le_of_ble_eq_true rfl) ?_
  intro p e s m below meth c9 A ar Q hQ X
  unfold f_X6_copyFrom at hR
  refine j_aload_n X (i := 0) dX6_copyFrom_0 rfl rfl ?_
  refine j_getf X 6 0 rfl cw_X6 fl_X6_12 (by decide) dX6_copyFrom_1 (inL hL hk (by decide)) (FW6 hL hk) rfl ?_
  refine j_aload_n X (i := 1) dX6_copyFrom_4 rfl rfl ?_
  refine j_getf X 6 0 rfl cw_X6 fl_X6_12 (by decide) dX6_copyFrom_5 (inL hL hr0 (by decide)) (FW6 hL hr0) rfl ?_
  obtain ⟨a2, h1, hR⟩ := bT_inv hR
  refine j_callV1 X 4 (m_X4_copyFrom hl hL (ty6_0 hk) (ty6_0 hr0) h1) ml_X6_53 im_yX4_copyFrom se_yX4_copyFrom in_X4 cd_yX4_copyFrom hy_yX4_copyFrom dX6_copyFrom_8 rfl (inL hL (ty6_0 hk) (by decide)) (FW4 hL (ty6_0 hk)) ⟨(by decide), (by decide)⟩ ⟨(by decide), (by decide)⟩ (Nat.le_of_ble_eq_true rfl) (fun _ h => h.elim) (fun r9 L9 f9 h9 => ?_)
  obtain ⟨h91, h92, h93⟩ := h9
  subst r9
  subst f9
  subst L9
  dsimp only [Option.toList, List.cons_append, List.nil_append, List.append]
  refine j_aload_n X (i := 0) dX6_copyFrom_11 rfl rfl ?_
  refine j_getf X 6 1 rfl cw_X6 fl_X6_21 (by decide) dX6_copyFrom_12 (inL hL hk (by decide)) (FW6 hL hk) rfl ?_
  refine j_aload_n X (i := 1) dX6_copyFrom_15 rfl rfl ?_
  refine j_getf X 6 1 rfl cw_X6 fl_X6_21 (by decide) dX6_copyFrom_16 (inL hL hr0 (by decide)) (FW6 hL hr0) rfl ?_
  obtain ⟨a5, h4, hR⟩ := bT_inv hR
  refine j_callV1 X 1 (m_X1_copyFrom hl hL (ty6_1 hk) (ty6_1 hr0) h4) ml_X6_75 im_yX1_copyFrom se_yX1_copyFrom in_X1 cd_yX1_copyFrom hy_yX1_copyFrom dX6_copyFrom_19 rfl (inL hL (ty6_1 hk) (by decide)) (FW1 hL (ty6_1 hk)) ⟨(by decide), (by decide)⟩ ⟨(by decide), (by decide)⟩ (Nat.le_of_ble_eq_true rfl) (fun _ h => h.elim) (fun r9 L9 f9 h9 => ?_)
  obtain ⟨h91, h92, h93⟩ := h9
  subst r9
  subst f9
  subst L9
  dsimp only [Option.toList, List.cons_append, List.nil_append, List.append]
  refine j_aload_n X (i := 0) dX6_copyFrom_22 rfl rfl ?_
  refine j_getf X 6 2 rfl cw_X6 fl_X6_28 (by decide) dX6_copyFrom_23 (inL hL hk (by decide)) (FW6 hL hk) rfl ?_
  refine j_aload_n X (i := 1) dX6_copyFrom_26 rfl rfl ?_
  refine j_getf X 6 2 rfl cw_X6 fl_X6_28 (by decide) dX6_copyFrom_27 (inL hL hr0 (by decide)) (FW6 hL hr0) rfl ?_
  obtain ⟨a8, h7, hR⟩ := bT_inv hR
  refine j_callV1 X 5 (m_X5_copyFrom hl hL (ty6_s hk) (ty6_s hr0) h7) ml_X6_78 im_yX5_copyFrom se_yX5_copyFrom in_X5 cd_yX5_copyFrom hy_yX5_copyFrom dX6_copyFrom_30 rfl (inL hL (ty6_s hk) (by decide)) (FW5 hL (ty6_s hk)) ⟨(by decide), (by decide)⟩ ⟨(by decide), (by decide)⟩ (Nat.le_of_ble_eq_true rfl) (fun _ h => h.elim) (fun r9 L9 f9 h9 => ?_)
  obtain ⟨h91, h92, h93⟩ := h9
  subst r9
  subst f9
  subst L9
  dsimp only [Option.toList, List.cons_append, List.nil_append, List.append]
  refine j_aload_n X (i := 0) dX6_copyFrom_33 rfl rfl ?_
  refine j_getf X 6 3 rfl cw_X6 fl_X6_32 (by decide) dX6_copyFrom_34 (inL hL hk (by decide)) (FW6 hL hk) rfl ?_
  refine j_aload_n X (i := 1) dX6_copyFrom_37 rfl rfl ?_
  refine j_getf X 6 3 rfl cw_X6 fl_X6_32 (by decide) dX6_copyFrom_38 (inL hL hr0 (by decide)) (FW6 hL hr0) rfl ?_
  obtain ⟨a11, h10, hR⟩ := bT_inv hR
  refine j_callV1 X 5 (m_X5_copyFrom hl hL (ty6_s hk) (ty6_s hr0) h10) ml_X6_78 im_yX5_copyFrom se_yX5_copyFrom in_X5 cd_yX5_copyFrom hy_yX5_copyFrom dX6_copyFrom_41 rfl (inL hL (ty6_s hk) (by decide)) (FW5 hL (ty6_s hk)) ⟨(by decide), (by decide)⟩ ⟨(by decide), (by decide)⟩ (Nat.le_of_ble_eq_true rfl) (fun _ h => h.elim) (fun r9 L9 f9 h9 => ?_)
  obtain ⟨h91, h92, h93⟩ := h9
  subst r9
  subst f9
  subst L9
  dsimp only [Option.toList, List.cons_append, List.nil_append, List.append]
  refine j_aload_n X (i := 0) dX6_copyFrom_44 rfl rfl ?_
  refine j_aload_n X (i := 1) dX6_copyFrom_45 rfl rfl ?_
  refine j_getf X 6 4 rfl cw_X6 fl_X6_59 (by decide) dX6_copyFrom_46 (inL hL hr0 (by decide)) (FW6 hL hr0) rfl ?_
  obtain ⟨a13, h14, hR⟩ := bT_inv hR
  refine tp_X6_4 X hL hk nb_B h14 fl_X6_59 dX6_copyFrom_49 ?_
  refine j_aload_n X (i := 0) dX6_copyFrom_52 rfl rfl ?_
  refine j_aload_n X (i := 1) dX6_copyFrom_53 rfl rfl ?_
  refine j_getf X 6 5 rfl cw_X6 fl_X6_63 (by decide) dX6_copyFrom_54 (inL hL hr0 (by decide)) (FW6 hL hr0) rfl ?_
  obtain ⟨a15, h16, hR⟩ := bT_inv hR
  refine tp_X6_5 X hL hk h16 fl_X6_63 dX6_copyFrom_57 ?_
  refine j_aload_n X (i := 0) dX6_copyFrom_60 rfl rfl ?_
  refine j_aload_n X (i := 1) dX6_copyFrom_61 rfl rfl ?_
  refine j_getf X 6 6 rfl cw_X6 fl_X6_66 (by decide) dX6_copyFrom_62 (inL hL hr0 (by decide)) (FW6 hL hr0) rfl ?_
  obtain ⟨a17, h18, hR⟩ := bT_inv hR
  refine tp_X6_6 X hL hk h18 fl_X6_66 dX6_copyFrom_65 ?_
  refine j_aload_n X (i := 0) dX6_copyFrom_68 rfl rfl ?_
  refine j_aload_n X (i := 1) dX6_copyFrom_69 rfl rfl ?_
  refine j_getf X 6 7 rfl cw_X6 fl_X6_35 (by decide) dX6_copyFrom_70 (inL hL hr0 (by decide)) (FW6 hL hr0) rfl ?_
  obtain ⟨a19, h20, hR⟩ := bT_inv hR
  refine tp_X6_7 X hL hk h20 fl_X6_35 dX6_copyFrom_73 ?_
  refine j_aload_n X (i := 0) dX6_copyFrom_76 rfl rfl ?_
  refine j_aload_n X (i := 1) dX6_copyFrom_77 rfl rfl ?_
  refine j_getf X 6 8 rfl cw_X6 fl_X6_39 (by decide) dX6_copyFrom_78 (inL hL hr0 (by decide)) (FW6 hL hr0) rfl ?_
  obtain ⟨a21, h22, hR⟩ := bT_inv hR
  refine tp_X6_8 X hL hk h22 fl_X6_39 dX6_copyFrom_81 ?_
  refine j_aload_n X (i := 0) dX6_copyFrom_84 rfl rfl ?_
  refine j_aload_n X (i := 1) dX6_copyFrom_85 rfl rfl ?_
  refine j_getf X 6 9 rfl cw_X6 fl_X6_69 (by decide) dX6_copyFrom_86 (inL hL hr0 (by decide)) (FW6 hL hr0) rfl ?_
  obtain ⟨a23, h24, hR⟩ := bT_inv hR
  refine tp_X6_9 X hL hk h24 fl_X6_69 dX6_copyFrom_89 ?_
  refine j_aload_n X (i := 0) dX6_copyFrom_92 rfl rfl ?_
  refine j_aload_n X (i := 1) dX6_copyFrom_93 rfl rfl ?_
  refine j_getf X 6 10 rfl cw_X6 fl_X6_72 (by decide) dX6_copyFrom_94 (inL hL hr0 (by decide)) (FW6 hL hr0) rfl ?_
  obtain ⟨a25, h26, hR⟩ := bT_inv hR
  refine tp_X6_10 X hL hk h26 fl_X6_72 dX6_copyFrom_97 ?_
  exact q_vret X hQ dX6_copyFrom_100 rfl ⟨(by decide), (by decide)⟩ ⟨rfl, congrArg (fun z => FW G L z b c) hR, rfl⟩
def f_X6_setUp (k : Nat) (r0 : Nat) (p1 : Int32) (a : Mem) : Mem := bT (f_X4_copyFrom (k + 1) r0 a) fun a2 => bT (f_X1_clear (k + 3) a2) fun a5 => bT (f_X5_setUp (sdr k (a5 k 2)) (k + 1) a5) fun a8 => bT (f_X5_setUp (sdr k (a8 k 3)) (k + 1) a8) fun a11 => bT (up2 a11 k 4 p1) fun a13 => bT (up2 a13 k 5 (0 : Int32)) fun a15 => bT (up2 a15 k 6 (0 : Int32)) fun a17 => bT (up2 a17 k 7 (-1 : Int32)) fun a19 => bT (up2 a19 k 8 (-1 : Int32)) fun a21 => bT (up2 a21 k 9 (0 : Int32)) fun a23 => bT (up2 a23 k 10 (0 : Int32)) fun a25 => a25
set_option maxRecDepth 100000 in
set_option maxHeartbeats 4000000 in
theorem m_X6_setUp {l : Launch} (hl : l.stackTraces = false) {G : GG} {L : List Nat} (hL : LOK L) {a b c : Mem} {k : Nat} (hk : ty k = 6) {r0 : Nat} (hr0 : ty r0 = 4) {p1 : Int32} (hB1 : isB p1) {a' : Mem} (hR : f_X6_setUp k r0 p1 a = a') : Ct l G yX6_setUp (.code yX6_setUp cX6_setUp 3 none) 3 102 0 0 [.ref (ad L k), .ref (ad L r0), .int p1] L (FW G L a b c) px0 (stay L (fun r f1 => f1 = (FW G L a' b c) ∧ r = none)) := by
  refine Ct.ofq (own := RX6) hl rfl (by decide) [some (.ref (ad L k)), some (.ref (ad L r0)), some (.int p1)] rfl (Nat.le_of_ble_eq_true rfl) ?_
  intro p e s m below meth c9 A ar Q hQ X
  unfold f_X6_setUp at hR
  refine j_aload_n X (i := 0) dX6_setUp_0 rfl rfl ?_
  refine j_getf X 6 0 rfl cw_X6 fl_X6_12 (by decide) dX6_setUp_1 (inL hL hk (by decide)) (FW6 hL hk) rfl ?_
  refine j_aload_n X (i := 1) dX6_setUp_4 rfl rfl ?_
  obtain ⟨a2, h1, hR⟩ := bT_inv hR
  refine j_callV1 X 4 (m_X4_copyFrom hl hL (ty6_0 hk) hr0 h1) ml_X6_53 im_yX4_copyFrom se_yX4_copyFrom in_X4 cd_yX4_copyFrom hy_yX4_copyFrom dX6_setUp_5 rfl (inL hL (ty6_0 hk) (by decide)) (FW4 hL (ty6_0 hk)) ⟨(by decide), (by decide)⟩ ⟨(by decide), (by decide)⟩ (Nat.le_of_ble_eq_true rfl) (fun _ h => h.elim) (fun r9 L9 f9 h9 => ?_)
  obtain ⟨h91, h92, h93⟩ := h9
  subst r9
  subst f9
  subst L9
  dsimp only [Option.toList, List.cons_append, List.nil_append, List.append]
  refine j_aload_n X (i := 0) dX6_setUp_8 rfl rfl ?_
  refine j_getf X 6 1 rfl cw_X6 fl_X6_21 (by decide) dX6_setUp_9 (inL hL hk (by decide)) (FW6 hL hk) rfl ?_
  obtain ⟨a5, h4, hR⟩ := bT_inv hR
  refine j_callV0 X 1 (m_X1_clear hl hL (ty6_1 hk) h4) ml_X6_56 im_yX1_clear se_yX1_clear in_X1 cd_yX1_clear hy_yX1_clear dX6_setUp_12 rfl (inL hL (ty6_1 hk) (by decide)) (FW1 hL (ty6_1 hk)) ⟨(by decide), (by decide)⟩ ⟨(by decide), (by decide)⟩ (Nat.le_of_ble_eq_true rfl) (fun _ h => h.elim) (fun r9 L9 f9 h9 => ?_)
  obtain ⟨h91, h92, h93⟩ := h9
  subst r9
  subst f9
  subst L9
  dsimp only [Option.toList, List.cons_append, List.nil_append, List.append]
  refine j_aload_n X (i := 0) dX6_setUp_15 rfl rfl ?_
  refine j_getf X 6 2 rfl cw_X6 fl_X6_28 (by decide) dX6_setUp_16 (inL hL hk (by decide)) (FW6 hL hk) rfl ?_
  refine j_aload_n X (i := 0) dX6_setUp_19 rfl rfl ?_
  refine j_getf X 6 0 rfl cw_X6 fl_X6_12 (by decide) dX6_setUp_20 (inL hL hk (by decide)) (FW6 hL hk) rfl ?_
  obtain ⟨a8, h7, hR⟩ := bT_inv hR
  refine j_callV1 X 5 (m_X5_setUp hl hL (ty6_s hk) (ty6_0 hk) h7) ml_X6_49 im_yX5_setUp se_yX5_setUp in_X5 cd_yX5_setUp hy_yX5_setUp dX6_setUp_23 rfl (inL hL (ty6_s hk) (by decide)) (FW5 hL (ty6_s hk)) ⟨(by decide), (by decide)⟩ ⟨(by decide), (by decide)⟩ (Nat.le_of_ble_eq_true rfl) (fun _ h => h.elim) (fun r9 L9 f9 h9 => ?_)
  obtain ⟨h91, h92, h93⟩ := h9
  subst r9
  subst f9
  subst L9
  dsimp only [Option.toList, List.cons_append, List.nil_append, List.append]
  refine j_aload_n X (i := 0) dX6_setUp_26 rfl rfl ?_
  refine j_getf X 6 3 rfl cw_X6 fl_X6_32 (by decide) dX6_setUp_27 (inL hL hk (by decide)) (FW6 hL hk) rfl ?_
  refine j_aload_n X (i := 0) dX6_setUp_30 rfl rfl ?_
  refine j_getf X 6 0 rfl cw_X6 fl_X6_12 (by decide) dX6_setUp_31 (inL hL hk (by decide)) (FW6 hL hk) rfl ?_
  obtain ⟨a11, h10, hR⟩ := bT_inv hR
  refine j_callV1 X 5 (m_X5_setUp hl hL (ty6_s hk) (ty6_0 hk) h10) ml_X6_49 im_yX5_setUp se_yX5_setUp in_X5 cd_yX5_setUp hy_yX5_setUp dX6_setUp_34 rfl (inL hL (ty6_s hk) (by decide)) (FW5 hL (ty6_s hk)) ⟨(by decide), (by decide)⟩ ⟨(by decide), (by decide)⟩ (Nat.le_of_ble_eq_true rfl) (fun _ h => h.elim) (fun r9 L9 f9 h9 => ?_)
  obtain ⟨h91, h92, h93⟩ := h9
  subst r9
  subst f9
  subst L9
  dsimp only [Option.toList, List.cons_append, List.nil_append, List.append]
  refine j_aload_n X (i := 0) dX6_setUp_37 rfl rfl ?_
  refine j_iload_n X (i := 2) dX6_setUp_38 rfl rfl ?_
  obtain ⟨a13, h14, hR⟩ := bT_inv hR
  refine tp_X6_4 X hL hk hB1 h14 fl_X6_59 dX6_setUp_39 ?_
  refine j_aload_n X (i := 0) dX6_setUp_42 rfl rfl ?_
  refine j_iconst X (0) dX6_setUp_43 (by decide) ?_
  obtain ⟨a15, h16, hR⟩ := bT_inv hR
  refine tp_X6_5 X hL hk h16 fl_X6_63 dX6_setUp_44 ?_
  refine j_aload_n X (i := 0) dX6_setUp_47 rfl rfl ?_
  refine j_iconst X (0) dX6_setUp_48 (by decide) ?_
  obtain ⟨a17, h18, hR⟩ := bT_inv hR
  refine tp_X6_6 X hL hk h18 fl_X6_66 dX6_setUp_49 ?_
  refine j_aload_n X (i := 0) dX6_setUp_52 rfl rfl ?_
  refine j_iconst X (-1) dX6_setUp_53 (by decide) ?_
  obtain ⟨a19, h20, hR⟩ := bT_inv hR
  refine tp_X6_7 X hL hk h20 fl_X6_35 dX6_setUp_54 ?_
  refine j_aload_n X (i := 0) dX6_setUp_57 rfl rfl ?_
  refine j_iconst X (-1) dX6_setUp_58 (by decide) ?_
  obtain ⟨a21, h22, hR⟩ := bT_inv hR
  refine tp_X6_8 X hL hk h22 fl_X6_39 dX6_setUp_59 ?_
  refine j_aload_n X (i := 0) dX6_setUp_62 rfl rfl ?_
  refine j_iconst X (0) dX6_setUp_63 (by decide) ?_
  obtain ⟨a23, h24, hR⟩ := bT_inv hR
  refine tp_X6_9 X hL hk h24 fl_X6_69 dX6_setUp_64 ?_
  refine j_aload_n X (i := 0) dX6_setUp_67 rfl rfl ?_
  refine j_iconst X (0) dX6_setUp_68 (by decide) ?_
  obtain ⟨a25, h26, hR⟩ := bT_inv hR
  refine tp_X6_10 X hL hk h26 fl_X6_72 dX6_setUp_69 ?_
  exact q_vret X hQ dX6_setUp_72 rfl ⟨(by decide), (by decide)⟩ ⟨rfl, congrArg (fun z => FW G L z b c) hR, rfl⟩
def f_X6_sideOf (k : Nat) (p0 : Int32) (a : Mem) : Nat := if p0 = 0 then ((sdr k (a k 2))) else ((sdr k (a k 3)))
set_option maxRecDepth 100000 in
set_option maxHeartbeats 4000000 in
theorem m_X6_sideOf {l : Launch} (hl : l.stackTraces = false) {G : GG} {L : List Nat} (hL : LOK L) {a b c : Mem} {k : Nat} (hk : ty k = 6) {p0 : Int32} {v : Nat} (hR : f_X6_sideOf k p0 a = v) : Ct l G yX6_sideOf (.code yX6_sideOf cX6_sideOf 2 (some (.object "GameClock$Side"))) 0 0 0 0 [.ref (ad L k), .int p0] L (FW G L a b c) px0 (stay L (fun r f1 => f1 = (FW G L a b c) ∧ r = some (.ref (ad L v)))) := by
  refine Ct.ofq (own := RX6) hl rfl (by decide) [some (.ref (ad L k)), some (.int p0)] rfl (Nat.le_of_ble_eq_true rfl) ?_
  intro p e s m below meth c9 A ar Q hQ X
  unfold f_X6_sideOf at hR
  refine j_iload_n X (i := 1) dX6_sideOf_0 rfl rfl ?_
  refine j_if_ne X (tgt := 11) dX6_sideOf_1 (by decide) (fun h1 => ?_) (fun h1 => ?_)
  · replace hR := (if_neg h1).symm.trans hR
    refine j_aload_n X (i := 0) dX6_sideOf_11 rfl rfl ?_
    refine j_getf X 6 3 rfl cw_X6 fl_X6_32 (by decide) dX6_sideOf_12 (inL hL hk (by decide)) (FW6 hL hk) rfl ?_
    exact q_aret X hQ dX6_sideOf_15 rfl (Or.inl ⟨_, rfl⟩) ⟨(by decide), (by decide)⟩ ⟨rfl, rfl, congrArg (fun z => some (Value.ref (ad L z))) hR⟩
  · replace hR := (if_pos h1).symm.trans hR
    refine j_aload_n X (i := 0) dX6_sideOf_4 rfl rfl ?_
    refine j_getf X 6 2 rfl cw_X6 fl_X6_28 (by decide) dX6_sideOf_5 (inL hL hk (by decide)) (FW6 hL hk) rfl ?_
    refine j_goto X (tgt := 15) dX6_sideOf_8 (by decide) ?_
    exact q_aret X hQ dX6_sideOf_15 rfl (Or.inl ⟨_, rfl⟩) ⟨(by decide), (by decide)⟩ ⟨rfl, rfl, congrArg (fun z => some (Value.ref (ad L z))) hR⟩
theorem m_X6_sideOf_ty {k : Nat} (hk : ty k = 6) {p0 : Int32} {a : Mem} : ty (f_X6_sideOf k p0 a) = 5 := by
  unfold f_X6_sideOf
  try unfold bT
  first
    | (split
       · exact ty6_s hk
       · exact ty6_s hk)
    | exact m_X6_sideOf_ty hk
def f_X6_whiteAhead (k : Nat) (a : Mem) : Int32 := ((a (sdr k (a k 2)) 1) - (a (sdr k (a k 3)) 1))
set_option maxRecDepth 100000 in
set_option maxHeartbeats 4000000 in
theorem m_X6_whiteAhead {l : Launch} (hl : l.stackTraces = false) {G : GG} {L : List Nat} (hL : LOK L) {a b c : Mem} {k : Nat} (hk : ty k = 6) {v : Int32} (hR : f_X6_whiteAhead k a = v) : Ct l G yX6_whiteAhead (.code yX6_whiteAhead cX6_whiteAhead 1 (some .int)) 0 0 0 0 [.ref (ad L k)] L (FW G L a b c) px0 (stay L (fun r f1 => f1 = (FW G L a b c) ∧ r = some (.int v))) := by
  refine Ct.ofq (own := RX6) hl rfl (by decide) [some (.ref (ad L k))] rfl (Nat.le_of_ble_eq_true rfl) ?_
  intro p e s m below meth c9 A ar Q hQ X
  unfold f_X6_whiteAhead at hR
  refine j_aload_n X (i := 0) dX6_whiteAhead_0 rfl rfl ?_
  refine j_getf X 6 2 rfl cw_X6 fl_X6_28 (by decide) dX6_whiteAhead_1 (inL hL hk (by decide)) (FW6 hL hk) rfl ?_
  refine j_getf X 5 1 rfl cw_X5 fl_X6_85 (by decide) dX6_whiteAhead_4 (inL hL (ty6_s hk) (by decide)) (FW5 hL (ty6_s hk)) rfl ?_
  refine j_aload_n X (i := 0) dX6_whiteAhead_7 rfl rfl ?_
  refine j_getf X 6 3 rfl cw_X6 fl_X6_32 (by decide) dX6_whiteAhead_8 (inL hL hk (by decide)) (FW6 hL hk) rfl ?_
  refine j_getf X 5 1 rfl cw_X5 fl_X6_85 (by decide) dX6_whiteAhead_11 (inL hL (ty6_s hk) (by decide)) (FW5 hL (ty6_s hk)) rfl ?_
  refine j_isub X dX6_whiteAhead_14 ?_
  exact q_iret X hQ dX6_whiteAhead_15 rfl ⟨(by decide), (by decide)⟩ ⟨rfl, rfl, congrArg (fun z => some (Value.int z)) hR⟩
def f_X6_mover (k : Nat) (a : Mem) : Nat := bT (f_X6_sideOf k (a k 6) a) fun k2 => k2
set_option maxRecDepth 100000 in
set_option maxHeartbeats 4000000 in
theorem m_X6_mover {l : Launch} (hl : l.stackTraces = false) {G : GG} {L : List Nat} (hL : LOK L) {a b c : Mem} {k : Nat} (hk : ty k = 6) {v : Nat} (hR : f_X6_mover k a = v) : Ct l G yX6_mover (.code yX6_mover cX6_mover 1 (some (.object "GameClock$Side"))) 1 21 0 0 [.ref (ad L k)] L (FW G L a b c) px0 (stay L (fun r f1 => f1 = (FW G L a b c) ∧ r = some (.ref (ad L v)))) := by
  refine Ct.ofq (own := RX6) hl rfl (by decide) [some (.ref (ad L k))] rfl (Nat.le_of_ble_eq_true rfl) ?_
  intro p e s m below meth c9 A ar Q hQ X
  unfold f_X6_mover at hR
  refine j_aload_n X (i := 0) dX6_mover_0 rfl rfl ?_
  refine j_aload_n X (i := 0) dX6_mover_1 rfl rfl ?_
  refine j_getf X 6 6 rfl cw_X6 fl_X6_66 (by decide) dX6_mover_2 (inL hL hk (by decide)) (FW6 hL hk) rfl ?_
  obtain ⟨k2, h1, hR⟩ := bT_inv hR
  refine j_callV1 X 6 (m_X6_sideOf hl hL hk h1) ml_X6_81 im_yX6_sideOf se_yX6_sideOf in_X6 cd_yX6_sideOf hy_yX6_sideOf dX6_mover_5 rfl (inL hL hk (by decide)) (FW6 hL hk) ⟨(by decide), (by decide)⟩ ⟨(by decide), (by decide)⟩ (Nat.le_of_ble_eq_true rfl) (fun _ h => h.elim) (fun r9 L9 f9 h9 => ?_)
  obtain ⟨h91, h92, h93⟩ := h9
  subst r9
  subst f9
  subst L9
  dsimp only [Option.toList, List.cons_append, List.nil_append, List.append]
  exact q_aret X hQ dX6_mover_8 rfl (Or.inl ⟨_, rfl⟩) ⟨(by decide), (by decide)⟩ ⟨rfl, rfl, congrArg (fun z => some (Value.ref (ad L z))) hR⟩
theorem m_X6_mover_ty {k : Nat} (hk : ty k = 6) {a : Mem} : ty (f_X6_mover k a) = 5 := by
  unfold f_X6_mover
  try unfold bT
  first
    | (split
       · exact ty6_s hk
       · exact ty6_s hk)
    | exact m_X6_sideOf_ty hk
def f_X6_ticksToSealing (k : Nat) (a : Mem) : Int32 := if (a k 5) = (1 : Int32) then (if (a (k + 1) 4) = (-1 : Int32) then ((-1 : Int32)) else ((mxI (0 : Int32) ((a (k + 1) 4) - (a k 10))))) else ((-1 : Int32))
set_option maxRecDepth 100000 in
set_option maxHeartbeats 4000000 in
theorem m_X6_ticksToSealing {l : Launch} (hl : l.stackTraces = false) {G : GG} {L : List Nat} (hL : LOK L) {a b c : Mem} {k : Nat} (hk : ty k = 6) {v : Int32} (hR : f_X6_ticksToSealing k a = v) : Ct l G yX6_ticksToSealing (.code yX6_ticksToSealing cX6_ticksToSealing 1 (some .int)) 1 24 0 0 [.ref (ad L k)] L (FW G L a b c) px0 (stay L (fun r f1 => f1 = (FW G L a b c) ∧ r = some (.int v))) := by
  refine Ct.ofq (own := RX6) hl rfl (by decide) [some (.ref (ad L k))] rfl (Nat.le_of_ble_eq_true rfl) ?_
  intro p e s m below meth c9 A ar Q hQ X
  unfold f_X6_ticksToSealing at hR
  refine j_aload_n X (i := 0) dX6_ticksToSealing_0 rfl rfl ?_
  refine j_getf X 6 5 rfl cw_X6 fl_X6_63 (by decide) dX6_ticksToSealing_1 (inL hL hk (by decide)) (FW6 hL hk) rfl ?_
  refine j_iconst X (1) dX6_ticksToSealing_4 (by decide) ?_
  refine j_icmp_ne X (tgt := 19) dX6_ticksToSealing_5 (by decide) (fun h1 => ?_) (fun h1 => ?_)
  · replace hR := (if_neg h1).symm.trans hR
    refine j_iconst X (-1) dX6_ticksToSealing_19 (by decide) ?_
    exact q_iret X hQ dX6_ticksToSealing_20 rfl ⟨(by decide), (by decide)⟩ ⟨rfl, rfl, congrArg (fun z => some (Value.int z)) hR⟩
  · replace hR := (if_pos h1).symm.trans hR
    refine j_aload_n X (i := 0) dX6_ticksToSealing_8 rfl rfl ?_
    refine j_getf X 6 0 rfl cw_X6 fl_X6_12 (by decide) dX6_ticksToSealing_9 (inL hL hk (by decide)) (FW6 hL hk) rfl ?_
    refine j_getf X 4 4 rfl cw_X4 fl_X6_95 (by decide) dX6_ticksToSealing_12 (inL hL (ty6_0 hk) (by decide)) (FW4 hL (ty6_0 hk)) rfl ?_
    refine j_iconst X (-1) dX6_ticksToSealing_15 (by decide) ?_
    refine j_icmp_ne X (tgt := 21) dX6_ticksToSealing_16 (by decide) (fun h2 => ?_) (fun h2 => ?_)
    · replace hR := (if_neg h2).symm.trans hR
      refine j_iconst X (0) dX6_ticksToSealing_21 (by decide) ?_
      refine j_aload_n X (i := 0) dX6_ticksToSealing_22 rfl rfl ?_
      refine j_getf X 6 0 rfl cw_X6 fl_X6_12 (by decide) dX6_ticksToSealing_23 (inL hL hk (by decide)) (FW6 hL hk) rfl ?_
      refine j_getf X 4 4 rfl cw_X4 fl_X6_95 (by decide) dX6_ticksToSealing_26 (inL hL (ty6_0 hk) (by decide)) (FW4 hL (ty6_0 hk)) rfl ?_
      refine j_aload_n X (i := 0) dX6_ticksToSealing_29 rfl rfl ?_
      refine j_getf X 6 10 rfl cw_X6 fl_X6_72 (by decide) dX6_ticksToSealing_30 (inL hL hk (by decide)) (FW6 hL hk) rfl ?_
      refine j_isub X dX6_ticksToSealing_33 ?_
      refine j_mmax X ml_X6_98 dX6_ticksToSealing_34 ⟨(by decide), (Nat.le_of_ble_eq_true rfl)⟩ ⟨(by decide), (by decide)⟩ ?_
      exact q_iret X hQ dX6_ticksToSealing_37 rfl ⟨(by decide), (by decide)⟩ ⟨rfl, rfl, congrArg (fun z => some (Value.int z)) hR⟩
    · replace hR := (if_pos h2).symm.trans hR
      refine j_iconst X (-1) dX6_ticksToSealing_19 (by decide) ?_
      exact q_iret X hQ dX6_ticksToSealing_20 rfl ⟨(by decide), (by decide)⟩ ⟨rfl, rfl, congrArg (fun z => some (Value.int z)) hR⟩
def f_X2_add (p0 : Int32) (a : Mem) : Mem := if (a 6 1) < 0 then (a) else (if (nI 256) ≤ (a 6 1) then (a) else (bT (upR a 7 (upd (a 7) ((a 6 1)).toNatClampNeg (vp_nar .byte ((Int32.toInt8 p0).toInt32)))) fun a3 => bT (up2 a3 6 1 ((a3 6 1) + (1 : Int32))) fun a5 => a5))
def f_X2_addNumber_59 (N : Nat) (x3 : Int64) : Nat → Int64 → Int32 → Mem → Option Mem
  | 0, _, _, _ => none
  | fu + 1, x8, x9, a10 => if (10 : Int32) ≤ x9 then (some a10) else (if (lg_cmp x8 (0 : Int64)) ≤ 0 then (some a10) else (chkP (¬ x8 = 0) <| chkP (¬ (10 : Int64) = 0) <| bT (f_X2_add ((Int32.toUInt32 (Int64.toInt32 ((48 : Int64) + ((x3 / x8) - (x3 / x8) / (10 : Int64) * (10 : Int64)))) % 65536).toInt32) a10) fun a16 => chkP (¬ (10 : Int64) = 0) <| bT (x8 / (10 : Int64)) fun x19 => bT (x9 + (1 : Int32)) fun x21 => f_X2_addNumber_59 N x3 fu x19 x21 a16))
theorem f_X2_addNumber_59_s (N : Nat) (x3 : Int64) {fu : Nat} {x8 : Int64} {x9 : Int32} {a10 : Mem} : f_X2_addNumber_59 N x3 (fu + 1) x8 x9 a10 = (if (10 : Int32) ≤ x9 then (some a10) else (if (lg_cmp x8 (0 : Int64)) ≤ 0 then (some a10) else (chkP (¬ x8 = 0) <| chkP (¬ (10 : Int64) = 0) <| bT (f_X2_add ((Int32.toUInt32 (Int64.toInt32 ((48 : Int64) + ((x3 / x8) - (x3 / x8) / (10 : Int64) * (10 : Int64)))) % 65536).toInt32) a10) fun a16 => chkP (¬ (10 : Int64) = 0) <| bT (x8 / (10 : Int64)) fun x19 => bT (x9 + (1 : Int32)) fun x21 => f_X2_addNumber_59 N x3 fu x19 x21 a16))) := rfl
def f_X2_addNumber_56 (N : Nat) (x3 : Int64) (a4 : Mem) (x7 : Int64) : Option Mem := f_X2_addNumber_59 N x3 N x7 (0 : Int32) a4
def f_X2_addNumber_24 (N : Nat) (x3 : Int64) (a4 : Mem) : Nat → Int64 → Int32 → Option Mem
  | 0, _, _ => none
  | fu + 1, x5, x6 => if (10 : Int32) ≤ x6 then (f_X2_addNumber_56 N x3 a4 x5) else (if 0 < (lg_cmp ((10 : Int64) * x5) x3) then (f_X2_addNumber_56 N x3 a4 x5) else (bT ((10 : Int64) * x5) fun x25 => bT (x6 + (1 : Int32)) fun x27 => f_X2_addNumber_24 N x3 a4 fu x25 x27))
theorem f_X2_addNumber_24_s (N : Nat) (x3 : Int64) (a4 : Mem) {fu : Nat} {x5 : Int64} {x6 : Int32} : f_X2_addNumber_24 N x3 a4 (fu + 1) x5 x6 = (if (10 : Int32) ≤ x6 then (f_X2_addNumber_56 N x3 a4 x5) else (if 0 < (lg_cmp ((10 : Int64) * x5) x3) then (f_X2_addNumber_56 N x3 a4 x5) else (bT ((10 : Int64) * x5) fun x25 => bT (x6 + (1 : Int32)) fun x27 => f_X2_addNumber_24 N x3 a4 fu x25 x27))) := rfl
def f_X2_addNumber_18 (N : Nat)  (x3 : Int64) (a4 : Mem) : Option Mem := f_X2_addNumber_24 N x3 a4 N (1 : Int64) (1 : Int32)
def f_X2_addNumber (N : Nat) (p0 : Int32) (a : Mem) : Option Mem := bT (Int32.toInt64 p0) fun x1 => if 0 ≤ (lg_cmp x1 (0 : Int64)) then (f_X2_addNumber_18 N x1 a) else (bT (f_X2_add (45 : Int32) a) fun a31 => f_X2_addNumber_18 N (-x1) a31)
def f_X2_addTwoDigits (N : Nat) (p0 : Int32) (a : Mem) : Option Mem := if (10 : Int32) ≤ p0 then (bP (f_X2_addNumber N p0 a) fun a3 => some a3) else (bT (f_X2_add (48 : Int32) a) fun a6 => bP (f_X2_addNumber N p0 a6) fun a9 => some a9)
def f_X2_addUnlessZero (N : Nat) (p0 : Int32) (p1 : Int32) (a : Mem) : Option Mem := if p1 = 0 then (some a) else (bT (f_X2_add p0 a) fun a3 => bP (f_X2_addNumber N p1 a3) fun a6 => some a6)
def f_X0_addFour_3 (N : Nat) (p0 : Int32) : Nat → Int32 → Mem → Option Mem
  | 0, _, _ => none
  | fu + 1, x1, a2 => if x1 < 0 then (some a2) else (if (a2 2 1) < 0 then (bT (x1 + (-8 : Int32)) fun x5 => f_X0_addFour_3 N p0 fu x5 a2) else (if (nI 400) ≤ (a2 2 1) then (bT (x1 + (-8 : Int32)) fun x8 => f_X0_addFour_3 N p0 fu x8 a2) else (bT (upR a2 3 (upd (a2 3) ((a2 2 1)).toNatClampNeg (vp_nar .byte ((Int32.toInt8 (((p0).toUInt32 >>> ((x1).toUInt32 &&& Int32.toUInt32 31)).toInt32)).toInt32)))) fun a10 => bT (up2 a10 2 1 ((a10 2 1) + (1 : Int32))) fun a12 => bT (x1 + (-8 : Int32)) fun x14 => f_X0_addFour_3 N p0 fu x14 a12)))
theorem f_X0_addFour_3_s (N : Nat) (p0 : Int32) {fu : Nat} {x1 : Int32} {a2 : Mem} : f_X0_addFour_3 N p0 (fu + 1) x1 a2 = (if x1 < 0 then (some a2) else (if (a2 2 1) < 0 then (bT (x1 + (-8 : Int32)) fun x5 => f_X0_addFour_3 N p0 fu x5 a2) else (if (nI 400) ≤ (a2 2 1) then (bT (x1 + (-8 : Int32)) fun x8 => f_X0_addFour_3 N p0 fu x8 a2) else (bT (upR a2 3 (upd (a2 3) ((a2 2 1)).toNatClampNeg (vp_nar .byte ((Int32.toInt8 (((p0).toUInt32 >>> ((x1).toUInt32 &&& Int32.toUInt32 31)).toInt32)).toInt32)))) fun a10 => bT (up2 a10 2 1 ((a10 2 1) + (1 : Int32))) fun a12 => bT (x1 + (-8 : Int32)) fun x14 => f_X0_addFour_3 N p0 fu x14 a12)))) := rfl
def f_X0_addFour (N : Nat) (p0 : Int32) (a : Mem) : Option Mem := f_X0_addFour_3 N p0 N (24 : Int32) a
set_option maxRecDepth 100000 in
set_option maxHeartbeats 4000000 in
theorem m_X0_addFour {l : Launch} (hl : l.stackTraces = false) {G : GG} {L : List Nat} (hL : LOK L) {a b c : Mem} {N : Nat} {p0 : Int32} {a' : Mem} (hR : f_X0_addFour N p0 a = some a') : Ct l G yX0_addFour (.code yX0_addFour cX0_addFour 3 none) 0 0 0 0 [.ref (ad L 2), .int p0] L (FW G L a b c) px0 (stay L (fun r f1 => f1 = (FW G L a' b c) ∧ r = none)) := by
  refine Ct.ofq (own := RX0) hl rfl (by decide) [some (.ref (ad L 2)), some (.int p0), none] rfl (Nat.le_of_ble_eq_true rfl) ?_
  intro p e s m below meth c9 A ar Q hQ X
  unfold f_X0_addFour at hR
  refine j_bipush X (24) dX0_addFour_0 (by decide) ?_
  refine j_istore_n X (i := 2) dX0_addFour_2 rfl (by decide) (lvOK_s rfl okPrev_int) ?_
  dsimp only [List.set]
  have hb3 : ∀ (fu : Nat) (x1 : Int32) (a2 : Mem) , f_X0_addFour_3 N p0 fu x1 a2 = some a' → J G p l e ({ frames := 0, cells := 0, slots := 0, locals := 0 } : Room) s m ar below meth c9 A Q 3 0 0 3 [some (.ref (ad L 2)), some (.int p0), some (.int x1)] [] L (FW G L a2 b c) := by
    intro fu
    induction fu with
    | zero =>
      intro x1 a2 hR
      cases hR
    | succ fu ih =>
      intro x1 a2 hR
      replace hR := (f_X0_addFour_3_s N p0).symm.trans hR
      refine j_iload_n X (i := 2) dX0_addFour_3 rfl rfl ?_
      refine j_if_lt X (tgt := 55) dX0_addFour_4 (by decide) (fun h3 => ?_) (fun h3 => ?_)
      · replace hR := (if_pos h3).symm.trans hR
        exact q_vret X hQ dX0_addFour_55 rfl ⟨(by decide), (by decide)⟩ ⟨rfl, congrArg (fun z => FW G L z b c) (Option.some.inj hR), rfl⟩
      · replace hR := (if_neg h3).symm.trans hR
        refine j_aload_n X (i := 0) dX0_addFour_7 rfl rfl ?_
        refine j_getf X 0 1 rfl cw_X0 fl_X0_15 (by decide) dX0_addFour_8 (inL hL t_2 (by decide)) (FW0 hL t_2) rfl ?_
        refine j_if_lt X (tgt := 49) dX0_addFour_11 (by decide) (fun h4 => ?_) (fun h4 => ?_)
        · replace hR := (if_pos h4).symm.trans hR
          obtain ⟨x5, h6, hR⟩ := bT_inv hR
          refine j_iinc X x5 dX0_addFour_49 rfl h6 (by decide) (lvOK_s rfl okPrev_int) ?_
          dsimp only [List.set]
          refine j_goto X (tgt := 3) dX0_addFour_52 (by decide) ?_
          exact J.sub (lvle_of (by simp only [lvle, and_self])) (ih _ _  hR)
        · replace hR := (if_neg h4).symm.trans hR
          refine j_aload_n X (i := 0) dX0_addFour_14 rfl rfl ?_
          refine j_getf X 0 1 rfl cw_X0 fl_X0_15 (by decide) dX0_addFour_15 (inL hL t_2 (by decide)) (FW0 hL t_2) rfl ?_
          refine j_aload_n X (i := 0) dX0_addFour_18 rfl rfl ?_
          refine j_getf X 0 0 rfl cw_X0 fl_X0_9 (by decide) dX0_addFour_19 (inL hL t_2 (by decide)) (FW0 hL t_2) rfl ?_
          refine j_alenN X (k9 := 1) dX0_addFour_22 (inL hL t_3 (by decide)) (FW24 hL t_3) rfl ?_
          refine j_icmp_ge X (tgt := 49) dX0_addFour_23 (by decide) (fun h7 => ?_) (fun h7 => ?_)
          · replace hR := (if_pos h7).symm.trans hR
            obtain ⟨x8, h9, hR⟩ := bT_inv hR
            refine j_iinc X x8 dX0_addFour_49 rfl h9 (by decide) (lvOK_s rfl okPrev_int) ?_
            dsimp only [List.set]
            refine j_goto X (tgt := 3) dX0_addFour_52 (by decide) ?_
            exact J.sub (lvle_of (by simp only [lvle, and_self])) (ih _ _  hR)
          · replace hR := (if_neg h7).symm.trans hR
            refine j_aload_n X (i := 0) dX0_addFour_26 rfl rfl ?_
            refine j_getf X 0 0 rfl cw_X0 fl_X0_9 (by decide) dX0_addFour_27 (inL hL t_2 (by decide)) (FW0 hL t_2) rfl ?_
            refine j_aload_n X (i := 0) dX0_addFour_30 rfl rfl ?_
            refine j_getf X 0 1 rfl cw_X0 fl_X0_15 (by decide) dX0_addFour_31 (inL hL t_2 (by decide)) (FW0 hL t_2) rfl ?_
            refine j_iload_n X (i := 1) dX0_addFour_34 rfl rfl ?_
            refine j_iload_n X (i := 2) dX0_addFour_35 rfl rfl ?_
            refine j_iushr X dX0_addFour_36 ?_
            refine j_i2b X dX0_addFour_37 ?_
            obtain ⟨a10, h11, hR⟩ := bT_inv hR
            refine t_Bast_t24 X hL t_3 (in_ge (by assumption) (by assumption) (by decide)) h11 dX0_addFour_38 ?_
            refine j_aload_n X (i := 0) dX0_addFour_39 rfl rfl ?_
            refine j_dup X dX0_addFour_40 rfl ?_
            refine j_getf X 0 1 rfl cw_X0 fl_X0_15 (by decide) dX0_addFour_41 (inL hL t_2 (by decide)) (FW0 hL t_2) rfl ?_
            refine j_iconst X (1) dX0_addFour_44 (by decide) ?_
            refine j_iadd X dX0_addFour_45 ?_
            obtain ⟨a12, h13, hR⟩ := bT_inv hR
            refine tp_X0_1 X hL t_2 h13 fl_X0_15 dX0_addFour_46 ?_
            obtain ⟨x14, h15, hR⟩ := bT_inv hR
            refine j_iinc X x14 dX0_addFour_49 rfl h15 (by decide) (lvOK_s rfl okPrev_int) ?_
            dsimp only [List.set]
            refine j_goto X (tgt := 3) dX0_addFour_52 (by decide) ?_
            exact J.sub (lvle_of (by simp only [lvle, and_self])) (ih _ _  hR)
  exact J.sub (lvle_of (by simp only [lvle, and_self])) (hb3 _ _ _  hR)
def f_X7_movesAt_41 (N : Nat) (r0 : Nat) (p2 : Int32) (p4 : Int32) : Nat → Int32 → Mem → Option (Int32 × Mem)
  | 0, _, _ => none
  | fu + 1, x10, a11 => if p4 ≤ x10 then (some (x10, a11)) else (bP (f_X5_run N 18 r0 p2 a11) fun a14 => if (nb (a14 18 9)) = 0 then (bT2 (f_X5_finishMove 18 r0 a14) fun x18 a19 => bT (x10 + (1 : Int32)) fun x21 => f_X7_movesAt_41 N r0 p2 p4 fu x21 a19) else (some (x10, a14)))
theorem f_X7_movesAt_41_s (N : Nat) (r0 : Nat) (p2 : Int32) (p4 : Int32) {fu : Nat} {x10 : Int32} {a11 : Mem} : f_X7_movesAt_41 N r0 p2 p4 (fu + 1) x10 a11 = (if p4 ≤ x10 then (some (x10, a11)) else (bP (f_X5_run N 18 r0 p2 a11) fun a14 => if (nb (a14 18 9)) = 0 then (bT2 (f_X5_finishMove 18 r0 a14) fun x18 a19 => bT (x10 + (1 : Int32)) fun x21 => f_X7_movesAt_41 N r0 p2 p4 fu x21 a19) else (some (x10, a14)))) := rfl
def f_X7_movesAt (N : Nat) (r0 : Nat) (r1 : Nat) (p2 : Int32) (p3 : Int32) (p4 : Int32) (a : Mem) : Option (Int32 × Mem) := if (nb (a r1 9)) = 0 then (bT (f_X5_copyFrom 18 r1 a) fun a3 => bT (f_X5_dropMove 18 a3) fun a6 => bT (up2 a6 18 1 ((a6 18 1) + p3)) fun a8 => f_X7_movesAt_41 N r0 p2 p4 N (0 : Int32) a8) else (some ((0 : Int32), a))
def f_X7_greatestPace_11 (N : Nat) (r0 : Nat) (r1 : Nat) (p2 : Int32) : Nat → Int32 → Int32 → Int32 → Mem → Option (Int32 × Mem)
  | 0, _, _, _, _ => none
  | fu + 1, x1, x2, x3, a4 => if (20 : Int32) ≤ x3 then (if x1 = 0 then (some ((-1 : Int32), a4)) else (some (x1, a4))) else (if (x2 - x1) ≤ (1 : Int32) then (if x1 = 0 then (some ((-1 : Int32), a4)) else (some (x1, a4))) else (bT ((x1 + x2) / (2 : Int32)) fun x9 => bP2 (f_X7_movesAt N r0 r1 x9 (0 : Int32) p2 a4) fun x12 a13 => if x12 < p2 then (bT (x3 + (1 : Int32)) fun x16 => f_X7_greatestPace_11 N r0 r1 p2 fu x1 x9 x16 a13) else (bT (x3 + (1 : Int32)) fun x18 => f_X7_greatestPace_11 N r0 r1 p2 fu x9 x2 x18 a13)))
theorem f_X7_greatestPace_11_s (N : Nat) (r0 : Nat) (r1 : Nat) (p2 : Int32) {fu : Nat} {x1 : Int32} {x2 : Int32} {x3 : Int32} {a4 : Mem} : f_X7_greatestPace_11 N r0 r1 p2 (fu + 1) x1 x2 x3 a4 = (if (20 : Int32) ≤ x3 then (if x1 = 0 then (some ((-1 : Int32), a4)) else (some (x1, a4))) else (if (x2 - x1) ≤ (1 : Int32) then (if x1 = 0 then (some ((-1 : Int32), a4)) else (some (x1, a4))) else (bT ((x1 + x2) / (2 : Int32)) fun x9 => bP2 (f_X7_movesAt N r0 r1 x9 (0 : Int32) p2 a4) fun x12 a13 => if x12 < p2 then (bT (x3 + (1 : Int32)) fun x16 => f_X7_greatestPace_11 N r0 r1 p2 fu x1 x9 x16 a13) else (bT (x3 + (1 : Int32)) fun x18 => f_X7_greatestPace_11 N r0 r1 p2 fu x9 x2 x18 a13)))) := rfl
def f_X7_greatestPace (N : Nat) (r0 : Nat) (r1 : Nat) (p2 : Int32) (a : Mem) : Option (Int32 × Mem) := f_X7_greatestPace_11 N r0 r1 p2 N (0 : Int32) (10000 : Int32) (0 : Int32) a
def f_X7_leftBehind (N : Nat) (r0 : Nat) (r1 : Nat) (p2 : Int32) (a : Mem) : Option (Int32 × Mem) := bT (f_X5_copyFrom 18 r1 a) fun a2 => bP (f_X5_run N 18 r0 p2 a2) fun a5 => some ((a5 18 1), a5)
def f_X7_begin (r0 : Nat) (p1 : Int32) (a : Mem) : Mem := bT (f_X5_copyFrom 18 (sdr r0 (a r0 2)) a) fun a2 => bT (f_X5_copyFrom 20 (sdr r0 (a2 r0 3)) a2) fun a5 => bT (up2 a5 17 2 (a5 r0 6)) fun a7 => bT (up2 a7 17 3 (0 : Int32)) fun a9 => bT (up2 a9 17 4 p1) fun a11 => bT (up2 a11 17 5 (-1 : Int32)) fun a13 => a13
def f_X7_canMove_33 (N : Nat) (r0 : Nat) (a : Mem) (k1 : Nat) (x2 : Int32) : Option (Int32 × Mem) := bT (mxI (0 : Int32) (x2 - (a k1 7))) fun x3 => if x3 ≤ (a 17 4) then (bT (nb (a k1 9)) fun x6 => bP (f_X5_run N k1 r0 x3 a) fun a9 => bT (up2 a9 17 4 ((a9 17 4) - x3)) fun a11 => if (nb (a11 k1 9)) = 0 then (some ((1 : Int32), a11)) else (if x6 = 0 then (bT (up2 a11 17 5 (a11 17 2)) fun a15 => some ((0 : Int32), a15)) else (some ((1 : Int32), a11)))) else (some ((0 : Int32), a))
def f_X7_canMove_18 (N : Nat) (r0 : Nat) (p1 : Int32) (p2 : Int32) (a : Mem) (k1 : Nat) : Option (Int32 × Mem) := if (a 17 2) = 0 then (f_X7_canMove_33 N r0 a k1 p1) else (f_X7_canMove_33 N r0 a k1 p2)
def f_X7_canMove (N : Nat) (r0 : Nat) (p1 : Int32) (p2 : Int32) (a : Mem) : Option (Int32 × Mem) := if (a 17 2) = 0 then (f_X7_canMove_18 N r0 p1 p2 a 18) else (f_X7_canMove_18 N r0 p1 p2 a 20)
def f_X7_finishMove_28  (a1 : Mem) : Mem := bT (f_X8_other (a1 17 2) a1) fun x3 => bT (up2 a1 17 2 x3) fun a5 => bT (up2 a5 17 3 ((a5 17 3) + (1 : Int32))) fun a7 => a7
def f_X7_finishMove (r0 : Nat) (a : Mem) : Mem := if (a 17 2) = 0 then (bT2 (f_X5_finishMove 18 r0 a) fun x15 a16 => f_X7_finishMove_28 a16) else (bT2 (f_X5_finishMove 20 r0 a) fun x11 a12 => f_X7_finishMove_28 a12)
def f_X7_play_10 (N : Nat) (r0 : Nat) (p1 : Int32) (p2 : Int32) (p3 : Int32) : Nat → Int32 → Mem → Option Mem
  | 0, _, _ => none
  | fu + 1, x4, a5 => if p3 ≤ x4 then (some a5) else (bP2 (f_X7_canMove N (r0 + 1) p1 p2 a5) fun x8 a9 => if x8 = 0 then (some a9) else (bT (f_X7_finishMove (r0 + 1) a9) fun a13 => bT (x4 + (1 : Int32)) fun x15 => f_X7_play_10 N r0 p1 p2 p3 fu x15 a13))
theorem f_X7_play_10_s (N : Nat) (r0 : Nat) (p1 : Int32) (p2 : Int32) (p3 : Int32) {fu : Nat} {x4 : Int32} {a5 : Mem} : f_X7_play_10 N r0 p1 p2 p3 (fu + 1) x4 a5 = (if p3 ≤ x4 then (some a5) else (bP2 (f_X7_canMove N (r0 + 1) p1 p2 a5) fun x8 a9 => if x8 = 0 then (some a9) else (bT (f_X7_finishMove (r0 + 1) a9) fun a13 => bT (x4 + (1 : Int32)) fun x15 => f_X7_play_10 N r0 p1 p2 p3 fu x15 a13))) := rfl
def f_X7_play (N : Nat) (r0 : Nat) (p1 : Int32) (p2 : Int32) (p3 : Int32) (a : Mem) : Option Mem := bT (f_X7_begin r0 (3999600 : Int32) a) fun a2 => f_X7_play_10 N r0 p1 p2 p3 N (0 : Int32) a2
def f_X6_resultOfFall (k : Nat) (p0 : Int32) (a : Mem) : Int32 := bT (f_X8_other p0 a) fun x2 => bT (f_X6_sideOf k x2 a) fun k5 => if (nb (a k5 10)) = 0 then (bT (f_X8_other p0 a) fun x9 => x9) else ((2 : Int32))
set_option maxRecDepth 100000 in
set_option maxHeartbeats 4000000 in
theorem m_X6_resultOfFall {l : Launch} (hl : l.stackTraces = false) {G : GG} {L : List Nat} (hL : LOK L) {a b c : Mem} {k : Nat} (hk : ty k = 6) {p0 : Int32} {v : Int32} (hR : f_X6_resultOfFall k p0 a = v) : Ct l G yX6_resultOfFall (.code yX6_resultOfFall cX6_resultOfFall 2 (some .int)) 1 21 0 0 [.ref (ad L k), .int p0] L (FW G L a b c) px0 (stay L (fun r f1 => f1 = (FW G L a b c) ∧ r = some (.int v))) := by
  refine Ct.ofq (own := RX6) hl rfl (by decide) [some (.ref (ad L k)), some (.int p0)] rfl (Nat.le_of_ble_eq_true rfl) ?_
  intro p e s m below meth c9 A ar Q hQ X
  unfold f_X6_resultOfFall at hR
  refine j_aload_n X (i := 0) dX6_resultOfFall_0 rfl rfl ?_
  refine j_iload_n X (i := 1) dX6_resultOfFall_1 rfl rfl ?_
  obtain ⟨x2, h1, hR⟩ := bT_inv hR
  refine j_callSN1 X (m_X8_other hl hL h1) (List.mem_of_getElem? (i := 17) rfl) st_yX8_other in_X8 cd_yX8_other hy_yX8_other dX6_resultOfFall_2 ⟨(by decide), (by decide)⟩ ⟨(by decide), (by decide)⟩ (Nat.le_of_ble_eq_true rfl) (fun _ h => h.elim) (fun r9 L9 f9 h9 => ?_)
  obtain ⟨h91, h92, h93⟩ := h9
  subst r9
  subst f9
  subst L9
  dsimp only [Option.toList, List.cons_append, List.nil_append, List.append]
  obtain ⟨k5, h4, hR⟩ := bT_inv hR
  refine j_callV1 X 6 (m_X6_sideOf hl hL hk h4) ml_X6_81 im_yX6_sideOf se_yX6_sideOf in_X6 cd_yX6_sideOf hy_yX6_sideOf dX6_resultOfFall_5 rfl (inL hL hk (by decide)) (FW6 hL hk) ⟨(by decide), (by decide)⟩ ⟨(by decide), (by decide)⟩ (Nat.le_of_ble_eq_true rfl) (fun _ h => h.elim) (fun r9 L9 f9 h9 => ?_)
  obtain ⟨h91, h92, h93⟩ := h9
  subst r9
  subst f9
  subst L9
  dsimp only [Option.toList, List.cons_append, List.nil_append, List.append]
  refine j_getf X 5 10 rfl cw_X5 fl_X6_92 (by decide) dX6_resultOfFall_8 (inL hL (h4 ▸ m_X6_sideOf_ty hk) (by decide)) (FW5 hL (h4 ▸ m_X6_sideOf_ty hk)) rfl ?_
  refine j_if_eq X (tgt := 18) dX6_resultOfFall_11 (by decide) (fun h7 => ?_) (fun h7 => ?_)
  · replace hR := (if_pos h7).symm.trans hR
    refine j_iload_n X (i := 1) dX6_resultOfFall_18 rfl rfl ?_
    obtain ⟨x9, h8, hR⟩ := bT_inv hR
    refine j_callSN1 X (m_X8_other hl hL h8) (List.mem_of_getElem? (i := 17) rfl) st_yX8_other in_X8 cd_yX8_other hy_yX8_other dX6_resultOfFall_19 ⟨(by decide), (by decide)⟩ ⟨(by decide), (by decide)⟩ (Nat.le_of_ble_eq_true rfl) (fun _ h => h.elim) (fun r9 L9 f9 h9 => ?_)
    obtain ⟨h91, h92, h93⟩ := h9
    subst r9
    subst f9
    subst L9
    dsimp only [Option.toList, List.cons_append, List.nil_append, List.append]
    exact q_iret X hQ dX6_resultOfFall_22 rfl ⟨(by decide), (by decide)⟩ ⟨rfl, rfl, congrArg (fun z => some (Value.int z)) hR⟩
  · replace hR := (if_neg h7).symm.trans hR
    refine j_iconst X (2) dX6_resultOfFall_14 (by decide) ?_
    refine j_goto X (tgt := 22) dX6_resultOfFall_15 (by decide) ?_
    exact q_iret X hQ dX6_resultOfFall_22 rfl ⟨(by decide), (by decide)⟩ ⟨rfl, rfl, congrArg (fun z => some (Value.int z)) hR⟩
def f_X7_playFor_10 (N : Nat) (r0 : Nat) (p1 : Int32) (p2 : Int32) : Nat → Int32 → Mem → Option Mem
  | 0, _, _ => none
  | fu + 1, x4, a5 => if (10001 : Int32) ≤ x4 then (some a5) else (bP2 (f_X7_canMove N (r0 + 1) p1 p2 a5) fun x8 a9 => if x8 = 0 then (some a9) else (bT (f_X7_finishMove (r0 + 1) a9) fun a13 => bT (x4 + (1 : Int32)) fun x15 => f_X7_playFor_10 N r0 p1 p2 fu x15 a13))
theorem f_X7_playFor_10_s (N : Nat) (r0 : Nat) (p1 : Int32) (p2 : Int32) {fu : Nat} {x4 : Int32} {a5 : Mem} : f_X7_playFor_10 N r0 p1 p2 (fu + 1) x4 a5 = (if (10001 : Int32) ≤ x4 then (some a5) else (bP2 (f_X7_canMove N (r0 + 1) p1 p2 a5) fun x8 a9 => if x8 = 0 then (some a9) else (bT (f_X7_finishMove (r0 + 1) a9) fun a13 => bT (x4 + (1 : Int32)) fun x15 => f_X7_playFor_10 N r0 p1 p2 fu x15 a13))) := rfl
def f_X7_playFor (N : Nat) (r0 : Nat) (p1 : Int32) (p2 : Int32) (p3 : Int32) (a : Mem) : Option Mem := bT (f_X7_begin r0 p3 a) fun a2 => f_X7_playFor_10 N r0 p1 p2 N (0 : Int32) a2
def f_X7_leastMore_67 (N : Nat)  (x5 : Int32) (a6 : Mem) : Option (Int32 × Mem) := if x5 ≤ (99999 : Int32) then (some (x5, a6)) else (some ((-1 : Int32), a6))
def f_X7_leastMore_10 (N : Nat) (r0 : Nat) (r1 : Nat) (p2 : Int32) (p3 : Int32) : Nat → Int32 → Int32 → Int32 → Mem → Option (Int32 × Mem)
  | 0, _, _, _, _ => none
  | fu + 1, x1, x2, x3, a4 => if (20 : Int32) ≤ x3 then (f_X7_leastMore_67 N x2 a4) else (if (x2 - x1) ≤ (1 : Int32) then (f_X7_leastMore_67 N x2 a4) else (bT ((x2 + x1) / (2 : Int32)) fun x10 => bP2 (f_X7_movesAt N r0 r1 p3 x10 p2 a4) fun x13 a14 => if x13 < p2 then (bT (x3 + (1 : Int32)) fun x17 => f_X7_leastMore_10 N r0 r1 p2 p3 fu x10 x2 x17 a14) else (bT (x3 + (1 : Int32)) fun x19 => f_X7_leastMore_10 N r0 r1 p2 p3 fu x1 x10 x19 a14)))
theorem f_X7_leastMore_10_s (N : Nat) (r0 : Nat) (r1 : Nat) (p2 : Int32) (p3 : Int32) {fu : Nat} {x1 : Int32} {x2 : Int32} {x3 : Int32} {a4 : Mem} : f_X7_leastMore_10 N r0 r1 p2 p3 (fu + 1) x1 x2 x3 a4 = (if (20 : Int32) ≤ x3 then (f_X7_leastMore_67 N x2 a4) else (if (x2 - x1) ≤ (1 : Int32) then (f_X7_leastMore_67 N x2 a4) else (bT ((x2 + x1) / (2 : Int32)) fun x10 => bP2 (f_X7_movesAt N r0 r1 p3 x10 p2 a4) fun x13 a14 => if x13 < p2 then (bT (x3 + (1 : Int32)) fun x17 => f_X7_leastMore_10 N r0 r1 p2 p3 fu x10 x2 x17 a14) else (bT (x3 + (1 : Int32)) fun x19 => f_X7_leastMore_10 N r0 r1 p2 p3 fu x1 x10 x19 a14)))) := rfl
def f_X7_leastMore (N : Nat) (r0 : Nat) (r1 : Nat) (p2 : Int32) (p3 : Int32) (a : Mem) : Option (Int32 × Mem) := f_X7_leastMore_10 N r0 r1 p2 p3 N (-1 : Int32) (100000 : Int32) (0 : Int32) a
def f_X6_endWith (k : Nat) (p0 : Int32) (a : Mem) : Mem := bT (up2 a k 5 (4 : Int32)) fun a1 => bT (up2 a1 k 7 p0) fun a3 => a3
set_option maxRecDepth 100000 in
set_option maxHeartbeats 4000000 in
theorem m_X6_endWith {l : Launch} (hl : l.stackTraces = false) {G : GG} {L : List Nat} (hL : LOK L) {a b c : Mem} {k : Nat} (hk : ty k = 6) {p0 : Int32} {a' : Mem} (hR : f_X6_endWith k p0 a = a') : Ct l G yX6_endWith (.code yX6_endWith cX6_endWith 2 none) 0 0 0 0 [.ref (ad L k), .int p0] L (FW G L a b c) px0 (stay L (fun r f1 => f1 = (FW G L a' b c) ∧ r = none)) := by
  refine Ct.ofq (own := RX6) hl rfl (by decide) [some (.ref (ad L k)), some (.int p0)] rfl (Nat.le_of_ble_eq_true rfl) ?_
  intro p e s m below meth c9 A ar Q hQ X
  unfold f_X6_endWith at hR
  refine j_aload_n X (i := 0) dX6_endWith_0 rfl rfl ?_
  refine j_iconst X (4) dX6_endWith_1 (by decide) ?_
  obtain ⟨a1, h2, hR⟩ := bT_inv hR
  refine tp_X6_5 X hL hk h2 fl_X6_63 dX6_endWith_2 ?_
  refine j_aload_n X (i := 0) dX6_endWith_5 rfl rfl ?_
  refine j_iload_n X (i := 1) dX6_endWith_6 rfl rfl ?_
  obtain ⟨a3, h4, hR⟩ := bT_inv hR
  refine tp_X6_7 X hL hk h4 fl_X6_35 dX6_endWith_7 ?_
  exact q_vret X hQ dX6_endWith_10 rfl ⟨(by decide), (by decide)⟩ ⟨rfl, congrArg (fun z => FW G L z b c) hR, rfl⟩
def f_X6_noteFall_16 (k : Nat) (a1 : Mem) : Mem := if (nb (a1 k 4)) = 0 then (bT (f_X6_resultOfFall k (a1 k 6) a1) fun x4 => bT (f_X6_endWith k x4 a1) fun a7 => a7) else (a1)
def f_X6_noteFall (k : Nat) (a : Mem) : Mem := if (a k 8) = (-1 : Int32) then (bT (up2 a k 8 (a k 6)) fun a10 => f_X6_noteFall_16 k a10) else (f_X6_noteFall_16 k a)
set_option maxRecDepth 100000 in
set_option maxHeartbeats 4000000 in
theorem m_X6_noteFall {l : Launch} (hl : l.stackTraces = false) {G : GG} {L : List Nat} (hL : LOK L) {a b c : Mem} {k : Nat} (hk : ty k = 6) {a' : Mem} (hR : f_X6_noteFall k a = a') : Ct l G yX6_noteFall (.code yX6_noteFall cX6_noteFall 1 none) 2 42 0 0 [.ref (ad L k)] L (FW G L a b c) px0 (stay L (fun r f1 => f1 = (FW G L a' b c) ∧ r = none)) := by
  refine Ct.ofq (own := RX6) hl rfl (by decide) [some (.ref (ad L k))] rfl (Nat.le_of_ble_eq_true rfl) ?_
  intro p e s m below meth c9 A ar Q hQ X
  unfold f_X6_noteFall at hR
  refine j_aload_n X (i := 0) dX6_noteFall_0 rfl rfl ?_
  refine j_getf X 6 8 rfl cw_X6 fl_X6_39 (by decide) dX6_noteFall_1 (inL hL hk (by decide)) (FW6 hL hk) rfl ?_
  refine j_iconst X (-1) dX6_noteFall_4 (by decide) ?_
  have hb16 : ∀ (a1 : Mem) , f_X6_noteFall_16 k a1 = a' → J G p l e ({ frames := 2, cells := 0, slots := 0, locals := 42 } : Room) s m ar below meth c9 A Q 1 0 0 16 [some (.ref (ad L k))] [] L (FW G L a1 b c) := by
    intro a1 hR
    unfold f_X6_noteFall_16 at hR
    refine j_aload_n X (i := 0) dX6_noteFall_16 rfl rfl ?_
    refine j_getf X 6 4 rfl cw_X6 fl_X6_59 (by decide) dX6_noteFall_17 (inL hL hk (by decide)) (FW6 hL hk) rfl ?_
    refine j_if_ne X (tgt := 35) dX6_noteFall_20 (by decide) (fun h2 => ?_) (fun h2 => ?_)
    · replace hR := (if_neg h2).symm.trans hR
      exact q_vret X hQ dX6_noteFall_35 rfl ⟨(by decide), (by decide)⟩ ⟨rfl, congrArg (fun z => FW G L z b c) hR, rfl⟩
    · replace hR := (if_pos h2).symm.trans hR
      refine j_aload_n X (i := 0) dX6_noteFall_23 rfl rfl ?_
      refine j_aload_n X (i := 0) dX6_noteFall_24 rfl rfl ?_
      refine j_aload_n X (i := 0) dX6_noteFall_25 rfl rfl ?_
      refine j_getf X 6 6 rfl cw_X6 fl_X6_66 (by decide) dX6_noteFall_26 (inL hL hk (by decide)) (FW6 hL hk) rfl ?_
      obtain ⟨x4, h3, hR⟩ := bT_inv hR
      refine j_callV1 X 6 (m_X6_resultOfFall hl hL hk h3) ml_X6_125 im_yX6_resultOfFall se_yX6_resultOfFall in_X6 cd_yX6_resultOfFall hy_yX6_resultOfFall dX6_noteFall_29 rfl (inL hL hk (by decide)) (FW6 hL hk) ⟨(by decide), (by decide)⟩ ⟨(by decide), (by decide)⟩ (Nat.le_of_ble_eq_true rfl) (fun _ h => h.elim) (fun r9 L9 f9 h9 => ?_)
      obtain ⟨h91, h92, h93⟩ := h9
      subst r9
      subst f9
      subst L9
      dsimp only [Option.toList, List.cons_append, List.nil_append, List.append]
      obtain ⟨a7, h6, hR⟩ := bT_inv hR
      refine j_callV1 X 6 (m_X6_endWith hl hL hk h6) ml_X6_128 im_yX6_endWith se_yX6_endWith in_X6 cd_yX6_endWith hy_yX6_endWith dX6_noteFall_32 rfl (inL hL hk (by decide)) (FW6 hL hk) ⟨(by decide), (by decide)⟩ ⟨(by decide), (by decide)⟩ (Nat.le_of_ble_eq_true rfl) (fun _ h => h.elim) (fun r9 L9 f9 h9 => ?_)
      obtain ⟨h91, h92, h93⟩ := h9
      subst r9
      subst f9
      subst L9
      dsimp only [Option.toList, List.cons_append, List.nil_append, List.append]
      exact q_vret X hQ dX6_noteFall_35 rfl ⟨(by decide), (by decide)⟩ ⟨rfl, congrArg (fun z => FW G L z b c) hR, rfl⟩
  refine j_icmp_ne X (tgt := 16) dX6_noteFall_5 (by decide) (fun h9 => ?_) (fun h9 => ?_)
  · replace hR := (if_neg h9).symm.trans hR
    exact J.sub (lvle_of (by simp only [lvle, and_self])) (hb16 _  hR)
  · replace hR := (if_pos h9).symm.trans hR
    refine j_aload_n X (i := 0) dX6_noteFall_8 rfl rfl ?_
    refine j_aload_n X (i := 0) dX6_noteFall_9 rfl rfl ?_
    refine j_getf X 6 6 rfl cw_X6 fl_X6_66 (by decide) dX6_noteFall_10 (inL hL hk (by decide)) (FW6 hL hk) rfl ?_
    obtain ⟨a10, h11, hR⟩ := bT_inv hR
    refine tp_X6_8 X hL hk h11 fl_X6_39 dX6_noteFall_13 ?_
    exact J.sub (lvle_of (by simp only [lvle, and_self])) (hb16 _  hR)
def f_X6_letRun_38 (N : Nat) (k : Nat) (a : Mem) (k2 : Nat) (x4 : Int32) (x6 : Int32) : Option Mem := bT (up2 a k 9 ((a k 9) + x6)) fun a7 => bT (up2 a7 k 10 ((a7 k 10) + x6)) fun a9 => bP (f_X5_run N k2 (k + 1) x6 a9) fun a12 => if (nb (a12 k2 9)) = 0 then (some a12) else (if x4 = 0 then (bT (f_X6_noteFall k a12) fun a17 => some a17) else (some a12))
def f_X6_letRun (N : Nat) (k : Nat) (p0 : Int32) (a : Mem) : Option Mem := bT (f_X6_mover k a) fun k2 => bT (nb (a k2 9)) fun x4 => if (nb (a k 4)) = 0 then (if x4 = 0 then (bT (f_X5_ticksToFall k2 (k + 1) a) fun x22 => bT (mnI p0 x22) fun x24 => f_X6_letRun_38 N k a k2 x4 x24) else (f_X6_letRun_38 N k a k2 x4 p0)) else (f_X6_letRun_38 N k a k2 x4 p0)
set_option maxRecDepth 100000 in
set_option maxHeartbeats 4000000 in
theorem m_X6_letRun {l : Launch} (hl : l.stackTraces = false) {G : GG} {L : List Nat} (hL : LOK L) {a b c : Mem} {N : Nat} {k : Nat} (hk : ty k = 6) {p0 : Int32} {a' : Mem} (hR : f_X6_letRun N k p0 a = some a') : Ct l G yX6_letRun (.code yX6_letRun cX6_letRun 5 none) 4 90 0 0 [.ref (ad L k), .int p0] L (FW G L a b c) px0 (stay L (fun r f1 => f1 = (FW G L a' b c) ∧ r = none)) := by
  refine Ct.ofq (own := RX6) hl rfl (by decide) [some (.ref (ad L k)), some (.int p0), none, none, none] rfl (Nat.le_of_ble_eq_true rfl) ?_
  intro p e s m below meth c9 A ar Q hQ X
  unfold f_X6_letRun at hR
  refine j_aload_n X (i := 0) dX6_letRun_0 rfl rfl ?_
  obtain ⟨k2, h1, hR⟩ := bT_inv hR
  refine j_callV0 X 6 (m_X6_mover hl hL hk h1) ml_X6_104 im_yX6_mover se_yX6_mover in_X6 cd_yX6_mover hy_yX6_mover dX6_letRun_1 rfl (inL hL hk (by decide)) (FW6 hL hk) ⟨(by decide), (by decide)⟩ ⟨(by decide), (by decide)⟩ (Nat.le_of_ble_eq_true rfl) (fun _ h => h.elim) (fun r9 L9 f9 h9 => ?_)
  obtain ⟨h91, h92, h93⟩ := h9
  subst r9
  subst f9
  subst L9
  dsimp only [Option.toList, List.cons_append, List.nil_append, List.append]
  refine j_astore_n X (i := 2) dX6_letRun_4 rfl (by decide) (lvOK_s rfl okPrev_int) ?_
  dsimp only [List.set]
  refine j_aload_n X (i := 2) dX6_letRun_5 rfl rfl ?_
  refine j_getf X 5 9 rfl cw_X5 fl_X6_108 (by decide) dX6_letRun_6 (inL hL (h1 ▸ m_X6_mover_ty hk) (by decide)) (FW5 hL (h1 ▸ m_X6_mover_ty hk)) rfl ?_
  obtain ⟨x4, h5, hR⟩ := bT_inv hR
  refine J.eqi h5 ?_
  refine j_istore_n X (i := 3) dX6_letRun_9 rfl (by decide) (lvOK_s rfl okPrev_ref) ?_
  dsimp only [List.set]
  refine j_iload_n X (i := 1) dX6_letRun_10 rfl rfl ?_
  refine j_istore X dX6_letRun_11 (by decide) (lvOK_s rfl okPrev_int) ?_
  dsimp only [List.set]
  refine j_aload_n X (i := 0) dX6_letRun_13 rfl rfl ?_
  refine j_getf X 6 4 rfl cw_X6 fl_X6_59 (by decide) dX6_letRun_14 (inL hL hk (by decide)) (FW6 hL hk) rfl ?_
  have hb38 : ∀ (x6 : Int32) , f_X6_letRun_38 N k a k2 x4 x6 = some a' → J G p l e ({ frames := 4, cells := 0, slots := 0, locals := 90 } : Room) s m ar below meth c9 A Q 5 0 0 38 [some (.ref (ad L k)), none, some (.ref (ad L k2)), some (.int x4), some (.int x6)] [] L (FW G L a b c) := by
    intro x6 hR
    unfold f_X6_letRun_38 at hR
    refine j_aload_n X (i := 0) dX6_letRun_38 rfl rfl ?_
    refine j_dup X dX6_letRun_39 rfl ?_
    refine j_getf X 6 9 rfl cw_X6 fl_X6_69 (by decide) dX6_letRun_40 (inL hL hk (by decide)) (FW6 hL hk) rfl ?_
    refine j_iload X dX6_letRun_43 rfl ?_
    refine j_iadd X dX6_letRun_45 ?_
    obtain ⟨a7, h8, hR⟩ := bT_inv hR
    refine tp_X6_9 X hL hk h8 fl_X6_69 dX6_letRun_46 ?_
    refine j_aload_n X (i := 0) dX6_letRun_49 rfl rfl ?_
    refine j_dup X dX6_letRun_50 rfl ?_
    refine j_getf X 6 10 rfl cw_X6 fl_X6_72 (by decide) dX6_letRun_51 (inL hL hk (by decide)) (FW6 hL hk) rfl ?_
    refine j_iload X dX6_letRun_54 rfl ?_
    refine j_iadd X dX6_letRun_56 ?_
    obtain ⟨a9, h10, hR⟩ := bT_inv hR
    refine tp_X6_10 X hL hk h10 fl_X6_72 dX6_letRun_57 ?_
    refine j_aload_n X (i := 2) dX6_letRun_60 rfl rfl ?_
    refine j_aload_n X (i := 0) dX6_letRun_61 rfl rfl ?_
    refine j_getf X 6 0 rfl cw_X6 fl_X6_12 (by decide) dX6_letRun_62 (inL hL hk (by decide)) (FW6 hL hk) rfl ?_
    refine j_iload X dX6_letRun_65 rfl ?_
    obtain ⟨a12, h11, hR⟩ := bP_inv hR
    refine j_callV2 X 5 (m_X5_run hl hL (h1 ▸ m_X6_mover_ty hk) (ty6_0 hk) h11) ml_X6_118 im_yX5_run se_yX5_run in_X5 cd_yX5_run hy_yX5_run dX6_letRun_67 rfl (inL hL (h1 ▸ m_X6_mover_ty hk) (by decide)) (FW5 hL (h1 ▸ m_X6_mover_ty hk)) ⟨(by decide), (by decide)⟩ ⟨(by decide), (by decide)⟩ (Nat.le_of_ble_eq_true rfl) (fun _ h => h.elim) (fun r9 L9 f9 h9 => ?_)
    obtain ⟨h91, h92, h93⟩ := h9
    subst r9
    subst f9
    subst L9
    dsimp only [Option.toList, List.cons_append, List.nil_append, List.append]
    refine j_aload_n X (i := 2) dX6_letRun_70 rfl rfl ?_
    refine j_getf X 5 9 rfl cw_X5 fl_X6_108 (by decide) dX6_letRun_71 (inL hL (h1 ▸ m_X6_mover_ty hk) (by decide)) (FW5 hL (h1 ▸ m_X6_mover_ty hk)) rfl ?_
    refine j_if_eq X (tgt := 85) dX6_letRun_74 (by decide) (fun h14 => ?_) (fun h14 => ?_)
    · replace hR := (if_pos h14).symm.trans hR
      exact q_vret X hQ dX6_letRun_85 rfl ⟨(by decide), (by decide)⟩ ⟨rfl, congrArg (fun z => FW G L z b c) (Option.some.inj hR), rfl⟩
    · replace hR := (if_neg h14).symm.trans hR
      refine j_iload_n X (i := 3) dX6_letRun_77 rfl rfl ?_
      refine j_if_ne X (tgt := 85) dX6_letRun_78 (by decide) (fun h15 => ?_) (fun h15 => ?_)
      · replace hR := (if_neg h15).symm.trans hR
        exact q_vret X hQ dX6_letRun_85 rfl ⟨(by decide), (by decide)⟩ ⟨rfl, congrArg (fun z => FW G L z b c) (Option.some.inj hR), rfl⟩
      · replace hR := (if_pos h15).symm.trans hR
        refine j_aload_n X (i := 0) dX6_letRun_81 rfl rfl ?_
        obtain ⟨a17, h16, hR⟩ := bT_inv hR
        refine j_callV0 X 6 (m_X6_noteFall hl hL hk h16) ml_X6_122 im_yX6_noteFall se_yX6_noteFall in_X6 cd_yX6_noteFall hy_yX6_noteFall dX6_letRun_82 rfl (inL hL hk (by decide)) (FW6 hL hk) ⟨(by decide), (by decide)⟩ ⟨(by decide), (by decide)⟩ (Nat.le_of_ble_eq_true rfl) (fun _ h => h.elim) (fun r9 L9 f9 h9 => ?_)
        obtain ⟨h91, h92, h93⟩ := h9
        subst r9
        subst f9
        subst L9
        dsimp only [Option.toList, List.cons_append, List.nil_append, List.append]
        exact q_vret X hQ dX6_letRun_85 rfl ⟨(by decide), (by decide)⟩ ⟨rfl, congrArg (fun z => FW G L z b c) (Option.some.inj hR), rfl⟩
  refine j_if_ne X (tgt := 38) dX6_letRun_17 (by decide) (fun h19 => ?_) (fun h19 => ?_)
  · replace hR := (if_neg h19).symm.trans hR
    exact J.sub (lvle_of (by simp only [lvle, and_self])) (hb38 _  hR)
  · replace hR := (if_pos h19).symm.trans hR
    refine j_iload_n X (i := 3) dX6_letRun_20 rfl rfl ?_
    refine j_if_ne X (tgt := 38) dX6_letRun_21 (by decide) (fun h20 => ?_) (fun h20 => ?_)
    · replace hR := (if_neg h20).symm.trans hR
      exact J.sub (lvle_of (by simp only [lvle, and_self])) (hb38 _  hR)
    · replace hR := (if_pos h20).symm.trans hR
      refine j_iload_n X (i := 1) dX6_letRun_24 rfl rfl ?_
      refine j_aload_n X (i := 2) dX6_letRun_25 rfl rfl ?_
      refine j_aload_n X (i := 0) dX6_letRun_26 rfl rfl ?_
      refine j_getf X 6 0 rfl cw_X6 fl_X6_12 (by decide) dX6_letRun_27 (inL hL hk (by decide)) (FW6 hL hk) rfl ?_
      obtain ⟨x22, h21, hR⟩ := bT_inv hR
      refine j_callV1 X 5 (m_X5_ticksToFall hl hL (h1 ▸ m_X6_mover_ty hk) (ty6_0 hk) h21) ml_X6_111 im_yX5_ticksToFall se_yX5_ticksToFall in_X5 cd_yX5_ticksToFall hy_yX5_ticksToFall dX6_letRun_30 rfl (inL hL (h1 ▸ m_X6_mover_ty hk) (by decide)) (FW5 hL (h1 ▸ m_X6_mover_ty hk)) ⟨(by decide), (by decide)⟩ ⟨(by decide), (by decide)⟩ (Nat.le_of_ble_eq_true rfl) (fun _ h => h.elim) (fun r9 L9 f9 h9 => ?_)
      obtain ⟨h91, h92, h93⟩ := h9
      subst r9
      subst f9
      subst L9
      dsimp only [Option.toList, List.cons_append, List.nil_append, List.append]
      refine j_mmin X ml_X6_115 dX6_letRun_33 ⟨(by decide), (Nat.le_of_ble_eq_true rfl)⟩ ⟨(by decide), (by decide)⟩ ?_
      obtain ⟨x24, h25, hR⟩ := bT_inv hR
      refine J.eqi h25 ?_
      refine j_istore X dX6_letRun_36 (by decide) (lvOK_s rfl okPrev_int) ?_
      dsimp only [List.set]
      exact J.sub (lvle_of (by simp only [lvle, and_self])) (hb38 _  hR)
def f_X6_makeMove (k : Nat) (a : Mem) : (Int32 × Mem) := bT (f_X6_mover k a) fun k2 => bT (a k2 7) fun x4 => bT (a k2 8) fun x6 => bT2 (f_X5_finishMove k2 (k + 1) a) fun x9 a10 => bT (f_X1_add (k + 3) (a10 k 6) x4 x6 x9 (a10 k2 1) (a10 k 9) a10) fun a13 => bT (f_X8_other (a13 k 6) a13) fun x16 => bT (up2 a13 k 6 x16) fun a18 => (x9, a18)
set_option maxRecDepth 100000 in
set_option maxHeartbeats 4000000 in
theorem m_X6_makeMove {l : Launch} (hl : l.stackTraces = false) {G : GG} {L : List Nat} (hL : LOK L) {a b c : Mem} {k : Nat} (hk : ty k = 6) {v : Int32} {a' : Mem} (hR : f_X6_makeMove k a = (v, a')) : Ct l G yX6_makeMove (.code yX6_makeMove cX6_makeMove 5 (some .int)) 4 87 0 0 [.ref (ad L k)] L (FW G L a b c) px0 (stay L (fun r f1 => f1 = (FW G L a' b c) ∧ r = some (.int v))) := by
  refine Ct.ofq (own := RX6) hl rfl (by decide) [some (.ref (ad L k)), none, none, none, none] rfl (Nat.le_of_ble_eq_true rfl) ?_
  intro p e s m below meth c9 A ar Q hQ X
  unfold f_X6_makeMove at hR
  refine j_aload_n X (i := 0) dX6_makeMove_0 rfl rfl ?_
  obtain ⟨k2, h1, hR⟩ := bT_inv hR
  refine j_callV0 X 6 (m_X6_mover hl hL hk h1) ml_X6_104 im_yX6_mover se_yX6_mover in_X6 cd_yX6_mover hy_yX6_mover dX6_makeMove_1 rfl (inL hL hk (by decide)) (FW6 hL hk) ⟨(by decide), (by decide)⟩ ⟨(by decide), (by decide)⟩ (Nat.le_of_ble_eq_true rfl) (fun _ h => h.elim) (fun r9 L9 f9 h9 => ?_)
  obtain ⟨h91, h92, h93⟩ := h9
  subst r9
  subst f9
  subst L9
  dsimp only [Option.toList, List.cons_append, List.nil_append, List.append]
  refine j_astore_n X (i := 1) dX6_makeMove_4 rfl (by decide) (lvOK_s rfl okPrev_ref) ?_
  dsimp only [List.set]
  refine j_aload_n X (i := 1) dX6_makeMove_5 rfl rfl ?_
  refine j_getf X 5 7 rfl cw_X5 fl_X6_132 (by decide) dX6_makeMove_6 (inL hL (h1 ▸ m_X6_mover_ty hk) (by decide)) (FW5 hL (h1 ▸ m_X6_mover_ty hk)) rfl ?_
  obtain ⟨x4, h5, hR⟩ := bT_inv hR
  refine J.eqi h5 ?_
  refine j_istore_n X (i := 2) dX6_makeMove_9 rfl (by decide) (lvOK_s rfl okPrev_ref) ?_
  dsimp only [List.set]
  refine j_aload_n X (i := 1) dX6_makeMove_10 rfl rfl ?_
  refine j_getf X 5 8 rfl cw_X5 fl_X6_135 (by decide) dX6_makeMove_11 (inL hL (h1 ▸ m_X6_mover_ty hk) (by decide)) (FW5 hL (h1 ▸ m_X6_mover_ty hk)) rfl ?_
  obtain ⟨x6, h7, hR⟩ := bT_inv hR
  refine J.eqi h7 ?_
  refine j_istore_n X (i := 3) dX6_makeMove_14 rfl (by decide) (lvOK_s rfl okPrev_int) ?_
  dsimp only [List.set]
  refine j_aload_n X (i := 1) dX6_makeMove_15 rfl rfl ?_
  refine j_aload_n X (i := 0) dX6_makeMove_16 rfl rfl ?_
  refine j_getf X 6 0 rfl cw_X6 fl_X6_12 (by decide) dX6_makeMove_17 (inL hL hk (by decide)) (FW6 hL hk) rfl ?_
  obtain ⟨x9, a10, h8, hR⟩ := bT2_inv hR
  refine j_callV1 X 5 (m_X5_finishMove hl hL (h1 ▸ m_X6_mover_ty hk) (ty6_0 hk) h8) ml_X6_138 im_yX5_finishMove se_yX5_finishMove in_X5 cd_yX5_finishMove hy_yX5_finishMove dX6_makeMove_20 rfl (inL hL (h1 ▸ m_X6_mover_ty hk) (by decide)) (FW5 hL (h1 ▸ m_X6_mover_ty hk)) ⟨(by decide), (by decide)⟩ ⟨(by decide), (by decide)⟩ (Nat.le_of_ble_eq_true rfl) (fun _ h => h.elim) (fun r9 L9 f9 h9 => ?_)
  obtain ⟨h91, h92, h93⟩ := h9
  subst r9
  subst f9
  subst L9
  dsimp only [Option.toList, List.cons_append, List.nil_append, List.append]
  refine j_istore X dX6_makeMove_23 (by decide) (lvOK_s rfl okPrev_int) ?_
  dsimp only [List.set]
  refine j_aload_n X (i := 0) dX6_makeMove_25 rfl rfl ?_
  refine j_getf X 6 1 rfl cw_X6 fl_X6_21 (by decide) dX6_makeMove_26 (inL hL hk (by decide)) (FW6 hL hk) rfl ?_
  refine j_aload_n X (i := 0) dX6_makeMove_29 rfl rfl ?_
  refine j_getf X 6 6 rfl cw_X6 fl_X6_66 (by decide) dX6_makeMove_30 (inL hL hk (by decide)) (FW6 hL hk) rfl ?_
  refine j_iload_n X (i := 2) dX6_makeMove_33 rfl rfl ?_
  refine j_iload_n X (i := 3) dX6_makeMove_34 rfl rfl ?_
  refine j_iload X dX6_makeMove_35 rfl ?_
  refine j_aload_n X (i := 1) dX6_makeMove_37 rfl rfl ?_
  refine j_getf X 5 1 rfl cw_X5 fl_X6_85 (by decide) dX6_makeMove_38 (inL hL (h1 ▸ m_X6_mover_ty hk) (by decide)) (FW5 hL (h1 ▸ m_X6_mover_ty hk)) rfl ?_
  refine j_aload_n X (i := 0) dX6_makeMove_41 rfl rfl ?_
  refine j_getf X 6 9 rfl cw_X6 fl_X6_69 (by decide) dX6_makeMove_42 (inL hL hk (by decide)) (FW6 hL hk) rfl ?_
  obtain ⟨a13, h12, hR⟩ := bT_inv hR
  refine j_callV6 X 1 (m_X1_add hl hL (ty6_1 hk) h12) ml_X6_141 im_yX1_add se_yX1_add in_X1 cd_yX1_add hy_yX1_add dX6_makeMove_45 rfl (inL hL (ty6_1 hk) (by decide)) (FW1 hL (ty6_1 hk)) ⟨(by decide), (by decide)⟩ ⟨(by decide), (by decide)⟩ (Nat.le_of_ble_eq_true rfl) (fun _ h => h.elim) (fun r9 L9 f9 h9 => ?_)
  obtain ⟨h91, h92, h93⟩ := h9
  subst r9
  subst f9
  subst L9
  dsimp only [Option.toList, List.cons_append, List.nil_append, List.append]
  refine j_aload_n X (i := 0) dX6_makeMove_48 rfl rfl ?_
  refine j_aload_n X (i := 0) dX6_makeMove_49 rfl rfl ?_
  refine j_getf X 6 6 rfl cw_X6 fl_X6_66 (by decide) dX6_makeMove_50 (inL hL hk (by decide)) (FW6 hL hk) rfl ?_
  obtain ⟨x16, h15, hR⟩ := bT_inv hR
  refine j_callSN1 X (m_X8_other hl hL h15) (List.mem_of_getElem? (i := 17) rfl) st_yX8_other in_X8 cd_yX8_other hy_yX8_other dX6_makeMove_53 ⟨(by decide), (by decide)⟩ ⟨(by decide), (by decide)⟩ (Nat.le_of_ble_eq_true rfl) (fun _ h => h.elim) (fun r9 L9 f9 h9 => ?_)
  obtain ⟨h91, h92, h93⟩ := h9
  subst r9
  subst f9
  subst L9
  dsimp only [Option.toList, List.cons_append, List.nil_append, List.append]
  obtain ⟨a18, h19, hR⟩ := bT_inv hR
  refine tp_X6_6 X hL hk h19 fl_X6_66 dX6_makeMove_56 ?_
  refine j_iload X dX6_makeMove_59 rfl ?_
  exact q_iret X hQ dX6_makeMove_61 rfl ⟨(by decide), (by decide)⟩ ⟨rfl, congrArg (fun z => FW G L z b c) (Prod.mk.inj hR).2, congrArg (fun z => some (Value.int z)) (Prod.mk.inj hR).1⟩
def f_X6_swapSides (k : Nat) (a : Mem) : Mem := bT (up2 a k 2 (a k 3)) fun a1 => bT (up2 a1 k 3 (a k 2)) fun a3 => a3
set_option maxRecDepth 100000 in
set_option maxHeartbeats 4000000 in
theorem m_X6_swapSides {l : Launch} (hl : l.stackTraces = false) {G : GG} {L : List Nat} (hL : LOK L) {a b c : Mem} {k : Nat} (hk : ty k = 6) {a' : Mem} (hR : f_X6_swapSides k a = a') : Ct l G yX6_swapSides (.code yX6_swapSides cX6_swapSides 2 none) 0 0 0 0 [.ref (ad L k)] L (FW G L a b c) px0 (stay L (fun r f1 => f1 = (FW G L a' b c) ∧ r = none)) := by
  refine Ct.ofq (own := RX6) hl rfl (by decide) [some (.ref (ad L k)), none] rfl (Nat.le_of_ble_eq_true rfl) ?_
  intro p e s m below meth c9 A ar Q hQ X
  unfold f_X6_swapSides at hR
  refine j_aload_n X (i := 0) dX6_swapSides_0 rfl rfl ?_
  refine j_getf X 6 2 rfl cw_X6 fl_X6_28 (by decide) dX6_swapSides_1 (inL hL hk (by decide)) (FW6 hL hk) rfl ?_
  refine j_astore_n X (i := 1) dX6_swapSides_4 rfl (by decide) (lvOK_s rfl okPrev_ref) ?_
  dsimp only [List.set]
  refine j_aload_n X (i := 0) dX6_swapSides_5 rfl rfl ?_
  refine j_aload_n X (i := 0) dX6_swapSides_6 rfl rfl ?_
  refine j_getf X 6 3 rfl cw_X6 fl_X6_32 (by decide) dX6_swapSides_7 (inL hL hk (by decide)) (FW6 hL hk) rfl ?_
  obtain ⟨a1, h2, hR⟩ := bT_inv hR
  refine tp_X6_2 (x := (a k 3)) X hL hk h2 fl_X6_28 dX6_swapSides_10 ?_
  refine j_aload_n X (i := 0) dX6_swapSides_13 rfl rfl ?_
  refine j_aload_n X (i := 1) dX6_swapSides_14 rfl rfl ?_
  obtain ⟨a3, h4, hR⟩ := bT_inv hR
  refine tp_X6_3 (x := (a k 2)) X hL hk h4 fl_X6_32 dX6_swapSides_15 ?_
  exact q_vret X hQ dX6_swapSides_18 rfl ⟨(by decide), (by decide)⟩ ⟨rfl, congrArg (fun z => FW G L z b c) hR, rfl⟩

