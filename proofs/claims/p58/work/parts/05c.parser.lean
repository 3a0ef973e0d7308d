def f_X3_clear (a : Mem) : Mem := bT (f_X4_clear 4 a) fun a2 => bT (up2 a2 1 2 (0 : Int32)) fun a4 => bT (up2 a4 1 3 (-1 : Int32)) fun a6 => bT (up2 a6 1 4 (0 : Int32)) fun a8 => bT (up2 a8 1 5 (0 : Int32)) fun a10 => bT (up2 a10 1 6 (-1 : Int32)) fun a12 => bT (up2 a12 1 9 (0 : Int32)) fun a14 => a14
set_option maxRecDepth 100000 in
set_option maxHeartbeats 4000000 in
theorem m_X3_clear {l : Launch} (hl : l.stackTraces = false) {G : GG} {L : List Nat} (hL : LOK L) {a b c : Mem}  {a' : Mem} (hR : f_X3_clear a = a') : Ct l G yX3_clear (.code yX3_clear cX3_clear 1 none) 2 43 0 0 [.ref (ad L 1)] L (FW G L a b c) px0 (stay L (fun r f1 => f1 = (FW G L a' b c) ∧ r = none)) := by
  refine Ct.ofq (own := RX3) hl rfl (by decide) [some (.ref (ad L 1))] rfl (Nat.le_of_ble_eq_true rfl) ?_
  intro p e s m below meth c9 A ar Q hQ X
  unfold f_X3_clear at hR
  refine j_aload_n X (i := 0) dX3_clear_0 rfl rfl ?_
  refine j_getf X 3 1 rfl cw_X3 fl_X3_21 (by decide) dX3_clear_1 (inL hL t_1 (by decide)) (FW3 hL t_1) rfl ?_
  obtain ⟨a2, h1, hR⟩ := bT_inv hR
  refine j_callV0 X 4 (m_X4_clear hl hL t_4 h1) ml_X3_77 im_yX4_clear se_yX4_clear in_X4 cd_yX4_clear hy_yX4_clear dX3_clear_4 rfl (inL hL t_4 (by decide)) (FW4 hL t_4) ⟨(by decide), (by decide)⟩ ⟨(by decide), (by decide)⟩ (Nat.le_of_ble_eq_true rfl) (fun _ h => h.elim) (fun r9 L9 f9 h9 => ?_)
  obtain ⟨h91, h92, h93⟩ := h9
  subst r9
  subst f9
  subst L9
  dsimp only [Option.toList, List.cons_append, List.nil_append, List.append]
  refine j_aload_n X (i := 0) dX3_clear_7 rfl rfl ?_
  refine j_iconst X (0) dX3_clear_8 (by decide) ?_
  obtain ⟨a4, h5, hR⟩ := bT_inv hR
  refine tp_X3_2 X hL t_1 isB_0 h5 fl_X3_78 dX3_clear_9 ?_
  refine j_aload_n X (i := 0) dX3_clear_12 rfl rfl ?_
  refine j_iconst X (-1) dX3_clear_13 (by decide) ?_
  obtain ⟨a6, h7, hR⟩ := bT_inv hR
  refine tp_X3_3 X hL t_1 h7 fl_X3_25 dX3_clear_14 ?_
  refine j_aload_n X (i := 0) dX3_clear_17 rfl rfl ?_
  refine j_iconst X (0) dX3_clear_18 (by decide) ?_
  obtain ⟨a8, h9, hR⟩ := bT_inv hR
  refine tp_X3_4 X hL t_1 h9 fl_X3_81 dX3_clear_19 ?_
  refine j_aload_n X (i := 0) dX3_clear_22 rfl rfl ?_
  refine j_iconst X (0) dX3_clear_23 (by decide) ?_
  obtain ⟨a10, h11, hR⟩ := bT_inv hR
  refine tp_X3_5 X hL t_1 h11 fl_X3_48 dX3_clear_24 ?_
  refine j_aload_n X (i := 0) dX3_clear_27 rfl rfl ?_
  refine j_iconst X (-1) dX3_clear_28 (by decide) ?_
  obtain ⟨a12, h13, hR⟩ := bT_inv hR
  refine tp_X3_6 X hL t_1 h13 fl_X3_29 dX3_clear_29 ?_
  refine j_aload_n X (i := 0) dX3_clear_32 rfl rfl ?_
  refine j_iconst X (0) dX3_clear_33 (by decide) ?_
  obtain ⟨a14, h15, hR⟩ := bT_inv hR
  refine tp_X3_9 X hL t_1 h15 fl_X3_84 dX3_clear_34 ?_
  exact q_vret X hQ dX3_clear_37 rfl ⟨(by decide), (by decide)⟩ ⟨rfl, congrArg (fun z => FW G L z b c) hR, rfl⟩
def f_X3_kindOf_28 (p0 : Int32)  : Int32 := if p0 < (48 : Int32) then ((4 : Int32)) else (if (57 : Int32) < p0 then ((4 : Int32)) else ((3 : Int32)))
def f_X3_kindOf (p0 : Int32) (a : Mem) : Int32 := if p0 = (32 : Int32) then ((1 : Int32)) else (if p0 = (10 : Int32) then ((1 : Int32)) else (if p0 < (97 : Int32) then (f_X3_kindOf_28 p0 ) else (if (122 : Int32) < p0 then (f_X3_kindOf_28 p0 ) else ((2 : Int32)))))
set_option maxRecDepth 100000 in
set_option maxHeartbeats 4000000 in
theorem m_X3_kindOf {l : Launch} (hl : l.stackTraces = false) {G : GG} {L : List Nat} (hL : LOK L) {a b c : Mem} {p0 : Int32} {v : Int32} (hR : f_X3_kindOf p0 a = v) : Ct l G yX3_kindOf (.code yX3_kindOf cX3_kindOf 1 (some .int)) 0 0 0 0 [.int p0] L (FW G L a b c) px0 (stay L (fun r f1 => f1 = (FW G L a b c) ∧ r = some (.int v))) := by
  refine Ct.ofq (own := RX3) hl rfl (by decide) [some (.int p0)] rfl (Nat.le_of_ble_eq_true rfl) ?_
  intro p e s m below meth c9 A ar Q hQ X
  unfold f_X3_kindOf at hR
  refine j_iload_n X (i := 0) dX3_kindOf_0 rfl rfl ?_
  refine j_bipush X (32) dX3_kindOf_1 (by decide) ?_
  refine j_icmp_eq X (tgt := 12) dX3_kindOf_3 (by decide) (fun h1 => ?_) (fun h1 => ?_)
  · replace hR := (if_pos h1).symm.trans hR
    refine j_iconst X (1) dX3_kindOf_12 (by decide) ?_
    exact q_iret X hQ dX3_kindOf_13 rfl ⟨(by decide), (by decide)⟩ ⟨rfl, rfl, congrArg (fun z => some (Value.int z)) hR⟩
  · replace hR := (if_neg h1).symm.trans hR
    refine j_iload_n X (i := 0) dX3_kindOf_6 rfl rfl ?_
    refine j_bipush X (10) dX3_kindOf_7 (by decide) ?_
    refine j_icmp_ne X (tgt := 14) dX3_kindOf_9 (by decide) (fun h2 => ?_) (fun h2 => ?_)
    · replace hR := (if_neg h2).symm.trans hR
      refine j_iload_n X (i := 0) dX3_kindOf_14 rfl rfl ?_
      refine j_bipush X (97) dX3_kindOf_15 (by decide) ?_
      have hb28 : f_X3_kindOf_28 p0 = v → J G p l e ({ frames := 0, cells := 0, slots := 0, locals := 0 } : Room) s m ar below meth c9 A Q 1 0 0 28 [some (.int p0)] [] L (FW G L a b c) := by
        intro hR
        unfold f_X3_kindOf_28 at hR
        refine j_iload_n X (i := 0) dX3_kindOf_28 rfl rfl ?_
        refine j_bipush X (48) dX3_kindOf_29 (by decide) ?_
        refine j_icmp_lt X (tgt := 44) dX3_kindOf_31 (by decide) (fun h3 => ?_) (fun h3 => ?_)
        · replace hR := (if_pos h3).symm.trans hR
          refine j_iconst X (4) dX3_kindOf_44 (by decide) ?_
          exact q_iret X hQ dX3_kindOf_45 rfl ⟨(by decide), (by decide)⟩ ⟨rfl, rfl, congrArg (fun z => some (Value.int z)) hR⟩
        · replace hR := (if_neg h3).symm.trans hR
          refine j_iload_n X (i := 0) dX3_kindOf_34 rfl rfl ?_
          refine j_bipush X (57) dX3_kindOf_35 (by decide) ?_
          refine j_icmp_gt X (tgt := 44) dX3_kindOf_37 (by decide) (fun h4 => ?_) (fun h4 => ?_)
          · replace hR := (if_pos h4).symm.trans hR
            refine j_iconst X (4) dX3_kindOf_44 (by decide) ?_
            exact q_iret X hQ dX3_kindOf_45 rfl ⟨(by decide), (by decide)⟩ ⟨rfl, rfl, congrArg (fun z => some (Value.int z)) hR⟩
          · replace hR := (if_neg h4).symm.trans hR
            refine j_iconst X (3) dX3_kindOf_40 (by decide) ?_
            refine j_goto X (tgt := 45) dX3_kindOf_41 (by decide) ?_
            exact q_iret X hQ dX3_kindOf_45 rfl ⟨(by decide), (by decide)⟩ ⟨rfl, rfl, congrArg (fun z => some (Value.int z)) hR⟩
      refine j_icmp_lt X (tgt := 28) dX3_kindOf_17 (by decide) (fun h5 => ?_) (fun h5 => ?_)
      · replace hR := (if_pos h5).symm.trans hR
        exact J.sub (lvle_of (by simp only [lvle, and_self])) (hb28 hR)
      · replace hR := (if_neg h5).symm.trans hR
        refine j_iload_n X (i := 0) dX3_kindOf_20 rfl rfl ?_
        refine j_bipush X (122) dX3_kindOf_21 (by decide) ?_
        refine j_icmp_gt X (tgt := 28) dX3_kindOf_23 (by decide) (fun h6 => ?_) (fun h6 => ?_)
        · replace hR := (if_pos h6).symm.trans hR
          exact J.sub (lvle_of (by simp only [lvle, and_self])) (hb28 hR)
        · replace hR := (if_neg h6).symm.trans hR
          refine j_iconst X (2) dX3_kindOf_26 (by decide) ?_
          exact q_iret X hQ dX3_kindOf_27 rfl ⟨(by decide), (by decide)⟩ ⟨rfl, rfl, congrArg (fun z => some (Value.int z)) hR⟩
    · replace hR := (if_pos h2).symm.trans hR
      refine j_iconst X (1) dX3_kindOf_12 (by decide) ?_
      exact q_iret X hQ dX3_kindOf_13 rfl ⟨(by decide), (by decide)⟩ ⟨rfl, rfl, congrArg (fun z => some (Value.int z)) hR⟩
def f_X3_readToken_138 (N : Nat)  : Nat → Mem → Option Mem
  | 0, _ => none
  | fu + 1, a19 => if (a19 2 1) ≤ (a19 1 9) then (some a19) else (bT (f_X0_byteAt (a19 1 9) a19) fun x22 => bT (f_X3_kindOf x22 a19) fun x25 => if x25 = (a19 1 7) then (if (a19 1 7) = (3 : Int32) then (bT (f_X0_byteAt (a19 1 9) a19) fun x32 => bT (up2 a19 1 10 (mnI ((((10 : Int32) * (a19 1 10)) + x32) - (48 : Int32)) (1000000 : Int32))) fun a34 => bT (up2 a34 1 9 ((a34 1 9) + (1 : Int32))) fun a36 => f_X3_readToken_138 N fu a36) else (bT (up2 a19 1 9 ((a19 1 9) + (1 : Int32))) fun a29 => f_X3_readToken_138 N fu a29)) else (some a19))
theorem f_X3_readToken_138_s (N : Nat)  {fu : Nat} {a19 : Mem} : f_X3_readToken_138 N (fu + 1) a19 = (if (a19 2 1) ≤ (a19 1 9) then (some a19) else (bT (f_X0_byteAt (a19 1 9) a19) fun x22 => bT (f_X3_kindOf x22 a19) fun x25 => if x25 = (a19 1 7) then (if (a19 1 7) = (3 : Int32) then (bT (f_X0_byteAt (a19 1 9) a19) fun x32 => bT (up2 a19 1 10 (mnI ((((10 : Int32) * (a19 1 10)) + x32) - (48 : Int32)) (1000000 : Int32))) fun a34 => bT (up2 a34 1 9 ((a34 1 9) + (1 : Int32))) fun a36 => f_X3_readToken_138 N fu a36) else (bT (up2 a19 1 9 ((a19 1 9) + (1 : Int32))) fun a29 => f_X3_readToken_138 N fu a29)) else (some a19))) := rfl
def f_X3_readToken_53 (N : Nat)  (a4 : Mem) : Option Mem := bT (up2 a4 1 9 (a4 1 8)) fun a5 => bT (up2 a5 1 10 (0 : Int32)) fun a7 => if (a7 1 8) < (a7 2 1) then (bT (f_X0_byteAt (a7 1 8) a7) fun x11 => bT (f_X3_kindOf x11 a7) fun x14 => bT (up2 a7 1 7 x14) fun a16 => if (a16 1 7) = (4 : Int32) then (bT (f_X0_byteAt (a16 1 8) a16) fun x39 => bT (up2 a16 1 10 x39) fun a41 => bT (up2 a41 1 9 ((a41 1 8) + (1 : Int32))) fun a43 => some a43) else (f_X3_readToken_138 N N a16)) else (bT (up2 a7 1 7 (0 : Int32)) fun a45 => some a45)
def f_X3_readToken_8 (N : Nat)  : Nat → Mem → Option Mem
  | 0, _ => none
  | fu + 1, a3 => if (a3 2 1) ≤ (a3 1 8) then (f_X3_readToken_53 N a3) else (bT (f_X0_byteAt (a3 1 8) a3) fun x49 => bT (f_X3_kindOf x49 a3) fun x52 => if x52 = (1 : Int32) then (bT (up2 a3 1 8 ((a3 1 8) + (1 : Int32))) fun a55 => f_X3_readToken_8 N fu a55) else (f_X3_readToken_53 N a3))
theorem f_X3_readToken_8_s (N : Nat)  {fu : Nat} {a3 : Mem} : f_X3_readToken_8 N (fu + 1) a3 = (if (a3 2 1) ≤ (a3 1 8) then (f_X3_readToken_53 N a3) else (bT (f_X0_byteAt (a3 1 8) a3) fun x49 => bT (f_X3_kindOf x49 a3) fun x52 => if x52 = (1 : Int32) then (bT (up2 a3 1 8 ((a3 1 8) + (1 : Int32))) fun a55 => f_X3_readToken_8 N fu a55) else (f_X3_readToken_53 N a3))) := rfl
def f_X3_readToken (N : Nat) (a : Mem) : Option Mem := bT (up2 a 1 8 (a 1 9)) fun a1 => f_X3_readToken_8 N N a1
set_option maxRecDepth 100000 in
set_option maxHeartbeats 4000000 in
theorem m_X3_readToken {l : Launch} (hl : l.stackTraces = false) {G : GG} {L : List Nat} (hL : LOK L) {a b c : Mem} {N : Nat}  {a' : Mem} (hR : f_X3_readToken N a = some a') : Ct l G yX3_readToken (.code yX3_readToken cX3_readToken 1 none) 1 24 0 0 [.ref (ad L 1)] L (FW G L a b c) px0 (stay L (fun r f1 => f1 = (FW G L a' b c) ∧ r = none)) := by
  refine Ct.ofq (own := RX3) hl rfl (by decide) [some (.ref (ad L 1))] rfl (Nat.le_of_ble_eq_true rfl) ?_
  intro p e s m below meth c9 A ar Q hQ X
  unfold f_X3_readToken at hR
  refine j_aload_n X (i := 0) dX3_readToken_0 rfl rfl ?_
  refine j_aload_n X (i := 0) dX3_readToken_1 rfl rfl ?_
  refine j_getf X 3 9 rfl cw_X3 fl_X3_84 (by decide) dX3_readToken_2 (inL hL t_1 (by decide)) (FW3 hL t_1) rfl ?_
  obtain ⟨a1, h2, hR⟩ := bT_inv hR
  refine tp_X3_8 X hL t_1 h2 fl_X3_141 dX3_readToken_5 ?_
  have hb8 : ∀ (fu : Nat) (a3 : Mem) , f_X3_readToken_8 N fu a3 = some a' → J G p l e ({ frames := 1, cells := 0, slots := 0, locals := 24 } : Room) s m ar below meth c9 A Q 1 0 0 8 [some (.ref (ad L 1))] [] L (FW G L a3 b c) := by
    intro fu
    induction fu with
    | zero =>
      intro a3 hR
      cases hR
    | succ fu ih =>
      intro a3 hR
      replace hR := (f_X3_readToken_8_s N ).symm.trans hR
      refine j_aload_n X (i := 0) dX3_readToken_8 rfl rfl ?_
      refine j_getf X 3 8 rfl cw_X3 fl_X3_141 (by decide) dX3_readToken_9 (inL hL t_1 (by decide)) (FW3 hL t_1) rfl ?_
      refine j_aload_n X (i := 0) dX3_readToken_12 rfl rfl ?_
      refine j_getf X 3 0 rfl cw_X3 fl_X3_12 (by decide) dX3_readToken_13 (inL hL t_1 (by decide)) (FW3 hL t_1) rfl ?_
      refine j_getf X 0 1 rfl cw_X0 fl_X3_161 (by decide) dX3_readToken_16 (inL hL t_2 (by decide)) (FW0 hL t_2) rfl ?_
      have hb53 : ∀ (a4 : Mem) , f_X3_readToken_53 N a4 = some a' → J G p l e ({ frames := 1, cells := 0, slots := 0, locals := 24 } : Room) s m ar below meth c9 A Q 1 0 0 53 [some (.ref (ad L 1))] [] L (FW G L a4 b c) := by
        intro a4 hR
        unfold f_X3_readToken_53 at hR
        refine j_aload_n X (i := 0) dX3_readToken_53 rfl rfl ?_
        refine j_aload_n X (i := 0) dX3_readToken_54 rfl rfl ?_
        refine j_getf X 3 8 rfl cw_X3 fl_X3_141 (by decide) dX3_readToken_55 (inL hL t_1 (by decide)) (FW3 hL t_1) rfl ?_
        obtain ⟨a5, h6, hR⟩ := bT_inv hR
        refine tp_X3_9 X hL t_1 h6 fl_X3_84 dX3_readToken_58 ?_
        refine j_aload_n X (i := 0) dX3_readToken_61 rfl rfl ?_
        refine j_iconst X (0) dX3_readToken_62 (by decide) ?_
        obtain ⟨a7, h8, hR⟩ := bT_inv hR
        refine tp_X3_10 X hL t_1 h8 fl_X3_144 dX3_readToken_63 ?_
        refine j_aload_n X (i := 0) dX3_readToken_66 rfl rfl ?_
        refine j_getf X 3 8 rfl cw_X3 fl_X3_141 (by decide) dX3_readToken_67 (inL hL t_1 (by decide)) (FW3 hL t_1) rfl ?_
        refine j_aload_n X (i := 0) dX3_readToken_70 rfl rfl ?_
        refine j_getf X 3 0 rfl cw_X3 fl_X3_12 (by decide) dX3_readToken_71 (inL hL t_1 (by decide)) (FW3 hL t_1) rfl ?_
        refine j_getf X 0 1 rfl cw_X0 fl_X3_161 (by decide) dX3_readToken_74 (inL hL t_2 (by decide)) (FW0 hL t_2) rfl ?_
        refine j_icmp_lt X (tgt := 86) dX3_readToken_77 (by decide) (fun h9 => ?_) (fun h9 => ?_)
        · replace hR := (if_pos h9).symm.trans hR
          refine j_aload_n X (i := 0) dX3_readToken_86 rfl rfl ?_
          refine j_aload_n X (i := 0) dX3_readToken_87 rfl rfl ?_
          refine j_getf X 3 0 rfl cw_X3 fl_X3_12 (by decide) dX3_readToken_88 (inL hL t_1 (by decide)) (FW3 hL t_1) rfl ?_
          refine j_aload_n X (i := 0) dX3_readToken_91 rfl rfl ?_
          refine j_getf X 3 8 rfl cw_X3 fl_X3_141 (by decide) dX3_readToken_92 (inL hL t_1 (by decide)) (FW3 hL t_1) rfl ?_
          obtain ⟨x11, h10, hR⟩ := bT_inv hR
          refine j_callV1 X 0 (m_X0_byteAt hl hL h10) ml_X3_153 im_yX0_byteAt se_yX0_byteAt in_X0 cd_yX0_byteAt hy_yX0_byteAt dX3_readToken_95 rfl (inL hL t_2 (by decide)) (FW0 hL t_2) ⟨(by decide), (by decide)⟩ ⟨(by decide), (by decide)⟩ (Nat.le_of_ble_eq_true rfl) (fun _ h => h.elim) (fun r9 L9 f9 h9 => ?_)
          obtain ⟨h91, h92, h93⟩ := h9
          subst r9
          subst f9
          subst L9
          dsimp only [Option.toList, List.cons_append, List.nil_append, List.append]
          obtain ⟨x14, h13, hR⟩ := bT_inv hR
          refine j_callS1 X (m_X3_kindOf hl hL h13) ml_X3_163 st_yX3_kindOf in_X3 cd_yX3_kindOf hy_yX3_kindOf dX3_readToken_98 ⟨(by decide), (by decide)⟩ ⟨(by decide), (by decide)⟩ (Nat.le_of_ble_eq_true rfl) (fun _ h => h.elim) (fun r9 L9 f9 h9 => ?_)
          obtain ⟨h91, h92, h93⟩ := h9
          subst r9
          subst f9
          subst L9
          dsimp only [Option.toList, List.cons_append, List.nil_append, List.append]
          obtain ⟨a16, h17, hR⟩ := bT_inv hR
          refine tp_X3_7 X hL t_1 h17 fl_X3_51 dX3_readToken_101 ?_
          refine j_aload_n X (i := 0) dX3_readToken_104 rfl rfl ?_
          refine j_getf X 3 7 rfl cw_X3 fl_X3_51 (by decide) dX3_readToken_105 (inL hL t_1 (by decide)) (FW3 hL t_1) rfl ?_
          refine j_iconst X (4) dX3_readToken_108 (by decide) ?_
          refine j_icmp_ne X (tgt := 138) dX3_readToken_109 (by decide) (fun h18 => ?_) (fun h18 => ?_)
          · replace hR := (if_neg h18).symm.trans hR
            have hb138 : ∀ (fu : Nat) (a19 : Mem) , f_X3_readToken_138 N fu a19 = some a' → J G p l e ({ frames := 1, cells := 0, slots := 0, locals := 24 } : Room) s m ar below meth c9 A Q 1 0 0 138 [some (.ref (ad L 1))] [] L (FW G L a19 b c) := by
              intro fu
              induction fu with
              | zero =>
                intro a19 hR
                cases hR
              | succ fu ih =>
                intro a19 hR
                replace hR := (f_X3_readToken_138_s N ).symm.trans hR
                refine j_aload_n X (i := 0) dX3_readToken_138 rfl rfl ?_
                refine j_getf X 3 9 rfl cw_X3 fl_X3_84 (by decide) dX3_readToken_139 (inL hL t_1 (by decide)) (FW3 hL t_1) rfl ?_
                refine j_aload_n X (i := 0) dX3_readToken_142 rfl rfl ?_
                refine j_getf X 3 0 rfl cw_X3 fl_X3_12 (by decide) dX3_readToken_143 (inL hL t_1 (by decide)) (FW3 hL t_1) rfl ?_
                refine j_getf X 0 1 rfl cw_X0 fl_X3_161 (by decide) dX3_readToken_146 (inL hL t_2 (by decide)) (FW0 hL t_2) rfl ?_
                refine j_icmp_ge X (tgt := 225) dX3_readToken_149 (by decide) (fun h20 => ?_) (fun h20 => ?_)
                · replace hR := (if_pos h20).symm.trans hR
                  exact q_vret X hQ dX3_readToken_225 rfl ⟨(by decide), (by decide)⟩ ⟨rfl, congrArg (fun z => FW G L z b c) (Option.some.inj hR), rfl⟩
                · replace hR := (if_neg h20).symm.trans hR
                  refine j_aload_n X (i := 0) dX3_readToken_152 rfl rfl ?_
                  refine j_getf X 3 0 rfl cw_X3 fl_X3_12 (by decide) dX3_readToken_153 (inL hL t_1 (by decide)) (FW3 hL t_1) rfl ?_
                  refine j_aload_n X (i := 0) dX3_readToken_156 rfl rfl ?_
                  refine j_getf X 3 9 rfl cw_X3 fl_X3_84 (by decide) dX3_readToken_157 (inL hL t_1 (by decide)) (FW3 hL t_1) rfl ?_
                  obtain ⟨x22, h21, hR⟩ := bT_inv hR
                  refine j_callV1 X 0 (m_X0_byteAt hl hL h21) ml_X3_153 im_yX0_byteAt se_yX0_byteAt in_X0 cd_yX0_byteAt hy_yX0_byteAt dX3_readToken_160 rfl (inL hL t_2 (by decide)) (FW0 hL t_2) ⟨(by decide), (by decide)⟩ ⟨(by decide), (by decide)⟩ (Nat.le_of_ble_eq_true rfl) (fun _ h => h.elim) (fun r9 L9 f9 h9 => ?_)
                  obtain ⟨h91, h92, h93⟩ := h9
                  subst r9
                  subst f9
                  subst L9
                  dsimp only [Option.toList, List.cons_append, List.nil_append, List.append]
                  obtain ⟨x25, h24, hR⟩ := bT_inv hR
                  refine j_callS1 X (m_X3_kindOf hl hL h24) ml_X3_163 st_yX3_kindOf in_X3 cd_yX3_kindOf hy_yX3_kindOf dX3_readToken_163 ⟨(by decide), (by decide)⟩ ⟨(by decide), (by decide)⟩ (Nat.le_of_ble_eq_true rfl) (fun _ h => h.elim) (fun r9 L9 f9 h9 => ?_)
                  obtain ⟨h91, h92, h93⟩ := h9
                  subst r9
                  subst f9
                  subst L9
                  dsimp only [Option.toList, List.cons_append, List.nil_append, List.append]
                  refine j_aload_n X (i := 0) dX3_readToken_166 rfl rfl ?_
                  refine j_getf X 3 7 rfl cw_X3 fl_X3_51 (by decide) dX3_readToken_167 (inL hL t_1 (by decide)) (FW3 hL t_1) rfl ?_
                  refine j_icmp_ne X (tgt := 225) dX3_readToken_170 (by decide) (fun h27 => ?_) (fun h27 => ?_)
                  · replace hR := (if_neg h27).symm.trans hR
                    exact q_vret X hQ dX3_readToken_225 rfl ⟨(by decide), (by decide)⟩ ⟨rfl, congrArg (fun z => FW G L z b c) (Option.some.inj hR), rfl⟩
                  · replace hR := (if_pos h27).symm.trans hR
                    refine j_aload_n X (i := 0) dX3_readToken_173 rfl rfl ?_
                    refine j_getf X 3 7 rfl cw_X3 fl_X3_51 (by decide) dX3_readToken_174 (inL hL t_1 (by decide)) (FW3 hL t_1) rfl ?_
                    refine j_iconst X (3) dX3_readToken_177 (by decide) ?_
                    refine j_icmp_ne X (tgt := 212) dX3_readToken_178 (by decide) (fun h28 => ?_) (fun h28 => ?_)
                    · replace hR := (if_neg h28).symm.trans hR
                      refine j_aload_n X (i := 0) dX3_readToken_212 rfl rfl ?_
                      refine j_dup X dX3_readToken_213 rfl ?_
                      refine j_getf X 3 9 rfl cw_X3 fl_X3_84 (by decide) dX3_readToken_214 (inL hL t_1 (by decide)) (FW3 hL t_1) rfl ?_
                      refine j_iconst X (1) dX3_readToken_217 (by decide) ?_
                      refine j_iadd X dX3_readToken_218 ?_
                      obtain ⟨a29, h30, hR⟩ := bT_inv hR
                      refine tp_X3_9 X hL t_1 h30 fl_X3_84 dX3_readToken_219 ?_
                      refine j_goto X (tgt := 138) dX3_readToken_222 (by decide) ?_
                      exact J.sub (lvle_of (by simp only [lvle, and_self])) (ih _  hR)
                    · replace hR := (if_pos h28).symm.trans hR
                      refine j_aload_n X (i := 0) dX3_readToken_181 rfl rfl ?_
                      refine j_bipush X (10) dX3_readToken_182 (by decide) ?_
                      refine j_aload_n X (i := 0) dX3_readToken_184 rfl rfl ?_
                      refine j_getf X 3 10 rfl cw_X3 fl_X3_144 (by decide) dX3_readToken_185 (inL hL t_1 (by decide)) (FW3 hL t_1) rfl ?_
                      refine j_imul X dX3_readToken_188 ?_
                      refine j_aload_n X (i := 0) dX3_readToken_189 rfl rfl ?_
                      refine j_getf X 3 0 rfl cw_X3 fl_X3_12 (by decide) dX3_readToken_190 (inL hL t_1 (by decide)) (FW3 hL t_1) rfl ?_
                      refine j_aload_n X (i := 0) dX3_readToken_193 rfl rfl ?_
                      refine j_getf X 3 9 rfl cw_X3 fl_X3_84 (by decide) dX3_readToken_194 (inL hL t_1 (by decide)) (FW3 hL t_1) rfl ?_
                      obtain ⟨x32, h31, hR⟩ := bT_inv hR
                      refine j_callV1 X 0 (m_X0_byteAt hl hL h31) ml_X3_153 im_yX0_byteAt se_yX0_byteAt in_X0 cd_yX0_byteAt hy_yX0_byteAt dX3_readToken_197 rfl (inL hL t_2 (by decide)) (FW0 hL t_2) ⟨(by decide), (by decide)⟩ ⟨(by decide), (by decide)⟩ (Nat.le_of_ble_eq_true rfl) (fun _ h => h.elim) (fun r9 L9 f9 h9 => ?_)
                      obtain ⟨h91, h92, h93⟩ := h9
                      subst r9
                      subst f9
                      subst L9
                      dsimp only [Option.toList, List.cons_append, List.nil_append, List.append]
                      refine j_iadd X dX3_readToken_200 ?_
                      refine j_bipush X (48) dX3_readToken_201 (by decide) ?_
                      refine j_isub X dX3_readToken_203 ?_
                      refine j_ldc X dX3_readToken_204 co_X3_166 ?_
                      refine j_mmin X ml_X3_167 dX3_readToken_206 ⟨(by decide), (Nat.le_of_ble_eq_true rfl)⟩ ⟨(by decide), (by decide)⟩ ?_
                      obtain ⟨a34, h35, hR⟩ := bT_inv hR
                      refine tp_X3_10 X hL t_1 h35 fl_X3_144 dX3_readToken_209 ?_
                      refine j_aload_n X (i := 0) dX3_readToken_212 rfl rfl ?_
                      refine j_dup X dX3_readToken_213 rfl ?_
                      refine j_getf X 3 9 rfl cw_X3 fl_X3_84 (by decide) dX3_readToken_214 (inL hL t_1 (by decide)) (FW3 hL t_1) rfl ?_
                      refine j_iconst X (1) dX3_readToken_217 (by decide) ?_
                      refine j_iadd X dX3_readToken_218 ?_
                      obtain ⟨a36, h37, hR⟩ := bT_inv hR
                      refine tp_X3_9 X hL t_1 h37 fl_X3_84 dX3_readToken_219 ?_
                      refine j_goto X (tgt := 138) dX3_readToken_222 (by decide) ?_
                      exact J.sub (lvle_of (by simp only [lvle, and_self])) (ih _  hR)
            exact J.sub (lvle_of (by simp only [lvle, and_self])) (hb138 _ _  hR)
          · replace hR := (if_pos h18).symm.trans hR
            refine j_aload_n X (i := 0) dX3_readToken_112 rfl rfl ?_
            refine j_aload_n X (i := 0) dX3_readToken_113 rfl rfl ?_
            refine j_getf X 3 0 rfl cw_X3 fl_X3_12 (by decide) dX3_readToken_114 (inL hL t_1 (by decide)) (FW3 hL t_1) rfl ?_
            refine j_aload_n X (i := 0) dX3_readToken_117 rfl rfl ?_
            refine j_getf X 3 8 rfl cw_X3 fl_X3_141 (by decide) dX3_readToken_118 (inL hL t_1 (by decide)) (FW3 hL t_1) rfl ?_
            obtain ⟨x39, h38, hR⟩ := bT_inv hR
            refine j_callV1 X 0 (m_X0_byteAt hl hL h38) ml_X3_153 im_yX0_byteAt se_yX0_byteAt in_X0 cd_yX0_byteAt hy_yX0_byteAt dX3_readToken_121 rfl (inL hL t_2 (by decide)) (FW0 hL t_2) ⟨(by decide), (by decide)⟩ ⟨(by decide), (by decide)⟩ (Nat.le_of_ble_eq_true rfl) (fun _ h => h.elim) (fun r9 L9 f9 h9 => ?_)
            obtain ⟨h91, h92, h93⟩ := h9
            subst r9
            subst f9
            subst L9
            dsimp only [Option.toList, List.cons_append, List.nil_append, List.append]
            obtain ⟨a41, h42, hR⟩ := bT_inv hR
            refine tp_X3_10 X hL t_1 h42 fl_X3_144 dX3_readToken_124 ?_
            refine j_aload_n X (i := 0) dX3_readToken_127 rfl rfl ?_
            refine j_aload_n X (i := 0) dX3_readToken_128 rfl rfl ?_
            refine j_getf X 3 8 rfl cw_X3 fl_X3_141 (by decide) dX3_readToken_129 (inL hL t_1 (by decide)) (FW3 hL t_1) rfl ?_
            refine j_iconst X (1) dX3_readToken_132 (by decide) ?_
            refine j_iadd X dX3_readToken_133 ?_
            obtain ⟨a43, h44, hR⟩ := bT_inv hR
            refine tp_X3_9 X hL t_1 h44 fl_X3_84 dX3_readToken_134 ?_
            exact q_vret X hQ dX3_readToken_137 rfl ⟨(by decide), (by decide)⟩ ⟨rfl, congrArg (fun z => FW G L z b c) (Option.some.inj hR), rfl⟩
        · replace hR := (if_neg h9).symm.trans hR
          refine j_aload_n X (i := 0) dX3_readToken_80 rfl rfl ?_
          refine j_iconst X (0) dX3_readToken_81 (by decide) ?_
          obtain ⟨a45, h46, hR⟩ := bT_inv hR
          refine tp_X3_7 X hL t_1 h46 fl_X3_51 dX3_readToken_82 ?_
          exact q_vret X hQ dX3_readToken_85 rfl ⟨(by decide), (by decide)⟩ ⟨rfl, congrArg (fun z => FW G L z b c) (Option.some.inj hR), rfl⟩
      refine j_icmp_ge X (tgt := 53) dX3_readToken_19 (by decide) (fun h47 => ?_) (fun h47 => ?_)
      · replace hR := (if_pos h47).symm.trans hR
        exact J.sub (lvle_of (by simp only [lvle, and_self])) (hb53 _  hR)
      · replace hR := (if_neg h47).symm.trans hR
        refine j_aload_n X (i := 0) dX3_readToken_22 rfl rfl ?_
        refine j_getf X 3 0 rfl cw_X3 fl_X3_12 (by decide) dX3_readToken_23 (inL hL t_1 (by decide)) (FW3 hL t_1) rfl ?_
        refine j_aload_n X (i := 0) dX3_readToken_26 rfl rfl ?_
        refine j_getf X 3 8 rfl cw_X3 fl_X3_141 (by decide) dX3_readToken_27 (inL hL t_1 (by decide)) (FW3 hL t_1) rfl ?_
        obtain ⟨x49, h48, hR⟩ := bT_inv hR
        refine j_callV1 X 0 (m_X0_byteAt hl hL h48) ml_X3_153 im_yX0_byteAt se_yX0_byteAt in_X0 cd_yX0_byteAt hy_yX0_byteAt dX3_readToken_30 rfl (inL hL t_2 (by decide)) (FW0 hL t_2) ⟨(by decide), (by decide)⟩ ⟨(by decide), (by decide)⟩ (Nat.le_of_ble_eq_true rfl) (fun _ h => h.elim) (fun r9 L9 f9 h9 => ?_)
        obtain ⟨h91, h92, h93⟩ := h9
        subst r9
        subst f9
        subst L9
        dsimp only [Option.toList, List.cons_append, List.nil_append, List.append]
        obtain ⟨x52, h51, hR⟩ := bT_inv hR
        refine j_callS1 X (m_X3_kindOf hl hL h51) ml_X3_163 st_yX3_kindOf in_X3 cd_yX3_kindOf hy_yX3_kindOf dX3_readToken_33 ⟨(by decide), (by decide)⟩ ⟨(by decide), (by decide)⟩ (Nat.le_of_ble_eq_true rfl) (fun _ h => h.elim) (fun r9 L9 f9 h9 => ?_)
        obtain ⟨h91, h92, h93⟩ := h9
        subst r9
        subst f9
        subst L9
        dsimp only [Option.toList, List.cons_append, List.nil_append, List.append]
        refine j_iconst X (1) dX3_readToken_36 (by decide) ?_
        refine j_icmp_ne X (tgt := 53) dX3_readToken_37 (by decide) (fun h54 => ?_) (fun h54 => ?_)
        · replace hR := (if_neg h54).symm.trans hR
          exact J.sub (lvle_of (by simp only [lvle, and_self])) (hb53 _  hR)
        · replace hR := (if_pos h54).symm.trans hR
          refine j_aload_n X (i := 0) dX3_readToken_40 rfl rfl ?_
          refine j_dup X dX3_readToken_41 rfl ?_
          refine j_getf X 3 8 rfl cw_X3 fl_X3_141 (by decide) dX3_readToken_42 (inL hL t_1 (by decide)) (FW3 hL t_1) rfl ?_
          refine j_iconst X (1) dX3_readToken_45 (by decide) ?_
          refine j_iadd X dX3_readToken_46 ?_
          obtain ⟨a55, h56, hR⟩ := bT_inv hR
          refine tp_X3_8 X hL t_1 h56 fl_X3_141 dX3_readToken_47 ?_
          refine j_goto X (tgt := 8) dX3_readToken_50 (by decide) ?_
          exact J.sub (lvle_of (by simp only [lvle, and_self])) (ih _  hR)
  exact J.sub (lvle_of (by simp only [lvle, and_self])) (hb8 _ _  hR)
def f_X3_isWord_28 (N : Nat) (p0 : Nat) (a : Mem) : Nat → Int32 → Option Int32
  | 0, _ => none
  | fu + 1, x5 => bT (nI (strLn p0)) fun x7 => if x7 ≤ x5 then (some (1 : Int32)) else (bT (f_X0_byteAt ((a 1 8) + x5) a) fun x10 => chkI x5 (strLn p0) <| bT (strCh p0 (x5).toNatClampNeg) fun x13 => if x10 = x13 then (bT (x5 + (1 : Int32)) fun x16 => f_X3_isWord_28 N p0 a fu x16) else (some (0 : Int32)))
theorem f_X3_isWord_28_s (N : Nat) (p0 : Nat) (a : Mem) {fu : Nat} {x5 : Int32} : f_X3_isWord_28 N p0 a (fu + 1) x5 = (bT (nI (strLn p0)) fun x7 => if x7 ≤ x5 then (some (1 : Int32)) else (bT (f_X0_byteAt ((a 1 8) + x5) a) fun x10 => chkI x5 (strLn p0) <| bT (strCh p0 (x5).toNatClampNeg) fun x13 => if x10 = x13 then (bT (x5 + (1 : Int32)) fun x16 => f_X3_isWord_28 N p0 a fu x16) else (some (0 : Int32)))) := rfl
def f_X3_isWord (N : Nat) (p0 : Nat) (a : Mem) : Option Int32 := if (a 1 7) = (2 : Int32) then (bT (nI (strLn p0)) fun x3 => if ((a 1 9) - (a 1 8)) = x3 then (f_X3_isWord_28 N p0 a N (0 : Int32)) else (some (0 : Int32))) else (some (0 : Int32))
set_option maxRecDepth 100000 in
set_option maxHeartbeats 4000000 in
theorem m_X3_isWord {l : Launch} (hl : l.stackTraces = false) {G : GG} {L : List Nat} (hL : LOK L) {a b c : Mem} {N : Nat} {p0 : Nat} (hs0 : p0 < 57) {v : Int32} (hR : f_X3_isWord N p0 a = some v) : Ct l G yX3_isWord (.code yX3_isWord cX3_isWord 3 (some .boolean)) 5 123 0 0 [.ref (ad L 1), .ref (G.2.2.1 p0)] L (FW G L a b c) px0 (stay L (fun r f1 => f1 = (FW G L a b c) ∧ r = some (.int v) ∧ isB v)) := by
  refine Ct.ofq (own := RX3) hl rfl (by decide) [some (.ref (ad L 1)), some (.ref (G.2.2.1 p0)), none] rfl (Nat.le_of_ble_eq_true rfl) ?_
  intro p e s m below meth c9 A ar Q hQ X
  unfold f_X3_isWord at hR
  refine j_aload_n X (i := 0) dX3_isWord_0 rfl rfl ?_
  refine j_getf X 3 7 rfl cw_X3 fl_X3_51 (by decide) dX3_isWord_1 (inL hL t_1 (by decide)) (FW3 hL t_1) rfl ?_
  refine j_iconst X (2) dX3_isWord_4 (by decide) ?_
  refine j_icmp_ne X (tgt := 24) dX3_isWord_5 (by decide) (fun h1 => ?_) (fun h1 => ?_)
  · replace hR := (if_neg h1).symm.trans hR
    refine j_iconst X (0) dX3_isWord_24 (by decide) ?_
    exact q_zret X hQ dX3_isWord_25 rfl (nar_B isB_0) ⟨(by decide), (by decide)⟩ ⟨rfl, rfl, congrArg (fun z => some (Value.int z)) (Option.some.inj hR), (Option.some.inj hR) ▸ isB_0⟩
  · replace hR := (if_pos h1).symm.trans hR
    refine j_aload_n X (i := 0) dX3_isWord_8 rfl rfl ?_
    refine j_getf X 3 9 rfl cw_X3 fl_X3_84 (by decide) dX3_isWord_9 (inL hL t_1 (by decide)) (FW3 hL t_1) rfl ?_
    refine j_aload_n X (i := 0) dX3_isWord_12 rfl rfl ?_
    refine j_getf X 3 8 rfl cw_X3 fl_X3_141 (by decide) dX3_isWord_13 (inL hL t_1 (by decide)) (FW3 hL t_1) rfl ?_
    refine j_isub X dX3_isWord_16 ?_
    refine j_aload_n X (i := 1) dX3_isWord_17 rfl rfl ?_
    obtain ⟨x3, h2, hR⟩ := bT_inv hR
    refine j_callT (As := []) X hs0 (c_strlen hl hs0 h2) ml_X3_147 im_yJ0_length_8abf5 se_yJ0_length_8abf5 cd_yJ0_length_8abf5 hy_yJ0_length_8abf5 dX3_isWord_18 ⟨(by decide), (by decide)⟩ ⟨(by decide), (by decide)⟩ (Nat.le_of_ble_eq_true rfl) (fun _ h => h.elim) (fun r9 L9 f9 h9 => ?_)
    obtain ⟨h91, h92, h93⟩ := h9
    subst r9
    subst f9
    subst L9
    dsimp only [Option.toList, List.cons_append, List.nil_append, List.append]
    refine j_icmp_eq X (tgt := 26) dX3_isWord_21 (by decide) (fun h4 => ?_) (fun h4 => ?_)
    · replace hR := (if_pos h4).symm.trans hR
      refine j_iconst X (0) dX3_isWord_26 (by decide) ?_
      refine j_istore_n X (i := 2) dX3_isWord_27 rfl (by decide) (lvOK_s rfl okPrev_ref) ?_
      dsimp only [List.set]
      have hb28 : ∀ (fu : Nat) (x5 : Int32) , f_X3_isWord_28 N p0 a fu x5 = some v → J G p l e ({ frames := 5, cells := 0, slots := 0, locals := 123 } : Room) s m ar below meth c9 A Q 3 0 0 28 [some (.ref (ad L 1)), some (.ref (G.2.2.1 p0)), some (.int x5)] [] L (FW G L a b c) := by
        intro fu
        induction fu with
        | zero =>
          intro x5 hR
          cases hR
        | succ fu ih =>
          intro x5 hR
          replace hR := (f_X3_isWord_28_s N p0 a).symm.trans hR
          refine j_iload_n X (i := 2) dX3_isWord_28 rfl rfl ?_
          refine j_aload_n X (i := 1) dX3_isWord_29 rfl rfl ?_
          obtain ⟨x7, h6, hR⟩ := bT_inv hR
          refine j_callT (As := []) X hs0 (c_strlen hl hs0 h6) ml_X3_147 im_yJ0_length_8abf5 se_yJ0_length_8abf5 cd_yJ0_length_8abf5 hy_yJ0_length_8abf5 dX3_isWord_30 ⟨(by decide), (by decide)⟩ ⟨(by decide), (by decide)⟩ (Nat.le_of_ble_eq_true rfl) (fun _ h => h.elim) (fun r9 L9 f9 h9 => ?_)
          obtain ⟨h91, h92, h93⟩ := h9
          subst r9
          subst f9
          subst L9
          dsimp only [Option.toList, List.cons_append, List.nil_append, List.append]
          refine j_icmp_ge X (tgt := 65) dX3_isWord_33 (by decide) (fun h8 => ?_) (fun h8 => ?_)
          · replace hR := (if_pos h8).symm.trans hR
            refine j_iconst X (1) dX3_isWord_65 (by decide) ?_
            exact q_zret X hQ dX3_isWord_66 rfl (nar_B isB_1) ⟨(by decide), (by decide)⟩ ⟨rfl, rfl, congrArg (fun z => some (Value.int z)) (Option.some.inj hR), (Option.some.inj hR) ▸ isB_1⟩
          · replace hR := (if_neg h8).symm.trans hR
            refine j_aload_n X (i := 0) dX3_isWord_36 rfl rfl ?_
            refine j_getf X 3 0 rfl cw_X3 fl_X3_12 (by decide) dX3_isWord_37 (inL hL t_1 (by decide)) (FW3 hL t_1) rfl ?_
            refine j_aload_n X (i := 0) dX3_isWord_40 rfl rfl ?_
            refine j_getf X 3 8 rfl cw_X3 fl_X3_141 (by decide) dX3_isWord_41 (inL hL t_1 (by decide)) (FW3 hL t_1) rfl ?_
            refine j_iload_n X (i := 2) dX3_isWord_44 rfl rfl ?_
            refine j_iadd X dX3_isWord_45 ?_
            obtain ⟨x10, h9, hR⟩ := bT_inv hR
            refine j_callV1 X 0 (m_X0_byteAt hl hL h9) ml_X3_153 im_yX0_byteAt se_yX0_byteAt in_X0 cd_yX0_byteAt hy_yX0_byteAt dX3_isWord_46 rfl (inL hL t_2 (by decide)) (FW0 hL t_2) ⟨(by decide), (by decide)⟩ ⟨(by decide), (by decide)⟩ (Nat.le_of_ble_eq_true rfl) (fun _ h => h.elim) (fun r9 L9 f9 h9 => ?_)
            obtain ⟨h91, h92, h93⟩ := h9
            subst r9
            subst f9
            subst L9
            dsimp only [Option.toList, List.cons_append, List.nil_append, List.append]
            refine j_aload_n X (i := 1) dX3_isWord_49 rfl rfl ?_
            refine j_iload_n X (i := 2) dX3_isWord_50 rfl rfl ?_
            obtain ⟨h14, hR⟩ := chkI_inv hR
            obtain ⟨x13, h12, hR⟩ := bT_inv hR
            refine j_callT (As := [.int x5]) X hs0 (c_charAt hl hs0 h14 h12) ml_X3_157 im_yJ0_charAt_5068e se_yJ0_charAt_5068e cd_yJ0_charAt_5068e hy_yJ0_charAt_5068e dX3_isWord_51 ⟨(by decide), (by decide)⟩ ⟨(by decide), (by decide)⟩ (Nat.le_of_ble_eq_true rfl) (fun _ h => h.elim) (fun r9 L9 f9 h9 => ?_)
            obtain ⟨h91, h92, h93⟩ := h9
            subst r9
            subst f9
            subst L9
            dsimp only [Option.toList, List.cons_append, List.nil_append, List.append]
            refine j_icmp_eq X (tgt := 59) dX3_isWord_54 (by decide) (fun h15 => ?_) (fun h15 => ?_)
            · replace hR := (if_pos h15).symm.trans hR
              obtain ⟨x16, h17, hR⟩ := bT_inv hR
              refine j_iinc X x16 dX3_isWord_59 rfl h17 (by decide) (lvOK_s rfl okPrev_ref) ?_
              dsimp only [List.set]
              refine j_goto X (tgt := 28) dX3_isWord_62 (by decide) ?_
              exact J.sub (lvle_of (by simp only [lvle, and_self])) (ih _  hR)
            · replace hR := (if_neg h15).symm.trans hR
              refine j_iconst X (0) dX3_isWord_57 (by decide) ?_
              exact q_zret X hQ dX3_isWord_58 rfl (nar_B isB_0) ⟨(by decide), (by decide)⟩ ⟨rfl, rfl, congrArg (fun z => some (Value.int z)) (Option.some.inj hR), (Option.some.inj hR) ▸ isB_0⟩
      exact J.sub (lvle_of (by simp only [lvle, and_self])) (hb28 _ _  hR)
    · replace hR := (if_neg h4).symm.trans hR
      refine j_iconst X (0) dX3_isWord_24 (by decide) ?_
      exact q_zret X hQ dX3_isWord_25 rfl (nar_B isB_0) ⟨(by decide), (by decide)⟩ ⟨rfl, rfl, congrArg (fun z => some (Value.int z)) (Option.some.inj hR), (Option.some.inj hR) ▸ isB_0⟩
def f_X3_fail (p0 : Int32) (a : Mem) : Mem := if (a 1 5) = 0 then (bT (up2 a 1 5 p0) fun a2 => bT (up2 a2 1 6 (a2 1 8)) fun a4 => a4) else (a)
set_option maxRecDepth 100000 in
set_option maxHeartbeats 4000000 in
theorem m_X3_fail {l : Launch} (hl : l.stackTraces = false) {G : GG} {L : List Nat} (hL : LOK L) {a b c : Mem} {p0 : Int32} {a' : Mem} (hR : f_X3_fail p0 a = a') : Ct l G yX3_fail (.code yX3_fail cX3_fail 2 none) 0 0 0 0 [.ref (ad L 1), .int p0] L (FW G L a b c) px0 (stay L (fun r f1 => f1 = (FW G L a' b c) ∧ r = none)) := by
  refine Ct.ofq (own := RX3) hl rfl (by decide) [some (.ref (ad L 1)), some (.int p0)] rfl (Nat.le_of_ble_eq_true rfl) ?_
  intro p e s m below meth c9 A ar Q hQ X
  unfold f_X3_fail at hR
  refine j_aload_n X (i := 0) dX3_fail_0 rfl rfl ?_
  refine j_getf X 3 5 rfl cw_X3 fl_X3_48 (by decide) dX3_fail_1 (inL hL t_1 (by decide)) (FW3 hL t_1) rfl ?_
  refine j_if_ne X (tgt := 20) dX3_fail_4 (by decide) (fun h1 => ?_) (fun h1 => ?_)
  · replace hR := (if_neg h1).symm.trans hR
    exact q_vret X hQ dX3_fail_20 rfl ⟨(by decide), (by decide)⟩ ⟨rfl, congrArg (fun z => FW G L z b c) hR, rfl⟩
  · replace hR := (if_pos h1).symm.trans hR
    refine j_aload_n X (i := 0) dX3_fail_7 rfl rfl ?_
    refine j_iload_n X (i := 1) dX3_fail_8 rfl rfl ?_
    obtain ⟨a2, h3, hR⟩ := bT_inv hR
    refine tp_X3_5 X hL t_1 h3 fl_X3_48 dX3_fail_9 ?_
    refine j_aload_n X (i := 0) dX3_fail_12 rfl rfl ?_
    refine j_aload_n X (i := 0) dX3_fail_13 rfl rfl ?_
    refine j_getf X 3 8 rfl cw_X3 fl_X3_141 (by decide) dX3_fail_14 (inL hL t_1 (by decide)) (FW3 hL t_1) rfl ?_
    obtain ⟨a4, h5, hR⟩ := bT_inv hR
    refine tp_X3_6 X hL t_1 h5 fl_X3_29 dX3_fail_17 ?_
    exact q_vret X hQ dX3_fail_20 rfl ⟨(by decide), (by decide)⟩ ⟨rfl, congrArg (fun z => FW G L z b c) hR, rfl⟩
def f_X3_takeWord (N : Nat) (p0 : Nat) (a : Mem) : Option Mem := bP (f_X3_isWord N p0 a) fun x2 => if x2 = 0 then (bT (f_X3_fail (1 : Int32) a) fun a10 => if (a10 1 5) = 0 then (bP (f_X3_readToken N a10) fun a14 => some a14) else (some a10)) else (if (a 1 5) = 0 then (bP (f_X3_readToken N a) fun a7 => some a7) else (some a))
set_option maxRecDepth 100000 in
set_option maxHeartbeats 4000000 in
theorem m_X3_takeWord {l : Launch} (hl : l.stackTraces = false) {G : GG} {L : List Nat} (hL : LOK L) {a b c : Mem} {N : Nat} {p0 : Nat} (hs0 : p0 < 57) {a' : Mem} (hR : f_X3_takeWord N p0 a = some a') : Ct l G yX3_takeWord (.code yX3_takeWord cX3_takeWord 2 none) 6 145 0 0 [.ref (ad L 1), .ref (G.2.2.1 p0)] L (FW G L a b c) px0 (stay L (fun r f1 => f1 = (FW G L a' b c) ∧ r = none)) := by
  refine Ct.ofq (own := RX3) hl rfl (by decide) [some (.ref (ad L 1)), some (.ref (G.2.2.1 p0))] rfl (Nat.le_of_ble_eq_true rfl) ?_
  intro p e s m below meth c9 A ar Q hQ X
  unfold f_X3_takeWord at hR
  refine j_aload_n X (i := 0) dX3_takeWord_0 rfl rfl ?_
  refine j_aload_n X (i := 1) dX3_takeWord_1 rfl rfl ?_
  obtain ⟨x2, h1, hR⟩ := bP_inv hR
  refine j_callV1 X 3 (m_X3_isWord hl hL hs0 h1) ml_X3_40 im_yX3_isWord se_yX3_isWord in_X3 cd_yX3_isWord hy_yX3_isWord dX3_takeWord_2 rfl (inL hL t_1 (by decide)) (FW3 hL t_1) ⟨(by decide), (by decide)⟩ ⟨(by decide), (by decide)⟩ (Nat.le_of_ble_eq_true rfl) (fun _ h => h.elim) (fun r9 L9 f9 h9 => ?_)
  obtain ⟨h91, h92, h93, h3⟩ := h9
  subst r9
  subst f9
  subst L9
  dsimp only [Option.toList, List.cons_append, List.nil_append, List.append]
  refine j_if_ne X (tgt := 13) dX3_takeWord_5 (by decide) (fun h4 => ?_) (fun h4 => ?_)
  · replace hR := (if_neg h4).symm.trans hR
    refine j_aload_n X (i := 0) dX3_takeWord_13 rfl rfl ?_
    refine j_getf X 3 5 rfl cw_X3 fl_X3_48 (by decide) dX3_takeWord_14 (inL hL t_1 (by decide)) (FW3 hL t_1) rfl ?_
    refine j_if_ne X (tgt := 24) dX3_takeWord_17 (by decide) (fun h5 => ?_) (fun h5 => ?_)
    · replace hR := (if_neg h5).symm.trans hR
      exact q_vret X hQ dX3_takeWord_24 rfl ⟨(by decide), (by decide)⟩ ⟨rfl, congrArg (fun z => FW G L z b c) (Option.some.inj hR), rfl⟩
    · replace hR := (if_pos h5).symm.trans hR
      refine j_aload_n X (i := 0) dX3_takeWord_20 rfl rfl ?_
      obtain ⟨a7, h6, hR⟩ := bP_inv hR
      refine j_callV0 X 3 (m_X3_readToken hl hL h6) ml_X3_35 im_yX3_readToken se_yX3_readToken in_X3 cd_yX3_readToken hy_yX3_readToken dX3_takeWord_21 rfl (inL hL t_1 (by decide)) (FW3 hL t_1) ⟨(by decide), (by decide)⟩ ⟨(by decide), (by decide)⟩ (Nat.le_of_ble_eq_true rfl) (fun _ h => h.elim) (fun r9 L9 f9 h9 => ?_)
      obtain ⟨h91, h92, h93⟩ := h9
      subst r9
      subst f9
      subst L9
      dsimp only [Option.toList, List.cons_append, List.nil_append, List.append]
      exact q_vret X hQ dX3_takeWord_24 rfl ⟨(by decide), (by decide)⟩ ⟨rfl, congrArg (fun z => FW G L z b c) (Option.some.inj hR), rfl⟩
  · replace hR := (if_pos h4).symm.trans hR
    refine j_aload_n X (i := 0) dX3_takeWord_8 rfl rfl ?_
    refine j_iconst X (1) dX3_takeWord_9 (by decide) ?_
    obtain ⟨a10, h9, hR⟩ := bT_inv hR
    refine j_callV1 X 3 (m_X3_fail hl hL h9) ml_X3_44 im_yX3_fail se_yX3_fail in_X3 cd_yX3_fail hy_yX3_fail dX3_takeWord_10 rfl (inL hL t_1 (by decide)) (FW3 hL t_1) ⟨(by decide), (by decide)⟩ ⟨(by decide), (by decide)⟩ (Nat.le_of_ble_eq_true rfl) (fun _ h => h.elim) (fun r9 L9 f9 h9 => ?_)
    obtain ⟨h91, h92, h93⟩ := h9
    subst r9
    subst f9
    subst L9
    dsimp only [Option.toList, List.cons_append, List.nil_append, List.append]
    refine j_aload_n X (i := 0) dX3_takeWord_13 rfl rfl ?_
    refine j_getf X 3 5 rfl cw_X3 fl_X3_48 (by decide) dX3_takeWord_14 (inL hL t_1 (by decide)) (FW3 hL t_1) rfl ?_
    refine j_if_ne X (tgt := 24) dX3_takeWord_17 (by decide) (fun h12 => ?_) (fun h12 => ?_)
    · replace hR := (if_neg h12).symm.trans hR
      exact q_vret X hQ dX3_takeWord_24 rfl ⟨(by decide), (by decide)⟩ ⟨rfl, congrArg (fun z => FW G L z b c) (Option.some.inj hR), rfl⟩
    · replace hR := (if_pos h12).symm.trans hR
      refine j_aload_n X (i := 0) dX3_takeWord_20 rfl rfl ?_
      obtain ⟨a14, h13, hR⟩ := bP_inv hR
      refine j_callV0 X 3 (m_X3_readToken hl hL h13) ml_X3_35 im_yX3_readToken se_yX3_readToken in_X3 cd_yX3_readToken hy_yX3_readToken dX3_takeWord_21 rfl (inL hL t_1 (by decide)) (FW3 hL t_1) ⟨(by decide), (by decide)⟩ ⟨(by decide), (by decide)⟩ (Nat.le_of_ble_eq_true rfl) (fun _ h => h.elim) (fun r9 L9 f9 h9 => ?_)
      obtain ⟨h91, h92, h93⟩ := h9
      subst r9
      subst f9
      subst L9
      dsimp only [Option.toList, List.cons_append, List.nil_append, List.append]
      exact q_vret X hQ dX3_takeWord_24 rfl ⟨(by decide), (by decide)⟩ ⟨rfl, congrArg (fun z => FW G L z b c) (Option.some.inj hR), rfl⟩
def f_X3_takeNumber_37 (N : Nat)  (a1 : Mem) : Option (Int32 × Mem) := if (a1 1 5) = 0 then (bT (a1 1 10) fun x3 => bP (f_X3_readToken N a1) fun a6 => some (x3, a6)) else (some ((0 : Int32), a1))
def f_X3_takeNumber_32 (N : Nat) (a : Mem)  : Option (Int32 × Mem) := bT (f_X3_fail (2 : Int32) a) fun a10 => f_X3_takeNumber_37 N a10
def f_X3_takeNumber (N : Nat) (p0 : Int32) (p1 : Int32) (a : Mem) : Option (Int32 × Mem) := if (a 1 7) = (3 : Int32) then (if (a 1 10) < p0 then (f_X3_takeNumber_32 N a ) else (if (a 1 10) ≤ p1 then (f_X3_takeNumber_37 N a) else (f_X3_takeNumber_32 N a ))) else (bT (f_X3_fail (1 : Int32) a) fun a15 => f_X3_takeNumber_37 N a15)
set_option maxRecDepth 100000 in
set_option maxHeartbeats 4000000 in
theorem m_X3_takeNumber {l : Launch} (hl : l.stackTraces = false) {G : GG} {L : List Nat} (hL : LOK L) {a b c : Mem} {N : Nat} {p0 : Int32} {p1 : Int32} {v : Int32} {a' : Mem} (hR : f_X3_takeNumber N p0 p1 a = some (v, a')) : Ct l G yX3_takeNumber (.code yX3_takeNumber cX3_takeNumber 4 (some .int)) 2 44 0 0 [.ref (ad L 1), .int p0, .int p1] L (FW G L a b c) px0 (stay L (fun r f1 => f1 = (FW G L a' b c) ∧ r = some (.int v))) := by
  refine Ct.ofq (own := RX3) hl rfl (by decide) [some (.ref (ad L 1)), some (.int p0), some (.int p1), none] rfl (Nat.le_of_ble_eq_true rfl) ?_
  intro p e s m below meth c9 A ar Q hQ X
  unfold f_X3_takeNumber at hR
  refine j_aload_n X (i := 0) dX3_takeNumber_0 rfl rfl ?_
  refine j_getf X 3 7 rfl cw_X3 fl_X3_51 (by decide) dX3_takeNumber_1 (inL hL t_1 (by decide)) (FW3 hL t_1) rfl ?_
  refine j_iconst X (3) dX3_takeNumber_4 (by decide) ?_
  have hb37 : ∀ (a1 : Mem) , f_X3_takeNumber_37 N a1 = some (v, a') → J G p l e ({ frames := 2, cells := 0, slots := 0, locals := 44 } : Room) s m ar below meth c9 A Q 4 0 0 37 [some (.ref (ad L 1)), none, none, none] [] L (FW G L a1 b c) := by
    intro a1 hR
    unfold f_X3_takeNumber_37 at hR
    refine j_aload_n X (i := 0) dX3_takeNumber_37 rfl rfl ?_
    refine j_getf X 3 5 rfl cw_X3 fl_X3_48 (by decide) dX3_takeNumber_38 (inL hL t_1 (by decide)) (FW3 hL t_1) rfl ?_
    refine j_if_eq X (tgt := 46) dX3_takeNumber_41 (by decide) (fun h2 => ?_) (fun h2 => ?_)
    · replace hR := (if_pos h2).symm.trans hR
      refine j_aload_n X (i := 0) dX3_takeNumber_46 rfl rfl ?_
      refine j_getf X 3 10 rfl cw_X3 fl_X3_144 (by decide) dX3_takeNumber_47 (inL hL t_1 (by decide)) (FW3 hL t_1) rfl ?_
      obtain ⟨x3, h4, hR⟩ := bT_inv hR
      refine J.eqi h4 ?_
      refine j_istore_n X (i := 3) dX3_takeNumber_50 rfl (by decide) (lvOK_s rfl okPrev_none) ?_
      dsimp only [List.set]
      refine j_aload_n X (i := 0) dX3_takeNumber_51 rfl rfl ?_
      obtain ⟨a6, h5, hR⟩ := bP_inv hR
      refine j_callV0 X 3 (m_X3_readToken hl hL h5) ml_X3_35 im_yX3_readToken se_yX3_readToken in_X3 cd_yX3_readToken hy_yX3_readToken dX3_takeNumber_52 rfl (inL hL t_1 (by decide)) (FW3 hL t_1) ⟨(by decide), (by decide)⟩ ⟨(by decide), (by decide)⟩ (Nat.le_of_ble_eq_true rfl) (fun _ h => h.elim) (fun r9 L9 f9 h9 => ?_)
      obtain ⟨h91, h92, h93⟩ := h9
      subst r9
      subst f9
      subst L9
      dsimp only [Option.toList, List.cons_append, List.nil_append, List.append]
      refine j_iload_n X (i := 3) dX3_takeNumber_55 rfl rfl ?_
      exact q_iret X hQ dX3_takeNumber_56 rfl ⟨(by decide), (by decide)⟩ ⟨rfl, congrArg (fun z => FW G L z b c) (Prod.mk.inj (Option.some.inj hR)).2, congrArg (fun z => some (Value.int z)) (Prod.mk.inj (Option.some.inj hR)).1⟩
    · replace hR := (if_neg h2).symm.trans hR
      refine j_iconst X (0) dX3_takeNumber_44 (by decide) ?_
      exact q_iret X hQ dX3_takeNumber_45 rfl ⟨(by decide), (by decide)⟩ ⟨rfl, congrArg (fun z => FW G L z b c) (Prod.mk.inj (Option.some.inj hR)).2, congrArg (fun z => some (Value.int z)) (Prod.mk.inj (Option.some.inj hR)).1⟩
  refine j_icmp_eq X (tgt := 16) dX3_takeNumber_5 (by decide) (fun h8 => ?_) (fun h8 => ?_)
  · replace hR := (if_pos h8).symm.trans hR
    refine j_aload_n X (i := 0) dX3_takeNumber_16 rfl rfl ?_
    refine j_getf X 3 10 rfl cw_X3 fl_X3_144 (by decide) dX3_takeNumber_17 (inL hL t_1 (by decide)) (FW3 hL t_1) rfl ?_
    refine j_iload_n X (i := 1) dX3_takeNumber_20 rfl rfl ?_
    have hb32 : f_X3_takeNumber_32 N a = some (v, a') → J G p l e ({ frames := 2, cells := 0, slots := 0, locals := 44 } : Room) s m ar below meth c9 A Q 4 0 0 32 [some (.ref (ad L 1)), none, none, none] [] L (FW G L a b c) := by
      intro hR
      unfold f_X3_takeNumber_32 at hR
      refine j_aload_n X (i := 0) dX3_takeNumber_32 rfl rfl ?_
      refine j_iconst X (2) dX3_takeNumber_33 (by decide) ?_
      obtain ⟨a10, h9, hR⟩ := bT_inv hR
      refine j_callV1 X 3 (m_X3_fail hl hL h9) ml_X3_44 im_yX3_fail se_yX3_fail in_X3 cd_yX3_fail hy_yX3_fail dX3_takeNumber_34 rfl (inL hL t_1 (by decide)) (FW3 hL t_1) ⟨(by decide), (by decide)⟩ ⟨(by decide), (by decide)⟩ (Nat.le_of_ble_eq_true rfl) (fun _ h => h.elim) (fun r9 L9 f9 h9 => ?_)
      obtain ⟨h91, h92, h93⟩ := h9
      subst r9
      subst f9
      subst L9
      dsimp only [Option.toList, List.cons_append, List.nil_append, List.append]
      exact J.sub (lvle_of (by simp only [lvle, and_self])) (hb37 _  hR)
    refine j_icmp_lt X (tgt := 32) dX3_takeNumber_21 (by decide) (fun h12 => ?_) (fun h12 => ?_)
    · replace hR := (if_pos h12).symm.trans hR
      exact J.sub (lvle_of (by simp only [lvle, and_self])) (hb32 hR)
    · replace hR := (if_neg h12).symm.trans hR
      refine j_aload_n X (i := 0) dX3_takeNumber_24 rfl rfl ?_
      refine j_getf X 3 10 rfl cw_X3 fl_X3_144 (by decide) dX3_takeNumber_25 (inL hL t_1 (by decide)) (FW3 hL t_1) rfl ?_
      refine j_iload_n X (i := 2) dX3_takeNumber_28 rfl rfl ?_
      refine j_icmp_le X (tgt := 37) dX3_takeNumber_29 (by decide) (fun h13 => ?_) (fun h13 => ?_)
      · replace hR := (if_pos h13).symm.trans hR
        exact J.sub (lvle_of (by simp only [lvle, and_self])) (hb37 _  hR)
      · replace hR := (if_neg h13).symm.trans hR
        exact J.sub (lvle_of (by simp only [lvle, and_self])) (hb32 hR)
  · replace hR := (if_neg h8).symm.trans hR
    refine j_aload_n X (i := 0) dX3_takeNumber_8 rfl rfl ?_
    refine j_iconst X (1) dX3_takeNumber_9 (by decide) ?_
    obtain ⟨a15, h14, hR⟩ := bT_inv hR
    refine j_callV1 X 3 (m_X3_fail hl hL h14) ml_X3_44 im_yX3_fail se_yX3_fail in_X3 cd_yX3_fail hy_yX3_fail dX3_takeNumber_10 rfl (inL hL t_1 (by decide)) (FW3 hL t_1) ⟨(by decide), (by decide)⟩ ⟨(by decide), (by decide)⟩ (Nat.le_of_ble_eq_true rfl) (fun _ h => h.elim) (fun r9 L9 f9 h9 => ?_)
    obtain ⟨h91, h92, h93⟩ := h9
    subst r9
    subst f9
    subst L9
    dsimp only [Option.toList, List.cons_append, List.nil_append, List.append]
    refine j_goto X (tgt := 37) dX3_takeNumber_13 (by decide) ?_
    exact J.sub (lvle_of (by simp only [lvle, and_self])) (hb37 _  hR)
def f_X3_takeOption (N : Nat) (p0 : Nat) (a : Mem) : Option (Int32 × Mem) := if (a 1 5) = 0 then (bP (f_X3_isWord N p0 a) fun x3 => if x3 = 0 then (some ((0 : Int32), a)) else (bP (f_X3_takeWord N p0 a) fun a7 => bP2 (f_X3_takeNumber N (0 : Int32) (999 : Int32) a7) fun x10 a11 => some (x10, a11))) else (some ((0 : Int32), a))
set_option maxRecDepth 100000 in
set_option maxHeartbeats 4000000 in
theorem m_X3_takeOption {l : Launch} (hl : l.stackTraces = false) {G : GG} {L : List Nat} (hL : LOK L) {a b c : Mem} {N : Nat} {p0 : Nat} (hs0 : p0 < 57) {v : Int32} {a' : Mem} (hR : f_X3_takeOption N p0 a = some (v, a')) : Ct l G yX3_takeOption (.code yX3_takeOption cX3_takeOption 2 (some .int)) 7 166 0 0 [.ref (ad L 1), .ref (G.2.2.1 p0)] L (FW G L a b c) px0 (stay L (fun r f1 => f1 = (FW G L a' b c) ∧ r = some (.int v))) := by
  refine Ct.ofq (own := RX3) hl rfl (by decide) [some (.ref (ad L 1)), some (.ref (G.2.2.1 p0))] rfl (Nat.le_of_ble_eq_true rfl) ?_
  intro p e s m below meth c9 A ar Q hQ X
  unfold f_X3_takeOption at hR
  refine j_aload_n X (i := 0) dX3_takeOption_0 rfl rfl ?_
  refine j_getf X 3 5 rfl cw_X3 fl_X3_48 (by decide) dX3_takeOption_1 (inL hL t_1 (by decide)) (FW3 hL t_1) rfl ?_
  refine j_if_ne X (tgt := 15) dX3_takeOption_4 (by decide) (fun h1 => ?_) (fun h1 => ?_)
  · replace hR := (if_neg h1).symm.trans hR
    refine j_iconst X (0) dX3_takeOption_15 (by decide) ?_
    exact q_iret X hQ dX3_takeOption_16 rfl ⟨(by decide), (by decide)⟩ ⟨rfl, congrArg (fun z => FW G L z b c) (Prod.mk.inj (Option.some.inj hR)).2, congrArg (fun z => some (Value.int z)) (Prod.mk.inj (Option.some.inj hR)).1⟩
  · replace hR := (if_pos h1).symm.trans hR
    refine j_aload_n X (i := 0) dX3_takeOption_7 rfl rfl ?_
    refine j_aload_n X (i := 1) dX3_takeOption_8 rfl rfl ?_
    obtain ⟨x3, h2, hR⟩ := bP_inv hR
    refine j_callV1 X 3 (m_X3_isWord hl hL hs0 h2) ml_X3_40 im_yX3_isWord se_yX3_isWord in_X3 cd_yX3_isWord hy_yX3_isWord dX3_takeOption_9 rfl (inL hL t_1 (by decide)) (FW3 hL t_1) ⟨(by decide), (by decide)⟩ ⟨(by decide), (by decide)⟩ (Nat.le_of_ble_eq_true rfl) (fun _ h => h.elim) (fun r9 L9 f9 h9 => ?_)
    obtain ⟨h91, h92, h93, h4⟩ := h9
    subst r9
    subst f9
    subst L9
    dsimp only [Option.toList, List.cons_append, List.nil_append, List.append]
    refine j_if_ne X (tgt := 17) dX3_takeOption_12 (by decide) (fun h5 => ?_) (fun h5 => ?_)
    · replace hR := (if_neg h5).symm.trans hR
      refine j_aload_n X (i := 0) dX3_takeOption_17 rfl rfl ?_
      refine j_aload_n X (i := 1) dX3_takeOption_18 rfl rfl ?_
      obtain ⟨a7, h6, hR⟩ := bP_inv hR
      refine j_callV1 X 3 (m_X3_takeWord hl hL hs0 h6) ml_X3_94 im_yX3_takeWord se_yX3_takeWord in_X3 cd_yX3_takeWord hy_yX3_takeWord dX3_takeOption_19 rfl (inL hL t_1 (by decide)) (FW3 hL t_1) ⟨(by decide), (by decide)⟩ ⟨(by decide), (by decide)⟩ (Nat.le_of_ble_eq_true rfl) (fun _ h => h.elim) (fun r9 L9 f9 h9 => ?_)
      obtain ⟨h91, h92, h93⟩ := h9
      subst r9
      subst f9
      subst L9
      dsimp only [Option.toList, List.cons_append, List.nil_append, List.append]
      refine j_aload_n X (i := 0) dX3_takeOption_22 rfl rfl ?_
      refine j_iconst X (0) dX3_takeOption_23 (by decide) ?_
      refine j_sipush X (999) dX3_takeOption_24 (by decide) ?_
      obtain ⟨x10, a11, h9, hR⟩ := bP2_inv hR
      refine j_callV2 X 3 (m_X3_takeNumber hl hL h9) ml_X3_100 im_yX3_takeNumber se_yX3_takeNumber in_X3 cd_yX3_takeNumber hy_yX3_takeNumber dX3_takeOption_27 rfl (inL hL t_1 (by decide)) (FW3 hL t_1) ⟨(by decide), (by decide)⟩ ⟨(by decide), (by decide)⟩ (Nat.le_of_ble_eq_true rfl) (fun _ h => h.elim) (fun r9 L9 f9 h9 => ?_)
      obtain ⟨h91, h92, h93⟩ := h9
      subst r9
      subst f9
      subst L9
      dsimp only [Option.toList, List.cons_append, List.nil_append, List.append]
      exact q_iret X hQ dX3_takeOption_30 rfl ⟨(by decide), (by decide)⟩ ⟨rfl, congrArg (fun z => FW G L z b c) (Prod.mk.inj (Option.some.inj hR)).2, congrArg (fun z => some (Value.int z)) (Prod.mk.inj (Option.some.inj hR)).1⟩
    · replace hR := (if_pos h5).symm.trans hR
      refine j_iconst X (0) dX3_takeOption_15 (by decide) ?_
      exact q_iret X hQ dX3_takeOption_16 rfl ⟨(by decide), (by decide)⟩ ⟨rfl, congrArg (fun z => FW G L z b c) (Prod.mk.inj (Option.some.inj hR)).2, congrArg (fun z => some (Value.int z)) (Prod.mk.inj (Option.some.inj hR)).1⟩
def f_X3_takeSemicolon_17 (N : Nat) (a : Mem)  : Option Mem := bT (f_X3_fail (1 : Int32) a) fun a2 => if (a2 1 5) = 0 then (bP (f_X3_readToken N a2) fun a6 => some a6) else (some a2)
def f_X3_takeSemicolon (N : Nat) (a : Mem) : Option Mem := if (a 1 7) = (4 : Int32) then (if (a 1 10) = (59 : Int32) then (if (a 1 5) = 0 then (bP (f_X3_readToken N a) fun a12 => some a12) else (some a)) else (f_X3_takeSemicolon_17 N a )) else (f_X3_takeSemicolon_17 N a )
set_option maxRecDepth 100000 in
set_option maxHeartbeats 4000000 in
theorem m_X3_takeSemicolon {l : Launch} (hl : l.stackTraces = false) {G : GG} {L : List Nat} (hL : LOK L) {a b c : Mem} {N : Nat}  {a' : Mem} (hR : f_X3_takeSemicolon N a = some a') : Ct l G yX3_takeSemicolon (.code yX3_takeSemicolon cX3_takeSemicolon 1 none) 2 44 0 0 [.ref (ad L 1)] L (FW G L a b c) px0 (stay L (fun r f1 => f1 = (FW G L a' b c) ∧ r = none)) := by
  refine Ct.ofq (own := RX3) hl rfl (by decide) [some (.ref (ad L 1))] rfl (Nat.le_of_ble_eq_true rfl) ?_
  intro p e s m below meth c9 A ar Q hQ X
  unfold f_X3_takeSemicolon at hR
  refine j_aload_n X (i := 0) dX3_takeSemicolon_0 rfl rfl ?_
  refine j_getf X 3 7 rfl cw_X3 fl_X3_51 (by decide) dX3_takeSemicolon_1 (inL hL t_1 (by decide)) (FW3 hL t_1) rfl ?_
  refine j_iconst X (4) dX3_takeSemicolon_4 (by decide) ?_
  have hb17 : f_X3_takeSemicolon_17 N a = some a' → J G p l e ({ frames := 2, cells := 0, slots := 0, locals := 44 } : Room) s m ar below meth c9 A Q 1 0 0 17 [some (.ref (ad L 1))] [] L (FW G L a b c) := by
    intro hR
    unfold f_X3_takeSemicolon_17 at hR
    refine j_aload_n X (i := 0) dX3_takeSemicolon_17 rfl rfl ?_
    refine j_iconst X (1) dX3_takeSemicolon_18 (by decide) ?_
    obtain ⟨a2, h1, hR⟩ := bT_inv hR
    refine j_callV1 X 3 (m_X3_fail hl hL h1) ml_X3_44 im_yX3_fail se_yX3_fail in_X3 cd_yX3_fail hy_yX3_fail dX3_takeSemicolon_19 rfl (inL hL t_1 (by decide)) (FW3 hL t_1) ⟨(by decide), (by decide)⟩ ⟨(by decide), (by decide)⟩ (Nat.le_of_ble_eq_true rfl) (fun _ h => h.elim) (fun r9 L9 f9 h9 => ?_)
    obtain ⟨h91, h92, h93⟩ := h9
    subst r9
    subst f9
    subst L9
    dsimp only [Option.toList, List.cons_append, List.nil_append, List.append]
    refine j_aload_n X (i := 0) dX3_takeSemicolon_22 rfl rfl ?_
    refine j_getf X 3 5 rfl cw_X3 fl_X3_48 (by decide) dX3_takeSemicolon_23 (inL hL t_1 (by decide)) (FW3 hL t_1) rfl ?_
    refine j_if_ne X (tgt := 33) dX3_takeSemicolon_26 (by decide) (fun h4 => ?_) (fun h4 => ?_)
    · replace hR := (if_neg h4).symm.trans hR
      exact q_vret X hQ dX3_takeSemicolon_33 rfl ⟨(by decide), (by decide)⟩ ⟨rfl, congrArg (fun z => FW G L z b c) (Option.some.inj hR), rfl⟩
    · replace hR := (if_pos h4).symm.trans hR
      refine j_aload_n X (i := 0) dX3_takeSemicolon_29 rfl rfl ?_
      obtain ⟨a6, h5, hR⟩ := bP_inv hR
      refine j_callV0 X 3 (m_X3_readToken hl hL h5) ml_X3_35 im_yX3_readToken se_yX3_readToken in_X3 cd_yX3_readToken hy_yX3_readToken dX3_takeSemicolon_30 rfl (inL hL t_1 (by decide)) (FW3 hL t_1) ⟨(by decide), (by decide)⟩ ⟨(by decide), (by decide)⟩ (Nat.le_of_ble_eq_true rfl) (fun _ h => h.elim) (fun r9 L9 f9 h9 => ?_)
      obtain ⟨h91, h92, h93⟩ := h9
      subst r9
      subst f9
      subst L9
      dsimp only [Option.toList, List.cons_append, List.nil_append, List.append]
      exact q_vret X hQ dX3_takeSemicolon_33 rfl ⟨(by decide), (by decide)⟩ ⟨rfl, congrArg (fun z => FW G L z b c) (Option.some.inj hR), rfl⟩
  refine j_icmp_ne X (tgt := 17) dX3_takeSemicolon_5 (by decide) (fun h8 => ?_) (fun h8 => ?_)
  · replace hR := (if_neg h8).symm.trans hR
    exact J.sub (lvle_of (by simp only [lvle, and_self])) (hb17 hR)
  · replace hR := (if_pos h8).symm.trans hR
    refine j_aload_n X (i := 0) dX3_takeSemicolon_8 rfl rfl ?_
    refine j_getf X 3 10 rfl cw_X3 fl_X3_144 (by decide) dX3_takeSemicolon_9 (inL hL t_1 (by decide)) (FW3 hL t_1) rfl ?_
    refine j_bipush X (59) dX3_takeSemicolon_12 (by decide) ?_
    refine j_icmp_eq X (tgt := 22) dX3_takeSemicolon_14 (by decide) (fun h9 => ?_) (fun h9 => ?_)
    · replace hR := (if_pos h9).symm.trans hR
      refine j_aload_n X (i := 0) dX3_takeSemicolon_22 rfl rfl ?_
      refine j_getf X 3 5 rfl cw_X3 fl_X3_48 (by decide) dX3_takeSemicolon_23 (inL hL t_1 (by decide)) (FW3 hL t_1) rfl ?_
      refine j_if_ne X (tgt := 33) dX3_takeSemicolon_26 (by decide) (fun h10 => ?_) (fun h10 => ?_)
      · replace hR := (if_neg h10).symm.trans hR
        exact q_vret X hQ dX3_takeSemicolon_33 rfl ⟨(by decide), (by decide)⟩ ⟨rfl, congrArg (fun z => FW G L z b c) (Option.some.inj hR), rfl⟩
      · replace hR := (if_pos h10).symm.trans hR
        refine j_aload_n X (i := 0) dX3_takeSemicolon_29 rfl rfl ?_
        obtain ⟨a12, h11, hR⟩ := bP_inv hR
        refine j_callV0 X 3 (m_X3_readToken hl hL h11) ml_X3_35 im_yX3_readToken se_yX3_readToken in_X3 cd_yX3_readToken hy_yX3_readToken dX3_takeSemicolon_30 rfl (inL hL t_1 (by decide)) (FW3 hL t_1) ⟨(by decide), (by decide)⟩ ⟨(by decide), (by decide)⟩ (Nat.le_of_ble_eq_true rfl) (fun _ h => h.elim) (fun r9 L9 f9 h9 => ?_)
        obtain ⟨h91, h92, h93⟩ := h9
        subst r9
        subst f9
        subst L9
        dsimp only [Option.toList, List.cons_append, List.nil_append, List.append]
        exact q_vret X hQ dX3_takeSemicolon_33 rfl ⟨(by decide), (by decide)⟩ ⟨rfl, congrArg (fun z => FW G L z b c) (Option.some.inj hR), rfl⟩
    · replace hR := (if_neg h9).symm.trans hR
      exact J.sub (lvle_of (by simp only [lvle, and_self])) (hb17 hR)
def f_X3_readPeriod_43 (N : Nat) (x1 : Int32) (a3 : Mem) : Option Mem := bP (f_X3_takeWord N 0 a3) fun a5 => bP (f_X3_takeWord N 1 a5) fun a8 => bP2 (f_X3_takeNumber N (0 : Int32) (60 : Int32) a8) fun x11 a12 => bT (f_X4_setNumber 4 x1 (0 : Int32) x11 a12) fun a15 => bP (f_X3_takeWord N 2 a15) fun a18 => bP2 (f_X3_takeNumber N (1 : Int32) (99999 : Int32) a18) fun x21 a22 => bT (f_X4_setNumber 4 x1 (1 : Int32) x21 a22) fun a25 => bP2 (f_X3_takeOption N 3 a25) fun x28 a29 => bT (f_X4_setNumber 4 x1 (2 : Int32) x28 a29) fun a32 => bP2 (f_X3_takeOption N 4 a32) fun x35 a36 => bT (f_X4_setNumber 4 x1 (3 : Int32) x35 a36) fun a39 => bP2 (f_X3_takeOption N 5 a39) fun x42 a43 => bT (f_X4_setNumber 4 x1 (4 : Int32) x42 a43) fun a46 => bP (f_X3_takeSemicolon N a46) fun a49 => bT (up2 a49 4 1 ((a49 4 1) + (1 : Int32))) fun a51 => some a51
def f_X3_readPeriod (N : Nat) (a : Mem) : Option Mem := bT (a 4 1) fun x1 => if x1 < (5 : Int32) then (if x1 ≤ 0 then (f_X3_readPeriod_43 N x1 a) else (bT (f_X4_isEndless 4 (x1 - (1 : Int32)) a) fun x56 => if x56 = 0 then (f_X3_readPeriod_43 N x1 a) else (bT (f_X3_fail (4 : Int32) a) fun a60 => f_X3_readPeriod_43 N x1 a60))) else (bT (f_X3_fail (3 : Int32) a) fun a63 => f_X3_readPeriod_43 N x1 a63)
set_option maxRecDepth 100000 in
set_option maxHeartbeats 4000000 in
theorem m_X3_readPeriod {l : Launch} (hl : l.stackTraces = false) {G : GG} {L : List Nat} (hL : LOK L) {a b c : Mem} {N : Nat}  {a' : Mem} (hR : f_X3_readPeriod N a = some a') : Ct l G yX3_readPeriod (.code yX3_readPeriod cX3_readPeriod 2 none) 8 187 0 0 [.ref (ad L 1)] L (FW G L a b c) px0 (stay L (fun r f1 => f1 = (FW G L a' b c) ∧ r = none)) := by
  refine Ct.ofq (own := RX3) hl rfl (by decide) [some (.ref (ad L 1)), none] rfl (Nat.le_of_ble_eq_true rfl) ?_
  intro p e s m below meth c9 A ar Q hQ X
  unfold f_X3_readPeriod at hR
  refine j_aload_n X (i := 0) dX3_readPeriod_0 rfl rfl ?_
  refine j_getf X 3 1 rfl cw_X3 fl_X3_21 (by decide) dX3_readPeriod_1 (inL hL t_1 (by decide)) (FW3 hL t_1) rfl ?_
  refine j_getf X 4 1 rfl cw_X4 fl_X3_87 (by decide) dX3_readPeriod_4 (inL hL t_4 (by decide)) (FW4 hL t_4) rfl ?_
  obtain ⟨x1, h2, hR⟩ := bT_inv hR
  refine J.eqi h2 ?_
  refine j_istore_n X (i := 1) dX3_readPeriod_7 rfl (by decide) (lvOK_s rfl okPrev_ref) ?_
  dsimp only [List.set]
  refine j_iload_n X (i := 1) dX3_readPeriod_8 rfl rfl ?_
  refine j_iconst X (5) dX3_readPeriod_9 (by decide) ?_
  have hb43 : ∀ (a3 : Mem) , f_X3_readPeriod_43 N x1 a3 = some a' → J G p l e ({ frames := 8, cells := 0, slots := 0, locals := 187 } : Room) s m ar below meth c9 A Q 2 0 0 43 [some (.ref (ad L 1)), some (.int x1)] [] L (FW G L a3 b c) := by
    intro a3 hR
    unfold f_X3_readPeriod_43 at hR
    refine j_aload_n X (i := 0) dX3_readPeriod_43 rfl rfl ?_
    refine j_ldcS X 0 dX3_readPeriod_44 rfl ?_
    obtain ⟨a5, h4, hR⟩ := bP_inv hR
    refine j_callV1 X 3 (m_X3_takeWord hl hL (by decide) h4) ml_X3_94 im_yX3_takeWord se_yX3_takeWord in_X3 cd_yX3_takeWord hy_yX3_takeWord dX3_readPeriod_46 rfl (inL hL t_1 (by decide)) (FW3 hL t_1) ⟨(by decide), (by decide)⟩ ⟨(by decide), (by decide)⟩ (Nat.le_of_ble_eq_true rfl) (fun _ h => h.elim) (fun r9 L9 f9 h9 => ?_)
    obtain ⟨h91, h92, h93⟩ := h9
    subst r9
    subst f9
    subst L9
    dsimp only [Option.toList, List.cons_append, List.nil_append, List.append]
    refine j_aload_n X (i := 0) dX3_readPeriod_49 rfl rfl ?_
    refine j_ldcS X 1 dX3_readPeriod_50 rfl ?_
    obtain ⟨a8, h7, hR⟩ := bP_inv hR
    refine j_callV1 X 3 (m_X3_takeWord hl hL (by decide) h7) ml_X3_94 im_yX3_takeWord se_yX3_takeWord in_X3 cd_yX3_takeWord hy_yX3_takeWord dX3_readPeriod_52 rfl (inL hL t_1 (by decide)) (FW3 hL t_1) ⟨(by decide), (by decide)⟩ ⟨(by decide), (by decide)⟩ (Nat.le_of_ble_eq_true rfl) (fun _ h => h.elim) (fun r9 L9 f9 h9 => ?_)
    obtain ⟨h91, h92, h93⟩ := h9
    subst r9
    subst f9
    subst L9
    dsimp only [Option.toList, List.cons_append, List.nil_append, List.append]
    refine j_aload_n X (i := 0) dX3_readPeriod_55 rfl rfl ?_
    refine j_getf X 3 1 rfl cw_X3 fl_X3_21 (by decide) dX3_readPeriod_56 (inL hL t_1 (by decide)) (FW3 hL t_1) rfl ?_
    refine j_iload_n X (i := 1) dX3_readPeriod_59 rfl rfl ?_
    refine j_iconst X (0) dX3_readPeriod_60 (by decide) ?_
    refine j_aload_n X (i := 0) dX3_readPeriod_61 rfl rfl ?_
    refine j_iconst X (0) dX3_readPeriod_62 (by decide) ?_
    refine j_bipush X (60) dX3_readPeriod_63 (by decide) ?_
    obtain ⟨x11, a12, h10, hR⟩ := bP2_inv hR
    refine j_callV2 X 3 (m_X3_takeNumber hl hL h10) ml_X3_100 im_yX3_takeNumber se_yX3_takeNumber in_X3 cd_yX3_takeNumber hy_yX3_takeNumber dX3_readPeriod_65 rfl (inL hL t_1 (by decide)) (FW3 hL t_1) ⟨(by decide), (by decide)⟩ ⟨(by decide), (by decide)⟩ (Nat.le_of_ble_eq_true rfl) (fun _ h => h.elim) (fun r9 L9 f9 h9 => ?_)
    obtain ⟨h91, h92, h93⟩ := h9
    subst r9
    subst f9
    subst L9
    dsimp only [Option.toList, List.cons_append, List.nil_append, List.append]
    obtain ⟨a15, h14, hR⟩ := bT_inv hR
    refine j_callV3 X 4 (m_X4_setNumber hl hL t_4 h14) ml_X3_104 im_yX4_setNumber se_yX4_setNumber in_X4 cd_yX4_setNumber hy_yX4_setNumber dX3_readPeriod_68 rfl (inL hL t_4 (by decide)) (FW4 hL t_4) ⟨(by decide), (by decide)⟩ ⟨(by decide), (by decide)⟩ (Nat.le_of_ble_eq_true rfl) (fun _ h => h.elim) (fun r9 L9 f9 h9 => ?_)
    obtain ⟨h91, h92, h93⟩ := h9
    subst r9
    subst f9
    subst L9
    dsimp only [Option.toList, List.cons_append, List.nil_append, List.append]
    refine j_aload_n X (i := 0) dX3_readPeriod_71 rfl rfl ?_
    refine j_ldcS X 2 dX3_readPeriod_72 rfl ?_
    obtain ⟨a18, h17, hR⟩ := bP_inv hR
    refine j_callV1 X 3 (m_X3_takeWord hl hL (by decide) h17) ml_X3_94 im_yX3_takeWord se_yX3_takeWord in_X3 cd_yX3_takeWord hy_yX3_takeWord dX3_readPeriod_74 rfl (inL hL t_1 (by decide)) (FW3 hL t_1) ⟨(by decide), (by decide)⟩ ⟨(by decide), (by decide)⟩ (Nat.le_of_ble_eq_true rfl) (fun _ h => h.elim) (fun r9 L9 f9 h9 => ?_)
    obtain ⟨h91, h92, h93⟩ := h9
    subst r9
    subst f9
    subst L9
    dsimp only [Option.toList, List.cons_append, List.nil_append, List.append]
    refine j_aload_n X (i := 0) dX3_readPeriod_77 rfl rfl ?_
    refine j_getf X 3 1 rfl cw_X3 fl_X3_21 (by decide) dX3_readPeriod_78 (inL hL t_1 (by decide)) (FW3 hL t_1) rfl ?_
    refine j_iload_n X (i := 1) dX3_readPeriod_81 rfl rfl ?_
    refine j_iconst X (1) dX3_readPeriod_82 (by decide) ?_
    refine j_aload_n X (i := 0) dX3_readPeriod_83 rfl rfl ?_
    refine j_iconst X (1) dX3_readPeriod_84 (by decide) ?_
    refine j_ldc X dX3_readPeriod_85 co_X3_110 ?_
    obtain ⟨x21, a22, h20, hR⟩ := bP2_inv hR
    refine j_callV2 X 3 (m_X3_takeNumber hl hL h20) ml_X3_100 im_yX3_takeNumber se_yX3_takeNumber in_X3 cd_yX3_takeNumber hy_yX3_takeNumber dX3_readPeriod_87 rfl (inL hL t_1 (by decide)) (FW3 hL t_1) ⟨(by decide), (by decide)⟩ ⟨(by decide), (by decide)⟩ (Nat.le_of_ble_eq_true rfl) (fun _ h => h.elim) (fun r9 L9 f9 h9 => ?_)
    obtain ⟨h91, h92, h93⟩ := h9
    subst r9
    subst f9
    subst L9
    dsimp only [Option.toList, List.cons_append, List.nil_append, List.append]
    obtain ⟨a25, h24, hR⟩ := bT_inv hR
    refine j_callV3 X 4 (m_X4_setNumber hl hL t_4 h24) ml_X3_104 im_yX4_setNumber se_yX4_setNumber in_X4 cd_yX4_setNumber hy_yX4_setNumber dX3_readPeriod_90 rfl (inL hL t_4 (by decide)) (FW4 hL t_4) ⟨(by decide), (by decide)⟩ ⟨(by decide), (by decide)⟩ (Nat.le_of_ble_eq_true rfl) (fun _ h => h.elim) (fun r9 L9 f9 h9 => ?_)
    obtain ⟨h91, h92, h93⟩ := h9
    subst r9
    subst f9
    subst L9
    dsimp only [Option.toList, List.cons_append, List.nil_append, List.append]
    refine j_aload_n X (i := 0) dX3_readPeriod_93 rfl rfl ?_
    refine j_getf X 3 1 rfl cw_X3 fl_X3_21 (by decide) dX3_readPeriod_94 (inL hL t_1 (by decide)) (FW3 hL t_1) rfl ?_
    refine j_iload_n X (i := 1) dX3_readPeriod_97 rfl rfl ?_
    refine j_iconst X (2) dX3_readPeriod_98 (by decide) ?_
    refine j_aload_n X (i := 0) dX3_readPeriod_99 rfl rfl ?_
    refine j_ldcS X 3 dX3_readPeriod_100 rfl ?_
    obtain ⟨x28, a29, h27, hR⟩ := bP2_inv hR
    refine j_callV1 X 3 (m_X3_takeOption hl hL (by decide) h27) ml_X3_113 im_yX3_takeOption se_yX3_takeOption in_X3 cd_yX3_takeOption hy_yX3_takeOption dX3_readPeriod_102 rfl (inL hL t_1 (by decide)) (FW3 hL t_1) ⟨(by decide), (by decide)⟩ ⟨(by decide), (by decide)⟩ (Nat.le_of_ble_eq_true rfl) (fun _ h => h.elim) (fun r9 L9 f9 h9 => ?_)
    obtain ⟨h91, h92, h93⟩ := h9
    subst r9
    subst f9
    subst L9
    dsimp only [Option.toList, List.cons_append, List.nil_append, List.append]
    obtain ⟨a32, h31, hR⟩ := bT_inv hR
    refine j_callV3 X 4 (m_X4_setNumber hl hL t_4 h31) ml_X3_104 im_yX4_setNumber se_yX4_setNumber in_X4 cd_yX4_setNumber hy_yX4_setNumber dX3_readPeriod_105 rfl (inL hL t_4 (by decide)) (FW4 hL t_4) ⟨(by decide), (by decide)⟩ ⟨(by decide), (by decide)⟩ (Nat.le_of_ble_eq_true rfl) (fun _ h => h.elim) (fun r9 L9 f9 h9 => ?_)
    obtain ⟨h91, h92, h93⟩ := h9
    subst r9
    subst f9
    subst L9
    dsimp only [Option.toList, List.cons_append, List.nil_append, List.append]
    refine j_aload_n X (i := 0) dX3_readPeriod_108 rfl rfl ?_
    refine j_getf X 3 1 rfl cw_X3 fl_X3_21 (by decide) dX3_readPeriod_109 (inL hL t_1 (by decide)) (FW3 hL t_1) rfl ?_
    refine j_iload_n X (i := 1) dX3_readPeriod_112 rfl rfl ?_
    refine j_iconst X (3) dX3_readPeriod_113 (by decide) ?_
    refine j_aload_n X (i := 0) dX3_readPeriod_114 rfl rfl ?_
    refine j_ldcS X 4 dX3_readPeriod_115 rfl ?_
    obtain ⟨x35, a36, h34, hR⟩ := bP2_inv hR
    refine j_callV1 X 3 (m_X3_takeOption hl hL (by decide) h34) ml_X3_113 im_yX3_takeOption se_yX3_takeOption in_X3 cd_yX3_takeOption hy_yX3_takeOption dX3_readPeriod_117 rfl (inL hL t_1 (by decide)) (FW3 hL t_1) ⟨(by decide), (by decide)⟩ ⟨(by decide), (by decide)⟩ (Nat.le_of_ble_eq_true rfl) (fun _ h => h.elim) (fun r9 L9 f9 h9 => ?_)
    obtain ⟨h91, h92, h93⟩ := h9
    subst r9
    subst f9
    subst L9
    dsimp only [Option.toList, List.cons_append, List.nil_append, List.append]
    obtain ⟨a39, h38, hR⟩ := bT_inv hR
    refine j_callV3 X 4 (m_X4_setNumber hl hL t_4 h38) ml_X3_104 im_yX4_setNumber se_yX4_setNumber in_X4 cd_yX4_setNumber hy_yX4_setNumber dX3_readPeriod_120 rfl (inL hL t_4 (by decide)) (FW4 hL t_4) ⟨(by decide), (by decide)⟩ ⟨(by decide), (by decide)⟩ (Nat.le_of_ble_eq_true rfl) (fun _ h => h.elim) (fun r9 L9 f9 h9 => ?_)
    obtain ⟨h91, h92, h93⟩ := h9
    subst r9
    subst f9
    subst L9
    dsimp only [Option.toList, List.cons_append, List.nil_append, List.append]
    refine j_aload_n X (i := 0) dX3_readPeriod_123 rfl rfl ?_
    refine j_getf X 3 1 rfl cw_X3 fl_X3_21 (by decide) dX3_readPeriod_124 (inL hL t_1 (by decide)) (FW3 hL t_1) rfl ?_
    refine j_iload_n X (i := 1) dX3_readPeriod_127 rfl rfl ?_
    refine j_iconst X (4) dX3_readPeriod_128 (by decide) ?_
    refine j_aload_n X (i := 0) dX3_readPeriod_129 rfl rfl ?_
    refine j_ldcS X 5 dX3_readPeriod_130 rfl ?_
    obtain ⟨x42, a43, h41, hR⟩ := bP2_inv hR
    refine j_callV1 X 3 (m_X3_takeOption hl hL (by decide) h41) ml_X3_113 im_yX3_takeOption se_yX3_takeOption in_X3 cd_yX3_takeOption hy_yX3_takeOption dX3_readPeriod_132 rfl (inL hL t_1 (by decide)) (FW3 hL t_1) ⟨(by decide), (by decide)⟩ ⟨(by decide), (by decide)⟩ (Nat.le_of_ble_eq_true rfl) (fun _ h => h.elim) (fun r9 L9 f9 h9 => ?_)
    obtain ⟨h91, h92, h93⟩ := h9
    subst r9
    subst f9
    subst L9
    dsimp only [Option.toList, List.cons_append, List.nil_append, List.append]
    obtain ⟨a46, h45, hR⟩ := bT_inv hR
    refine j_callV3 X 4 (m_X4_setNumber hl hL t_4 h45) ml_X3_104 im_yX4_setNumber se_yX4_setNumber in_X4 cd_yX4_setNumber hy_yX4_setNumber dX3_readPeriod_135 rfl (inL hL t_4 (by decide)) (FW4 hL t_4) ⟨(by decide), (by decide)⟩ ⟨(by decide), (by decide)⟩ (Nat.le_of_ble_eq_true rfl) (fun _ h => h.elim) (fun r9 L9 f9 h9 => ?_)
    obtain ⟨h91, h92, h93⟩ := h9
    subst r9
    subst f9
    subst L9
    dsimp only [Option.toList, List.cons_append, List.nil_append, List.append]
    refine j_aload_n X (i := 0) dX3_readPeriod_138 rfl rfl ?_
    obtain ⟨a49, h48, hR⟩ := bP_inv hR
    refine j_callV0 X 3 (m_X3_takeSemicolon hl hL h48) ml_X3_121 im_yX3_takeSemicolon se_yX3_takeSemicolon in_X3 cd_yX3_takeSemicolon hy_yX3_takeSemicolon dX3_readPeriod_139 rfl (inL hL t_1 (by decide)) (FW3 hL t_1) ⟨(by decide), (by decide)⟩ ⟨(by decide), (by decide)⟩ (Nat.le_of_ble_eq_true rfl) (fun _ h => h.elim) (fun r9 L9 f9 h9 => ?_)
    obtain ⟨h91, h92, h93⟩ := h9
    subst r9
    subst f9
    subst L9
    dsimp only [Option.toList, List.cons_append, List.nil_append, List.append]
    refine j_aload_n X (i := 0) dX3_readPeriod_142 rfl rfl ?_
    refine j_getf X 3 1 rfl cw_X3 fl_X3_21 (by decide) dX3_readPeriod_143 (inL hL t_1 (by decide)) (FW3 hL t_1) rfl ?_
    refine j_dup X dX3_readPeriod_146 rfl ?_
    refine j_getf X 4 1 rfl cw_X4 fl_X3_87 (by decide) dX3_readPeriod_147 (inL hL t_4 (by decide)) (FW4 hL t_4) rfl ?_
    refine j_iconst X (1) dX3_readPeriod_150 (by decide) ?_
    refine j_iadd X dX3_readPeriod_151 ?_
    obtain ⟨a51, h52, hR⟩ := bT_inv hR
    refine tp_X4_1 X hL t_4 h52 fl_X3_87 dX3_readPeriod_152 ?_
    exact q_vret X hQ dX3_readPeriod_155 rfl ⟨(by decide), (by decide)⟩ ⟨rfl, congrArg (fun z => FW G L z b c) (Option.some.inj hR), rfl⟩
  refine j_icmp_lt X (tgt := 21) dX3_readPeriod_10 (by decide) (fun h53 => ?_) (fun h53 => ?_)
  · replace hR := (if_pos h53).symm.trans hR
    refine j_iload_n X (i := 1) dX3_readPeriod_21 rfl rfl ?_
    refine j_if_le X (tgt := 43) dX3_readPeriod_22 (by decide) (fun h54 => ?_) (fun h54 => ?_)
    · replace hR := (if_pos h54).symm.trans hR
      exact J.sub (lvle_of (by simp only [lvle, and_self])) (hb43 _  hR)
    · replace hR := (if_neg h54).symm.trans hR
      refine j_aload_n X (i := 0) dX3_readPeriod_25 rfl rfl ?_
      refine j_getf X 3 1 rfl cw_X3 fl_X3_21 (by decide) dX3_readPeriod_26 (inL hL t_1 (by decide)) (FW3 hL t_1) rfl ?_
      refine j_iload_n X (i := 1) dX3_readPeriod_29 rfl rfl ?_
      refine j_iconst X (1) dX3_readPeriod_30 (by decide) ?_
      refine j_isub X dX3_readPeriod_31 ?_
      obtain ⟨x56, h55, hR⟩ := bT_inv hR
      refine j_callV1 X 4 (m_X4_isEndless hl hL t_4 h55) ml_X3_90 im_yX4_isEndless se_yX4_isEndless in_X4 cd_yX4_isEndless hy_yX4_isEndless dX3_readPeriod_32 rfl (inL hL t_4 (by decide)) (FW4 hL t_4) ⟨(by decide), (by decide)⟩ ⟨(by decide), (by decide)⟩ (Nat.le_of_ble_eq_true rfl) (fun _ h => h.elim) (fun r9 L9 f9 h9 => ?_)
      obtain ⟨h91, h92, h93, h57⟩ := h9
      subst r9
      subst f9
      subst L9
      dsimp only [Option.toList, List.cons_append, List.nil_append, List.append]
      refine j_if_eq X (tgt := 43) dX3_readPeriod_35 (by decide) (fun h58 => ?_) (fun h58 => ?_)
      · replace hR := (if_pos h58).symm.trans hR
        exact J.sub (lvle_of (by simp only [lvle, and_self])) (hb43 _  hR)
      · replace hR := (if_neg h58).symm.trans hR
        refine j_aload_n X (i := 0) dX3_readPeriod_38 rfl rfl ?_
        refine j_iconst X (4) dX3_readPeriod_39 (by decide) ?_
        obtain ⟨a60, h59, hR⟩ := bT_inv hR
        refine j_callV1 X 3 (m_X3_fail hl hL h59) ml_X3_44 im_yX3_fail se_yX3_fail in_X3 cd_yX3_fail hy_yX3_fail dX3_readPeriod_40 rfl (inL hL t_1 (by decide)) (FW3 hL t_1) ⟨(by decide), (by decide)⟩ ⟨(by decide), (by decide)⟩ (Nat.le_of_ble_eq_true rfl) (fun _ h => h.elim) (fun r9 L9 f9 h9 => ?_)
        obtain ⟨h91, h92, h93⟩ := h9
        subst r9
        subst f9
        subst L9
        dsimp only [Option.toList, List.cons_append, List.nil_append, List.append]
        exact J.sub (lvle_of (by simp only [lvle, and_self])) (hb43 _  hR)
  · replace hR := (if_neg h53).symm.trans hR
    refine j_aload_n X (i := 0) dX3_readPeriod_13 rfl rfl ?_
    refine j_iconst X (3) dX3_readPeriod_14 (by decide) ?_
    obtain ⟨a63, h62, hR⟩ := bT_inv hR
    refine j_callV1 X 3 (m_X3_fail hl hL h62) ml_X3_44 im_yX3_fail se_yX3_fail in_X3 cd_yX3_fail hy_yX3_fail dX3_readPeriod_15 rfl (inL hL t_1 (by decide)) (FW3 hL t_1) ⟨(by decide), (by decide)⟩ ⟨(by decide), (by decide)⟩ (Nat.le_of_ble_eq_true rfl) (fun _ h => h.elim) (fun r9 L9 f9 h9 => ?_)
    obtain ⟨h91, h92, h93⟩ := h9
    subst r9
    subst f9
    subst L9
    dsimp only [Option.toList, List.cons_append, List.nil_append, List.append]
    refine j_goto X (tgt := 43) dX3_readPeriod_18 (by decide) ?_
    exact J.sub (lvle_of (by simp only [lvle, and_self])) (hb43 _  hR)
def f_X3_failIf (p0 : Int32) (a : Mem) : Mem := if p0 = 0 then (a) else (bT (f_X3_fail (3 : Int32) a) fun a3 => a3)
set_option maxRecDepth 100000 in
set_option maxHeartbeats 4000000 in
theorem m_X3_failIf {l : Launch} (hl : l.stackTraces = false) {G : GG} {L : List Nat} (hL : LOK L) {a b c : Mem} {p0 : Int32} (hB0 : isB p0) {a' : Mem} (hR : f_X3_failIf p0 a = a') : Ct l G yX3_failIf (.code yX3_failIf cX3_failIf 2 none) 1 21 0 0 [.ref (ad L 1), .int p0] L (FW G L a b c) px0 (stay L (fun r f1 => f1 = (FW G L a' b c) ∧ r = none)) := by
  refine Ct.ofq (own := RX3) hl rfl (by decide) [some (.ref (ad L 1)), some (.int p0)] rfl (Nat.le_of_ble_eq_true rfl) ?_
  intro p e s m below meth c9 A ar Q hQ X
  unfold f_X3_failIf at hR
  refine j_iload_n X (i := 1) dX3_failIf_0 rfl rfl ?_
  refine j_if_eq X (tgt := 9) dX3_failIf_1 (by decide) (fun h1 => ?_) (fun h1 => ?_)
  · replace hR := (if_pos h1).symm.trans hR
    exact q_vret X hQ dX3_failIf_9 rfl ⟨(by decide), (by decide)⟩ ⟨rfl, congrArg (fun z => FW G L z b c) hR, rfl⟩
  · replace hR := (if_neg h1).symm.trans hR
    refine j_aload_n X (i := 0) dX3_failIf_4 rfl rfl ?_
    refine j_iconst X (3) dX3_failIf_5 (by decide) ?_
    obtain ⟨a3, h2, hR⟩ := bT_inv hR
    refine j_callV1 X 3 (m_X3_fail hl hL h2) ml_X3_44 im_yX3_fail se_yX3_fail in_X3 cd_yX3_fail hy_yX3_fail dX3_failIf_6 rfl (inL hL t_1 (by decide)) (FW3 hL t_1) ⟨(by decide), (by decide)⟩ ⟨(by decide), (by decide)⟩ (Nat.le_of_ble_eq_true rfl) (fun _ h => h.elim) (fun r9 L9 f9 h9 => ?_)
    obtain ⟨h91, h92, h93⟩ := h9
    subst r9
    subst f9
    subst L9
    dsimp only [Option.toList, List.cons_append, List.nil_append, List.append]
    exact q_vret X hQ dX3_failIf_9 rfl ⟨(by decide), (by decide)⟩ ⟨rfl, congrArg (fun z => FW G L z b c) hR, rfl⟩
def f_X3_readExtra_16 (N : Nat) (a : Mem) (x1 : Int32) : Option Mem := bT (f_X3_failIf x1 a) fun a3 => bP (f_X3_takeWord N 6 a3) fun a6 => bP2 (f_X3_takeNumber N (1 : Int32) (9 : Int32) a6) fun x9 a10 => bT (up2 a10 4 2 x9) fun a12 => bP (f_X3_takeWord N 2 a12) fun a15 => bP2 (f_X3_takeNumber N (1 : Int32) (9999 : Int32) a15) fun x18 a19 => bT (up2 a19 4 3 x18) fun a21 => bP (f_X3_takeSemicolon N a21) fun a24 => some a24
def f_X3_readExtra (N : Nat) (a : Mem) : Option Mem := if (a 4 2) = 0 then (f_X3_readExtra_16 N a (0 : Int32)) else (f_X3_readExtra_16 N a (1 : Int32))
set_option maxRecDepth 100000 in
set_option maxHeartbeats 4000000 in
theorem m_X3_readExtra {l : Launch} (hl : l.stackTraces = false) {G : GG} {L : List Nat} (hL : LOK L) {a b c : Mem} {N : Nat}  {a' : Mem} (hR : f_X3_readExtra N a = some a') : Ct l G yX3_readExtra (.code yX3_readExtra cX3_readExtra 1 none) 7 166 0 0 [.ref (ad L 1)] L (FW G L a b c) px0 (stay L (fun r f1 => f1 = (FW G L a' b c) ∧ r = none)) := by
  refine Ct.ofq (own := RX3) hl rfl (by decide) [some (.ref (ad L 1))] rfl (Nat.le_of_ble_eq_true rfl) ?_
  intro p e s m below meth c9 A ar Q hQ X
  unfold f_X3_readExtra at hR
  refine j_aload_n X (i := 0) dX3_readExtra_0 rfl rfl ?_
  refine j_aload_n X (i := 0) dX3_readExtra_1 rfl rfl ?_
  refine j_getf X 3 1 rfl cw_X3 fl_X3_21 (by decide) dX3_readExtra_2 (inL hL t_1 (by decide)) (FW3 hL t_1) rfl ?_
  refine j_getf X 4 2 rfl cw_X4 fl_X3_124 (by decide) dX3_readExtra_5 (inL hL t_4 (by decide)) (FW4 hL t_4) rfl ?_
  have hb16 : ∀ (x1 : Int32) (hBx1 : isB x1), f_X3_readExtra_16 N a x1 = some a' → J G p l e ({ frames := 7, cells := 0, slots := 0, locals := 166 } : Room) s m ar below meth c9 A Q 1 0 0 16 [some (.ref (ad L 1))] [.int x1, .ref (ad L 1)] L (FW G L a b c) := by
    intro x1 hBx1 hR
    unfold f_X3_readExtra_16 at hR
    obtain ⟨a3, h2, hR⟩ := bT_inv hR
    refine j_callV1 X 3 (m_X3_failIf hl hL hBx1 h2) ml_X3_127 im_yX3_failIf se_yX3_failIf in_X3 cd_yX3_failIf hy_yX3_failIf dX3_readExtra_16 rfl (inL hL t_1 (by decide)) (FW3 hL t_1) ⟨(by decide), (by decide)⟩ ⟨(by decide), (by decide)⟩ (Nat.le_of_ble_eq_true rfl) (fun _ h => h.elim) (fun r9 L9 f9 h9 => ?_)
    obtain ⟨h91, h92, h93⟩ := h9
    subst r9
    subst f9
    subst L9
    dsimp only [Option.toList, List.cons_append, List.nil_append, List.append]
    refine j_aload_n X (i := 0) dX3_readExtra_19 rfl rfl ?_
    refine j_ldcS X 6 dX3_readExtra_20 rfl ?_
    obtain ⟨a6, h5, hR⟩ := bP_inv hR
    refine j_callV1 X 3 (m_X3_takeWord hl hL (by decide) h5) ml_X3_94 im_yX3_takeWord se_yX3_takeWord in_X3 cd_yX3_takeWord hy_yX3_takeWord dX3_readExtra_22 rfl (inL hL t_1 (by decide)) (FW3 hL t_1) ⟨(by decide), (by decide)⟩ ⟨(by decide), (by decide)⟩ (Nat.le_of_ble_eq_true rfl) (fun _ h => h.elim) (fun r9 L9 f9 h9 => ?_)
    obtain ⟨h91, h92, h93⟩ := h9
    subst r9
    subst f9
    subst L9
    dsimp only [Option.toList, List.cons_append, List.nil_append, List.append]
    refine j_aload_n X (i := 0) dX3_readExtra_25 rfl rfl ?_
    refine j_getf X 3 1 rfl cw_X3 fl_X3_21 (by decide) dX3_readExtra_26 (inL hL t_1 (by decide)) (FW3 hL t_1) rfl ?_
    refine j_aload_n X (i := 0) dX3_readExtra_29 rfl rfl ?_
    refine j_iconst X (1) dX3_readExtra_30 (by decide) ?_
    refine j_bipush X (9) dX3_readExtra_31 (by decide) ?_
    obtain ⟨x9, a10, h8, hR⟩ := bP2_inv hR
    refine j_callV2 X 3 (m_X3_takeNumber hl hL h8) ml_X3_100 im_yX3_takeNumber se_yX3_takeNumber in_X3 cd_yX3_takeNumber hy_yX3_takeNumber dX3_readExtra_33 rfl (inL hL t_1 (by decide)) (FW3 hL t_1) ⟨(by decide), (by decide)⟩ ⟨(by decide), (by decide)⟩ (Nat.le_of_ble_eq_true rfl) (fun _ h => h.elim) (fun r9 L9 f9 h9 => ?_)
    obtain ⟨h91, h92, h93⟩ := h9
    subst r9
    subst f9
    subst L9
    dsimp only [Option.toList, List.cons_append, List.nil_append, List.append]
    obtain ⟨a12, h13, hR⟩ := bT_inv hR
    refine tp_X4_2 X hL t_4 h13 fl_X3_124 dX3_readExtra_36 ?_
    refine j_aload_n X (i := 0) dX3_readExtra_39 rfl rfl ?_
    refine j_ldcS X 2 dX3_readExtra_40 rfl ?_
    obtain ⟨a15, h14, hR⟩ := bP_inv hR
    refine j_callV1 X 3 (m_X3_takeWord hl hL (by decide) h14) ml_X3_94 im_yX3_takeWord se_yX3_takeWord in_X3 cd_yX3_takeWord hy_yX3_takeWord dX3_readExtra_42 rfl (inL hL t_1 (by decide)) (FW3 hL t_1) ⟨(by decide), (by decide)⟩ ⟨(by decide), (by decide)⟩ (Nat.le_of_ble_eq_true rfl) (fun _ h => h.elim) (fun r9 L9 f9 h9 => ?_)
    obtain ⟨h91, h92, h93⟩ := h9
    subst r9
    subst f9
    subst L9
    dsimp only [Option.toList, List.cons_append, List.nil_append, List.append]
    refine j_aload_n X (i := 0) dX3_readExtra_45 rfl rfl ?_
    refine j_getf X 3 1 rfl cw_X3 fl_X3_21 (by decide) dX3_readExtra_46 (inL hL t_1 (by decide)) (FW3 hL t_1) rfl ?_
    refine j_aload_n X (i := 0) dX3_readExtra_49 rfl rfl ?_
    refine j_iconst X (1) dX3_readExtra_50 (by decide) ?_
    refine j_sipush X (9999) dX3_readExtra_51 (by decide) ?_
    obtain ⟨x18, a19, h17, hR⟩ := bP2_inv hR
    refine j_callV2 X 3 (m_X3_takeNumber hl hL h17) ml_X3_100 im_yX3_takeNumber se_yX3_takeNumber in_X3 cd_yX3_takeNumber hy_yX3_takeNumber dX3_readExtra_54 rfl (inL hL t_1 (by decide)) (FW3 hL t_1) ⟨(by decide), (by decide)⟩ ⟨(by decide), (by decide)⟩ (Nat.le_of_ble_eq_true rfl) (fun _ h => h.elim) (fun r9 L9 f9 h9 => ?_)
    obtain ⟨h91, h92, h93⟩ := h9
    subst r9
    subst f9
    subst L9
    dsimp only [Option.toList, List.cons_append, List.nil_append, List.append]
    obtain ⟨a21, h22, hR⟩ := bT_inv hR
    refine tp_X4_3 X hL t_4 h22 fl_X3_131 dX3_readExtra_57 ?_
    refine j_aload_n X (i := 0) dX3_readExtra_60 rfl rfl ?_
    obtain ⟨a24, h23, hR⟩ := bP_inv hR
    refine j_callV0 X 3 (m_X3_takeSemicolon hl hL h23) ml_X3_121 im_yX3_takeSemicolon se_yX3_takeSemicolon in_X3 cd_yX3_takeSemicolon hy_yX3_takeSemicolon dX3_readExtra_61 rfl (inL hL t_1 (by decide)) (FW3 hL t_1) ⟨(by decide), (by decide)⟩ ⟨(by decide), (by decide)⟩ (Nat.le_of_ble_eq_true rfl) (fun _ h => h.elim) (fun r9 L9 f9 h9 => ?_)
    obtain ⟨h91, h92, h93⟩ := h9
    subst r9
    subst f9
    subst L9
    dsimp only [Option.toList, List.cons_append, List.nil_append, List.append]
    exact q_vret X hQ dX3_readExtra_64 rfl ⟨(by decide), (by decide)⟩ ⟨rfl, congrArg (fun z => FW G L z b c) (Option.some.inj hR), rfl⟩
  refine j_if_eq X (tgt := 15) dX3_readExtra_8 (by decide) (fun h26 => ?_) (fun h26 => ?_)
  · replace hR := (if_pos h26).symm.trans hR
    refine j_iconst X (0) dX3_readExtra_15 (by decide) ?_
    exact J.sub (lvle_of (by simp only [lvle, and_self])) (hb16 _ isB_0 hR)
  · replace hR := (if_neg h26).symm.trans hR
    refine j_iconst X (1) dX3_readExtra_11 (by decide) ?_
    refine j_goto X (tgt := 16) dX3_readExtra_12 (by decide) ?_
    exact J.sub (lvle_of (by simp only [lvle, and_self])) (hb16 _ isB_1 hR)
def f_X3_readSession_17 (N : Nat) (a : Mem) (x1 : Int32) : Option Mem := bT (f_X3_failIf x1 a) fun a3 => bP (f_X3_takeWord N 7 a3) fun a6 => bP2 (f_X3_takeNumber N (1 : Int32) (99999 : Int32) a6) fun x9 a10 => bT (up2 a10 4 4 x9) fun a12 => bP (f_X3_takeSemicolon N a12) fun a15 => some a15
def f_X3_readSession (N : Nat) (a : Mem) : Option Mem := if (a 4 4) = (-1 : Int32) then (f_X3_readSession_17 N a (0 : Int32)) else (f_X3_readSession_17 N a (1 : Int32))
set_option maxRecDepth 100000 in
set_option maxHeartbeats 4000000 in
theorem m_X3_readSession {l : Launch} (hl : l.stackTraces = false) {G : GG} {L : List Nat} (hL : LOK L) {a b c : Mem} {N : Nat}  {a' : Mem} (hR : f_X3_readSession N a = some a') : Ct l G yX3_readSession (.code yX3_readSession cX3_readSession 1 none) 7 166 0 0 [.ref (ad L 1)] L (FW G L a b c) px0 (stay L (fun r f1 => f1 = (FW G L a' b c) ∧ r = none)) := by
  refine Ct.ofq (own := RX3) hl rfl (by decide) [some (.ref (ad L 1))] rfl (Nat.le_of_ble_eq_true rfl) ?_
  intro p e s m below meth c9 A ar Q hQ X
  unfold f_X3_readSession at hR
  refine j_aload_n X (i := 0) dX3_readSession_0 rfl rfl ?_
  refine j_aload_n X (i := 0) dX3_readSession_1 rfl rfl ?_
  refine j_getf X 3 1 rfl cw_X3 fl_X3_21 (by decide) dX3_readSession_2 (inL hL t_1 (by decide)) (FW3 hL t_1) rfl ?_
  refine j_getf X 4 4 rfl cw_X4 fl_X3_134 (by decide) dX3_readSession_5 (inL hL t_4 (by decide)) (FW4 hL t_4) rfl ?_
  refine j_iconst X (-1) dX3_readSession_8 (by decide) ?_
  have hb17 : ∀ (x1 : Int32) (hBx1 : isB x1), f_X3_readSession_17 N a x1 = some a' → J G p l e ({ frames := 7, cells := 0, slots := 0, locals := 166 } : Room) s m ar below meth c9 A Q 1 0 0 17 [some (.ref (ad L 1))] [.int x1, .ref (ad L 1)] L (FW G L a b c) := by
    intro x1 hBx1 hR
    unfold f_X3_readSession_17 at hR
    obtain ⟨a3, h2, hR⟩ := bT_inv hR
    refine j_callV1 X 3 (m_X3_failIf hl hL hBx1 h2) ml_X3_127 im_yX3_failIf se_yX3_failIf in_X3 cd_yX3_failIf hy_yX3_failIf dX3_readSession_17 rfl (inL hL t_1 (by decide)) (FW3 hL t_1) ⟨(by decide), (by decide)⟩ ⟨(by decide), (by decide)⟩ (Nat.le_of_ble_eq_true rfl) (fun _ h => h.elim) (fun r9 L9 f9 h9 => ?_)
    obtain ⟨h91, h92, h93⟩ := h9
    subst r9
    subst f9
    subst L9
    dsimp only [Option.toList, List.cons_append, List.nil_append, List.append]
    refine j_aload_n X (i := 0) dX3_readSession_20 rfl rfl ?_
    refine j_ldcS X 7 dX3_readSession_21 rfl ?_
    obtain ⟨a6, h5, hR⟩ := bP_inv hR
    refine j_callV1 X 3 (m_X3_takeWord hl hL (by decide) h5) ml_X3_94 im_yX3_takeWord se_yX3_takeWord in_X3 cd_yX3_takeWord hy_yX3_takeWord dX3_readSession_23 rfl (inL hL t_1 (by decide)) (FW3 hL t_1) ⟨(by decide), (by decide)⟩ ⟨(by decide), (by decide)⟩ (Nat.le_of_ble_eq_true rfl) (fun _ h => h.elim) (fun r9 L9 f9 h9 => ?_)
    obtain ⟨h91, h92, h93⟩ := h9
    subst r9
    subst f9
    subst L9
    dsimp only [Option.toList, List.cons_append, List.nil_append, List.append]
    refine j_aload_n X (i := 0) dX3_readSession_26 rfl rfl ?_
    refine j_getf X 3 1 rfl cw_X3 fl_X3_21 (by decide) dX3_readSession_27 (inL hL t_1 (by decide)) (FW3 hL t_1) rfl ?_
    refine j_aload_n X (i := 0) dX3_readSession_30 rfl rfl ?_
    refine j_iconst X (1) dX3_readSession_31 (by decide) ?_
    refine j_ldc X dX3_readSession_32 co_X3_110 ?_
    obtain ⟨x9, a10, h8, hR⟩ := bP2_inv hR
    refine j_callV2 X 3 (m_X3_takeNumber hl hL h8) ml_X3_100 im_yX3_takeNumber se_yX3_takeNumber in_X3 cd_yX3_takeNumber hy_yX3_takeNumber dX3_readSession_34 rfl (inL hL t_1 (by decide)) (FW3 hL t_1) ⟨(by decide), (by decide)⟩ ⟨(by decide), (by decide)⟩ (Nat.le_of_ble_eq_true rfl) (fun _ h => h.elim) (fun r9 L9 f9 h9 => ?_)
    obtain ⟨h91, h92, h93⟩ := h9
    subst r9
    subst f9
    subst L9
    dsimp only [Option.toList, List.cons_append, List.nil_append, List.append]
    obtain ⟨a12, h13, hR⟩ := bT_inv hR
    refine tp_X4_4 X hL t_4 h13 fl_X3_134 dX3_readSession_37 ?_
    refine j_aload_n X (i := 0) dX3_readSession_40 rfl rfl ?_
    obtain ⟨a15, h14, hR⟩ := bP_inv hR
    refine j_callV0 X 3 (m_X3_takeSemicolon hl hL h14) ml_X3_121 im_yX3_takeSemicolon se_yX3_takeSemicolon in_X3 cd_yX3_takeSemicolon hy_yX3_takeSemicolon dX3_readSession_41 rfl (inL hL t_1 (by decide)) (FW3 hL t_1) ⟨(by decide), (by decide)⟩ ⟨(by decide), (by decide)⟩ (Nat.le_of_ble_eq_true rfl) (fun _ h => h.elim) (fun r9 L9 f9 h9 => ?_)
    obtain ⟨h91, h92, h93⟩ := h9
    subst r9
    subst f9
    subst L9
    dsimp only [Option.toList, List.cons_append, List.nil_append, List.append]
    exact q_vret X hQ dX3_readSession_44 rfl ⟨(by decide), (by decide)⟩ ⟨rfl, congrArg (fun z => FW G L z b c) (Option.some.inj hR), rfl⟩
  refine j_icmp_eq X (tgt := 16) dX3_readSession_9 (by decide) (fun h17 => ?_) (fun h17 => ?_)
  · replace hR := (if_pos h17).symm.trans hR
    refine j_iconst X (0) dX3_readSession_16 (by decide) ?_
    exact J.sub (lvle_of (by simp only [lvle, and_self])) (hb17 _ isB_0 hR)
  · replace hR := (if_neg h17).symm.trans hR
    refine j_iconst X (1) dX3_readSession_12 (by decide) ?_
    refine j_goto X (tgt := 17) dX3_readSession_13 (by decide) ?_
    exact J.sub (lvle_of (by simp only [lvle, and_self])) (hb17 _ isB_1 hR)
def f_X3_readHand_14 (N : Nat) (a : Mem) (x1 : Int32) : Option Mem := bT (f_X3_failIf x1 a) fun a3 => bP (f_X3_takeWord N 8 a3) fun a6 => bP (f_X3_isWord N 9 a6) fun x9 => if x9 = 0 then (bT (up2 a6 1 3 (1 : Int32)) fun a12 => bP (f_X3_takeWord N 10 a12) fun a15 => bP2 (f_X3_takeNumber N (1 : Int32) (9999 : Int32) a15) fun x18 a19 => bT (up2 a19 1 4 x18) fun a21 => bP (f_X3_takeSemicolon N a21) fun a24 => some a24) else (bT (up2 a6 1 3 (0 : Int32)) fun a26 => bP (f_X3_takeWord N 9 a26) fun a29 => bP2 (f_X3_takeNumber N (1 : Int32) (9999 : Int32) a29) fun x32 a33 => bT (up2 a33 1 4 x32) fun a35 => bP (f_X3_takeSemicolon N a35) fun a38 => some a38)
def f_X3_readHand (N : Nat) (a : Mem) : Option Mem := if (a 1 3) = (-1 : Int32) then (f_X3_readHand_14 N a (0 : Int32)) else (f_X3_readHand_14 N a (1 : Int32))
set_option maxRecDepth 100000 in
set_option maxHeartbeats 4000000 in
theorem m_X3_readHand {l : Launch} (hl : l.stackTraces = false) {G : GG} {L : List Nat} (hL : LOK L) {a b c : Mem} {N : Nat}  {a' : Mem} (hR : f_X3_readHand N a = some a') : Ct l G yX3_readHand (.code yX3_readHand cX3_readHand 1 none) 7 166 0 0 [.ref (ad L 1)] L (FW G L a b c) px0 (stay L (fun r f1 => f1 = (FW G L a' b c) ∧ r = none)) := by
  refine Ct.ofq (own := RX3) hl rfl (by decide) [some (.ref (ad L 1))] rfl (Nat.le_of_ble_eq_true rfl) ?_
  intro p e s m below meth c9 A ar Q hQ X
  unfold f_X3_readHand at hR
  refine j_aload_n X (i := 0) dX3_readHand_0 rfl rfl ?_
  refine j_aload_n X (i := 0) dX3_readHand_1 rfl rfl ?_
  refine j_getf X 3 3 rfl cw_X3 fl_X3_25 (by decide) dX3_readHand_2 (inL hL t_1 (by decide)) (FW3 hL t_1) rfl ?_
  refine j_iconst X (-1) dX3_readHand_5 (by decide) ?_
  have hb14 : ∀ (x1 : Int32) (hBx1 : isB x1), f_X3_readHand_14 N a x1 = some a' → J G p l e ({ frames := 7, cells := 0, slots := 0, locals := 166 } : Room) s m ar below meth c9 A Q 1 0 0 14 [some (.ref (ad L 1))] [.int x1, .ref (ad L 1)] L (FW G L a b c) := by
    intro x1 hBx1 hR
    unfold f_X3_readHand_14 at hR
    obtain ⟨a3, h2, hR⟩ := bT_inv hR
    refine j_callV1 X 3 (m_X3_failIf hl hL hBx1 h2) ml_X3_127 im_yX3_failIf se_yX3_failIf in_X3 cd_yX3_failIf hy_yX3_failIf dX3_readHand_14 rfl (inL hL t_1 (by decide)) (FW3 hL t_1) ⟨(by decide), (by decide)⟩ ⟨(by decide), (by decide)⟩ (Nat.le_of_ble_eq_true rfl) (fun _ h => h.elim) (fun r9 L9 f9 h9 => ?_)
    obtain ⟨h91, h92, h93⟩ := h9
    subst r9
    subst f9
    subst L9
    dsimp only [Option.toList, List.cons_append, List.nil_append, List.append]
    refine j_aload_n X (i := 0) dX3_readHand_17 rfl rfl ?_
    refine j_ldcS X 8 dX3_readHand_18 rfl ?_
    obtain ⟨a6, h5, hR⟩ := bP_inv hR
    refine j_callV1 X 3 (m_X3_takeWord hl hL (by decide) h5) ml_X3_94 im_yX3_takeWord se_yX3_takeWord in_X3 cd_yX3_takeWord hy_yX3_takeWord dX3_readHand_20 rfl (inL hL t_1 (by decide)) (FW3 hL t_1) ⟨(by decide), (by decide)⟩ ⟨(by decide), (by decide)⟩ (Nat.le_of_ble_eq_true rfl) (fun _ h => h.elim) (fun r9 L9 f9 h9 => ?_)
    obtain ⟨h91, h92, h93⟩ := h9
    subst r9
    subst f9
    subst L9
    dsimp only [Option.toList, List.cons_append, List.nil_append, List.append]
    refine j_aload_n X (i := 0) dX3_readHand_23 rfl rfl ?_
    refine j_ldcS X 9 dX3_readHand_24 rfl ?_
    obtain ⟨x9, h8, hR⟩ := bP_inv hR
    refine j_callV1 X 3 (m_X3_isWord hl hL (by decide) h8) ml_X3_40 im_yX3_isWord se_yX3_isWord in_X3 cd_yX3_isWord hy_yX3_isWord dX3_readHand_26 rfl (inL hL t_1 (by decide)) (FW3 hL t_1) ⟨(by decide), (by decide)⟩ ⟨(by decide), (by decide)⟩ (Nat.le_of_ble_eq_true rfl) (fun _ h => h.elim) (fun r9 L9 f9 h9 => ?_)
    obtain ⟨h91, h92, h93, h10⟩ := h9
    subst r9
    subst f9
    subst L9
    dsimp only [Option.toList, List.cons_append, List.nil_append, List.append]
    refine j_if_eq X (tgt := 46) dX3_readHand_29 (by decide) (fun h11 => ?_) (fun h11 => ?_)
    · replace hR := (if_pos h11).symm.trans hR
      refine j_aload_n X (i := 0) dX3_readHand_46 rfl rfl ?_
      refine j_iconst X (1) dX3_readHand_47 (by decide) ?_
      obtain ⟨a12, h13, hR⟩ := bT_inv hR
      refine tp_X3_3 X hL t_1 h13 fl_X3_25 dX3_readHand_48 ?_
      refine j_aload_n X (i := 0) dX3_readHand_51 rfl rfl ?_
      refine j_ldcS X 10 dX3_readHand_52 rfl ?_
      obtain ⟨a15, h14, hR⟩ := bP_inv hR
      refine j_callV1 X 3 (m_X3_takeWord hl hL (by decide) h14) ml_X3_94 im_yX3_takeWord se_yX3_takeWord in_X3 cd_yX3_takeWord hy_yX3_takeWord dX3_readHand_54 rfl (inL hL t_1 (by decide)) (FW3 hL t_1) ⟨(by decide), (by decide)⟩ ⟨(by decide), (by decide)⟩ (Nat.le_of_ble_eq_true rfl) (fun _ h => h.elim) (fun r9 L9 f9 h9 => ?_)
      obtain ⟨h91, h92, h93⟩ := h9
      subst r9
      subst f9
      subst L9
      dsimp only [Option.toList, List.cons_append, List.nil_append, List.append]
      refine j_aload_n X (i := 0) dX3_readHand_57 rfl rfl ?_
      refine j_aload_n X (i := 0) dX3_readHand_58 rfl rfl ?_
      refine j_iconst X (1) dX3_readHand_59 (by decide) ?_
      refine j_sipush X (9999) dX3_readHand_60 (by decide) ?_
      obtain ⟨x18, a19, h17, hR⟩ := bP2_inv hR
      refine j_callV2 X 3 (m_X3_takeNumber hl hL h17) ml_X3_100 im_yX3_takeNumber se_yX3_takeNumber in_X3 cd_yX3_takeNumber hy_yX3_takeNumber dX3_readHand_63 rfl (inL hL t_1 (by decide)) (FW3 hL t_1) ⟨(by decide), (by decide)⟩ ⟨(by decide), (by decide)⟩ (Nat.le_of_ble_eq_true rfl) (fun _ h => h.elim) (fun r9 L9 f9 h9 => ?_)
      obtain ⟨h91, h92, h93⟩ := h9
      subst r9
      subst f9
      subst L9
      dsimp only [Option.toList, List.cons_append, List.nil_append, List.append]
      obtain ⟨a21, h22, hR⟩ := bT_inv hR
      refine tp_X3_4 X hL t_1 h22 fl_X3_81 dX3_readHand_66 ?_
      refine j_aload_n X (i := 0) dX3_readHand_69 rfl rfl ?_
      obtain ⟨a24, h23, hR⟩ := bP_inv hR
      refine j_callV0 X 3 (m_X3_takeSemicolon hl hL h23) ml_X3_121 im_yX3_takeSemicolon se_yX3_takeSemicolon in_X3 cd_yX3_takeSemicolon hy_yX3_takeSemicolon dX3_readHand_70 rfl (inL hL t_1 (by decide)) (FW3 hL t_1) ⟨(by decide), (by decide)⟩ ⟨(by decide), (by decide)⟩ (Nat.le_of_ble_eq_true rfl) (fun _ h => h.elim) (fun r9 L9 f9 h9 => ?_)
      obtain ⟨h91, h92, h93⟩ := h9
      subst r9
      subst f9
      subst L9
      dsimp only [Option.toList, List.cons_append, List.nil_append, List.append]
      exact q_vret X hQ dX3_readHand_73 rfl ⟨(by decide), (by decide)⟩ ⟨rfl, congrArg (fun z => FW G L z b c) (Option.some.inj hR), rfl⟩
    · replace hR := (if_neg h11).symm.trans hR
      refine j_aload_n X (i := 0) dX3_readHand_32 rfl rfl ?_
      refine j_iconst X (0) dX3_readHand_33 (by decide) ?_
      obtain ⟨a26, h27, hR⟩ := bT_inv hR
      refine tp_X3_3 X hL t_1 h27 fl_X3_25 dX3_readHand_34 ?_
      refine j_aload_n X (i := 0) dX3_readHand_37 rfl rfl ?_
      refine j_ldcS X 9 dX3_readHand_38 rfl ?_
      obtain ⟨a29, h28, hR⟩ := bP_inv hR
      refine j_callV1 X 3 (m_X3_takeWord hl hL (by decide) h28) ml_X3_94 im_yX3_takeWord se_yX3_takeWord in_X3 cd_yX3_takeWord hy_yX3_takeWord dX3_readHand_40 rfl (inL hL t_1 (by decide)) (FW3 hL t_1) ⟨(by decide), (by decide)⟩ ⟨(by decide), (by decide)⟩ (Nat.le_of_ble_eq_true rfl) (fun _ h => h.elim) (fun r9 L9 f9 h9 => ?_)
      obtain ⟨h91, h92, h93⟩ := h9
      subst r9
      subst f9
      subst L9
      dsimp only [Option.toList, List.cons_append, List.nil_append, List.append]
      refine j_goto X (tgt := 57) dX3_readHand_43 (by decide) ?_
      refine j_aload_n X (i := 0) dX3_readHand_57 rfl rfl ?_
      refine j_aload_n X (i := 0) dX3_readHand_58 rfl rfl ?_
      refine j_iconst X (1) dX3_readHand_59 (by decide) ?_
      refine j_sipush X (9999) dX3_readHand_60 (by decide) ?_
      obtain ⟨x32, a33, h31, hR⟩ := bP2_inv hR
      refine j_callV2 X 3 (m_X3_takeNumber hl hL h31) ml_X3_100 im_yX3_takeNumber se_yX3_takeNumber in_X3 cd_yX3_takeNumber hy_yX3_takeNumber dX3_readHand_63 rfl (inL hL t_1 (by decide)) (FW3 hL t_1) ⟨(by decide), (by decide)⟩ ⟨(by decide), (by decide)⟩ (Nat.le_of_ble_eq_true rfl) (fun _ h => h.elim) (fun r9 L9 f9 h9 => ?_)
      obtain ⟨h91, h92, h93⟩ := h9
      subst r9
      subst f9
      subst L9
      dsimp only [Option.toList, List.cons_append, List.nil_append, List.append]
      obtain ⟨a35, h36, hR⟩ := bT_inv hR
      refine tp_X3_4 X hL t_1 h36 fl_X3_81 dX3_readHand_66 ?_
      refine j_aload_n X (i := 0) dX3_readHand_69 rfl rfl ?_
      obtain ⟨a38, h37, hR⟩ := bP_inv hR
      refine j_callV0 X 3 (m_X3_takeSemicolon hl hL h37) ml_X3_121 im_yX3_takeSemicolon se_yX3_takeSemicolon in_X3 cd_yX3_takeSemicolon hy_yX3_takeSemicolon dX3_readHand_70 rfl (inL hL t_1 (by decide)) (FW3 hL t_1) ⟨(by decide), (by decide)⟩ ⟨(by decide), (by decide)⟩ (Nat.le_of_ble_eq_true rfl) (fun _ h => h.elim) (fun r9 L9 f9 h9 => ?_)
      obtain ⟨h91, h92, h93⟩ := h9
      subst r9
      subst f9
      subst L9
      dsimp only [Option.toList, List.cons_append, List.nil_append, List.append]
      exact q_vret X hQ dX3_readHand_73 rfl ⟨(by decide), (by decide)⟩ ⟨rfl, congrArg (fun z => FW G L z b c) (Option.some.inj hR), rfl⟩
  refine j_icmp_eq X (tgt := 13) dX3_readHand_6 (by decide) (fun h40 => ?_) (fun h40 => ?_)
  · replace hR := (if_pos h40).symm.trans hR
    refine j_iconst X (0) dX3_readHand_13 (by decide) ?_
    exact J.sub (lvle_of (by simp only [lvle, and_self])) (hb14 _ isB_0 hR)
  · replace hR := (if_neg h40).symm.trans hR
    refine j_iconst X (1) dX3_readHand_9 (by decide) ?_
    refine j_goto X (tgt := 14) dX3_readHand_10 (by decide) ?_
    exact J.sub (lvle_of (by simp only [lvle, and_self])) (hb14 _ isB_1 hR)
def f_X3_readClaims (N : Nat) (a : Mem) : Option Mem := bT (f_X3_failIf (nb (a 1 2)) a) fun a2 => bP (f_X3_takeWord N 11 a2) fun a5 => bP (f_X3_takeSemicolon N a5) fun a8 => bT (up2 a8 1 2 (1 : Int32)) fun a10 => some a10
set_option maxRecDepth 100000 in
set_option maxHeartbeats 4000000 in
theorem m_X3_readClaims {l : Launch} (hl : l.stackTraces = false) {G : GG} {L : List Nat} (hL : LOK L) {a b c : Mem} {N : Nat}  {a' : Mem} (hR : f_X3_readClaims N a = some a') : Ct l G yX3_readClaims (.code yX3_readClaims cX3_readClaims 1 none) 7 166 0 0 [.ref (ad L 1)] L (FW G L a b c) px0 (stay L (fun r f1 => f1 = (FW G L a' b c) ∧ r = none)) := by
  refine Ct.ofq (own := RX3) hl rfl (by decide) [some (.ref (ad L 1))] rfl (Nat.le_of_ble_eq_true rfl) ?_
  intro p e s m below meth c9 A ar Q hQ X
  unfold f_X3_readClaims at hR
  refine j_aload_n X (i := 0) dX3_readClaims_0 rfl rfl ?_
  refine j_aload_n X (i := 0) dX3_readClaims_1 rfl rfl ?_
  refine j_getf X 3 2 rfl cw_X3 fl_X3_78 (by decide) dX3_readClaims_2 (inL hL t_1 (by decide)) (FW3 hL t_1) rfl ?_
  obtain ⟨a2, h1, hR⟩ := bT_inv hR
  refine j_callV1 X 3 (m_X3_failIf hl hL nb_B h1) ml_X3_127 im_yX3_failIf se_yX3_failIf in_X3 cd_yX3_failIf hy_yX3_failIf dX3_readClaims_5 rfl (inL hL t_1 (by decide)) (FW3 hL t_1) ⟨(by decide), (by decide)⟩ ⟨(by decide), (by decide)⟩ (Nat.le_of_ble_eq_true rfl) (fun _ h => h.elim) (fun r9 L9 f9 h9 => ?_)
  obtain ⟨h91, h92, h93⟩ := h9
  subst r9
  subst f9
  subst L9
  dsimp only [Option.toList, List.cons_append, List.nil_append, List.append]
  refine j_aload_n X (i := 0) dX3_readClaims_8 rfl rfl ?_
  refine j_ldcS X 11 dX3_readClaims_9 rfl ?_
  obtain ⟨a5, h4, hR⟩ := bP_inv hR
  refine j_callV1 X 3 (m_X3_takeWord hl hL (by decide) h4) ml_X3_94 im_yX3_takeWord se_yX3_takeWord in_X3 cd_yX3_takeWord hy_yX3_takeWord dX3_readClaims_11 rfl (inL hL t_1 (by decide)) (FW3 hL t_1) ⟨(by decide), (by decide)⟩ ⟨(by decide), (by decide)⟩ (Nat.le_of_ble_eq_true rfl) (fun _ h => h.elim) (fun r9 L9 f9 h9 => ?_)
  obtain ⟨h91, h92, h93⟩ := h9
  subst r9
  subst f9
  subst L9
  dsimp only [Option.toList, List.cons_append, List.nil_append, List.append]
  refine j_aload_n X (i := 0) dX3_readClaims_14 rfl rfl ?_
  obtain ⟨a8, h7, hR⟩ := bP_inv hR
  refine j_callV0 X 3 (m_X3_takeSemicolon hl hL h7) ml_X3_121 im_yX3_takeSemicolon se_yX3_takeSemicolon in_X3 cd_yX3_takeSemicolon hy_yX3_takeSemicolon dX3_readClaims_15 rfl (inL hL t_1 (by decide)) (FW3 hL t_1) ⟨(by decide), (by decide)⟩ ⟨(by decide), (by decide)⟩ (Nat.le_of_ble_eq_true rfl) (fun _ h => h.elim) (fun r9 L9 f9 h9 => ?_)
  obtain ⟨h91, h92, h93⟩ := h9
  subst r9
  subst f9
  subst L9
  dsimp only [Option.toList, List.cons_append, List.nil_append, List.append]
  refine j_aload_n X (i := 0) dX3_readClaims_18 rfl rfl ?_
  refine j_iconst X (1) dX3_readClaims_19 (by decide) ?_
  obtain ⟨a10, h11, hR⟩ := bT_inv hR
  refine tp_X3_2 X hL t_1 isB_1 h11 fl_X3_78 dX3_readClaims_20 ?_
  exact q_vret X hQ dX3_readClaims_23 rfl ⟨(by decide), (by decide)⟩ ⟨rfl, congrArg (fun z => FW G L z b c) (Option.some.inj hR), rfl⟩
def f_X3_readText_136 (N : Nat)  (a13 : Mem) : Option (Int32 × Mem) := if (a13 1 5) = 0 then (some ((1 : Int32), a13)) else (some ((0 : Int32), a13))
def f_X3_readText_24 (N : Nat)  : Nat → Int32 → Mem → Option (Int32 × Mem)
  | 0, _, _ => none
  | fu + 1, x11, a12 => if (400 : Int32) ≤ x11 then (f_X3_readText_136 N a12) else (if (a12 1 5) = 0 then (if (a12 1 7) = 0 then (f_X3_readText_136 N a12) else (bP (f_X3_isWord N 0 a12) fun x19 => if x19 = 0 then (bP (f_X3_isWord N 6 a12) fun x23 => if x23 = 0 then (bP (f_X3_isWord N 7 a12) fun x27 => if x27 = 0 then (bP (f_X3_isWord N 8 a12) fun x31 => if x31 = 0 then (bP (f_X3_isWord N 11 a12) fun x35 => if x35 = 0 then (bT (f_X3_fail (1 : Int32) a12) fun a39 => bT (x11 + (1 : Int32)) fun x41 => f_X3_readText_24 N fu x41 a39) else (bP (f_X3_readClaims N a12) fun a44 => bT (x11 + (1 : Int32)) fun x46 => f_X3_readText_24 N fu x46 a44)) else (bP (f_X3_readHand N a12) fun a49 => bT (x11 + (1 : Int32)) fun x51 => f_X3_readText_24 N fu x51 a49)) else (bP (f_X3_readSession N a12) fun a54 => bT (x11 + (1 : Int32)) fun x56 => f_X3_readText_24 N fu x56 a54)) else (bP (f_X3_readExtra N a12) fun a59 => bT (x11 + (1 : Int32)) fun x61 => f_X3_readText_24 N fu x61 a59)) else (bP (f_X3_readPeriod N a12) fun a64 => bT (x11 + (1 : Int32)) fun x66 => f_X3_readText_24 N fu x66 a64))) else (f_X3_readText_136 N a12))
theorem f_X3_readText_24_s (N : Nat)  {fu : Nat} {x11 : Int32} {a12 : Mem} : f_X3_readText_24 N (fu + 1) x11 a12 = (if (400 : Int32) ≤ x11 then (f_X3_readText_136 N a12) else (if (a12 1 5) = 0 then (if (a12 1 7) = 0 then (f_X3_readText_136 N a12) else (bP (f_X3_isWord N 0 a12) fun x19 => if x19 = 0 then (bP (f_X3_isWord N 6 a12) fun x23 => if x23 = 0 then (bP (f_X3_isWord N 7 a12) fun x27 => if x27 = 0 then (bP (f_X3_isWord N 8 a12) fun x31 => if x31 = 0 then (bP (f_X3_isWord N 11 a12) fun x35 => if x35 = 0 then (bT (f_X3_fail (1 : Int32) a12) fun a39 => bT (x11 + (1 : Int32)) fun x41 => f_X3_readText_24 N fu x41 a39) else (bP (f_X3_readClaims N a12) fun a44 => bT (x11 + (1 : Int32)) fun x46 => f_X3_readText_24 N fu x46 a44)) else (bP (f_X3_readHand N a12) fun a49 => bT (x11 + (1 : Int32)) fun x51 => f_X3_readText_24 N fu x51 a49)) else (bP (f_X3_readSession N a12) fun a54 => bT (x11 + (1 : Int32)) fun x56 => f_X3_readText_24 N fu x56 a54)) else (bP (f_X3_readExtra N a12) fun a59 => bT (x11 + (1 : Int32)) fun x61 => f_X3_readText_24 N fu x61 a59)) else (bP (f_X3_readPeriod N a12) fun a64 => bT (x11 + (1 : Int32)) fun x66 => f_X3_readText_24 N fu x66 a64))) else (f_X3_readText_136 N a12))) := rfl
def f_X3_readText_22 (N : Nat)  (a10 : Mem) : Option (Int32 × Mem) := f_X3_readText_24 N N (0 : Int32) a10
def f_X3_readText (N : Nat) (a : Mem) : Option (Int32 × Mem) := bT (f_X3_clear a) fun a2 => bP (f_X3_readToken N a2) fun a5 => bP (f_X3_isWord N 0 a5) fun x8 => if x8 = 0 then (bT (f_X3_fail (1 : Int32) a5) fun a70 => f_X3_readText_22 N a70) else (f_X3_readText_22 N a5)
set_option maxRecDepth 100000 in
set_option maxHeartbeats 4000000 in
theorem m_X3_readText {l : Launch} (hl : l.stackTraces = false) {G : GG} {L : List Nat} (hL : LOK L) {a b c : Mem} {N : Nat}  {v : Int32} {a' : Mem} (hR : f_X3_readText N a = some (v, a')) : Ct l G yX3_readText (.code yX3_readText cX3_readText 2 (some .boolean)) 9 208 0 0 [.ref (ad L 1)] L (FW G L a b c) px0 (stay L (fun r f1 => f1 = (FW G L a' b c) ∧ r = some (.int v) ∧ isB v)) := by
  refine Ct.ofq (own := RX3) hl rfl (by decide) [some (.ref (ad L 1)), none] rfl (Nat.le_of_ble_eq_true rfl) ?_
  intro p e s m below meth c9 A ar Q hQ X
  unfold f_X3_readText at hR
  refine j_aload_n X (i := 0) dX3_readText_0 rfl rfl ?_
  obtain ⟨a2, h1, hR⟩ := bT_inv hR
  refine j_callV0 X 3 (m_X3_clear hl hL h1) ml_X3_32 im_yX3_clear se_yX3_clear in_X3 cd_yX3_clear hy_yX3_clear dX3_readText_1 rfl (inL hL t_1 (by decide)) (FW3 hL t_1) ⟨(by decide), (by decide)⟩ ⟨(by decide), (by decide)⟩ (Nat.le_of_ble_eq_true rfl) (fun _ h => h.elim) (fun r9 L9 f9 h9 => ?_)
  obtain ⟨h91, h92, h93⟩ := h9
  subst r9
  subst f9
  subst L9
  dsimp only [Option.toList, List.cons_append, List.nil_append, List.append]
  refine j_aload_n X (i := 0) dX3_readText_4 rfl rfl ?_
  obtain ⟨a5, h4, hR⟩ := bP_inv hR
  refine j_callV0 X 3 (m_X3_readToken hl hL h4) ml_X3_35 im_yX3_readToken se_yX3_readToken in_X3 cd_yX3_readToken hy_yX3_readToken dX3_readText_5 rfl (inL hL t_1 (by decide)) (FW3 hL t_1) ⟨(by decide), (by decide)⟩ ⟨(by decide), (by decide)⟩ (Nat.le_of_ble_eq_true rfl) (fun _ h => h.elim) (fun r9 L9 f9 h9 => ?_)
  obtain ⟨h91, h92, h93⟩ := h9
  subst r9
  subst f9
  subst L9
  dsimp only [Option.toList, List.cons_append, List.nil_append, List.append]
  refine j_aload_n X (i := 0) dX3_readText_8 rfl rfl ?_
  refine j_ldcS X 0 dX3_readText_9 rfl ?_
  obtain ⟨x8, h7, hR⟩ := bP_inv hR
  refine j_callV1 X 3 (m_X3_isWord hl hL (by decide) h7) ml_X3_40 im_yX3_isWord se_yX3_isWord in_X3 cd_yX3_isWord hy_yX3_isWord dX3_readText_11 rfl (inL hL t_1 (by decide)) (FW3 hL t_1) ⟨(by decide), (by decide)⟩ ⟨(by decide), (by decide)⟩ (Nat.le_of_ble_eq_true rfl) (fun _ h => h.elim) (fun r9 L9 f9 h9 => ?_)
  obtain ⟨h91, h92, h93, h9⟩ := h9
  subst r9
  subst f9
  subst L9
  dsimp only [Option.toList, List.cons_append, List.nil_append, List.append]
  have hb22 : ∀ (a10 : Mem) , f_X3_readText_22 N a10 = some (v, a') → J G p l e ({ frames := 9, cells := 0, slots := 0, locals := 208 } : Room) s m ar below meth c9 A Q 2 0 0 22 [some (.ref (ad L 1)), none] [] L (FW G L a10 b c) := by
    intro a10 hR
    unfold f_X3_readText_22 at hR
    refine j_iconst X (0) dX3_readText_22 (by decide) ?_
    refine j_istore_n X (i := 1) dX3_readText_23 rfl (by decide) (lvOK_s rfl okPrev_ref) ?_
    dsimp only [List.set]
    have hb24 : ∀ (fu : Nat) (x11 : Int32) (a12 : Mem) , f_X3_readText_24 N fu x11 a12 = some (v, a') → J G p l e ({ frames := 9, cells := 0, slots := 0, locals := 208 } : Room) s m ar below meth c9 A Q 2 0 0 24 [some (.ref (ad L 1)), some (.int x11)] [] L (FW G L a12 b c) := by
      intro fu
      induction fu with
      | zero =>
        intro x11 a12 hR
        cases hR
      | succ fu ih =>
        intro x11 a12 hR
        replace hR := (f_X3_readText_24_s N ).symm.trans hR
        refine j_iload_n X (i := 1) dX3_readText_24 rfl rfl ?_
        refine j_sipush X (400) dX3_readText_25 (by decide) ?_
        have hb136 : ∀ (a13 : Mem) , f_X3_readText_136 N a13 = some (v, a') → J G p l e ({ frames := 9, cells := 0, slots := 0, locals := 208 } : Room) s m ar below meth c9 A Q 2 0 0 136 [some (.ref (ad L 1)), none] [] L (FW G L a13 b c) := by
          intro a13 hR
          unfold f_X3_readText_136 at hR
          refine j_aload_n X (i := 0) dX3_readText_136 rfl rfl ?_
          refine j_getf X 3 5 rfl cw_X3 fl_X3_48 (by decide) dX3_readText_137 (inL hL t_1 (by decide)) (FW3 hL t_1) rfl ?_
          refine j_if_ne X (tgt := 147) dX3_readText_140 (by decide) (fun h14 => ?_) (fun h14 => ?_)
          · replace hR := (if_neg h14).symm.trans hR
            refine j_iconst X (0) dX3_readText_147 (by decide) ?_
            exact q_zret X hQ dX3_readText_148 rfl (nar_B isB_0) ⟨(by decide), (by decide)⟩ ⟨rfl, congrArg (fun z => FW G L z b c) (Prod.mk.inj (Option.some.inj hR)).2, congrArg (fun z => some (Value.int z)) (Prod.mk.inj (Option.some.inj hR)).1, (Prod.mk.inj (Option.some.inj hR)).1 ▸ isB_0⟩
          · replace hR := (if_pos h14).symm.trans hR
            refine j_iconst X (1) dX3_readText_143 (by decide) ?_
            refine j_goto X (tgt := 148) dX3_readText_144 (by decide) ?_
            exact q_zret X hQ dX3_readText_148 rfl (nar_B isB_1) ⟨(by decide), (by decide)⟩ ⟨rfl, congrArg (fun z => FW G L z b c) (Prod.mk.inj (Option.some.inj hR)).2, congrArg (fun z => some (Value.int z)) (Prod.mk.inj (Option.some.inj hR)).1, (Prod.mk.inj (Option.some.inj hR)).1 ▸ isB_1⟩
        refine j_icmp_ge X (tgt := 136) dX3_readText_28 (by decide) (fun h15 => ?_) (fun h15 => ?_)
        · replace hR := (if_pos h15).symm.trans hR
          exact J.sub (lvle_of (by simp only [lvle, and_self])) (hb136 _  hR)
        · replace hR := (if_neg h15).symm.trans hR
          refine j_aload_n X (i := 0) dX3_readText_31 rfl rfl ?_
          refine j_getf X 3 5 rfl cw_X3 fl_X3_48 (by decide) dX3_readText_32 (inL hL t_1 (by decide)) (FW3 hL t_1) rfl ?_
          refine j_if_ne X (tgt := 136) dX3_readText_35 (by decide) (fun h16 => ?_) (fun h16 => ?_)
          · replace hR := (if_neg h16).symm.trans hR
            exact J.sub (lvle_of (by simp only [lvle, and_self])) (hb136 _  hR)
          · replace hR := (if_pos h16).symm.trans hR
            refine j_aload_n X (i := 0) dX3_readText_38 rfl rfl ?_
            refine j_getf X 3 7 rfl cw_X3 fl_X3_51 (by decide) dX3_readText_39 (inL hL t_1 (by decide)) (FW3 hL t_1) rfl ?_
            refine j_if_eq X (tgt := 136) dX3_readText_42 (by decide) (fun h17 => ?_) (fun h17 => ?_)
            · replace hR := (if_pos h17).symm.trans hR
              exact J.sub (lvle_of (by simp only [lvle, and_self])) (hb136 _  hR)
            · replace hR := (if_neg h17).symm.trans hR
              refine j_aload_n X (i := 0) dX3_readText_45 rfl rfl ?_
              refine j_ldcS X 0 dX3_readText_46 rfl ?_
              obtain ⟨x19, h18, hR⟩ := bP_inv hR
              refine j_callV1 X 3 (m_X3_isWord hl hL (by decide) h18) ml_X3_40 im_yX3_isWord se_yX3_isWord in_X3 cd_yX3_isWord hy_yX3_isWord dX3_readText_48 rfl (inL hL t_1 (by decide)) (FW3 hL t_1) ⟨(by decide), (by decide)⟩ ⟨(by decide), (by decide)⟩ (Nat.le_of_ble_eq_true rfl) (fun _ h => h.elim) (fun r9 L9 f9 h9 => ?_)
              obtain ⟨h91, h92, h93, h20⟩ := h9
              subst r9
              subst f9
              subst L9
              dsimp only [Option.toList, List.cons_append, List.nil_append, List.append]
              refine j_if_eq X (tgt := 61) dX3_readText_51 (by decide) (fun h21 => ?_) (fun h21 => ?_)
              · replace hR := (if_pos h21).symm.trans hR
                refine j_aload_n X (i := 0) dX3_readText_61 rfl rfl ?_
                refine j_ldcS X 6 dX3_readText_62 rfl ?_
                obtain ⟨x23, h22, hR⟩ := bP_inv hR
                refine j_callV1 X 3 (m_X3_isWord hl hL (by decide) h22) ml_X3_40 im_yX3_isWord se_yX3_isWord in_X3 cd_yX3_isWord hy_yX3_isWord dX3_readText_64 rfl (inL hL t_1 (by decide)) (FW3 hL t_1) ⟨(by decide), (by decide)⟩ ⟨(by decide), (by decide)⟩ (Nat.le_of_ble_eq_true rfl) (fun _ h => h.elim) (fun r9 L9 f9 h9 => ?_)
                obtain ⟨h91, h92, h93, h24⟩ := h9
                subst r9
                subst f9
                subst L9
                dsimp only [Option.toList, List.cons_append, List.nil_append, List.append]
                refine j_if_eq X (tgt := 77) dX3_readText_67 (by decide) (fun h25 => ?_) (fun h25 => ?_)
                · replace hR := (if_pos h25).symm.trans hR
                  refine j_aload_n X (i := 0) dX3_readText_77 rfl rfl ?_
                  refine j_ldcS X 7 dX3_readText_78 rfl ?_
                  obtain ⟨x27, h26, hR⟩ := bP_inv hR
                  refine j_callV1 X 3 (m_X3_isWord hl hL (by decide) h26) ml_X3_40 im_yX3_isWord se_yX3_isWord in_X3 cd_yX3_isWord hy_yX3_isWord dX3_readText_80 rfl (inL hL t_1 (by decide)) (FW3 hL t_1) ⟨(by decide), (by decide)⟩ ⟨(by decide), (by decide)⟩ (Nat.le_of_ble_eq_true rfl) (fun _ h => h.elim) (fun r9 L9 f9 h9 => ?_)
                  obtain ⟨h91, h92, h93, h28⟩ := h9
                  subst r9
                  subst f9
                  subst L9
                  dsimp only [Option.toList, List.cons_append, List.nil_append, List.append]
                  refine j_if_eq X (tgt := 93) dX3_readText_83 (by decide) (fun h29 => ?_) (fun h29 => ?_)
                  · replace hR := (if_pos h29).symm.trans hR
                    refine j_aload_n X (i := 0) dX3_readText_93 rfl rfl ?_
                    refine j_ldcS X 8 dX3_readText_94 rfl ?_
                    obtain ⟨x31, h30, hR⟩ := bP_inv hR
                    refine j_callV1 X 3 (m_X3_isWord hl hL (by decide) h30) ml_X3_40 im_yX3_isWord se_yX3_isWord in_X3 cd_yX3_isWord hy_yX3_isWord dX3_readText_96 rfl (inL hL t_1 (by decide)) (FW3 hL t_1) ⟨(by decide), (by decide)⟩ ⟨(by decide), (by decide)⟩ (Nat.le_of_ble_eq_true rfl) (fun _ h => h.elim) (fun r9 L9 f9 h9 => ?_)
                    obtain ⟨h91, h92, h93, h32⟩ := h9
                    subst r9
                    subst f9
                    subst L9
                    dsimp only [Option.toList, List.cons_append, List.nil_append, List.append]
                    refine j_if_eq X (tgt := 109) dX3_readText_99 (by decide) (fun h33 => ?_) (fun h33 => ?_)
                    · replace hR := (if_pos h33).symm.trans hR
                      refine j_aload_n X (i := 0) dX3_readText_109 rfl rfl ?_
                      refine j_ldcS X 11 dX3_readText_110 rfl ?_
                      obtain ⟨x35, h34, hR⟩ := bP_inv hR
                      refine j_callV1 X 3 (m_X3_isWord hl hL (by decide) h34) ml_X3_40 im_yX3_isWord se_yX3_isWord in_X3 cd_yX3_isWord hy_yX3_isWord dX3_readText_112 rfl (inL hL t_1 (by decide)) (FW3 hL t_1) ⟨(by decide), (by decide)⟩ ⟨(by decide), (by decide)⟩ (Nat.le_of_ble_eq_true rfl) (fun _ h => h.elim) (fun r9 L9 f9 h9 => ?_)
                      obtain ⟨h91, h92, h93, h36⟩ := h9
                      subst r9
                      subst f9
                      subst L9
                      dsimp only [Option.toList, List.cons_append, List.nil_append, List.append]
                      refine j_if_eq X (tgt := 125) dX3_readText_115 (by decide) (fun h37 => ?_) (fun h37 => ?_)
                      · replace hR := (if_pos h37).symm.trans hR
                        refine j_aload_n X (i := 0) dX3_readText_125 rfl rfl ?_
                        refine j_iconst X (1) dX3_readText_126 (by decide) ?_
                        obtain ⟨a39, h38, hR⟩ := bT_inv hR
                        refine j_callV1 X 3 (m_X3_fail hl hL h38) ml_X3_44 im_yX3_fail se_yX3_fail in_X3 cd_yX3_fail hy_yX3_fail dX3_readText_127 rfl (inL hL t_1 (by decide)) (FW3 hL t_1) ⟨(by decide), (by decide)⟩ ⟨(by decide), (by decide)⟩ (Nat.le_of_ble_eq_true rfl) (fun _ h => h.elim) (fun r9 L9 f9 h9 => ?_)
                        obtain ⟨h91, h92, h93⟩ := h9
                        subst r9
                        subst f9
                        subst L9
                        dsimp only [Option.toList, List.cons_append, List.nil_append, List.append]
                        obtain ⟨x41, h42, hR⟩ := bT_inv hR
                        refine j_iinc X x41 dX3_readText_130 rfl h42 (by decide) (lvOK_s rfl okPrev_ref) ?_
                        dsimp only [List.set]
                        refine j_goto X (tgt := 24) dX3_readText_133 (by decide) ?_
                        exact J.sub (lvle_of (by simp only [lvle, and_self])) (ih _ _  hR)
                      · replace hR := (if_neg h37).symm.trans hR
                        refine j_aload_n X (i := 0) dX3_readText_118 rfl rfl ?_
                        obtain ⟨a44, h43, hR⟩ := bP_inv hR
                        refine j_callV0 X 3 (m_X3_readClaims hl hL h43) ml_X3_74 im_yX3_readClaims se_yX3_readClaims in_X3 cd_yX3_readClaims hy_yX3_readClaims dX3_readText_119 rfl (inL hL t_1 (by decide)) (FW3 hL t_1) ⟨(by decide), (by decide)⟩ ⟨(by decide), (by decide)⟩ (Nat.le_of_ble_eq_true rfl) (fun _ h => h.elim) (fun r9 L9 f9 h9 => ?_)
                        obtain ⟨h91, h92, h93⟩ := h9
                        subst r9
                        subst f9
                        subst L9
                        dsimp only [Option.toList, List.cons_append, List.nil_append, List.append]
                        refine j_goto X (tgt := 130) dX3_readText_122 (by decide) ?_
                        obtain ⟨x46, h47, hR⟩ := bT_inv hR
                        refine j_iinc X x46 dX3_readText_130 rfl h47 (by decide) (lvOK_s rfl okPrev_ref) ?_
                        dsimp only [List.set]
                        refine j_goto X (tgt := 24) dX3_readText_133 (by decide) ?_
                        exact J.sub (lvle_of (by simp only [lvle, and_self])) (ih _ _  hR)
                    · replace hR := (if_neg h33).symm.trans hR
                      refine j_aload_n X (i := 0) dX3_readText_102 rfl rfl ?_
                      obtain ⟨a49, h48, hR⟩ := bP_inv hR
                      refine j_callV0 X 3 (m_X3_readHand hl hL h48) ml_X3_69 im_yX3_readHand se_yX3_readHand in_X3 cd_yX3_readHand hy_yX3_readHand dX3_readText_103 rfl (inL hL t_1 (by decide)) (FW3 hL t_1) ⟨(by decide), (by decide)⟩ ⟨(by decide), (by decide)⟩ (Nat.le_of_ble_eq_true rfl) (fun _ h => h.elim) (fun r9 L9 f9 h9 => ?_)
                      obtain ⟨h91, h92, h93⟩ := h9
                      subst r9
                      subst f9
                      subst L9
                      dsimp only [Option.toList, List.cons_append, List.nil_append, List.append]
                      refine j_goto X (tgt := 130) dX3_readText_106 (by decide) ?_
                      obtain ⟨x51, h52, hR⟩ := bT_inv hR
                      refine j_iinc X x51 dX3_readText_130 rfl h52 (by decide) (lvOK_s rfl okPrev_ref) ?_
                      dsimp only [List.set]
                      refine j_goto X (tgt := 24) dX3_readText_133 (by decide) ?_
                      exact J.sub (lvle_of (by simp only [lvle, and_self])) (ih _ _  hR)
                  · replace hR := (if_neg h29).symm.trans hR
                    refine j_aload_n X (i := 0) dX3_readText_86 rfl rfl ?_
                    obtain ⟨a54, h53, hR⟩ := bP_inv hR
                    refine j_callV0 X 3 (m_X3_readSession hl hL h53) ml_X3_64 im_yX3_readSession se_yX3_readSession in_X3 cd_yX3_readSession hy_yX3_readSession dX3_readText_87 rfl (inL hL t_1 (by decide)) (FW3 hL t_1) ⟨(by decide), (by decide)⟩ ⟨(by decide), (by decide)⟩ (Nat.le_of_ble_eq_true rfl) (fun _ h => h.elim) (fun r9 L9 f9 h9 => ?_)
                    obtain ⟨h91, h92, h93⟩ := h9
                    subst r9
                    subst f9
                    subst L9
                    dsimp only [Option.toList, List.cons_append, List.nil_append, List.append]
                    refine j_goto X (tgt := 130) dX3_readText_90 (by decide) ?_
                    obtain ⟨x56, h57, hR⟩ := bT_inv hR
                    refine j_iinc X x56 dX3_readText_130 rfl h57 (by decide) (lvOK_s rfl okPrev_ref) ?_
                    dsimp only [List.set]
                    refine j_goto X (tgt := 24) dX3_readText_133 (by decide) ?_
                    exact J.sub (lvle_of (by simp only [lvle, and_self])) (ih _ _  hR)
                · replace hR := (if_neg h25).symm.trans hR
                  refine j_aload_n X (i := 0) dX3_readText_70 rfl rfl ?_
                  obtain ⟨a59, h58, hR⟩ := bP_inv hR
                  refine j_callV0 X 3 (m_X3_readExtra hl hL h58) ml_X3_59 im_yX3_readExtra se_yX3_readExtra in_X3 cd_yX3_readExtra hy_yX3_readExtra dX3_readText_71 rfl (inL hL t_1 (by decide)) (FW3 hL t_1) ⟨(by decide), (by decide)⟩ ⟨(by decide), (by decide)⟩ (Nat.le_of_ble_eq_true rfl) (fun _ h => h.elim) (fun r9 L9 f9 h9 => ?_)
                  obtain ⟨h91, h92, h93⟩ := h9
                  subst r9
                  subst f9
                  subst L9
                  dsimp only [Option.toList, List.cons_append, List.nil_append, List.append]
                  refine j_goto X (tgt := 130) dX3_readText_74 (by decide) ?_
                  obtain ⟨x61, h62, hR⟩ := bT_inv hR
                  refine j_iinc X x61 dX3_readText_130 rfl h62 (by decide) (lvOK_s rfl okPrev_ref) ?_
                  dsimp only [List.set]
                  refine j_goto X (tgt := 24) dX3_readText_133 (by decide) ?_
                  exact J.sub (lvle_of (by simp only [lvle, and_self])) (ih _ _  hR)
              · replace hR := (if_neg h21).symm.trans hR
                refine j_aload_n X (i := 0) dX3_readText_54 rfl rfl ?_
                obtain ⟨a64, h63, hR⟩ := bP_inv hR
                refine j_callV0 X 3 (m_X3_readPeriod hl hL h63) ml_X3_54 im_yX3_readPeriod se_yX3_readPeriod in_X3 cd_yX3_readPeriod hy_yX3_readPeriod dX3_readText_55 rfl (inL hL t_1 (by decide)) (FW3 hL t_1) ⟨(by decide), (by decide)⟩ ⟨(by decide), (by decide)⟩ (Nat.le_of_ble_eq_true rfl) (fun _ h => h.elim) (fun r9 L9 f9 h9 => ?_)
                obtain ⟨h91, h92, h93⟩ := h9
                subst r9
                subst f9
                subst L9
                dsimp only [Option.toList, List.cons_append, List.nil_append, List.append]
                refine j_goto X (tgt := 130) dX3_readText_58 (by decide) ?_
                obtain ⟨x66, h67, hR⟩ := bT_inv hR
                refine j_iinc X x66 dX3_readText_130 rfl h67 (by decide) (lvOK_s rfl okPrev_ref) ?_
                dsimp only [List.set]
                refine j_goto X (tgt := 24) dX3_readText_133 (by decide) ?_
                exact J.sub (lvle_of (by simp only [lvle, and_self])) (ih _ _  hR)
    exact J.sub (lvle_of (by simp only [lvle, and_self])) (hb24 _ _ _  hR)
  refine j_if_ne X (tgt := 22) dX3_readText_14 (by decide) (fun h68 => ?_) (fun h68 => ?_)
  · replace hR := (if_neg h68).symm.trans hR
    exact J.sub (lvle_of (by simp only [lvle, and_self])) (hb22 _  hR)
  · replace hR := (if_pos h68).symm.trans hR
    refine j_aload_n X (i := 0) dX3_readText_17 rfl rfl ?_
    refine j_iconst X (1) dX3_readText_18 (by decide) ?_
    obtain ⟨a70, h69, hR⟩ := bT_inv hR
    refine j_callV1 X 3 (m_X3_fail hl hL h69) ml_X3_44 im_yX3_fail se_yX3_fail in_X3 cd_yX3_fail hy_yX3_fail dX3_readText_19 rfl (inL hL t_1 (by decide)) (FW3 hL t_1) ⟨(by decide), (by decide)⟩ ⟨(by decide), (by decide)⟩ (Nat.le_of_ble_eq_true rfl) (fun _ h => h.elim) (fun r9 L9 f9 h9 => ?_)
    obtain ⟨h91, h92, h93⟩ := h9
    subst r9
    subst f9
    subst L9
    dsimp only [Option.toList, List.cons_append, List.nil_append, List.append]
    exact J.sub (lvle_of (by simp only [lvle, and_self])) (hb22 _  hR)

