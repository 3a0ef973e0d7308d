def f_X9_ahead (N : Nat) (b : Mem) : Option (Int32 × Mem) := bT (up2 b 0 0 (0 : Int32)) fun b1 => bP (f_X9_of N (0 : Int32) (0 : Int32) b1) fun x4 => bP (f_X9_of N (1 : Int32) (0 : Int32) b1) fun x7 => some ((x4 - x7), b1)
set_option maxRecDepth 100000 in
set_option maxHeartbeats 4000000 in
theorem m_X9_ahead {l : Launch} (hl : l.stackTraces = false) {G : GG} {L : List Nat} (hL : LOK L) {a b c : Mem} {N : Nat}  {v : Int32} {a' : Mem} (hR : f_X9_ahead N b = some (v, a')) : Ct l G yX9_ahead (.code yX9_ahead cX9_ahead 1 (some .int)) 1 22 0 0 [.ref (ad L 96)] L (FW G L a b c) px0 (stay L (fun r f1 => f1 = (FW G L a a' c) ∧ r = some (.int v))) := by
  refine Ct.ofq (own := RX9) hl rfl (by decide) [some (.ref (ad L 96))] rfl (Nat.le_of_ble_eq_true rfl) ?_
  intro p e s m below meth c9 A ar Q hQ X
  unfold f_X9_ahead at hR
  refine j_aload_n X (i := 0) dX9_ahead_0 rfl rfl ?_
  refine j_iconst X (0) dX9_ahead_1 (by decide) ?_
  obtain ⟨b1, h2, hR⟩ := bT_inv hR
  refine tp_X9_0 X hL h2 fl_X9_3 dX9_ahead_2 ?_
  refine j_aload_n X (i := 0) dX9_ahead_5 rfl rfl ?_
  refine j_iconst X (0) dX9_ahead_6 (by decide) ?_
  refine j_iconst X (0) dX9_ahead_7 (by decide) ?_
  obtain ⟨x4, h3, hR⟩ := bP_inv hR
  refine j_callV2 X 9 (m_X9_of hl hL h3) ml_X9_57 im_yX9_of se_yX9_of in_X9 cd_yX9_of hy_yX9_of dX9_ahead_8 rfl (ad_mem hL (by decide)) (FW9 hL) ⟨(by decide), (by decide)⟩ ⟨(by decide), (by decide)⟩ (Nat.le_of_ble_eq_true rfl) (fun _ h => h.elim) (fun r9 L9 f9 h9 => ?_)
  obtain ⟨h91, h92, h93⟩ := h9
  subst r9
  subst f9
  subst L9
  dsimp only [Option.toList, List.cons_append, List.nil_append, List.append]
  refine j_aload_n X (i := 0) dX9_ahead_11 rfl rfl ?_
  refine j_iconst X (1) dX9_ahead_12 (by decide) ?_
  refine j_iconst X (0) dX9_ahead_13 (by decide) ?_
  obtain ⟨x7, h6, hR⟩ := bP_inv hR
  refine j_callV2 X 9 (m_X9_of hl hL h6) ml_X9_57 im_yX9_of se_yX9_of in_X9 cd_yX9_of hy_yX9_of dX9_ahead_14 rfl (ad_mem hL (by decide)) (FW9 hL) ⟨(by decide), (by decide)⟩ ⟨(by decide), (by decide)⟩ (Nat.le_of_ble_eq_true rfl) (fun _ h => h.elim) (fun r9 L9 f9 h9 => ?_)
  obtain ⟨h91, h92, h93⟩ := h9
  subst r9
  subst f9
  subst L9
  dsimp only [Option.toList, List.cons_append, List.nil_append, List.append]
  refine j_isub X dX9_ahead_17 ?_
  exact q_iret X hQ dX9_ahead_18 rfl ⟨(by decide), (by decide)⟩ ⟨rfl, congrArg (fun z => FW G L a z c) (Prod.mk.inj (Option.some.inj hR)).2, congrArg (fun z => some (Value.int z)) (Prod.mk.inj (Option.some.inj hR)).1⟩
def f_X9_longest_17 (N : Nat) (p0 : Int32) (b6 : Mem) : Nat → Int32 → Int32 → Option (Int32 × Mem)
  | 0, _, _ => none
  | fu + 1, x9, x10 => bP (f_X9_logMany N b6) fun x12 => if x12 ≤ x10 then (some (x9, b6)) else (bP (f_X9_ofLog N x10 (0 : Int32) b6) fun x16 => if x16 = p0 then (bP (f_X9_ofLog N x10 (1 : Int32) b6) fun x22 => bT (mxI x9 x22) fun x24 => bT (x10 + (1 : Int32)) fun x26 => f_X9_longest_17 N p0 b6 fu x24 x26) else (bT (x10 + (1 : Int32)) fun x19 => f_X9_longest_17 N p0 b6 fu x9 x19))
theorem f_X9_longest_17_s (N : Nat) (p0 : Int32) (b6 : Mem) {fu : Nat} {x9 : Int32} {x10 : Int32} : f_X9_longest_17 N p0 b6 (fu + 1) x9 x10 = (bP (f_X9_logMany N b6) fun x12 => if x12 ≤ x10 then (some (x9, b6)) else (bP (f_X9_ofLog N x10 (0 : Int32) b6) fun x16 => if x16 = p0 then (bP (f_X9_ofLog N x10 (1 : Int32) b6) fun x22 => bT (mxI x9 x22) fun x24 => bT (x10 + (1 : Int32)) fun x26 => f_X9_longest_17 N p0 b6 fu x24 x26) else (bT (x10 + (1 : Int32)) fun x19 => f_X9_longest_17 N p0 b6 fu x9 x19))) := rfl
def f_X9_longest (N : Nat) (p0 : Int32) (b : Mem) : Option (Int32 × Mem) := bT (f_X9_isSide p0 b) fun x2 => bT2 (f_X9_passes x2 b) fun x5 b6 => if x5 = 0 then (some ((0 : Int32), b6)) else (f_X9_longest_17 N p0 b6 N (0 : Int32) (0 : Int32))
set_option maxRecDepth 100000 in
set_option maxHeartbeats 4000000 in
theorem m_X9_longest {l : Launch} (hl : l.stackTraces = false) {G : GG} {L : List Nat} (hL : LOK L) {a b c : Mem} {N : Nat} {p0 : Int32} {v : Int32} {a' : Mem} (hR : f_X9_longest N p0 b = some (v, a')) : Ct l G yX9_longest (.code yX9_longest cX9_longest 4 (some .int)) 2 45 0 0 [.ref (ad L 96), .int p0] L (FW G L a b c) px0 (stay L (fun r f1 => f1 = (FW G L a a' c) ∧ r = some (.int v))) := by
  refine Ct.ofq (own := RX9) hl rfl (by decide) [some (.ref (ad L 96)), some (.int p0), none, none] rfl (Nat.le_of_ble_eq_true rfl) ?_
  intro p e s m below meth c9 A ar Q hQ X
  unfold f_X9_longest at hR
  refine j_aload_n X (i := 0) dX9_longest_0 rfl rfl ?_
  refine j_iload_n X (i := 1) dX9_longest_1 rfl rfl ?_
  obtain ⟨x2, h1, hR⟩ := bT_inv hR
  refine j_callS1 X (m_X9_isSide hl hL h1) ml_X9_318 st_yX9_isSide in_X9 cd_yX9_isSide hy_yX9_isSide dX9_longest_2 ⟨(by decide), (by decide)⟩ ⟨(by decide), (by decide)⟩ (Nat.le_of_ble_eq_true rfl) (fun _ h => h.elim) (fun r9 L9 f9 h9 => ?_)
  obtain ⟨h91, h92, h93, h3⟩ := h9
  subst r9
  subst f9
  subst L9
  dsimp only [Option.toList, List.cons_append, List.nil_append, List.append]
  obtain ⟨x5, b6, h4, hR⟩ := bT2_inv hR
  refine j_callV1 X 9 (m_X9_passes hl hL h3 h4) ml_X9_159 im_yX9_passes se_yX9_passes in_X9 cd_yX9_passes hy_yX9_passes dX9_longest_5 rfl (ad_mem hL (by decide)) (FW9 hL) ⟨(by decide), (by decide)⟩ ⟨(by decide), (by decide)⟩ (Nat.le_of_ble_eq_true rfl) (fun _ h => h.elim) (fun r9 L9 f9 h9 => ?_)
  obtain ⟨h91, h92, h93, h7⟩ := h9
  subst r9
  subst f9
  subst L9
  dsimp only [Option.toList, List.cons_append, List.nil_append, List.append]
  refine j_if_ne X (tgt := 13) dX9_longest_8 (by decide) (fun h8 => ?_) (fun h8 => ?_)
  · replace hR := (if_neg h8).symm.trans hR
    refine j_iconst X (0) dX9_longest_13 (by decide) ?_
    refine j_istore_n X (i := 2) dX9_longest_14 rfl (by decide) (lvOK_s rfl okPrev_int) ?_
    dsimp only [List.set]
    refine j_iconst X (0) dX9_longest_15 (by decide) ?_
    refine j_istore_n X (i := 3) dX9_longest_16 rfl (by decide) (lvOK_s rfl okPrev_int) ?_
    dsimp only [List.set]
    have hb17 : ∀ (fu : Nat) (x9 : Int32) (x10 : Int32) , f_X9_longest_17 N p0 b6 fu x9 x10 = some (v, a') → J G p l e ({ frames := 2, cells := 0, slots := 0, locals := 45 } : Room) s m ar below meth c9 A Q 4 0 0 17 [some (.ref (ad L 96)), some (.int p0), some (.int x9), some (.int x10)] [] L (FW G L a b6 c) := by
      intro fu
      induction fu with
      | zero =>
        intro x9 x10 hR
        cases hR
      | succ fu ih =>
        intro x9 x10 hR
        replace hR := (f_X9_longest_17_s N p0 b6).symm.trans hR
        refine j_iload_n X (i := 3) dX9_longest_17 rfl rfl ?_
        refine j_aload_n X (i := 0) dX9_longest_18 rfl rfl ?_
        obtain ⟨x12, h11, hR⟩ := bP_inv hR
        refine j_callV0 X 9 (m_X9_logMany hl hL h11) ml_X9_324 im_yX9_logMany se_yX9_logMany in_X9 cd_yX9_logMany hy_yX9_logMany dX9_longest_19 rfl (ad_mem hL (by decide)) (FW9 hL) ⟨(by decide), (by decide)⟩ ⟨(by decide), (by decide)⟩ (Nat.le_of_ble_eq_true rfl) (fun _ h => h.elim) (fun r9 L9 f9 h9 => ?_)
        obtain ⟨h91, h92, h93⟩ := h9
        subst r9
        subst f9
        subst L9
        dsimp only [Option.toList, List.cons_append, List.nil_append, List.append]
        refine j_icmp_ge X (tgt := 56) dX9_longest_22 (by decide) (fun h14 => ?_) (fun h14 => ?_)
        · replace hR := (if_pos h14).symm.trans hR
          refine j_iload_n X (i := 2) dX9_longest_56 rfl rfl ?_
          exact q_iret X hQ dX9_longest_57 rfl ⟨(by decide), (by decide)⟩ ⟨rfl, congrArg (fun z => FW G L a z c) (Prod.mk.inj (Option.some.inj hR)).2, congrArg (fun z => some (Value.int z)) (Prod.mk.inj (Option.some.inj hR)).1⟩
        · replace hR := (if_neg h14).symm.trans hR
          refine j_aload_n X (i := 0) dX9_longest_25 rfl rfl ?_
          refine j_iload_n X (i := 3) dX9_longest_26 rfl rfl ?_
          refine j_iconst X (0) dX9_longest_27 (by decide) ?_
          obtain ⟨x16, h15, hR⟩ := bP_inv hR
          refine j_callV2 X 9 (m_X9_ofLog hl hL h15) ml_X9_329 im_yX9_ofLog se_yX9_ofLog in_X9 cd_yX9_ofLog hy_yX9_ofLog dX9_longest_28 rfl (ad_mem hL (by decide)) (FW9 hL) ⟨(by decide), (by decide)⟩ ⟨(by decide), (by decide)⟩ (Nat.le_of_ble_eq_true rfl) (fun _ h => h.elim) (fun r9 L9 f9 h9 => ?_)
          obtain ⟨h91, h92, h93⟩ := h9
          subst r9
          subst f9
          subst L9
          dsimp only [Option.toList, List.cons_append, List.nil_append, List.append]
          refine j_iload_n X (i := 1) dX9_longest_31 rfl rfl ?_
          refine j_icmp_ne X (tgt := 48) dX9_longest_32 (by decide) (fun h18 => ?_) (fun h18 => ?_)
          · replace hR := (if_neg h18).symm.trans hR
            refine j_iload_n X (i := 2) dX9_longest_48 rfl rfl ?_
            refine j_istore_n X (i := 2) dX9_longest_49 rfl (by decide) (lvOK_s rfl okPrev_int) ?_
            dsimp only [List.set]
            obtain ⟨x19, h20, hR⟩ := bT_inv hR
            refine j_iinc X x19 dX9_longest_50 rfl h20 (by decide) (lvOK_s rfl okPrev_int) ?_
            dsimp only [List.set]
            refine j_goto X (tgt := 17) dX9_longest_53 (by decide) ?_
            exact J.sub (lvle_of (by simp only [lvle, and_self])) (ih _ _  hR)
          · replace hR := (if_pos h18).symm.trans hR
            refine j_iload_n X (i := 2) dX9_longest_35 rfl rfl ?_
            refine j_aload_n X (i := 0) dX9_longest_36 rfl rfl ?_
            refine j_iload_n X (i := 3) dX9_longest_37 rfl rfl ?_
            refine j_iconst X (1) dX9_longest_38 (by decide) ?_
            obtain ⟨x22, h21, hR⟩ := bP_inv hR
            refine j_callV2 X 9 (m_X9_ofLog hl hL h21) ml_X9_329 im_yX9_ofLog se_yX9_ofLog in_X9 cd_yX9_ofLog hy_yX9_ofLog dX9_longest_39 rfl (ad_mem hL (by decide)) (FW9 hL) ⟨(by decide), (by decide)⟩ ⟨(by decide), (by decide)⟩ (Nat.le_of_ble_eq_true rfl) (fun _ h => h.elim) (fun r9 L9 f9 h9 => ?_)
            obtain ⟨h91, h92, h93⟩ := h9
            subst r9
            subst f9
            subst L9
            dsimp only [Option.toList, List.cons_append, List.nil_append, List.append]
            refine j_mmax X ml_X9_114 dX9_longest_42 ⟨(by decide), (Nat.le_of_ble_eq_true rfl)⟩ ⟨(by decide), (by decide)⟩ ?_
            refine j_goto X (tgt := 49) dX9_longest_45 (by decide) ?_
            obtain ⟨x24, h25, hR⟩ := bT_inv hR
            refine J.eqi h25 ?_
            refine j_istore_n X (i := 2) dX9_longest_49 rfl (by decide) (lvOK_s rfl okPrev_int) ?_
            dsimp only [List.set]
            obtain ⟨x26, h27, hR⟩ := bT_inv hR
            refine j_iinc X x26 dX9_longest_50 rfl h27 (by decide) (lvOK_s rfl okPrev_int) ?_
            dsimp only [List.set]
            refine j_goto X (tgt := 17) dX9_longest_53 (by decide) ?_
            exact J.sub (lvle_of (by simp only [lvle, and_self])) (ih _ _  hR)
    exact J.sub (lvle_of (by simp only [lvle, and_self])) (hb17 _ _ _  hR)
  · replace hR := (if_pos h8).symm.trans hR
    refine j_iconst X (0) dX9_longest_11 (by decide) ?_
    exact q_iret X hQ dX9_longest_12 rfl ⟨(by decide), (by decide)⟩ ⟨rfl, congrArg (fun z => FW G L a z c) (Prod.mk.inj (Option.some.inj hR)).2, congrArg (fun z => some (Value.int z)) (Prod.mk.inj (Option.some.inj hR)).1⟩
def f_X9_sumOf_5 (N : Nat) (p0 : Int32) (p1 : Int32) (b : Mem) : Nat → Int32 → Int32 → Option Int32
  | 0, _, _ => none
  | fu + 1, x1, x2 => bP (f_X9_logMany N b) fun x4 => if x4 ≤ x2 then (some x1) else (bP (f_X9_ofLog N x2 (0 : Int32) b) fun x8 => if x8 = p0 then (bP (f_X9_ofLog N x2 p1 b) fun x16 => bT (x1 + x16) fun x18 => bT (x2 + (1 : Int32)) fun x20 => f_X9_sumOf_5 N p0 p1 b fu x18 x20) else (bT (x1 + (0 : Int32)) fun x11 => bT (x2 + (1 : Int32)) fun x13 => f_X9_sumOf_5 N p0 p1 b fu x11 x13))
theorem f_X9_sumOf_5_s (N : Nat) (p0 : Int32) (p1 : Int32) (b : Mem) {fu : Nat} {x1 : Int32} {x2 : Int32} : f_X9_sumOf_5 N p0 p1 b (fu + 1) x1 x2 = (bP (f_X9_logMany N b) fun x4 => if x4 ≤ x2 then (some x1) else (bP (f_X9_ofLog N x2 (0 : Int32) b) fun x8 => if x8 = p0 then (bP (f_X9_ofLog N x2 p1 b) fun x16 => bT (x1 + x16) fun x18 => bT (x2 + (1 : Int32)) fun x20 => f_X9_sumOf_5 N p0 p1 b fu x18 x20) else (bT (x1 + (0 : Int32)) fun x11 => bT (x2 + (1 : Int32)) fun x13 => f_X9_sumOf_5 N p0 p1 b fu x11 x13))) := rfl
def f_X9_sumOf (N : Nat) (p0 : Int32) (p1 : Int32) (b : Mem) : Option Int32 := f_X9_sumOf_5 N p0 p1 b N (0 : Int32) (0 : Int32)
set_option maxRecDepth 100000 in
set_option maxHeartbeats 4000000 in
theorem m_X9_sumOf {l : Launch} (hl : l.stackTraces = false) {G : GG} {L : List Nat} (hL : LOK L) {a b c : Mem} {N : Nat} {p0 : Int32} {p1 : Int32} {v : Int32} (hR : f_X9_sumOf N p0 p1 b = some v) : Ct l G yX9_sumOf (.code yX9_sumOf cX9_sumOf 5 (some .int)) 2 44 0 0 [.ref (ad L 96), .int p0, .int p1] L (FW G L a b c) px0 (stay L (fun r f1 => f1 = (FW G L a b c) ∧ r = some (.int v))) := by
  refine Ct.ofq (own := RX9) hl rfl (by decide) [some (.ref (ad L 96)), some (.int p0), some (.int p1), none, none] rfl (Nat.le_of_ble_eq_true rfl) ?_
  intro p e s m below meth c9 A ar Q hQ X
  unfold f_X9_sumOf at hR
  refine j_iconst X (0) dX9_sumOf_0 (by decide) ?_
  refine j_istore_n X (i := 3) dX9_sumOf_1 rfl (by decide) (lvOK_s rfl okPrev_int) ?_
  dsimp only [List.set]
  refine j_iconst X (0) dX9_sumOf_2 (by decide) ?_
  refine j_istore X dX9_sumOf_3 (by decide) (lvOK_s rfl okPrev_int) ?_
  dsimp only [List.set]
  have hb5 : ∀ (fu : Nat) (x1 : Int32) (x2 : Int32) , f_X9_sumOf_5 N p0 p1 b fu x1 x2 = some v → J G p l e ({ frames := 2, cells := 0, slots := 0, locals := 44 } : Room) s m ar below meth c9 A Q 5 0 0 5 [some (.ref (ad L 96)), some (.int p0), some (.int p1), some (.int x1), some (.int x2)] [] L (FW G L a b c) := by
    intro fu
    induction fu with
    | zero =>
      intro x1 x2 hR
      cases hR
    | succ fu ih =>
      intro x1 x2 hR
      replace hR := (f_X9_sumOf_5_s N p0 p1 b).symm.trans hR
      refine j_iload X dX9_sumOf_5 rfl ?_
      refine j_aload_n X (i := 0) dX9_sumOf_7 rfl rfl ?_
      obtain ⟨x4, h3, hR⟩ := bP_inv hR
      refine j_callV0 X 9 (m_X9_logMany hl hL h3) ml_X9_324 im_yX9_logMany se_yX9_logMany in_X9 cd_yX9_logMany hy_yX9_logMany dX9_sumOf_8 rfl (ad_mem hL (by decide)) (FW9 hL) ⟨(by decide), (by decide)⟩ ⟨(by decide), (by decide)⟩ (Nat.le_of_ble_eq_true rfl) (fun _ h => h.elim) (fun r9 L9 f9 h9 => ?_)
      obtain ⟨h91, h92, h93⟩ := h9
      subst r9
      subst f9
      subst L9
      dsimp only [Option.toList, List.cons_append, List.nil_append, List.append]
      refine j_icmp_ge X (tgt := 45) dX9_sumOf_11 (by decide) (fun h6 => ?_) (fun h6 => ?_)
      · replace hR := (if_pos h6).symm.trans hR
        refine j_iload_n X (i := 3) dX9_sumOf_45 rfl rfl ?_
        exact q_iret X hQ dX9_sumOf_46 rfl ⟨(by decide), (by decide)⟩ ⟨rfl, rfl, congrArg (fun z => some (Value.int z)) (Option.some.inj hR)⟩
      · replace hR := (if_neg h6).symm.trans hR
        refine j_iload_n X (i := 3) dX9_sumOf_14 rfl rfl ?_
        refine j_aload_n X (i := 0) dX9_sumOf_15 rfl rfl ?_
        refine j_iload X dX9_sumOf_16 rfl ?_
        refine j_iconst X (0) dX9_sumOf_18 (by decide) ?_
        obtain ⟨x8, h7, hR⟩ := bP_inv hR
        refine j_callV2 X 9 (m_X9_ofLog hl hL h7) ml_X9_329 im_yX9_ofLog se_yX9_ofLog in_X9 cd_yX9_ofLog hy_yX9_ofLog dX9_sumOf_19 rfl (ad_mem hL (by decide)) (FW9 hL) ⟨(by decide), (by decide)⟩ ⟨(by decide), (by decide)⟩ (Nat.le_of_ble_eq_true rfl) (fun _ h => h.elim) (fun r9 L9 f9 h9 => ?_)
        obtain ⟨h91, h92, h93⟩ := h9
        subst r9
        subst f9
        subst L9
        dsimp only [Option.toList, List.cons_append, List.nil_append, List.append]
        refine j_iload_n X (i := 1) dX9_sumOf_22 rfl rfl ?_
        refine j_icmp_ne X (tgt := 36) dX9_sumOf_23 (by decide) (fun h10 => ?_) (fun h10 => ?_)
        · replace hR := (if_neg h10).symm.trans hR
          refine j_iconst X (0) dX9_sumOf_36 (by decide) ?_
          refine j_iadd X dX9_sumOf_37 ?_
          obtain ⟨x11, h12, hR⟩ := bT_inv hR
          refine J.eqi h12 ?_
          refine j_istore_n X (i := 3) dX9_sumOf_38 rfl (by decide) (lvOK_s rfl okPrev_int) ?_
          dsimp only [List.set]
          obtain ⟨x13, h14, hR⟩ := bT_inv hR
          refine j_iinc X x13 dX9_sumOf_39 rfl h14 (by decide) (lvOK_s rfl okPrev_int) ?_
          dsimp only [List.set]
          refine j_goto X (tgt := 5) dX9_sumOf_42 (by decide) ?_
          exact J.sub (lvle_of (by simp only [lvle, and_self])) (ih _ _  hR)
        · replace hR := (if_pos h10).symm.trans hR
          refine j_aload_n X (i := 0) dX9_sumOf_26 rfl rfl ?_
          refine j_iload X dX9_sumOf_27 rfl ?_
          refine j_iload_n X (i := 2) dX9_sumOf_29 rfl rfl ?_
          obtain ⟨x16, h15, hR⟩ := bP_inv hR
          refine j_callV2 X 9 (m_X9_ofLog hl hL h15) ml_X9_329 im_yX9_ofLog se_yX9_ofLog in_X9 cd_yX9_ofLog hy_yX9_ofLog dX9_sumOf_30 rfl (ad_mem hL (by decide)) (FW9 hL) ⟨(by decide), (by decide)⟩ ⟨(by decide), (by decide)⟩ (Nat.le_of_ble_eq_true rfl) (fun _ h => h.elim) (fun r9 L9 f9 h9 => ?_)
          obtain ⟨h91, h92, h93⟩ := h9
          subst r9
          subst f9
          subst L9
          dsimp only [Option.toList, List.cons_append, List.nil_append, List.append]
          refine j_goto X (tgt := 37) dX9_sumOf_33 (by decide) ?_
          refine j_iadd X dX9_sumOf_37 ?_
          obtain ⟨x18, h19, hR⟩ := bT_inv hR
          refine J.eqi h19 ?_
          refine j_istore_n X (i := 3) dX9_sumOf_38 rfl (by decide) (lvOK_s rfl okPrev_int) ?_
          dsimp only [List.set]
          obtain ⟨x20, h21, hR⟩ := bT_inv hR
          refine j_iinc X x20 dX9_sumOf_39 rfl h21 (by decide) (lvOK_s rfl okPrev_int) ?_
          dsimp only [List.set]
          refine j_goto X (tgt := 5) dX9_sumOf_42 (by decide) ?_
          exact J.sub (lvle_of (by simp only [lvle, and_self])) (ih _ _  hR)
  exact J.sub (lvle_of (by simp only [lvle, and_self])) (hb5 _ _ _  hR)
def f_X9_meanThink_17 (N : Nat) (p0 : Int32) (b6 : Mem) : Nat → Int32 → Int32 → Option (UInt64 × Mem)
  | 0, _, _ => none
  | fu + 1, x9, x10 => bP (f_X9_logMany N b6) fun x12 => if x12 ≤ x10 then (if x9 = 0 then (some (FP.dconst0, b6)) else (bP (f_X9_sumOf N p0 (1 : Int32) b6) fun x17 => chkP ((FP.ddiv (FP.i2d x17) (FP.i2d x9)) &&& 0x7fffffffffffffff ≤ 0x7ff0000000000000) <| some ((FP.ddiv (FP.i2d x17) (FP.i2d x9)), b6))) else (bP (f_X9_ofLog N x10 (0 : Int32) b6) fun x21 => if x21 = p0 then (bT (x9 + (1 : Int32)) fun x28 => bT (x10 + (1 : Int32)) fun x30 => f_X9_meanThink_17 N p0 b6 fu x28 x30) else (bT (x9 + (0 : Int32)) fun x24 => bT (x10 + (1 : Int32)) fun x26 => f_X9_meanThink_17 N p0 b6 fu x24 x26))
theorem f_X9_meanThink_17_s (N : Nat) (p0 : Int32) (b6 : Mem) {fu : Nat} {x9 : Int32} {x10 : Int32} : f_X9_meanThink_17 N p0 b6 (fu + 1) x9 x10 = (bP (f_X9_logMany N b6) fun x12 => if x12 ≤ x10 then (if x9 = 0 then (some (FP.dconst0, b6)) else (bP (f_X9_sumOf N p0 (1 : Int32) b6) fun x17 => chkP ((FP.ddiv (FP.i2d x17) (FP.i2d x9)) &&& 0x7fffffffffffffff ≤ 0x7ff0000000000000) <| some ((FP.ddiv (FP.i2d x17) (FP.i2d x9)), b6))) else (bP (f_X9_ofLog N x10 (0 : Int32) b6) fun x21 => if x21 = p0 then (bT (x9 + (1 : Int32)) fun x28 => bT (x10 + (1 : Int32)) fun x30 => f_X9_meanThink_17 N p0 b6 fu x28 x30) else (bT (x9 + (0 : Int32)) fun x24 => bT (x10 + (1 : Int32)) fun x26 => f_X9_meanThink_17 N p0 b6 fu x24 x26))) := rfl
def f_X9_meanThink (N : Nat) (p0 : Int32) (b : Mem) : Option (UInt64 × Mem) := bT (f_X9_isSide p0 b) fun x2 => bT2 (f_X9_passes x2 b) fun x5 b6 => if x5 = 0 then (some (FP.dconst0, b6)) else (f_X9_meanThink_17 N p0 b6 N (0 : Int32) (0 : Int32))
set_option maxRecDepth 100000 in
set_option maxHeartbeats 4000000 in
theorem m_X9_meanThink {l : Launch} (hl : l.stackTraces = false) {G : GG} {L : List Nat} (hL : LOK L) {a b c : Mem} {N : Nat} {p0 : Int32} {v : UInt64} {a' : Mem} (hR : f_X9_meanThink N p0 b = some (v, a')) : Ct l G yX9_meanThink (.code yX9_meanThink cX9_meanThink 4 (some .double)) 3 68 0 0 [.ref (ad L 96), .int p0] L (FW G L a b c) px0 (stay L (fun r f1 => f1 = (FW G L a a' c) ∧ r = some (.double v))) := by
  refine Ct.ofq (own := RX9) hl rfl (by decide) [some (.ref (ad L 96)), some (.int p0), none, none] rfl (Nat.le_of_ble_eq_true rfl) ?_
  intro p e s m below meth c9 A ar Q hQ X
  unfold f_X9_meanThink at hR
  refine j_aload_n X (i := 0) dX9_meanThink_0 rfl rfl ?_
  refine j_iload_n X (i := 1) dX9_meanThink_1 rfl rfl ?_
  obtain ⟨x2, h1, hR⟩ := bT_inv hR
  refine j_callS1 X (m_X9_isSide hl hL h1) ml_X9_318 st_yX9_isSide in_X9 cd_yX9_isSide hy_yX9_isSide dX9_meanThink_2 ⟨(by decide), (by decide)⟩ ⟨(by decide), (by decide)⟩ (Nat.le_of_ble_eq_true rfl) (fun _ h => h.elim) (fun r9 L9 f9 h9 => ?_)
  obtain ⟨h91, h92, h93, h3⟩ := h9
  subst r9
  subst f9
  subst L9
  dsimp only [Option.toList, List.cons_append, List.nil_append, List.append]
  obtain ⟨x5, b6, h4, hR⟩ := bT2_inv hR
  refine j_callV1 X 9 (m_X9_passes hl hL h3 h4) ml_X9_159 im_yX9_passes se_yX9_passes in_X9 cd_yX9_passes hy_yX9_passes dX9_meanThink_5 rfl (ad_mem hL (by decide)) (FW9 hL) ⟨(by decide), (by decide)⟩ ⟨(by decide), (by decide)⟩ (Nat.le_of_ble_eq_true rfl) (fun _ h => h.elim) (fun r9 L9 f9 h9 => ?_)
  obtain ⟨h91, h92, h93, h7⟩ := h9
  subst r9
  subst f9
  subst L9
  dsimp only [Option.toList, List.cons_append, List.nil_append, List.append]
  refine j_if_ne X (tgt := 13) dX9_meanThink_8 (by decide) (fun h8 => ?_) (fun h8 => ?_)
  · replace hR := (if_neg h8).symm.trans hR
    refine j_iconst X (0) dX9_meanThink_13 (by decide) ?_
    refine j_istore_n X (i := 2) dX9_meanThink_14 rfl (by decide) (lvOK_s rfl okPrev_int) ?_
    dsimp only [List.set]
    refine j_iconst X (0) dX9_meanThink_15 (by decide) ?_
    refine j_istore_n X (i := 3) dX9_meanThink_16 rfl (by decide) (lvOK_s rfl okPrev_int) ?_
    dsimp only [List.set]
    have hb17 : ∀ (fu : Nat) (x9 : Int32) (x10 : Int32) , f_X9_meanThink_17 N p0 b6 fu x9 x10 = some (v, a') → J G p l e ({ frames := 3, cells := 0, slots := 0, locals := 68 } : Room) s m ar below meth c9 A Q 4 0 0 17 [some (.ref (ad L 96)), some (.int p0), some (.int x9), some (.int x10)] [] L (FW G L a b6 c) := by
      intro fu
      induction fu with
      | zero =>
        intro x9 x10 hR
        cases hR
      | succ fu ih =>
        intro x9 x10 hR
        replace hR := (f_X9_meanThink_17_s N p0 b6).symm.trans hR
        refine j_iload_n X (i := 3) dX9_meanThink_17 rfl rfl ?_
        refine j_aload_n X (i := 0) dX9_meanThink_18 rfl rfl ?_
        obtain ⟨x12, h11, hR⟩ := bP_inv hR
        refine j_callV0 X 9 (m_X9_logMany hl hL h11) ml_X9_324 im_yX9_logMany se_yX9_logMany in_X9 cd_yX9_logMany hy_yX9_logMany dX9_meanThink_19 rfl (ad_mem hL (by decide)) (FW9 hL) ⟨(by decide), (by decide)⟩ ⟨(by decide), (by decide)⟩ (Nat.le_of_ble_eq_true rfl) (fun _ h => h.elim) (fun r9 L9 f9 h9 => ?_)
        obtain ⟨h91, h92, h93⟩ := h9
        subst r9
        subst f9
        subst L9
        dsimp only [Option.toList, List.cons_append, List.nil_append, List.append]
        refine j_icmp_ge X (tgt := 49) dX9_meanThink_22 (by decide) (fun h14 => ?_) (fun h14 => ?_)
        · replace hR := (if_pos h14).symm.trans hR
          refine j_iload_n X (i := 2) dX9_meanThink_49 rfl rfl ?_
          refine j_if_ne X (tgt := 57) dX9_meanThink_50 (by decide) (fun h15 => ?_) (fun h15 => ?_)
          · replace hR := (if_neg h15).symm.trans hR
            refine j_aload_n X (i := 0) dX9_meanThink_57 rfl rfl ?_
            refine j_iload_n X (i := 1) dX9_meanThink_58 rfl rfl ?_
            refine j_iconst X (1) dX9_meanThink_59 (by decide) ?_
            obtain ⟨x17, h16, hR⟩ := bP_inv hR
            refine j_callV2 X 9 (m_X9_sumOf hl hL h16) ml_X9_351 im_yX9_sumOf se_yX9_sumOf in_X9 cd_yX9_sumOf hy_yX9_sumOf dX9_meanThink_60 rfl (ad_mem hL (by decide)) (FW9 hL) ⟨(by decide), (by decide)⟩ ⟨(by decide), (by decide)⟩ (Nat.le_of_ble_eq_true rfl) (fun _ h => h.elim) (fun r9 L9 f9 h9 => ?_)
            obtain ⟨h91, h92, h93⟩ := h9
            subst r9
            subst f9
            subst L9
            dsimp only [Option.toList, List.cons_append, List.nil_append, List.append]
            refine j_i2d X dX9_meanThink_63 ?_
            refine j_iload_n X (i := 2) dX9_meanThink_64 rfl rfl ?_
            refine j_i2d X dX9_meanThink_65 ?_
            obtain ⟨h19, hR⟩ := chkP_inv hR
            refine j_ddiv X dX9_meanThink_66 h19 ?_
            exact q_dret X hQ dX9_meanThink_67 rfl ⟨(by decide), (by decide)⟩ ⟨rfl, congrArg (fun z => FW G L a z c) (Prod.mk.inj (Option.some.inj hR)).2, congrArg (fun z => some (Value.double z)) (Prod.mk.inj (Option.some.inj hR)).1⟩
          · replace hR := (if_pos h15).symm.trans hR
            refine j_dconst0 X dX9_meanThink_53 ?_
            refine j_goto X (tgt := 67) dX9_meanThink_54 (by decide) ?_
            exact q_dret X hQ dX9_meanThink_67 rfl ⟨(by decide), (by decide)⟩ ⟨rfl, congrArg (fun z => FW G L a z c) (Prod.mk.inj (Option.some.inj hR)).2, congrArg (fun z => some (Value.double z)) (Prod.mk.inj (Option.some.inj hR)).1⟩
        · replace hR := (if_neg h14).symm.trans hR
          refine j_iload_n X (i := 2) dX9_meanThink_25 rfl rfl ?_
          refine j_aload_n X (i := 0) dX9_meanThink_26 rfl rfl ?_
          refine j_iload_n X (i := 3) dX9_meanThink_27 rfl rfl ?_
          refine j_iconst X (0) dX9_meanThink_28 (by decide) ?_
          obtain ⟨x21, h20, hR⟩ := bP_inv hR
          refine j_callV2 X 9 (m_X9_ofLog hl hL h20) ml_X9_329 im_yX9_ofLog se_yX9_ofLog in_X9 cd_yX9_ofLog hy_yX9_ofLog dX9_meanThink_29 rfl (ad_mem hL (by decide)) (FW9 hL) ⟨(by decide), (by decide)⟩ ⟨(by decide), (by decide)⟩ (Nat.le_of_ble_eq_true rfl) (fun _ h => h.elim) (fun r9 L9 f9 h9 => ?_)
          obtain ⟨h91, h92, h93⟩ := h9
          subst r9
          subst f9
          subst L9
          dsimp only [Option.toList, List.cons_append, List.nil_append, List.append]
          refine j_iload_n X (i := 1) dX9_meanThink_32 rfl rfl ?_
          refine j_icmp_ne X (tgt := 40) dX9_meanThink_33 (by decide) (fun h23 => ?_) (fun h23 => ?_)
          · replace hR := (if_neg h23).symm.trans hR
            refine j_iconst X (0) dX9_meanThink_40 (by decide) ?_
            refine j_iadd X dX9_meanThink_41 ?_
            obtain ⟨x24, h25, hR⟩ := bT_inv hR
            refine J.eqi h25 ?_
            refine j_istore_n X (i := 2) dX9_meanThink_42 rfl (by decide) (lvOK_s rfl okPrev_int) ?_
            dsimp only [List.set]
            obtain ⟨x26, h27, hR⟩ := bT_inv hR
            refine j_iinc X x26 dX9_meanThink_43 rfl h27 (by decide) (lvOK_s rfl okPrev_int) ?_
            dsimp only [List.set]
            refine j_goto X (tgt := 17) dX9_meanThink_46 (by decide) ?_
            exact J.sub (lvle_of (by simp only [lvle, and_self])) (ih _ _  hR)
          · replace hR := (if_pos h23).symm.trans hR
            refine j_iconst X (1) dX9_meanThink_36 (by decide) ?_
            refine j_goto X (tgt := 41) dX9_meanThink_37 (by decide) ?_
            refine j_iadd X dX9_meanThink_41 ?_
            obtain ⟨x28, h29, hR⟩ := bT_inv hR
            refine J.eqi h29 ?_
            refine j_istore_n X (i := 2) dX9_meanThink_42 rfl (by decide) (lvOK_s rfl okPrev_int) ?_
            dsimp only [List.set]
            obtain ⟨x30, h31, hR⟩ := bT_inv hR
            refine j_iinc X x30 dX9_meanThink_43 rfl h31 (by decide) (lvOK_s rfl okPrev_int) ?_
            dsimp only [List.set]
            refine j_goto X (tgt := 17) dX9_meanThink_46 (by decide) ?_
            exact J.sub (lvle_of (by simp only [lvle, and_self])) (ih _ _  hR)
    exact J.sub (lvle_of (by simp only [lvle, and_self])) (hb17 _ _ _  hR)
  · replace hR := (if_pos h8).symm.trans hR
    refine j_dconst0 X dX9_meanThink_11 ?_
    exact q_dret X hQ dX9_meanThink_12 rfl ⟨(by decide), (by decide)⟩ ⟨rfl, congrArg (fun z => FW G L a z c) (Prod.mk.inj (Option.some.inj hR)).2, congrArg (fun z => some (Value.double z)) (Prod.mk.inj (Option.some.inj hR)).1⟩
def f_X9_share (N : Nat) (p0 : Int32) (b : Mem) : Option (UInt32 × Mem) := bT (f_X9_isSide p0 b) fun x2 => bT2 (f_X9_passes x2 b) fun x5 b6 => if x5 = 0 then (some (FP.fconst0, b6)) else (if (b6 1 ((7 : Int32)).toNatClampNeg) = 0 then (some (FP.fconst0, b6)) else (bP (f_X9_of N p0 (10 : Int32) b6) fun x11 => chkP ((FP.fdiv (FP.i2f x11) (FP.i2f (b6 1 ((7 : Int32)).toNatClampNeg))) &&& 0x7fffffff ≤ 0x7f800000) <| some ((FP.fdiv (FP.i2f x11) (FP.i2f (b6 1 ((7 : Int32)).toNatClampNeg))), b6)))
set_option maxRecDepth 100000 in
set_option maxHeartbeats 4000000 in
theorem m_X9_share {l : Launch} (hl : l.stackTraces = false) {G : GG} {L : List Nat} (hL : LOK L) {a b c : Mem} {N : Nat} {p0 : Int32} {v : UInt32} {a' : Mem} (hR : f_X9_share N p0 b = some (v, a')) : Ct l G yX9_share (.code yX9_share cX9_share 2 (some .float)) 2 45 0 0 [.ref (ad L 96), .int p0] L (FW G L a b c) px0 (stay L (fun r f1 => f1 = (FW G L a a' c) ∧ r = some (.float v))) := by
  refine Ct.ofq (own := RX9) hl rfl (by decide) [some (.ref (ad L 96)), some (.int p0)] rfl (Nat.le_of_ble_eq_true rfl) ?_
  intro p e s m below meth c9 A ar Q hQ X
  unfold f_X9_share at hR
  refine j_aload_n X (i := 0) dX9_share_0 rfl rfl ?_
  refine j_iload_n X (i := 1) dX9_share_1 rfl rfl ?_
  obtain ⟨x2, h1, hR⟩ := bT_inv hR
  refine j_callS1 X (m_X9_isSide hl hL h1) ml_X9_318 st_yX9_isSide in_X9 cd_yX9_isSide hy_yX9_isSide dX9_share_2 ⟨(by decide), (by decide)⟩ ⟨(by decide), (by decide)⟩ (Nat.le_of_ble_eq_true rfl) (fun _ h => h.elim) (fun r9 L9 f9 h9 => ?_)
  obtain ⟨h91, h92, h93, h3⟩ := h9
  subst r9
  subst f9
  subst L9
  dsimp only [Option.toList, List.cons_append, List.nil_append, List.append]
  obtain ⟨x5, b6, h4, hR⟩ := bT2_inv hR
  refine j_callV1 X 9 (m_X9_passes hl hL h3 h4) ml_X9_159 im_yX9_passes se_yX9_passes in_X9 cd_yX9_passes hy_yX9_passes dX9_share_5 rfl (ad_mem hL (by decide)) (FW9 hL) ⟨(by decide), (by decide)⟩ ⟨(by decide), (by decide)⟩ (Nat.le_of_ble_eq_true rfl) (fun _ h => h.elim) (fun r9 L9 f9 h9 => ?_)
  obtain ⟨h91, h92, h93, h7⟩ := h9
  subst r9
  subst f9
  subst L9
  dsimp only [Option.toList, List.cons_append, List.nil_append, List.append]
  refine j_if_ne X (tgt := 13) dX9_share_8 (by decide) (fun h8 => ?_) (fun h8 => ?_)
  · replace hR := (if_neg h8).symm.trans hR
    refine j_aload_n X (i := 0) dX9_share_13 rfl rfl ?_
    refine j_getf X 9 1 rfl cw_X9 fl_X9_17 (by decide) dX9_share_14 (ad_mem hL (by decide)) (FW9 hL) rfl ?_
    refine j_bipush X (7) dX9_share_17 (by decide) ?_
    refine j_iald X dX9_share_19 (ad_mem hL (by decide)) (FWr97 hL) (by unfold vp_in; decide) ?_
    refine j_if_ne X (tgt := 27) dX9_share_20 (by decide) (fun h9 => ?_) (fun h9 => ?_)
    · replace hR := (if_neg h9).symm.trans hR
      refine j_aload_n X (i := 0) dX9_share_27 rfl rfl ?_
      refine j_iload_n X (i := 1) dX9_share_28 rfl rfl ?_
      refine j_bipush X (10) dX9_share_29 (by decide) ?_
      obtain ⟨x11, h10, hR⟩ := bP_inv hR
      refine j_callV2 X 9 (m_X9_of hl hL h10) ml_X9_57 im_yX9_of se_yX9_of in_X9 cd_yX9_of hy_yX9_of dX9_share_31 rfl (ad_mem hL (by decide)) (FW9 hL) ⟨(by decide), (by decide)⟩ ⟨(by decide), (by decide)⟩ (Nat.le_of_ble_eq_true rfl) (fun _ h => h.elim) (fun r9 L9 f9 h9 => ?_)
      obtain ⟨h91, h92, h93⟩ := h9
      subst r9
      subst f9
      subst L9
      dsimp only [Option.toList, List.cons_append, List.nil_append, List.append]
      refine j_i2f X dX9_share_34 ?_
      refine j_aload_n X (i := 0) dX9_share_35 rfl rfl ?_
      refine j_getf X 9 1 rfl cw_X9 fl_X9_17 (by decide) dX9_share_36 (ad_mem hL (by decide)) (FW9 hL) rfl ?_
      refine j_bipush X (7) dX9_share_39 (by decide) ?_
      refine j_iald X dX9_share_41 (ad_mem hL (by decide)) (FWr97 hL) (by unfold vp_in; decide) ?_
      refine j_i2f X dX9_share_42 ?_
      obtain ⟨h13, hR⟩ := chkP_inv hR
      refine j_fdiv X dX9_share_43 h13 ?_
      exact q_fret X hQ dX9_share_44 rfl ⟨(by decide), (by decide)⟩ ⟨rfl, congrArg (fun z => FW G L a z c) (Prod.mk.inj (Option.some.inj hR)).2, congrArg (fun z => some (Value.float z)) (Prod.mk.inj (Option.some.inj hR)).1⟩
    · replace hR := (if_pos h9).symm.trans hR
      refine j_fconst0 X dX9_share_23 ?_
      refine j_goto X (tgt := 44) dX9_share_24 (by decide) ?_
      exact q_fret X hQ dX9_share_44 rfl ⟨(by decide), (by decide)⟩ ⟨rfl, congrArg (fun z => FW G L a z c) (Prod.mk.inj (Option.some.inj hR)).2, congrArg (fun z => some (Value.float z)) (Prod.mk.inj (Option.some.inj hR)).1⟩
  · replace hR := (if_pos h8).symm.trans hR
    refine j_fconst0 X dX9_share_11 ?_
    exact q_fret X hQ dX9_share_12 rfl ⟨(by decide), (by decide)⟩ ⟨rfl, congrArg (fun z => FW G L a z c) (Prod.mk.inj (Option.some.inj hR)).2, congrArg (fun z => some (Value.float z)) (Prod.mk.inj (Option.some.inj hR)).1⟩
def f_X9_spent_21 (N : Nat) (p0 : Int32) (p1 : Int32) (b : Mem) (x4 : Int32) : Option (Int32 × Mem) := bT2 (f_X9_passes x4 b) fun x6 b7 => if x6 = 0 then (some ((0 : Int32), b7)) else (bP (f_X9_of N p0 ((12 : Int32) + p1) b7) fun x11 => some (x11, b7))
def f_X9_spent_20 (N : Nat) (p0 : Int32) (p1 : Int32) (b : Mem)  : Option (Int32 × Mem) := f_X9_spent_21 N p0 p1 b (0 : Int32)
def f_X9_spent (N : Nat) (p0 : Int32) (p1 : Int32) (b : Mem) : Option (Int32 × Mem) := bT (f_X9_isSide p0 b) fun x2 => if x2 = 0 then (f_X9_spent_20 N p0 p1 b ) else (bP (f_X9_isPeriod N p1 b) fun x15 => if x15 = 0 then (f_X9_spent_20 N p0 p1 b ) else (f_X9_spent_21 N p0 p1 b (1 : Int32)))
set_option maxRecDepth 100000 in
set_option maxHeartbeats 4000000 in
theorem m_X9_spent {l : Launch} (hl : l.stackTraces = false) {G : GG} {L : List Nat} (hL : LOK L) {a b c : Mem} {N : Nat} {p0 : Int32} {p1 : Int32} {v : Int32} {a' : Mem} (hR : f_X9_spent N p0 p1 b = some (v, a')) : Ct l G yX9_spent (.code yX9_spent cX9_spent 3 (some .int)) 2 46 0 0 [.ref (ad L 96), .int p0, .int p1] L (FW G L a b c) px0 (stay L (fun r f1 => f1 = (FW G L a a' c) ∧ r = some (.int v))) := by
  refine Ct.ofq (own := RX9) hl rfl (by decide) [some (.ref (ad L 96)), some (.int p0), some (.int p1)] rfl (Nat.le_of_ble_eq_true rfl) ?_
  intro p e s m below meth c9 A ar Q hQ X
  unfold f_X9_spent at hR
  refine j_aload_n X (i := 0) dX9_spent_0 rfl rfl ?_
  refine j_iload_n X (i := 1) dX9_spent_1 rfl rfl ?_
  obtain ⟨x2, h1, hR⟩ := bT_inv hR
  refine j_callS1 X (m_X9_isSide hl hL h1) ml_X9_318 st_yX9_isSide in_X9 cd_yX9_isSide hy_yX9_isSide dX9_spent_2 ⟨(by decide), (by decide)⟩ ⟨(by decide), (by decide)⟩ (Nat.le_of_ble_eq_true rfl) (fun _ h => h.elim) (fun r9 L9 f9 h9 => ?_)
  obtain ⟨h91, h92, h93, h3⟩ := h9
  subst r9
  subst f9
  subst L9
  dsimp only [Option.toList, List.cons_append, List.nil_append, List.append]
  have hb21 : ∀ (x4 : Int32) (hBx4 : isB x4), f_X9_spent_21 N p0 p1 b x4 = some (v, a') → J G p l e ({ frames := 2, cells := 0, slots := 0, locals := 46 } : Room) s m ar below meth c9 A Q 3 0 0 21 [some (.ref (ad L 96)), some (.int p0), some (.int p1)] [.int x4, .ref (ad L 96)] L (FW G L a b c) := by
    intro x4 hBx4 hR
    unfold f_X9_spent_21 at hR
    obtain ⟨x6, b7, h5, hR⟩ := bT2_inv hR
    refine j_callV1 X 9 (m_X9_passes hl hL hBx4 h5) ml_X9_159 im_yX9_passes se_yX9_passes in_X9 cd_yX9_passes hy_yX9_passes dX9_spent_21 rfl (ad_mem hL (by decide)) (FW9 hL) ⟨(by decide), (by decide)⟩ ⟨(by decide), (by decide)⟩ (Nat.le_of_ble_eq_true rfl) (fun _ h => h.elim) (fun r9 L9 f9 h9 => ?_)
    obtain ⟨h91, h92, h93, h8⟩ := h9
    subst r9
    subst f9
    subst L9
    dsimp only [Option.toList, List.cons_append, List.nil_append, List.append]
    refine j_if_eq X (tgt := 39) dX9_spent_24 (by decide) (fun h9 => ?_) (fun h9 => ?_)
    · replace hR := (if_pos h9).symm.trans hR
      refine j_iconst X (0) dX9_spent_39 (by decide) ?_
      exact q_iret X hQ dX9_spent_40 rfl ⟨(by decide), (by decide)⟩ ⟨rfl, congrArg (fun z => FW G L a z c) (Prod.mk.inj (Option.some.inj hR)).2, congrArg (fun z => some (Value.int z)) (Prod.mk.inj (Option.some.inj hR)).1⟩
    · replace hR := (if_neg h9).symm.trans hR
      refine j_aload_n X (i := 0) dX9_spent_27 rfl rfl ?_
      refine j_iload_n X (i := 1) dX9_spent_28 rfl rfl ?_
      refine j_bipush X (12) dX9_spent_29 (by decide) ?_
      refine j_iload_n X (i := 2) dX9_spent_31 rfl rfl ?_
      refine j_iadd X dX9_spent_32 ?_
      obtain ⟨x11, h10, hR⟩ := bP_inv hR
      refine j_callV2 X 9 (m_X9_of hl hL h10) ml_X9_57 im_yX9_of se_yX9_of in_X9 cd_yX9_of hy_yX9_of dX9_spent_33 rfl (ad_mem hL (by decide)) (FW9 hL) ⟨(by decide), (by decide)⟩ ⟨(by decide), (by decide)⟩ (Nat.le_of_ble_eq_true rfl) (fun _ h => h.elim) (fun r9 L9 f9 h9 => ?_)
      obtain ⟨h91, h92, h93⟩ := h9
      subst r9
      subst f9
      subst L9
      dsimp only [Option.toList, List.cons_append, List.nil_append, List.append]
      refine j_goto X (tgt := 40) dX9_spent_36 (by decide) ?_
      exact q_iret X hQ dX9_spent_40 rfl ⟨(by decide), (by decide)⟩ ⟨rfl, congrArg (fun z => FW G L a z c) (Prod.mk.inj (Option.some.inj hR)).2, congrArg (fun z => some (Value.int z)) (Prod.mk.inj (Option.some.inj hR)).1⟩
  have hb20 : f_X9_spent_20 N p0 p1 b = some (v, a') → J G p l e ({ frames := 2, cells := 0, slots := 0, locals := 46 } : Room) s m ar below meth c9 A Q 3 0 0 20 [some (.ref (ad L 96)), some (.int p0), some (.int p1)] [.ref (ad L 96)] L (FW G L a b c) := by
    intro hR
    unfold f_X9_spent_20 at hR
    refine j_iconst X (0) dX9_spent_20 (by decide) ?_
    exact J.sub (lvle_of (by simp only [lvle, and_self])) (hb21 _ isB_0 hR)
  refine j_if_eq X (tgt := 20) dX9_spent_5 (by decide) (fun h13 => ?_) (fun h13 => ?_)
  · replace hR := (if_pos h13).symm.trans hR
    exact J.sub (lvle_of (by simp only [lvle, and_self])) (hb20 hR)
  · replace hR := (if_neg h13).symm.trans hR
    refine j_aload_n X (i := 0) dX9_spent_8 rfl rfl ?_
    refine j_iload_n X (i := 2) dX9_spent_9 rfl rfl ?_
    obtain ⟨x15, h14, hR⟩ := bP_inv hR
    refine j_callV1 X 9 (m_X9_isPeriod hl hL h14) ml_X9_309 im_yX9_isPeriod se_yX9_isPeriod in_X9 cd_yX9_isPeriod hy_yX9_isPeriod dX9_spent_10 rfl (ad_mem hL (by decide)) (FW9 hL) ⟨(by decide), (by decide)⟩ ⟨(by decide), (by decide)⟩ (Nat.le_of_ble_eq_true rfl) (fun _ h => h.elim) (fun r9 L9 f9 h9 => ?_)
    obtain ⟨h91, h92, h93, h16⟩ := h9
    subst r9
    subst f9
    subst L9
    dsimp only [Option.toList, List.cons_append, List.nil_append, List.append]
    refine j_if_eq X (tgt := 20) dX9_spent_13 (by decide) (fun h17 => ?_) (fun h17 => ?_)
    · replace hR := (if_pos h17).symm.trans hR
      exact J.sub (lvle_of (by simp only [lvle, and_self])) (hb20 hR)
    · replace hR := (if_neg h17).symm.trans hR
      refine j_iconst X (1) dX9_spent_16 (by decide) ?_
      refine j_goto X (tgt := 21) dX9_spent_17 (by decide) ?_
      exact J.sub (lvle_of (by simp only [lvle, and_self])) (hb21 _ isB_1 hR)
def f_X9_slowest_9 (N : Nat) (b1 : Mem) : Nat → Int32 → Int32 → Option (Int32 × Mem)
  | 0, _, _ => none
  | fu + 1, x3, x4 => bP (f_X9_logMany N b1) fun x6 => if x6 ≤ x4 then (some (x3, b1)) else (if x3 = (-1 : Int32) then (bT (x4 + (1 : Int32)) fun x10 => f_X9_slowest_9 N b1 fu x4 x10) else (bP (f_X9_ofLog N x4 (1 : Int32) b1) fun x13 => bP (f_X9_ofLog N x3 (1 : Int32) b1) fun x16 => if x13 ≤ x16 then (bT (x4 + (1 : Int32)) fun x19 => f_X9_slowest_9 N b1 fu x3 x19) else (bT (x4 + (1 : Int32)) fun x21 => f_X9_slowest_9 N b1 fu x4 x21)))
theorem f_X9_slowest_9_s (N : Nat) (b1 : Mem) {fu : Nat} {x3 : Int32} {x4 : Int32} : f_X9_slowest_9 N b1 (fu + 1) x3 x4 = (bP (f_X9_logMany N b1) fun x6 => if x6 ≤ x4 then (some (x3, b1)) else (if x3 = (-1 : Int32) then (bT (x4 + (1 : Int32)) fun x10 => f_X9_slowest_9 N b1 fu x4 x10) else (bP (f_X9_ofLog N x4 (1 : Int32) b1) fun x13 => bP (f_X9_ofLog N x3 (1 : Int32) b1) fun x16 => if x13 ≤ x16 then (bT (x4 + (1 : Int32)) fun x19 => f_X9_slowest_9 N b1 fu x3 x19) else (bT (x4 + (1 : Int32)) fun x21 => f_X9_slowest_9 N b1 fu x4 x21)))) := rfl
def f_X9_slowest (N : Nat) (b : Mem) : Option (Int32 × Mem) := bT (up2 b 0 0 (0 : Int32)) fun b1 => f_X9_slowest_9 N b1 N (-1 : Int32) (0 : Int32)
set_option maxRecDepth 100000 in
set_option maxHeartbeats 4000000 in
theorem m_X9_slowest {l : Launch} (hl : l.stackTraces = false) {G : GG} {L : List Nat} (hL : LOK L) {a b c : Mem} {N : Nat}  {v : Int32} {a' : Mem} (hR : f_X9_slowest N b = some (v, a')) : Ct l G yX9_slowest (.code yX9_slowest cX9_slowest 3 (some .int)) 2 44 0 0 [.ref (ad L 96)] L (FW G L a b c) px0 (stay L (fun r f1 => f1 = (FW G L a a' c) ∧ r = some (.int v))) := by
  refine Ct.ofq (own := RX9) hl rfl (by decide) [some (.ref (ad L 96)), none, none] rfl (Nat.le_of_ble_eq_true rfl) ?_
  intro p e s m below meth c9 A ar Q hQ X
  unfold f_X9_slowest at hR
  refine j_aload_n X (i := 0) dX9_slowest_0 rfl rfl ?_
  refine j_iconst X (0) dX9_slowest_1 (by decide) ?_
  obtain ⟨b1, h2, hR⟩ := bT_inv hR
  refine tp_X9_0 X hL h2 fl_X9_3 dX9_slowest_2 ?_
  refine j_iconst X (-1) dX9_slowest_5 (by decide) ?_
  refine j_istore_n X (i := 1) dX9_slowest_6 rfl (by decide) (lvOK_s rfl okPrev_ref) ?_
  dsimp only [List.set]
  refine j_iconst X (0) dX9_slowest_7 (by decide) ?_
  refine j_istore_n X (i := 2) dX9_slowest_8 rfl (by decide) (lvOK_s rfl okPrev_int) ?_
  dsimp only [List.set]
  have hb9 : ∀ (fu : Nat) (x3 : Int32) (x4 : Int32) , f_X9_slowest_9 N b1 fu x3 x4 = some (v, a') → J G p l e ({ frames := 2, cells := 0, slots := 0, locals := 44 } : Room) s m ar below meth c9 A Q 3 0 0 9 [some (.ref (ad L 96)), some (.int x3), some (.int x4)] [] L (FW G L a b1 c) := by
    intro fu
    induction fu with
    | zero =>
      intro x3 x4 hR
      cases hR
    | succ fu ih =>
      intro x3 x4 hR
      replace hR := (f_X9_slowest_9_s N b1).symm.trans hR
      refine j_iload_n X (i := 2) dX9_slowest_9 rfl rfl ?_
      refine j_aload_n X (i := 0) dX9_slowest_10 rfl rfl ?_
      obtain ⟨x6, h5, hR⟩ := bP_inv hR
      refine j_callV0 X 9 (m_X9_logMany hl hL h5) ml_X9_324 im_yX9_logMany se_yX9_logMany in_X9 cd_yX9_logMany hy_yX9_logMany dX9_slowest_11 rfl (ad_mem hL (by decide)) (FW9 hL) ⟨(by decide), (by decide)⟩ ⟨(by decide), (by decide)⟩ (Nat.le_of_ble_eq_true rfl) (fun _ h => h.elim) (fun r9 L9 f9 h9 => ?_)
      obtain ⟨h91, h92, h93⟩ := h9
      subst r9
      subst f9
      subst L9
      dsimp only [Option.toList, List.cons_append, List.nil_append, List.append]
      refine j_icmp_ge X (tgt := 49) dX9_slowest_14 (by decide) (fun h8 => ?_) (fun h8 => ?_)
      · replace hR := (if_pos h8).symm.trans hR
        refine j_iload_n X (i := 1) dX9_slowest_49 rfl rfl ?_
        exact q_iret X hQ dX9_slowest_50 rfl ⟨(by decide), (by decide)⟩ ⟨rfl, congrArg (fun z => FW G L a z c) (Prod.mk.inj (Option.some.inj hR)).2, congrArg (fun z => some (Value.int z)) (Prod.mk.inj (Option.some.inj hR)).1⟩
      · replace hR := (if_neg h8).symm.trans hR
        refine j_iload_n X (i := 1) dX9_slowest_17 rfl rfl ?_
        refine j_iconst X (-1) dX9_slowest_18 (by decide) ?_
        refine j_icmp_eq X (tgt := 37) dX9_slowest_19 (by decide) (fun h9 => ?_) (fun h9 => ?_)
        · replace hR := (if_pos h9).symm.trans hR
          refine j_iload_n X (i := 2) dX9_slowest_37 rfl rfl ?_
          refine j_goto X (tgt := 42) dX9_slowest_38 (by decide) ?_
          refine j_istore_n X (i := 1) dX9_slowest_42 rfl (by decide) (lvOK_s rfl okPrev_ref) ?_
          dsimp only [List.set]
          obtain ⟨x10, h11, hR⟩ := bT_inv hR
          refine j_iinc X x10 dX9_slowest_43 rfl h11 (by decide) (lvOK_s rfl okPrev_int) ?_
          dsimp only [List.set]
          refine j_goto X (tgt := 9) dX9_slowest_46 (by decide) ?_
          exact J.sub (lvle_of (by simp only [lvle, and_self])) (ih _ _  hR)
        · replace hR := (if_neg h9).symm.trans hR
          refine j_aload_n X (i := 0) dX9_slowest_22 rfl rfl ?_
          refine j_iload_n X (i := 2) dX9_slowest_23 rfl rfl ?_
          refine j_iconst X (1) dX9_slowest_24 (by decide) ?_
          obtain ⟨x13, h12, hR⟩ := bP_inv hR
          refine j_callV2 X 9 (m_X9_ofLog hl hL h12) ml_X9_329 im_yX9_ofLog se_yX9_ofLog in_X9 cd_yX9_ofLog hy_yX9_ofLog dX9_slowest_25 rfl (ad_mem hL (by decide)) (FW9 hL) ⟨(by decide), (by decide)⟩ ⟨(by decide), (by decide)⟩ (Nat.le_of_ble_eq_true rfl) (fun _ h => h.elim) (fun r9 L9 f9 h9 => ?_)
          obtain ⟨h91, h92, h93⟩ := h9
          subst r9
          subst f9
          subst L9
          dsimp only [Option.toList, List.cons_append, List.nil_append, List.append]
          refine j_aload_n X (i := 0) dX9_slowest_28 rfl rfl ?_
          refine j_iload_n X (i := 1) dX9_slowest_29 rfl rfl ?_
          refine j_iconst X (1) dX9_slowest_30 (by decide) ?_
          obtain ⟨x16, h15, hR⟩ := bP_inv hR
          refine j_callV2 X 9 (m_X9_ofLog hl hL h15) ml_X9_329 im_yX9_ofLog se_yX9_ofLog in_X9 cd_yX9_ofLog hy_yX9_ofLog dX9_slowest_31 rfl (ad_mem hL (by decide)) (FW9 hL) ⟨(by decide), (by decide)⟩ ⟨(by decide), (by decide)⟩ (Nat.le_of_ble_eq_true rfl) (fun _ h => h.elim) (fun r9 L9 f9 h9 => ?_)
          obtain ⟨h91, h92, h93⟩ := h9
          subst r9
          subst f9
          subst L9
          dsimp only [Option.toList, List.cons_append, List.nil_append, List.append]
          refine j_icmp_le X (tgt := 41) dX9_slowest_34 (by decide) (fun h18 => ?_) (fun h18 => ?_)
          · replace hR := (if_pos h18).symm.trans hR
            refine j_iload_n X (i := 1) dX9_slowest_41 rfl rfl ?_
            refine j_istore_n X (i := 1) dX9_slowest_42 rfl (by decide) (lvOK_s rfl okPrev_ref) ?_
            dsimp only [List.set]
            obtain ⟨x19, h20, hR⟩ := bT_inv hR
            refine j_iinc X x19 dX9_slowest_43 rfl h20 (by decide) (lvOK_s rfl okPrev_int) ?_
            dsimp only [List.set]
            refine j_goto X (tgt := 9) dX9_slowest_46 (by decide) ?_
            exact J.sub (lvle_of (by simp only [lvle, and_self])) (ih _ _  hR)
          · replace hR := (if_neg h18).symm.trans hR
            refine j_iload_n X (i := 2) dX9_slowest_37 rfl rfl ?_
            refine j_goto X (tgt := 42) dX9_slowest_38 (by decide) ?_
            refine j_istore_n X (i := 1) dX9_slowest_42 rfl (by decide) (lvOK_s rfl okPrev_ref) ?_
            dsimp only [List.set]
            obtain ⟨x21, h22, hR⟩ := bT_inv hR
            refine j_iinc X x21 dX9_slowest_43 rfl h22 (by decide) (lvOK_s rfl okPrev_int) ?_
            dsimp only [List.set]
            refine j_goto X (tgt := 9) dX9_slowest_46 (by decide) ?_
            exact J.sub (lvle_of (by simp only [lvle, and_self])) (ih _ _  hR)
  exact J.sub (lvle_of (by simp only [lvle, and_self])) (hb9 _ _ _  hR)
def f_X9_within_27 (N : Nat) (p0 : Int32) (p1 : Int32) (b9 : Mem) : Nat → Int32 → Int32 → Option (Int32 × Mem)
  | 0, _, _ => none
  | fu + 1, x12, x13 => bP (f_X9_logMany N b9) fun x15 => if x15 ≤ x13 then (some (x12, b9)) else (bP (f_X9_ofLog N x13 (0 : Int32) b9) fun x19 => if x19 = p0 then (bP (f_X9_ofLog N x13 (1 : Int32) b9) fun x27 => if p1 < x27 then (bT (x12 + (0 : Int32)) fun x30 => bT (x13 + (1 : Int32)) fun x32 => f_X9_within_27 N p0 p1 b9 fu x30 x32) else (bT (x12 + (1 : Int32)) fun x34 => bT (x13 + (1 : Int32)) fun x36 => f_X9_within_27 N p0 p1 b9 fu x34 x36)) else (bT (x12 + (0 : Int32)) fun x22 => bT (x13 + (1 : Int32)) fun x24 => f_X9_within_27 N p0 p1 b9 fu x22 x24))
theorem f_X9_within_27_s (N : Nat) (p0 : Int32) (p1 : Int32) (b9 : Mem) {fu : Nat} {x12 : Int32} {x13 : Int32} : f_X9_within_27 N p0 p1 b9 (fu + 1) x12 x13 = (bP (f_X9_logMany N b9) fun x15 => if x15 ≤ x13 then (some (x12, b9)) else (bP (f_X9_ofLog N x13 (0 : Int32) b9) fun x19 => if x19 = p0 then (bP (f_X9_ofLog N x13 (1 : Int32) b9) fun x27 => if p1 < x27 then (bT (x12 + (0 : Int32)) fun x30 => bT (x13 + (1 : Int32)) fun x32 => f_X9_within_27 N p0 p1 b9 fu x30 x32) else (bT (x12 + (1 : Int32)) fun x34 => bT (x13 + (1 : Int32)) fun x36 => f_X9_within_27 N p0 p1 b9 fu x34 x36)) else (bT (x12 + (0 : Int32)) fun x22 => bT (x13 + (1 : Int32)) fun x24 => f_X9_within_27 N p0 p1 b9 fu x22 x24))) := rfl
def f_X9_within (N : Nat) (p0 : Int32) (p1 : Int32) (b : Mem) : Option (Int32 × Mem) := bT (f_X9_isSide p0 b) fun x2 => bT (f_X9_in (Int32.toInt64 p1) (0 : Int64) (9999 : Int64) b) fun x5 => bT2 (f_X9_passes2 x2 x5 b) fun x8 b9 => if x8 = 0 then (some ((0 : Int32), b9)) else (f_X9_within_27 N p0 p1 b9 N (0 : Int32) (0 : Int32))
set_option maxRecDepth 100000 in
set_option maxHeartbeats 4000000 in
theorem m_X9_within {l : Launch} (hl : l.stackTraces = false) {G : GG} {L : List Nat} (hL : LOK L) {a b c : Mem} {N : Nat} {p0 : Int32} {p1 : Int32} {v : Int32} {a' : Mem} (hR : f_X9_within N p0 p1 b = some (v, a')) : Ct l G yX9_within (.code yX9_within cX9_within 5 (some .int)) 2 45 0 0 [.ref (ad L 96), .int p0, .int p1] L (FW G L a b c) px0 (stay L (fun r f1 => f1 = (FW G L a a' c) ∧ r = some (.int v))) := by
  refine Ct.ofq (own := RX9) hl rfl (by decide) [some (.ref (ad L 96)), some (.int p0), some (.int p1), none, none] rfl (Nat.le_of_ble_eq_true rfl) ?_
  intro p e s m below meth c9 A ar Q hQ X
  unfold f_X9_within at hR
  refine j_aload_n X (i := 0) dX9_within_0 rfl rfl ?_
  refine j_iload_n X (i := 1) dX9_within_1 rfl rfl ?_
  obtain ⟨x2, h1, hR⟩ := bT_inv hR
  refine j_callS1 X (m_X9_isSide hl hL h1) ml_X9_318 st_yX9_isSide in_X9 cd_yX9_isSide hy_yX9_isSide dX9_within_2 ⟨(by decide), (by decide)⟩ ⟨(by decide), (by decide)⟩ (Nat.le_of_ble_eq_true rfl) (fun _ h => h.elim) (fun r9 L9 f9 h9 => ?_)
  obtain ⟨h91, h92, h93, h3⟩ := h9
  subst r9
  subst f9
  subst L9
  dsimp only [Option.toList, List.cons_append, List.nil_append, List.append]
  refine j_iload_n X (i := 2) dX9_within_5 rfl rfl ?_
  refine j_i2l X dX9_within_6 ?_
  refine j_lconst X (0) dX9_within_7 (by decide) ?_
  refine j_ldc2 X dX9_within_8 cj_X9_349 ?_
  obtain ⟨x5, h4, hR⟩ := bT_inv hR
  refine j_callS3 X (m_X9_in hl hL h4) ml_X9_64 st_yX9_in in_X9 cd_yX9_in hy_yX9_in dX9_within_11 ⟨(by decide), (by decide)⟩ ⟨(by decide), (by decide)⟩ (Nat.le_of_ble_eq_true rfl) (fun _ h => h.elim) (fun r9 L9 f9 h9 => ?_)
  obtain ⟨h91, h92, h93, h6⟩ := h9
  subst r9
  subst f9
  subst L9
  dsimp only [Option.toList, List.cons_append, List.nil_append, List.append]
  obtain ⟨x8, b9, h7, hR⟩ := bT2_inv hR
  refine j_callV2 X 9 (m_X9_passes2 hl hL h3 h6 h7) ml_X9_314 im_yX9_passes2 se_yX9_passes2 in_X9 cd_yX9_passes2 hy_yX9_passes2 dX9_within_14 rfl (ad_mem hL (by decide)) (FW9 hL) ⟨(by decide), (by decide)⟩ ⟨(by decide), (by decide)⟩ (Nat.le_of_ble_eq_true rfl) (fun _ h => h.elim) (fun r9 L9 f9 h9 => ?_)
  obtain ⟨h91, h92, h93, h10⟩ := h9
  subst r9
  subst f9
  subst L9
  dsimp only [Option.toList, List.cons_append, List.nil_append, List.append]
  refine j_if_ne X (tgt := 22) dX9_within_17 (by decide) (fun h11 => ?_) (fun h11 => ?_)
  · replace hR := (if_neg h11).symm.trans hR
    refine j_iconst X (0) dX9_within_22 (by decide) ?_
    refine j_istore_n X (i := 3) dX9_within_23 rfl (by decide) (lvOK_s rfl okPrev_int) ?_
    dsimp only [List.set]
    refine j_iconst X (0) dX9_within_24 (by decide) ?_
    refine j_istore X dX9_within_25 (by decide) (lvOK_s rfl okPrev_int) ?_
    dsimp only [List.set]
    have hb27 : ∀ (fu : Nat) (x12 : Int32) (x13 : Int32) , f_X9_within_27 N p0 p1 b9 fu x12 x13 = some (v, a') → J G p l e ({ frames := 2, cells := 0, slots := 0, locals := 45 } : Room) s m ar below meth c9 A Q 5 0 0 27 [some (.ref (ad L 96)), some (.int p0), some (.int p1), some (.int x12), some (.int x13)] [] L (FW G L a b9 c) := by
      intro fu
      induction fu with
      | zero =>
        intro x12 x13 hR
        cases hR
      | succ fu ih =>
        intro x12 x13 hR
        replace hR := (f_X9_within_27_s N p0 p1 b9).symm.trans hR
        refine j_iload X dX9_within_27 rfl ?_
        refine j_aload_n X (i := 0) dX9_within_29 rfl rfl ?_
        obtain ⟨x15, h14, hR⟩ := bP_inv hR
        refine j_callV0 X 9 (m_X9_logMany hl hL h14) ml_X9_324 im_yX9_logMany se_yX9_logMany in_X9 cd_yX9_logMany hy_yX9_logMany dX9_within_30 rfl (ad_mem hL (by decide)) (FW9 hL) ⟨(by decide), (by decide)⟩ ⟨(by decide), (by decide)⟩ (Nat.le_of_ble_eq_true rfl) (fun _ h => h.elim) (fun r9 L9 f9 h9 => ?_)
        obtain ⟨h91, h92, h93⟩ := h9
        subst r9
        subst f9
        subst L9
        dsimp only [Option.toList, List.cons_append, List.nil_append, List.append]
        refine j_icmp_ge X (tgt := 72) dX9_within_33 (by decide) (fun h17 => ?_) (fun h17 => ?_)
        · replace hR := (if_pos h17).symm.trans hR
          refine j_iload_n X (i := 3) dX9_within_72 rfl rfl ?_
          exact q_iret X hQ dX9_within_73 rfl ⟨(by decide), (by decide)⟩ ⟨rfl, congrArg (fun z => FW G L a z c) (Prod.mk.inj (Option.some.inj hR)).2, congrArg (fun z => some (Value.int z)) (Prod.mk.inj (Option.some.inj hR)).1⟩
        · replace hR := (if_neg h17).symm.trans hR
          refine j_iload_n X (i := 3) dX9_within_36 rfl rfl ?_
          refine j_aload_n X (i := 0) dX9_within_37 rfl rfl ?_
          refine j_iload X dX9_within_38 rfl ?_
          refine j_iconst X (0) dX9_within_40 (by decide) ?_
          obtain ⟨x19, h18, hR⟩ := bP_inv hR
          refine j_callV2 X 9 (m_X9_ofLog hl hL h18) ml_X9_329 im_yX9_ofLog se_yX9_ofLog in_X9 cd_yX9_ofLog hy_yX9_ofLog dX9_within_41 rfl (ad_mem hL (by decide)) (FW9 hL) ⟨(by decide), (by decide)⟩ ⟨(by decide), (by decide)⟩ (Nat.le_of_ble_eq_true rfl) (fun _ h => h.elim) (fun r9 L9 f9 h9 => ?_)
          obtain ⟨h91, h92, h93⟩ := h9
          subst r9
          subst f9
          subst L9
          dsimp only [Option.toList, List.cons_append, List.nil_append, List.append]
          refine j_iload_n X (i := 1) dX9_within_44 rfl rfl ?_
          refine j_icmp_ne X (tgt := 63) dX9_within_45 (by decide) (fun h21 => ?_) (fun h21 => ?_)
          · replace hR := (if_neg h21).symm.trans hR
            refine j_iconst X (0) dX9_within_63 (by decide) ?_
            refine j_iadd X dX9_within_64 ?_
            obtain ⟨x22, h23, hR⟩ := bT_inv hR
            refine J.eqi h23 ?_
            refine j_istore_n X (i := 3) dX9_within_65 rfl (by decide) (lvOK_s rfl okPrev_int) ?_
            dsimp only [List.set]
            obtain ⟨x24, h25, hR⟩ := bT_inv hR
            refine j_iinc X x24 dX9_within_66 rfl h25 (by decide) (lvOK_s rfl okPrev_int) ?_
            dsimp only [List.set]
            refine j_goto X (tgt := 27) dX9_within_69 (by decide) ?_
            exact J.sub (lvle_of (by simp only [lvle, and_self])) (ih _ _  hR)
          · replace hR := (if_pos h21).symm.trans hR
            refine j_aload_n X (i := 0) dX9_within_48 rfl rfl ?_
            refine j_iload X dX9_within_49 rfl ?_
            refine j_iconst X (1) dX9_within_51 (by decide) ?_
            obtain ⟨x27, h26, hR⟩ := bP_inv hR
            refine j_callV2 X 9 (m_X9_ofLog hl hL h26) ml_X9_329 im_yX9_ofLog se_yX9_ofLog in_X9 cd_yX9_ofLog hy_yX9_ofLog dX9_within_52 rfl (ad_mem hL (by decide)) (FW9 hL) ⟨(by decide), (by decide)⟩ ⟨(by decide), (by decide)⟩ (Nat.le_of_ble_eq_true rfl) (fun _ h => h.elim) (fun r9 L9 f9 h9 => ?_)
            obtain ⟨h91, h92, h93⟩ := h9
            subst r9
            subst f9
            subst L9
            dsimp only [Option.toList, List.cons_append, List.nil_append, List.append]
            refine j_iload_n X (i := 2) dX9_within_55 rfl rfl ?_
            refine j_icmp_gt X (tgt := 63) dX9_within_56 (by decide) (fun h29 => ?_) (fun h29 => ?_)
            · replace hR := (if_pos h29).symm.trans hR
              refine j_iconst X (0) dX9_within_63 (by decide) ?_
              refine j_iadd X dX9_within_64 ?_
              obtain ⟨x30, h31, hR⟩ := bT_inv hR
              refine J.eqi h31 ?_
              refine j_istore_n X (i := 3) dX9_within_65 rfl (by decide) (lvOK_s rfl okPrev_int) ?_
              dsimp only [List.set]
              obtain ⟨x32, h33, hR⟩ := bT_inv hR
              refine j_iinc X x32 dX9_within_66 rfl h33 (by decide) (lvOK_s rfl okPrev_int) ?_
              dsimp only [List.set]
              refine j_goto X (tgt := 27) dX9_within_69 (by decide) ?_
              exact J.sub (lvle_of (by simp only [lvle, and_self])) (ih _ _  hR)
            · replace hR := (if_neg h29).symm.trans hR
              refine j_iconst X (1) dX9_within_59 (by decide) ?_
              refine j_goto X (tgt := 64) dX9_within_60 (by decide) ?_
              refine j_iadd X dX9_within_64 ?_
              obtain ⟨x34, h35, hR⟩ := bT_inv hR
              refine J.eqi h35 ?_
              refine j_istore_n X (i := 3) dX9_within_65 rfl (by decide) (lvOK_s rfl okPrev_int) ?_
              dsimp only [List.set]
              obtain ⟨x36, h37, hR⟩ := bT_inv hR
              refine j_iinc X x36 dX9_within_66 rfl h37 (by decide) (lvOK_s rfl okPrev_int) ?_
              dsimp only [List.set]
              refine j_goto X (tgt := 27) dX9_within_69 (by decide) ?_
              exact J.sub (lvle_of (by simp only [lvle, and_self])) (ih _ _  hR)
    exact J.sub (lvle_of (by simp only [lvle, and_self])) (hb27 _ _ _  hR)
  · replace hR := (if_pos h11).symm.trans hR
    refine j_iconst X (0) dX9_within_20 (by decide) ?_
    exact q_iret X hQ dX9_within_21 rfl ⟨(by decide), (by decide)⟩ ⟨rfl, congrArg (fun z => FW G L a z c) (Prod.mk.inj (Option.some.inj hR)).2, congrArg (fun z => some (Value.int z)) (Prod.mk.inj (Option.some.inj hR)).1⟩
def f_X9_gained (N : Nat) (p0 : Int32) (b : Mem) : Option (Int32 × Mem) := bT (f_X9_isSide p0 b) fun x2 => bT2 (f_X9_passes x2 b) fun x5 b6 => if x5 = 0 then (some ((0 : Int32), b6)) else (bP (f_X9_sumOf N p0 (3 : Int32) b6) fun x10 => some (x10, b6))
set_option maxRecDepth 100000 in
set_option maxHeartbeats 4000000 in
theorem m_X9_gained {l : Launch} (hl : l.stackTraces = false) {G : GG} {L : List Nat} (hL : LOK L) {a b c : Mem} {N : Nat} {p0 : Int32} {v : Int32} {a' : Mem} (hR : f_X9_gained N p0 b = some (v, a')) : Ct l G yX9_gained (.code yX9_gained cX9_gained 2 (some .int)) 3 68 0 0 [.ref (ad L 96), .int p0] L (FW G L a b c) px0 (stay L (fun r f1 => f1 = (FW G L a a' c) ∧ r = some (.int v))) := by
  refine Ct.ofq (own := RX9) hl rfl (by decide) [some (.ref (ad L 96)), some (.int p0)] rfl (Nat.le_of_ble_eq_true rfl) ?_
  intro p e s m below meth c9 A ar Q hQ X
  unfold f_X9_gained at hR
  refine j_aload_n X (i := 0) dX9_gained_0 rfl rfl ?_
  refine j_iload_n X (i := 1) dX9_gained_1 rfl rfl ?_
  obtain ⟨x2, h1, hR⟩ := bT_inv hR
  refine j_callS1 X (m_X9_isSide hl hL h1) ml_X9_318 st_yX9_isSide in_X9 cd_yX9_isSide hy_yX9_isSide dX9_gained_2 ⟨(by decide), (by decide)⟩ ⟨(by decide), (by decide)⟩ (Nat.le_of_ble_eq_true rfl) (fun _ h => h.elim) (fun r9 L9 f9 h9 => ?_)
  obtain ⟨h91, h92, h93, h3⟩ := h9
  subst r9
  subst f9
  subst L9
  dsimp only [Option.toList, List.cons_append, List.nil_append, List.append]
  obtain ⟨x5, b6, h4, hR⟩ := bT2_inv hR
  refine j_callV1 X 9 (m_X9_passes hl hL h3 h4) ml_X9_159 im_yX9_passes se_yX9_passes in_X9 cd_yX9_passes hy_yX9_passes dX9_gained_5 rfl (ad_mem hL (by decide)) (FW9 hL) ⟨(by decide), (by decide)⟩ ⟨(by decide), (by decide)⟩ (Nat.le_of_ble_eq_true rfl) (fun _ h => h.elim) (fun r9 L9 f9 h9 => ?_)
  obtain ⟨h91, h92, h93, h7⟩ := h9
  subst r9
  subst f9
  subst L9
  dsimp only [Option.toList, List.cons_append, List.nil_append, List.append]
  refine j_if_eq X (tgt := 20) dX9_gained_8 (by decide) (fun h8 => ?_) (fun h8 => ?_)
  · replace hR := (if_pos h8).symm.trans hR
    refine j_iconst X (0) dX9_gained_20 (by decide) ?_
    exact q_iret X hQ dX9_gained_21 rfl ⟨(by decide), (by decide)⟩ ⟨rfl, congrArg (fun z => FW G L a z c) (Prod.mk.inj (Option.some.inj hR)).2, congrArg (fun z => some (Value.int z)) (Prod.mk.inj (Option.some.inj hR)).1⟩
  · replace hR := (if_neg h8).symm.trans hR
    refine j_aload_n X (i := 0) dX9_gained_11 rfl rfl ?_
    refine j_iload_n X (i := 1) dX9_gained_12 rfl rfl ?_
    refine j_iconst X (3) dX9_gained_13 (by decide) ?_
    obtain ⟨x10, h9, hR⟩ := bP_inv hR
    refine j_callV2 X 9 (m_X9_sumOf hl hL h9) ml_X9_351 im_yX9_sumOf se_yX9_sumOf in_X9 cd_yX9_sumOf hy_yX9_sumOf dX9_gained_14 rfl (ad_mem hL (by decide)) (FW9 hL) ⟨(by decide), (by decide)⟩ ⟨(by decide), (by decide)⟩ (Nat.le_of_ble_eq_true rfl) (fun _ h => h.elim) (fun r9 L9 f9 h9 => ?_)
    obtain ⟨h91, h92, h93⟩ := h9
    subst r9
    subst f9
    subst L9
    dsimp only [Option.toList, List.cons_append, List.nil_append, List.append]
    refine j_goto X (tgt := 21) dX9_gained_17 (by decide) ?_
    exact q_iret X hQ dX9_gained_21 rfl ⟨(by decide), (by decide)⟩ ⟨rfl, congrArg (fun z => FW G L a z c) (Prod.mk.inj (Option.some.inj hR)).2, congrArg (fun z => some (Value.int z)) (Prod.mk.inj (Option.some.inj hR)).1⟩
def f_X9_finished (N : Nat) (p0 : Int32) (b : Mem) : Option (Int32 × Mem) := bT (f_X9_isSide p0 b) fun x2 => bT2 (f_X9_passes x2 b) fun x5 b6 => if x5 = 0 then (some ((0 : Int32), b6)) else (bP (f_X9_of N p0 (11 : Int32) b6) fun x10 => some (x10, b6))
set_option maxRecDepth 100000 in
set_option maxHeartbeats 4000000 in
theorem m_X9_finished {l : Launch} (hl : l.stackTraces = false) {G : GG} {L : List Nat} (hL : LOK L) {a b c : Mem} {N : Nat} {p0 : Int32} {v : Int32} {a' : Mem} (hR : f_X9_finished N p0 b = some (v, a')) : Ct l G yX9_finished (.code yX9_finished cX9_finished 2 (some .int)) 2 45 0 0 [.ref (ad L 96), .int p0] L (FW G L a b c) px0 (stay L (fun r f1 => f1 = (FW G L a a' c) ∧ r = some (.int v))) := by
  refine Ct.ofq (own := RX9) hl rfl (by decide) [some (.ref (ad L 96)), some (.int p0)] rfl (Nat.le_of_ble_eq_true rfl) ?_
  intro p e s m below meth c9 A ar Q hQ X
  unfold f_X9_finished at hR
  refine j_aload_n X (i := 0) dX9_finished_0 rfl rfl ?_
  refine j_iload_n X (i := 1) dX9_finished_1 rfl rfl ?_
  obtain ⟨x2, h1, hR⟩ := bT_inv hR
  refine j_callS1 X (m_X9_isSide hl hL h1) ml_X9_318 st_yX9_isSide in_X9 cd_yX9_isSide hy_yX9_isSide dX9_finished_2 ⟨(by decide), (by decide)⟩ ⟨(by decide), (by decide)⟩ (Nat.le_of_ble_eq_true rfl) (fun _ h => h.elim) (fun r9 L9 f9 h9 => ?_)
  obtain ⟨h91, h92, h93, h3⟩ := h9
  subst r9
  subst f9
  subst L9
  dsimp only [Option.toList, List.cons_append, List.nil_append, List.append]
  obtain ⟨x5, b6, h4, hR⟩ := bT2_inv hR
  refine j_callV1 X 9 (m_X9_passes hl hL h3 h4) ml_X9_159 im_yX9_passes se_yX9_passes in_X9 cd_yX9_passes hy_yX9_passes dX9_finished_5 rfl (ad_mem hL (by decide)) (FW9 hL) ⟨(by decide), (by decide)⟩ ⟨(by decide), (by decide)⟩ (Nat.le_of_ble_eq_true rfl) (fun _ h => h.elim) (fun r9 L9 f9 h9 => ?_)
  obtain ⟨h91, h92, h93, h7⟩ := h9
  subst r9
  subst f9
  subst L9
  dsimp only [Option.toList, List.cons_append, List.nil_append, List.append]
  refine j_if_eq X (tgt := 21) dX9_finished_8 (by decide) (fun h8 => ?_) (fun h8 => ?_)
  · replace hR := (if_pos h8).symm.trans hR
    refine j_iconst X (0) dX9_finished_21 (by decide) ?_
    exact q_iret X hQ dX9_finished_22 rfl ⟨(by decide), (by decide)⟩ ⟨rfl, congrArg (fun z => FW G L a z c) (Prod.mk.inj (Option.some.inj hR)).2, congrArg (fun z => some (Value.int z)) (Prod.mk.inj (Option.some.inj hR)).1⟩
  · replace hR := (if_neg h8).symm.trans hR
    refine j_aload_n X (i := 0) dX9_finished_11 rfl rfl ?_
    refine j_iload_n X (i := 1) dX9_finished_12 rfl rfl ?_
    refine j_bipush X (11) dX9_finished_13 (by decide) ?_
    obtain ⟨x10, h9, hR⟩ := bP_inv hR
    refine j_callV2 X 9 (m_X9_of hl hL h9) ml_X9_57 im_yX9_of se_yX9_of in_X9 cd_yX9_of hy_yX9_of dX9_finished_15 rfl (ad_mem hL (by decide)) (FW9 hL) ⟨(by decide), (by decide)⟩ ⟨(by decide), (by decide)⟩ (Nat.le_of_ble_eq_true rfl) (fun _ h => h.elim) (fun r9 L9 f9 h9 => ?_)
    obtain ⟨h91, h92, h93⟩ := h9
    subst r9
    subst f9
    subst L9
    dsimp only [Option.toList, List.cons_append, List.nil_append, List.append]
    refine j_goto X (tgt := 22) dX9_finished_18 (by decide) ?_
    exact q_iret X hQ dX9_finished_22 rfl ⟨(by decide), (by decide)⟩ ⟨rfl, congrArg (fun z => FW G L a z c) (Prod.mk.inj (Option.some.inj hR)).2, congrArg (fun z => some (Value.int z)) (Prod.mk.inj (Option.some.inj hR)).1⟩
def f_X9_keepAside_2 (N : Nat)  : Nat → Int32 → Mem → Option Mem
  | 0, _, _ => none
  | fu + 1, x1, b2 => if (311 : Int32) ≤ x1 then (some b2) else (chkI x1 311 <| chkI x1 311 <| bT (upR b2 3 (upd (b2 3) (x1).toNatClampNeg (b2 1 (x1).toNatClampNeg))) fun b6 => bT (x1 + (1 : Int32)) fun x8 => f_X9_keepAside_2 N fu x8 b6)
theorem f_X9_keepAside_2_s (N : Nat)  {fu : Nat} {x1 : Int32} {b2 : Mem} : f_X9_keepAside_2 N (fu + 1) x1 b2 = (if (311 : Int32) ≤ x1 then (some b2) else (chkI x1 311 <| chkI x1 311 <| bT (upR b2 3 (upd (b2 3) (x1).toNatClampNeg (b2 1 (x1).toNatClampNeg))) fun b6 => bT (x1 + (1 : Int32)) fun x8 => f_X9_keepAside_2 N fu x8 b6)) := rfl
def f_X9_keepAside (N : Nat) (b : Mem) : Option Mem := f_X9_keepAside_2 N N (0 : Int32) b
set_option maxRecDepth 100000 in
set_option maxHeartbeats 4000000 in
theorem m_X9_keepAside {l : Launch} (hl : l.stackTraces = false) {G : GG} {L : List Nat} (hL : LOK L) {a b c : Mem} {N : Nat}  {a' : Mem} (hR : f_X9_keepAside N b = some a') : Ct l G yX9_keepAside (.code yX9_keepAside cX9_keepAside 2 none) 0 0 0 0 [.ref (ad L 96)] L (FW G L a b c) px0 (stay L (fun r f1 => f1 = (FW G L a a' c) ∧ r = none)) := by
  refine Ct.ofq (own := RX9) hl rfl (by decide) [some (.ref (ad L 96)), none] rfl (Nat.le_of_ble_eq_true rfl) ?_
  intro p e s m below meth c9 A ar Q hQ X
  unfold f_X9_keepAside at hR
  refine j_iconst X (0) dX9_keepAside_0 (by decide) ?_
  refine j_istore_n X (i := 1) dX9_keepAside_1 rfl (by decide) (lvOK_s rfl okPrev_ref) ?_
  dsimp only [List.set]
  have hb2 : ∀ (fu : Nat) (x1 : Int32) (b2 : Mem) , f_X9_keepAside_2 N fu x1 b2 = some a' → J G p l e ({ frames := 0, cells := 0, slots := 0, locals := 0 } : Room) s m ar below meth c9 A Q 2 0 0 2 [some (.ref (ad L 96)), some (.int x1)] [] L (FW G L a b2 c) := by
    intro fu
    induction fu with
    | zero =>
      intro x1 b2 hR
      cases hR
    | succ fu ih =>
      intro x1 b2 hR
      replace hR := (f_X9_keepAside_2_s N ).symm.trans hR
      refine j_iload_n X (i := 1) dX9_keepAside_2 rfl rfl ?_
      refine j_sipush X (311) dX9_keepAside_3 (by decide) ?_
      refine j_icmp_ge X (tgt := 27) dX9_keepAside_6 (by decide) (fun h3 => ?_) (fun h3 => ?_)
      · replace hR := (if_pos h3).symm.trans hR
        exact q_vret X hQ dX9_keepAside_27 rfl ⟨(by decide), (by decide)⟩ ⟨rfl, congrArg (fun z => FW G L a z c) (Option.some.inj hR), rfl⟩
      · replace hR := (if_neg h3).symm.trans hR
        refine j_aload_n X (i := 0) dX9_keepAside_9 rfl rfl ?_
        refine j_getf X 9 4 rfl cw_X9 fl_X9_27 (by decide) dX9_keepAside_10 (ad_mem hL (by decide)) (FW9 hL) rfl ?_
        refine j_iload_n X (i := 1) dX9_keepAside_13 rfl rfl ?_
        refine j_aload_n X (i := 0) dX9_keepAside_14 rfl rfl ?_
        refine j_getf X 9 1 rfl cw_X9 fl_X9_17 (by decide) dX9_keepAside_15 (ad_mem hL (by decide)) (FW9 hL) rfl ?_
        refine j_iload_n X (i := 1) dX9_keepAside_18 rfl rfl ?_
        obtain ⟨h4, hR⟩ := chkI_inv hR
        refine j_iald X dX9_keepAside_19 (ad_mem hL (by decide)) (FWr97 hL) h4 ?_
        obtain ⟨h5, hR⟩ := chkI_inv hR
        obtain ⟨b6, h7, hR⟩ := bT_inv hR
        refine t_Iast_99 X hL h5 h7 dX9_keepAside_20 ?_
        obtain ⟨x8, h9, hR⟩ := bT_inv hR
        refine j_iinc X x8 dX9_keepAside_21 rfl h9 (by decide) (lvOK_s rfl okPrev_ref) ?_
        dsimp only [List.set]
        refine j_goto X (tgt := 2) dX9_keepAside_24 (by decide) ?_
        exact J.sub (lvle_of (by simp only [lvle, and_self])) (ih _ _  hR)
  exact J.sub (lvle_of (by simp only [lvle, and_self])) (hb2 _ _ _  hR)
def f_X9_isState (N : Nat) (p0 : Int32) (b : Mem) : Option Int32 := if (b (rowM (b 0 3)) ((0 : Int32)).toNatClampNeg) = p0 then (some (1 : Int32)) else (some (0 : Int32))
set_option maxRecDepth 100000 in
set_option maxHeartbeats 4000000 in
theorem m_X9_isState {l : Launch} (hl : l.stackTraces = false) {G : GG} {L : List Nat} (hL : LOK L) {a b c : Mem} {N : Nat} {p0 : Int32} {v : Int32} (hR : f_X9_isState N p0 b = some v) : Ct l G yX9_isState (.code yX9_isState cX9_isState 2 (some .boolean)) 0 0 0 0 [.ref (ad L 96), .int p0] L (FW G L a b c) px0 (stay L (fun r f1 => f1 = (FW G L a b c) ∧ r = some (.int v) ∧ isB v)) := by
  refine Ct.ofq (own := RX9) hl rfl (by decide) [some (.ref (ad L 96)), some (.int p0)] rfl (Nat.le_of_ble_eq_true rfl) ?_
  intro p e s m below meth c9 A ar Q hQ X
  unfold f_X9_isState at hR
  refine j_aload_n X (i := 0) dX9_isState_0 rfl rfl ?_
  refine j_getf X 9 3 rfl cw_X9 fl_X9_24 (by decide) dX9_isState_1 (ad_mem hL (by decide)) (FW9 hL) rfl ?_
  refine j_iconst X (0) dX9_isState_4 (by decide) ?_
  refine j_iald X dX9_isState_5 (inLr hL) (FWrow hL) (by unfold vp_in; decide) ?_
  refine j_iload_n X (i := 1) dX9_isState_6 rfl rfl ?_
  refine j_icmp_ne X (tgt := 14) dX9_isState_7 (by decide) (fun h1 => ?_) (fun h1 => ?_)
  · replace hR := (if_neg h1).symm.trans hR
    refine j_iconst X (0) dX9_isState_14 (by decide) ?_
    exact q_zret X hQ dX9_isState_15 rfl (nar_B isB_0) ⟨(by decide), (by decide)⟩ ⟨rfl, rfl, congrArg (fun z => some (Value.int z)) (Option.some.inj hR), (Option.some.inj hR) ▸ isB_0⟩
  · replace hR := (if_pos h1).symm.trans hR
    refine j_iconst X (1) dX9_isState_10 (by decide) ?_
    refine j_goto X (tgt := 15) dX9_isState_11 (by decide) ?_
    exact q_zret X hQ dX9_isState_15 rfl (nar_B isB_1) ⟨(by decide), (by decide)⟩ ⟨rfl, rfl, congrArg (fun z => some (Value.int z)) (Option.some.inj hR), (Option.some.inj hR) ▸ isB_1⟩
def f_X9_add (N : Nat) (p0 : Int32) (p1 : Int32) (p2 : Int32) (b : Mem) : Option Mem := chkI (((37 : Int32) + ((17 : Int32) * p0)) + p1) 311 <| chkI (((37 : Int32) + ((17 : Int32) * p0)) + p1) 311 <| bT (upR b (rowM (b 0 3)) (upd (b (rowM (b 0 3))) ((((37 : Int32) + ((17 : Int32) * p0)) + p1)).toNatClampNeg ((b (rowM (b 0 3)) ((((37 : Int32) + ((17 : Int32) * p0)) + p1)).toNatClampNeg) + p2))) fun b3 => some b3
set_option maxRecDepth 100000 in
set_option maxHeartbeats 4000000 in
theorem m_X9_add {l : Launch} (hl : l.stackTraces = false) {G : GG} {L : List Nat} (hL : LOK L) {a b c : Mem} {N : Nat} {p0 : Int32} {p1 : Int32} {p2 : Int32} {a' : Mem} (hR : f_X9_add N p0 p1 p2 b = some a') : Ct l G yX9_add (.code yX9_add cX9_add 4 none) 0 0 0 0 [.ref (ad L 96), .int p0, .int p1, .int p2] L (FW G L a b c) px0 (stay L (fun r f1 => f1 = (FW G L a a' c) ∧ r = none)) := by
  refine Ct.ofq (own := RX9) hl rfl (by decide) [some (.ref (ad L 96)), some (.int p0), some (.int p1), some (.int p2)] rfl (Nat.le_of_ble_eq_true rfl) ?_
  intro p e s m below meth c9 A ar Q hQ X
  unfold f_X9_add at hR
  refine j_aload_n X (i := 0) dX9_add_0 rfl rfl ?_
  refine j_getf X 9 3 rfl cw_X9 fl_X9_24 (by decide) dX9_add_1 (ad_mem hL (by decide)) (FW9 hL) rfl ?_
  refine j_bipush X (37) dX9_add_4 (by decide) ?_
  refine j_bipush X (17) dX9_add_6 (by decide) ?_
  refine j_iload_n X (i := 1) dX9_add_8 rfl rfl ?_
  refine j_imul X dX9_add_9 ?_
  refine j_iadd X dX9_add_10 ?_
  refine j_iload_n X (i := 2) dX9_add_11 rfl rfl ?_
  refine j_iadd X dX9_add_12 ?_
  refine j_dup2 X dX9_add_13 rfl rfl ?_
  obtain ⟨h1, hR⟩ := chkI_inv hR
  refine j_iald X dX9_add_14 (inLr hL) (FWrow hL) h1 ?_
  refine j_iload_n X (i := 3) dX9_add_15 rfl rfl ?_
  refine j_iadd X dX9_add_16 ?_
  obtain ⟨h2, hR⟩ := chkI_inv hR
  obtain ⟨b3, h4, hR⟩ := bT_inv hR
  refine trow_iast X hL h2 h4 dX9_add_17 ?_
  exact q_vret X hQ dX9_add_18 rfl ⟨(by decide), (by decide)⟩ ⟨rfl, congrArg (fun z => FW G L a z c) (Option.some.inj hR), rfl⟩
def f_X9_wonBy (N : Nat) (p0 : Int32) (b : Mem) : Option Int32 := bP (f_X9_of N p0 (9 : Int32) b) fun x2 => if x2 = (1 : Int32) then (some (2 : Int32)) else (some p0)
set_option maxRecDepth 100000 in
set_option maxHeartbeats 4000000 in
theorem m_X9_wonBy {l : Launch} (hl : l.stackTraces = false) {G : GG} {L : List Nat} (hL : LOK L) {a b c : Mem} {N : Nat} {p0 : Int32} {v : Int32} (hR : f_X9_wonBy N p0 b = some v) : Ct l G yX9_wonBy (.code yX9_wonBy cX9_wonBy 2 (some .int)) 1 22 0 0 [.ref (ad L 96), .int p0] L (FW G L a b c) px0 (stay L (fun r f1 => f1 = (FW G L a b c) ∧ r = some (.int v))) := by
  refine Ct.ofq (own := RX9) hl rfl (by decide) [some (.ref (ad L 96)), some (.int p0)] rfl (Nat.le_of_ble_eq_true rfl) ?_
  intro p e s m below meth c9 A ar Q hQ X
  unfold f_X9_wonBy at hR
  refine j_aload_n X (i := 0) dX9_wonBy_0 rfl rfl ?_
  refine j_iload_n X (i := 1) dX9_wonBy_1 rfl rfl ?_
  refine j_bipush X (9) dX9_wonBy_2 (by decide) ?_
  obtain ⟨x2, h1, hR⟩ := bP_inv hR
  refine j_callV2 X 9 (m_X9_of hl hL h1) ml_X9_57 im_yX9_of se_yX9_of in_X9 cd_yX9_of hy_yX9_of dX9_wonBy_4 rfl (ad_mem hL (by decide)) (FW9 hL) ⟨(by decide), (by decide)⟩ ⟨(by decide), (by decide)⟩ (Nat.le_of_ble_eq_true rfl) (fun _ h => h.elim) (fun r9 L9 f9 h9 => ?_)
  obtain ⟨h91, h92, h93⟩ := h9
  subst r9
  subst f9
  subst L9
  dsimp only [Option.toList, List.cons_append, List.nil_append, List.append]
  refine j_iconst X (1) dX9_wonBy_7 (by decide) ?_
  refine j_icmp_ne X (tgt := 15) dX9_wonBy_8 (by decide) (fun h4 => ?_) (fun h4 => ?_)
  · replace hR := (if_neg h4).symm.trans hR
    refine j_iload_n X (i := 1) dX9_wonBy_15 rfl rfl ?_
    exact q_iret X hQ dX9_wonBy_16 rfl ⟨(by decide), (by decide)⟩ ⟨rfl, rfl, congrArg (fun z => some (Value.int z)) (Option.some.inj hR)⟩
  · replace hR := (if_pos h4).symm.trans hR
    refine j_iconst X (2) dX9_wonBy_11 (by decide) ?_
    refine j_goto X (tgt := 16) dX9_wonBy_12 (by decide) ?_
    exact q_iret X hQ dX9_wonBy_16 rfl ⟨(by decide), (by decide)⟩ ⟨rfl, rfl, congrArg (fun z => some (Value.int z)) (Option.some.inj hR)⟩
def f_X9_endGame (N : Nat) (p0 : Int32) (b : Mem) : Option Mem := bT (upR b (rowM (b 0 3)) (upd (b (rowM (b 0 3))) ((0 : Int32)).toNatClampNeg (4 : Int32))) fun b1 => bT (upR b1 (rowM (b1 0 3)) (upd (b1 (rowM (b1 0 3))) ((11 : Int32)).toNatClampNeg p0)) fun b3 => some b3
set_option maxRecDepth 100000 in
set_option maxHeartbeats 4000000 in
theorem m_X9_endGame {l : Launch} (hl : l.stackTraces = false) {G : GG} {L : List Nat} (hL : LOK L) {a b c : Mem} {N : Nat} {p0 : Int32} {a' : Mem} (hR : f_X9_endGame N p0 b = some a') : Ct l G yX9_endGame (.code yX9_endGame cX9_endGame 2 none) 0 0 0 0 [.ref (ad L 96), .int p0] L (FW G L a b c) px0 (stay L (fun r f1 => f1 = (FW G L a a' c) ∧ r = none)) := by
  refine Ct.ofq (own := RX9) hl rfl (by decide) [some (.ref (ad L 96)), some (.int p0)] rfl (Nat.le_of_ble_eq_true rfl) ?_
  intro p e s m below meth c9 A ar Q hQ X
  unfold f_X9_endGame at hR
  refine j_aload_n X (i := 0) dX9_endGame_0 rfl rfl ?_
  refine j_getf X 9 3 rfl cw_X9 fl_X9_24 (by decide) dX9_endGame_1 (ad_mem hL (by decide)) (FW9 hL) rfl ?_
  refine j_iconst X (0) dX9_endGame_4 (by decide) ?_
  refine j_iconst X (4) dX9_endGame_5 (by decide) ?_
  obtain ⟨b1, h2, hR⟩ := bT_inv hR
  refine trow_iast X hL (by unfold vp_in; decide) h2 dX9_endGame_6 ?_
  refine j_aload_n X (i := 0) dX9_endGame_7 rfl rfl ?_
  refine j_getf X 9 3 rfl cw_X9 fl_X9_24 (by decide) dX9_endGame_8 (ad_mem hL (by decide)) (FW9 hL) rfl ?_
  refine j_bipush X (11) dX9_endGame_11 (by decide) ?_
  refine j_iload_n X (i := 1) dX9_endGame_13 rfl rfl ?_
  obtain ⟨b3, h4, hR⟩ := bT_inv hR
  refine trow_iast X hL (by unfold vp_in; decide) h4 dX9_endGame_14 ?_
  exact q_vret X hQ dX9_endGame_15 rfl ⟨(by decide), (by decide)⟩ ⟨rfl, congrArg (fun z => FW G L a z c) (Option.some.inj hR), rfl⟩
def f_X9_fall_36 (N : Nat) (p0 : Int32) (b2 : Mem) (x4 : Int32) : Option Mem := bT (upR b2 (rowM (b2 0 3)) (upd (b2 (rowM (b2 0 3))) ((9 : Int32)).toNatClampNeg x4)) fun b5 => if (b5 (rowM (b5 0 3)) ((10 : Int32)).toNatClampNeg) = 0 then (bP (f_X9_wonBy N ((1 : Int32) - p0) b5) fun x9 => bP (f_X9_endGame N x9 b5) fun b12 => some b12) else (some b5)
def f_X9_fall (N : Nat) (p0 : Int32) (b : Mem) : Option Mem := bP (f_X9_put N p0 (8 : Int32) (1 : Int32) b) fun b2 => if (b2 (rowM (b2 0 3)) ((9 : Int32)).toNatClampNeg) = (-1 : Int32) then (f_X9_fall_36 N p0 b2 p0) else (f_X9_fall_36 N p0 b2 (b2 (rowM (b2 0 3)) ((9 : Int32)).toNatClampNeg))
set_option maxRecDepth 100000 in
set_option maxHeartbeats 4000000 in
theorem m_X9_fall {l : Launch} (hl : l.stackTraces = false) {G : GG} {L : List Nat} (hL : LOK L) {a b c : Mem} {N : Nat} {p0 : Int32} {a' : Mem} (hR : f_X9_fall N p0 b = some a') : Ct l G yX9_fall (.code yX9_fall cX9_fall 2 none) 2 43 0 0 [.ref (ad L 96), .int p0] L (FW G L a b c) px0 (stay L (fun r f1 => f1 = (FW G L a a' c) ∧ r = none)) := by
  refine Ct.ofq (own := RX9) hl rfl (by decide) [some (.ref (ad L 96)), some (.int p0)] rfl (Nat.le_of_ble_eq_true rfl) ?_
  intro p e s m below meth c9 A ar Q hQ X
  unfold f_X9_fall at hR
  refine j_aload_n X (i := 0) dX9_fall_0 rfl rfl ?_
  refine j_iload_n X (i := 1) dX9_fall_1 rfl rfl ?_
  refine j_bipush X (8) dX9_fall_2 (by decide) ?_
  refine j_iconst X (1) dX9_fall_4 (by decide) ?_
  obtain ⟨b2, h1, hR⟩ := bP_inv hR
  refine j_callV3 X 9 (m_X9_put hl hL h1) ml_X9_53 im_yX9_put se_yX9_put in_X9 cd_yX9_put hy_yX9_put dX9_fall_5 rfl (ad_mem hL (by decide)) (FW9 hL) ⟨(by decide), (by decide)⟩ ⟨(by decide), (by decide)⟩ (Nat.le_of_ble_eq_true rfl) (fun _ h => h.elim) (fun r9 L9 f9 h9 => ?_)
  obtain ⟨h91, h92, h93⟩ := h9
  subst r9
  subst f9
  subst L9
  dsimp only [Option.toList, List.cons_append, List.nil_append, List.append]
  refine j_aload_n X (i := 0) dX9_fall_8 rfl rfl ?_
  refine j_getf X 9 3 rfl cw_X9 fl_X9_24 (by decide) dX9_fall_9 (ad_mem hL (by decide)) (FW9 hL) rfl ?_
  refine j_bipush X (9) dX9_fall_12 (by decide) ?_
  refine j_aload_n X (i := 0) dX9_fall_14 rfl rfl ?_
  refine j_getf X 9 3 rfl cw_X9 fl_X9_24 (by decide) dX9_fall_15 (ad_mem hL (by decide)) (FW9 hL) rfl ?_
  refine j_bipush X (9) dX9_fall_18 (by decide) ?_
  refine j_iald X dX9_fall_20 (inLr hL) (FWrow hL) (by unfold vp_in; decide) ?_
  refine j_iconst X (-1) dX9_fall_21 (by decide) ?_
  have hb36 : ∀ (x4 : Int32) , f_X9_fall_36 N p0 b2 x4 = some a' → J G p l e ({ frames := 2, cells := 0, slots := 0, locals := 43 } : Room) s m ar below meth c9 A Q 2 0 0 36 [some (.ref (ad L 96)), some (.int p0)] [.int x4, .int (9 : Int32), .ref (ad L (rowR (b2 0 3)))] L (FW G L a b2 c) := by
    intro x4 hR
    unfold f_X9_fall_36 at hR
    obtain ⟨b5, h6, hR⟩ := bT_inv hR
    refine trow_iast X hL (by unfold vp_in; decide) h6 dX9_fall_36 ?_
    refine j_aload_n X (i := 0) dX9_fall_37 rfl rfl ?_
    refine j_getf X 9 3 rfl cw_X9 fl_X9_24 (by decide) dX9_fall_38 (ad_mem hL (by decide)) (FW9 hL) rfl ?_
    refine j_bipush X (10) dX9_fall_41 (by decide) ?_
    refine j_iald X dX9_fall_43 (inLr hL) (FWrow hL) (by unfold vp_in; decide) ?_
    refine j_if_ne X (tgt := 58) dX9_fall_44 (by decide) (fun h7 => ?_) (fun h7 => ?_)
    · replace hR := (if_neg h7).symm.trans hR
      exact q_vret X hQ dX9_fall_58 rfl ⟨(by decide), (by decide)⟩ ⟨rfl, congrArg (fun z => FW G L a z c) (Option.some.inj hR), rfl⟩
    · replace hR := (if_pos h7).symm.trans hR
      refine j_aload_n X (i := 0) dX9_fall_47 rfl rfl ?_
      refine j_aload_n X (i := 0) dX9_fall_48 rfl rfl ?_
      refine j_iconst X (1) dX9_fall_49 (by decide) ?_
      refine j_iload_n X (i := 1) dX9_fall_50 rfl rfl ?_
      refine j_isub X dX9_fall_51 ?_
      obtain ⟨x9, h8, hR⟩ := bP_inv hR
      refine j_callV1 X 9 (m_X9_wonBy hl hL h8) ml_X9_68 im_yX9_wonBy se_yX9_wonBy in_X9 cd_yX9_wonBy hy_yX9_wonBy dX9_fall_52 rfl (ad_mem hL (by decide)) (FW9 hL) ⟨(by decide), (by decide)⟩ ⟨(by decide), (by decide)⟩ (Nat.le_of_ble_eq_true rfl) (fun _ h => h.elim) (fun r9 L9 f9 h9 => ?_)
      obtain ⟨h91, h92, h93⟩ := h9
      subst r9
      subst f9
      subst L9
      dsimp only [Option.toList, List.cons_append, List.nil_append, List.append]
      obtain ⟨b12, h11, hR⟩ := bP_inv hR
      refine j_callV1 X 9 (m_X9_endGame hl hL h11) ml_X9_72 im_yX9_endGame se_yX9_endGame in_X9 cd_yX9_endGame hy_yX9_endGame dX9_fall_55 rfl (ad_mem hL (by decide)) (FW9 hL) ⟨(by decide), (by decide)⟩ ⟨(by decide), (by decide)⟩ (Nat.le_of_ble_eq_true rfl) (fun _ h => h.elim) (fun r9 L9 f9 h9 => ?_)
      obtain ⟨h91, h92, h93⟩ := h9
      subst r9
      subst f9
      subst L9
      dsimp only [Option.toList, List.cons_append, List.nil_append, List.append]
      exact q_vret X hQ dX9_fall_58 rfl ⟨(by decide), (by decide)⟩ ⟨rfl, congrArg (fun z => FW G L a z c) (Option.some.inj hR), rfl⟩
  refine j_icmp_ne X (tgt := 29) dX9_fall_22 (by decide) (fun h14 => ?_) (fun h14 => ?_)
  · replace hR := (if_neg h14).symm.trans hR
    refine j_aload_n X (i := 0) dX9_fall_29 rfl rfl ?_
    refine j_getf X 9 3 rfl cw_X9 fl_X9_24 (by decide) dX9_fall_30 (ad_mem hL (by decide)) (FW9 hL) rfl ?_
    refine j_bipush X (9) dX9_fall_33 (by decide) ?_
    refine j_iald X dX9_fall_35 (inLr hL) (FWrow hL) (by unfold vp_in; decide) ?_
    exact J.sub (lvle_of (by simp only [lvle, and_self])) (hb36 _  hR)
  · replace hR := (if_pos h14).symm.trans hR
    refine j_iload_n X (i := 1) dX9_fall_25 rfl rfl ?_
    refine j_goto X (tgt := 36) dX9_fall_26 (by decide) ?_
    exact J.sub (lvle_of (by simp only [lvle, and_self])) (hb36 _  hR)
def f_X9_tickOnce (N : Nat) (b : Mem) : Option Mem := bP (f_X9_isState N (1 : Int32) b) fun x2 => if x2 = 0 then (some b) else (bP (f_X9_mover N b) fun x6 => bT (upR b (rowM (b 0 3)) (upd (b (rowM (b 0 3))) ((7 : Int32)).toNatClampNeg ((b (rowM (b 0 3)) ((7 : Int32)).toNatClampNeg) + (1 : Int32)))) fun b8 => bT (upR b8 (rowM (b8 0 3)) (upd (b8 (rowM (b8 0 3))) ((6 : Int32)).toNatClampNeg ((b8 (rowM (b8 0 3)) ((6 : Int32)).toNatClampNeg) + (1 : Int32)))) fun b10 => bP (f_X9_add N x6 (6 : Int32) (1 : Int32) b10) fun b13 => bP (f_X9_add N x6 (10 : Int32) (1 : Int32) b13) fun b16 => bP (f_X9_of N x6 (6 : Int32) b16) fun x19 => bP (f_X9_its N x6 (3 : Int32) b16) fun x22 => if x19 ≤ x22 then (some b16) else (bP (f_X9_of N x6 (0 : Int32) b16) fun x26 => if x26 = 0 then (some b16) else (bP (f_X9_add N x6 (0 : Int32) (-1 : Int32) b16) fun b30 => bP (f_X9_add N x6 (7 : Int32) (1 : Int32) b30) fun b33 => bP (f_X9_of N x6 (2 : Int32) b33) fun x36 => bP (f_X9_add N x6 ((12 : Int32) + x36) (1 : Int32) b33) fun b39 => bP (f_X9_of N x6 (0 : Int32) b39) fun x42 => if x42 ≤ 0 then (bP (f_X9_its N x6 (0 : Int32) b39) fun x46 => if x46 = 0 then (bP (f_X9_of N x6 (4 : Int32) b39) fun x53 => if x53 ≤ 0 then (bP (f_X9_fall N x6 b39) fun b57 => some b57) else (bP (f_X9_add N x6 (4 : Int32) (-1 : Int32) b39) fun b60 => bP (f_X9_put N x6 (5 : Int32) (1 : Int32) b60) fun b63 => bP (f_X9_put N x6 (0 : Int32) (b63 (rowM (b63 0 3)) ((4 : Int32)).toNatClampNeg) b63) fun b66 => some b66)) else (bP (f_X9_fall N x6 b39) fun b50 => some b50)) else (some b39))))
set_option maxRecDepth 100000 in
set_option maxHeartbeats 4000000 in
theorem m_X9_tickOnce {l : Launch} (hl : l.stackTraces = false) {G : GG} {L : List Nat} (hL : LOK L) {a b c : Mem} {N : Nat}  {a' : Mem} (hR : f_X9_tickOnce N b = some a') : Ct l G yX9_tickOnce (.code yX9_tickOnce cX9_tickOnce 2 none) 3 64 0 0 [.ref (ad L 96)] L (FW G L a b c) px0 (stay L (fun r f1 => f1 = (FW G L a a' c) ∧ r = none)) := by
  refine Ct.ofq (own := RX9) hl rfl (by decide) [some (.ref (ad L 96)), none] rfl (Nat.le_of_ble_eq_true rfl) ?_
  intro p e s m below meth c9 A ar Q hQ X
  unfold f_X9_tickOnce at hR
  refine j_aload_n X (i := 0) dX9_tickOnce_0 rfl rfl ?_
  refine j_iconst X (1) dX9_tickOnce_1 (by decide) ?_
  obtain ⟨x2, h1, hR⟩ := bP_inv hR
  refine j_callV1 X 9 (m_X9_isState hl hL h1) ml_X9_76 im_yX9_isState se_yX9_isState in_X9 cd_yX9_isState hy_yX9_isState dX9_tickOnce_2 rfl (ad_mem hL (by decide)) (FW9 hL) ⟨(by decide), (by decide)⟩ ⟨(by decide), (by decide)⟩ (Nat.le_of_ble_eq_true rfl) (fun _ h => h.elim) (fun r9 L9 f9 h9 => ?_)
  obtain ⟨h91, h92, h93, h3⟩ := h9
  subst r9
  subst f9
  subst L9
  dsimp only [Option.toList, List.cons_append, List.nil_append, List.append]
  refine j_if_ne X (tgt := 9) dX9_tickOnce_5 (by decide) (fun h4 => ?_) (fun h4 => ?_)
  · replace hR := (if_neg h4).symm.trans hR
    refine j_aload_n X (i := 0) dX9_tickOnce_9 rfl rfl ?_
    obtain ⟨x6, h5, hR⟩ := bP_inv hR
    refine j_callV0 X 9 (m_X9_mover hl hL h5) ml_X9_80 im_yX9_mover se_yX9_mover in_X9 cd_yX9_mover hy_yX9_mover dX9_tickOnce_10 rfl (ad_mem hL (by decide)) (FW9 hL) ⟨(by decide), (by decide)⟩ ⟨(by decide), (by decide)⟩ (Nat.le_of_ble_eq_true rfl) (fun _ h => h.elim) (fun r9 L9 f9 h9 => ?_)
    obtain ⟨h91, h92, h93⟩ := h9
    subst r9
    subst f9
    subst L9
    dsimp only [Option.toList, List.cons_append, List.nil_append, List.append]
    refine j_istore_n X (i := 1) dX9_tickOnce_13 rfl (by decide) (lvOK_s rfl okPrev_ref) ?_
    dsimp only [List.set]
    refine j_aload_n X (i := 0) dX9_tickOnce_14 rfl rfl ?_
    refine j_getf X 9 3 rfl cw_X9 fl_X9_24 (by decide) dX9_tickOnce_15 (ad_mem hL (by decide)) (FW9 hL) rfl ?_
    refine j_bipush X (7) dX9_tickOnce_18 (by decide) ?_
    refine j_dup2 X dX9_tickOnce_20 rfl rfl ?_
    refine j_iald X dX9_tickOnce_21 (inLr hL) (FWrow hL) (by unfold vp_in; decide) ?_
    refine j_iconst X (1) dX9_tickOnce_22 (by decide) ?_
    refine j_iadd X dX9_tickOnce_23 ?_
    obtain ⟨b8, h9, hR⟩ := bT_inv hR
    refine trow_iast X hL (by unfold vp_in; decide) h9 dX9_tickOnce_24 ?_
    refine j_aload_n X (i := 0) dX9_tickOnce_25 rfl rfl ?_
    refine j_getf X 9 3 rfl cw_X9 fl_X9_24 (by decide) dX9_tickOnce_26 (ad_mem hL (by decide)) (FW9 hL) rfl ?_
    refine j_bipush X (6) dX9_tickOnce_29 (by decide) ?_
    refine j_dup2 X dX9_tickOnce_31 rfl rfl ?_
    refine j_iald X dX9_tickOnce_32 (inLr hL) (FWrow hL) (by unfold vp_in; decide) ?_
    refine j_iconst X (1) dX9_tickOnce_33 (by decide) ?_
    refine j_iadd X dX9_tickOnce_34 ?_
    obtain ⟨b10, h11, hR⟩ := bT_inv hR
    refine trow_iast X hL (by unfold vp_in; decide) h11 dX9_tickOnce_35 ?_
    refine j_aload_n X (i := 0) dX9_tickOnce_36 rfl rfl ?_
    refine j_iload_n X (i := 1) dX9_tickOnce_37 rfl rfl ?_
    refine j_bipush X (6) dX9_tickOnce_38 (by decide) ?_
    refine j_iconst X (1) dX9_tickOnce_40 (by decide) ?_
    obtain ⟨b13, h12, hR⟩ := bP_inv hR
    refine j_callV3 X 9 (m_X9_add hl hL h12) ml_X9_84 im_yX9_add se_yX9_add in_X9 cd_yX9_add hy_yX9_add dX9_tickOnce_41 rfl (ad_mem hL (by decide)) (FW9 hL) ⟨(by decide), (by decide)⟩ ⟨(by decide), (by decide)⟩ (Nat.le_of_ble_eq_true rfl) (fun _ h => h.elim) (fun r9 L9 f9 h9 => ?_)
    obtain ⟨h91, h92, h93⟩ := h9
    subst r9
    subst f9
    subst L9
    dsimp only [Option.toList, List.cons_append, List.nil_append, List.append]
    refine j_aload_n X (i := 0) dX9_tickOnce_44 rfl rfl ?_
    refine j_iload_n X (i := 1) dX9_tickOnce_45 rfl rfl ?_
    refine j_bipush X (10) dX9_tickOnce_46 (by decide) ?_
    refine j_iconst X (1) dX9_tickOnce_48 (by decide) ?_
    obtain ⟨b16, h15, hR⟩ := bP_inv hR
    refine j_callV3 X 9 (m_X9_add hl hL h15) ml_X9_84 im_yX9_add se_yX9_add in_X9 cd_yX9_add hy_yX9_add dX9_tickOnce_49 rfl (ad_mem hL (by decide)) (FW9 hL) ⟨(by decide), (by decide)⟩ ⟨(by decide), (by decide)⟩ (Nat.le_of_ble_eq_true rfl) (fun _ h => h.elim) (fun r9 L9 f9 h9 => ?_)
    obtain ⟨h91, h92, h93⟩ := h9
    subst r9
    subst f9
    subst L9
    dsimp only [Option.toList, List.cons_append, List.nil_append, List.append]
    refine j_aload_n X (i := 0) dX9_tickOnce_52 rfl rfl ?_
    refine j_iload_n X (i := 1) dX9_tickOnce_53 rfl rfl ?_
    refine j_bipush X (6) dX9_tickOnce_54 (by decide) ?_
    obtain ⟨x19, h18, hR⟩ := bP_inv hR
    refine j_callV2 X 9 (m_X9_of hl hL h18) ml_X9_57 im_yX9_of se_yX9_of in_X9 cd_yX9_of hy_yX9_of dX9_tickOnce_56 rfl (ad_mem hL (by decide)) (FW9 hL) ⟨(by decide), (by decide)⟩ ⟨(by decide), (by decide)⟩ (Nat.le_of_ble_eq_true rfl) (fun _ h => h.elim) (fun r9 L9 f9 h9 => ?_)
    obtain ⟨h91, h92, h93⟩ := h9
    subst r9
    subst f9
    subst L9
    dsimp only [Option.toList, List.cons_append, List.nil_append, List.append]
    refine j_aload_n X (i := 0) dX9_tickOnce_59 rfl rfl ?_
    refine j_iload_n X (i := 1) dX9_tickOnce_60 rfl rfl ?_
    refine j_iconst X (3) dX9_tickOnce_61 (by decide) ?_
    obtain ⟨x22, h21, hR⟩ := bP_inv hR
    refine j_callV2 X 9 (m_X9_its hl hL h21) ml_X9_87 im_yX9_its se_yX9_its in_X9 cd_yX9_its hy_yX9_its dX9_tickOnce_62 rfl (ad_mem hL (by decide)) (FW9 hL) ⟨(by decide), (by decide)⟩ ⟨(by decide), (by decide)⟩ (Nat.le_of_ble_eq_true rfl) (fun _ h => h.elim) (fun r9 L9 f9 h9 => ?_)
    obtain ⟨h91, h92, h93⟩ := h9
    subst r9
    subst f9
    subst L9
    dsimp only [Option.toList, List.cons_append, List.nil_append, List.append]
    refine j_icmp_le X (tgt := 77) dX9_tickOnce_65 (by decide) (fun h24 => ?_) (fun h24 => ?_)
    · replace hR := (if_pos h24).symm.trans hR
      exact q_vret X hQ dX9_tickOnce_77 rfl ⟨(by decide), (by decide)⟩ ⟨rfl, congrArg (fun z => FW G L a z c) (Option.some.inj hR), rfl⟩
    · replace hR := (if_neg h24).symm.trans hR
      refine j_aload_n X (i := 0) dX9_tickOnce_68 rfl rfl ?_
      refine j_iload_n X (i := 1) dX9_tickOnce_69 rfl rfl ?_
      refine j_iconst X (0) dX9_tickOnce_70 (by decide) ?_
      obtain ⟨x26, h25, hR⟩ := bP_inv hR
      refine j_callV2 X 9 (m_X9_of hl hL h25) ml_X9_57 im_yX9_of se_yX9_of in_X9 cd_yX9_of hy_yX9_of dX9_tickOnce_71 rfl (ad_mem hL (by decide)) (FW9 hL) ⟨(by decide), (by decide)⟩ ⟨(by decide), (by decide)⟩ (Nat.le_of_ble_eq_true rfl) (fun _ h => h.elim) (fun r9 L9 f9 h9 => ?_)
      obtain ⟨h91, h92, h93⟩ := h9
      subst r9
      subst f9
      subst L9
      dsimp only [Option.toList, List.cons_append, List.nil_append, List.append]
      refine j_if_ne X (tgt := 78) dX9_tickOnce_74 (by decide) (fun h28 => ?_) (fun h28 => ?_)
      · replace hR := (if_neg h28).symm.trans hR
        refine j_aload_n X (i := 0) dX9_tickOnce_78 rfl rfl ?_
        refine j_iload_n X (i := 1) dX9_tickOnce_79 rfl rfl ?_
        refine j_iconst X (0) dX9_tickOnce_80 (by decide) ?_
        refine j_iconst X (-1) dX9_tickOnce_81 (by decide) ?_
        obtain ⟨b30, h29, hR⟩ := bP_inv hR
        refine j_callV3 X 9 (m_X9_add hl hL h29) ml_X9_84 im_yX9_add se_yX9_add in_X9 cd_yX9_add hy_yX9_add dX9_tickOnce_82 rfl (ad_mem hL (by decide)) (FW9 hL) ⟨(by decide), (by decide)⟩ ⟨(by decide), (by decide)⟩ (Nat.le_of_ble_eq_true rfl) (fun _ h => h.elim) (fun r9 L9 f9 h9 => ?_)
        obtain ⟨h91, h92, h93⟩ := h9
        subst r9
        subst f9
        subst L9
        dsimp only [Option.toList, List.cons_append, List.nil_append, List.append]
        refine j_aload_n X (i := 0) dX9_tickOnce_85 rfl rfl ?_
        refine j_iload_n X (i := 1) dX9_tickOnce_86 rfl rfl ?_
        refine j_bipush X (7) dX9_tickOnce_87 (by decide) ?_
        refine j_iconst X (1) dX9_tickOnce_89 (by decide) ?_
        obtain ⟨b33, h32, hR⟩ := bP_inv hR
        refine j_callV3 X 9 (m_X9_add hl hL h32) ml_X9_84 im_yX9_add se_yX9_add in_X9 cd_yX9_add hy_yX9_add dX9_tickOnce_90 rfl (ad_mem hL (by decide)) (FW9 hL) ⟨(by decide), (by decide)⟩ ⟨(by decide), (by decide)⟩ (Nat.le_of_ble_eq_true rfl) (fun _ h => h.elim) (fun r9 L9 f9 h9 => ?_)
        obtain ⟨h91, h92, h93⟩ := h9
        subst r9
        subst f9
        subst L9
        dsimp only [Option.toList, List.cons_append, List.nil_append, List.append]
        refine j_aload_n X (i := 0) dX9_tickOnce_93 rfl rfl ?_
        refine j_iload_n X (i := 1) dX9_tickOnce_94 rfl rfl ?_
        refine j_bipush X (12) dX9_tickOnce_95 (by decide) ?_
        refine j_aload_n X (i := 0) dX9_tickOnce_97 rfl rfl ?_
        refine j_iload_n X (i := 1) dX9_tickOnce_98 rfl rfl ?_
        refine j_iconst X (2) dX9_tickOnce_99 (by decide) ?_
        obtain ⟨x36, h35, hR⟩ := bP_inv hR
        refine j_callV2 X 9 (m_X9_of hl hL h35) ml_X9_57 im_yX9_of se_yX9_of in_X9 cd_yX9_of hy_yX9_of dX9_tickOnce_100 rfl (ad_mem hL (by decide)) (FW9 hL) ⟨(by decide), (by decide)⟩ ⟨(by decide), (by decide)⟩ (Nat.le_of_ble_eq_true rfl) (fun _ h => h.elim) (fun r9 L9 f9 h9 => ?_)
        obtain ⟨h91, h92, h93⟩ := h9
        subst r9
        subst f9
        subst L9
        dsimp only [Option.toList, List.cons_append, List.nil_append, List.append]
        refine j_iadd X dX9_tickOnce_103 ?_
        refine j_iconst X (1) dX9_tickOnce_104 (by decide) ?_
        obtain ⟨b39, h38, hR⟩ := bP_inv hR
        refine j_callV3 X 9 (m_X9_add hl hL h38) ml_X9_84 im_yX9_add se_yX9_add in_X9 cd_yX9_add hy_yX9_add dX9_tickOnce_105 rfl (ad_mem hL (by decide)) (FW9 hL) ⟨(by decide), (by decide)⟩ ⟨(by decide), (by decide)⟩ (Nat.le_of_ble_eq_true rfl) (fun _ h => h.elim) (fun r9 L9 f9 h9 => ?_)
        obtain ⟨h91, h92, h93⟩ := h9
        subst r9
        subst f9
        subst L9
        dsimp only [Option.toList, List.cons_append, List.nil_append, List.append]
        refine j_aload_n X (i := 0) dX9_tickOnce_108 rfl rfl ?_
        refine j_iload_n X (i := 1) dX9_tickOnce_109 rfl rfl ?_
        refine j_iconst X (0) dX9_tickOnce_110 (by decide) ?_
        obtain ⟨x42, h41, hR⟩ := bP_inv hR
        refine j_callV2 X 9 (m_X9_of hl hL h41) ml_X9_57 im_yX9_of se_yX9_of in_X9 cd_yX9_of hy_yX9_of dX9_tickOnce_111 rfl (ad_mem hL (by decide)) (FW9 hL) ⟨(by decide), (by decide)⟩ ⟨(by decide), (by decide)⟩ (Nat.le_of_ble_eq_true rfl) (fun _ h => h.elim) (fun r9 L9 f9 h9 => ?_)
        obtain ⟨h91, h92, h93⟩ := h9
        subst r9
        subst f9
        subst L9
        dsimp only [Option.toList, List.cons_append, List.nil_append, List.append]
        refine j_if_le X (tgt := 118) dX9_tickOnce_114 (by decide) (fun h44 => ?_) (fun h44 => ?_)
        · replace hR := (if_pos h44).symm.trans hR
          refine j_aload_n X (i := 0) dX9_tickOnce_118 rfl rfl ?_
          refine j_iload_n X (i := 1) dX9_tickOnce_119 rfl rfl ?_
          refine j_iconst X (0) dX9_tickOnce_120 (by decide) ?_
          obtain ⟨x46, h45, hR⟩ := bP_inv hR
          refine j_callV2 X 9 (m_X9_its hl hL h45) ml_X9_87 im_yX9_its se_yX9_its in_X9 cd_yX9_its hy_yX9_its dX9_tickOnce_121 rfl (ad_mem hL (by decide)) (FW9 hL) ⟨(by decide), (by decide)⟩ ⟨(by decide), (by decide)⟩ (Nat.le_of_ble_eq_true rfl) (fun _ h => h.elim) (fun r9 L9 f9 h9 => ?_)
          obtain ⟨h91, h92, h93⟩ := h9
          subst r9
          subst f9
          subst L9
          dsimp only [Option.toList, List.cons_append, List.nil_append, List.append]
          refine j_if_ne X (tgt := 165) dX9_tickOnce_124 (by decide) (fun h48 => ?_) (fun h48 => ?_)
          · replace hR := (if_neg h48).symm.trans hR
            refine j_aload_n X (i := 0) dX9_tickOnce_165 rfl rfl ?_
            refine j_iload_n X (i := 1) dX9_tickOnce_166 rfl rfl ?_
            obtain ⟨b50, h49, hR⟩ := bP_inv hR
            refine j_callV1 X 9 (m_X9_fall hl hL h49) ml_X9_90 im_yX9_fall se_yX9_fall in_X9 cd_yX9_fall hy_yX9_fall dX9_tickOnce_167 rfl (ad_mem hL (by decide)) (FW9 hL) ⟨(by decide), (by decide)⟩ ⟨(by decide), (by decide)⟩ (Nat.le_of_ble_eq_true rfl) (fun _ h => h.elim) (fun r9 L9 f9 h9 => ?_)
            obtain ⟨h91, h92, h93⟩ := h9
            subst r9
            subst f9
            subst L9
            dsimp only [Option.toList, List.cons_append, List.nil_append, List.append]
            exact q_vret X hQ dX9_tickOnce_170 rfl ⟨(by decide), (by decide)⟩ ⟨rfl, congrArg (fun z => FW G L a z c) (Option.some.inj hR), rfl⟩
          · replace hR := (if_pos h48).symm.trans hR
            refine j_aload_n X (i := 0) dX9_tickOnce_127 rfl rfl ?_
            refine j_iload_n X (i := 1) dX9_tickOnce_128 rfl rfl ?_
            refine j_iconst X (4) dX9_tickOnce_129 (by decide) ?_
            obtain ⟨x53, h52, hR⟩ := bP_inv hR
            refine j_callV2 X 9 (m_X9_of hl hL h52) ml_X9_57 im_yX9_of se_yX9_of in_X9 cd_yX9_of hy_yX9_of dX9_tickOnce_130 rfl (ad_mem hL (by decide)) (FW9 hL) ⟨(by decide), (by decide)⟩ ⟨(by decide), (by decide)⟩ (Nat.le_of_ble_eq_true rfl) (fun _ h => h.elim) (fun r9 L9 f9 h9 => ?_)
            obtain ⟨h91, h92, h93⟩ := h9
            subst r9
            subst f9
            subst L9
            dsimp only [Option.toList, List.cons_append, List.nil_append, List.append]
            refine j_if_le X (tgt := 165) dX9_tickOnce_133 (by decide) (fun h55 => ?_) (fun h55 => ?_)
            · replace hR := (if_pos h55).symm.trans hR
              refine j_aload_n X (i := 0) dX9_tickOnce_165 rfl rfl ?_
              refine j_iload_n X (i := 1) dX9_tickOnce_166 rfl rfl ?_
              obtain ⟨b57, h56, hR⟩ := bP_inv hR
              refine j_callV1 X 9 (m_X9_fall hl hL h56) ml_X9_90 im_yX9_fall se_yX9_fall in_X9 cd_yX9_fall hy_yX9_fall dX9_tickOnce_167 rfl (ad_mem hL (by decide)) (FW9 hL) ⟨(by decide), (by decide)⟩ ⟨(by decide), (by decide)⟩ (Nat.le_of_ble_eq_true rfl) (fun _ h => h.elim) (fun r9 L9 f9 h9 => ?_)
              obtain ⟨h91, h92, h93⟩ := h9
              subst r9
              subst f9
              subst L9
              dsimp only [Option.toList, List.cons_append, List.nil_append, List.append]
              exact q_vret X hQ dX9_tickOnce_170 rfl ⟨(by decide), (by decide)⟩ ⟨rfl, congrArg (fun z => FW G L a z c) (Option.some.inj hR), rfl⟩
            · replace hR := (if_neg h55).symm.trans hR
              refine j_aload_n X (i := 0) dX9_tickOnce_136 rfl rfl ?_
              refine j_iload_n X (i := 1) dX9_tickOnce_137 rfl rfl ?_
              refine j_iconst X (4) dX9_tickOnce_138 (by decide) ?_
              refine j_iconst X (-1) dX9_tickOnce_139 (by decide) ?_
              obtain ⟨b60, h59, hR⟩ := bP_inv hR
              refine j_callV3 X 9 (m_X9_add hl hL h59) ml_X9_84 im_yX9_add se_yX9_add in_X9 cd_yX9_add hy_yX9_add dX9_tickOnce_140 rfl (ad_mem hL (by decide)) (FW9 hL) ⟨(by decide), (by decide)⟩ ⟨(by decide), (by decide)⟩ (Nat.le_of_ble_eq_true rfl) (fun _ h => h.elim) (fun r9 L9 f9 h9 => ?_)
              obtain ⟨h91, h92, h93⟩ := h9
              subst r9
              subst f9
              subst L9
              dsimp only [Option.toList, List.cons_append, List.nil_append, List.append]
              refine j_aload_n X (i := 0) dX9_tickOnce_143 rfl rfl ?_
              refine j_iload_n X (i := 1) dX9_tickOnce_144 rfl rfl ?_
              refine j_iconst X (5) dX9_tickOnce_145 (by decide) ?_
              refine j_iconst X (1) dX9_tickOnce_146 (by decide) ?_
              obtain ⟨b63, h62, hR⟩ := bP_inv hR
              refine j_callV3 X 9 (m_X9_put hl hL h62) ml_X9_53 im_yX9_put se_yX9_put in_X9 cd_yX9_put hy_yX9_put dX9_tickOnce_147 rfl (ad_mem hL (by decide)) (FW9 hL) ⟨(by decide), (by decide)⟩ ⟨(by decide), (by decide)⟩ (Nat.le_of_ble_eq_true rfl) (fun _ h => h.elim) (fun r9 L9 f9 h9 => ?_)
              obtain ⟨h91, h92, h93⟩ := h9
              subst r9
              subst f9
              subst L9
              dsimp only [Option.toList, List.cons_append, List.nil_append, List.append]
              refine j_aload_n X (i := 0) dX9_tickOnce_150 rfl rfl ?_
              refine j_iload_n X (i := 1) dX9_tickOnce_151 rfl rfl ?_
              refine j_iconst X (0) dX9_tickOnce_152 (by decide) ?_
              refine j_aload_n X (i := 0) dX9_tickOnce_153 rfl rfl ?_
              refine j_getf X 9 3 rfl cw_X9 fl_X9_24 (by decide) dX9_tickOnce_154 (ad_mem hL (by decide)) (FW9 hL) rfl ?_
              refine j_iconst X (4) dX9_tickOnce_157 (by decide) ?_
              refine j_iald X dX9_tickOnce_158 (inLr hL) (FWrow hL) (by unfold vp_in; decide) ?_
              obtain ⟨b66, h65, hR⟩ := bP_inv hR
              refine j_callV3 X 9 (m_X9_put hl hL h65) ml_X9_53 im_yX9_put se_yX9_put in_X9 cd_yX9_put hy_yX9_put dX9_tickOnce_159 rfl (ad_mem hL (by decide)) (FW9 hL) ⟨(by decide), (by decide)⟩ ⟨(by decide), (by decide)⟩ (Nat.le_of_ble_eq_true rfl) (fun _ h => h.elim) (fun r9 L9 f9 h9 => ?_)
              obtain ⟨h91, h92, h93⟩ := h9
              subst r9
              subst f9
              subst L9
              dsimp only [Option.toList, List.cons_append, List.nil_append, List.append]
              refine j_goto X (tgt := 170) dX9_tickOnce_162 (by decide) ?_
              exact q_vret X hQ dX9_tickOnce_170 rfl ⟨(by decide), (by decide)⟩ ⟨rfl, congrArg (fun z => FW G L a z c) (Option.some.inj hR), rfl⟩
        · replace hR := (if_neg h44).symm.trans hR
          exact q_vret X hQ dX9_tickOnce_117 rfl ⟨(by decide), (by decide)⟩ ⟨rfl, congrArg (fun z => FW G L a z c) (Option.some.inj hR), rfl⟩
      · replace hR := (if_pos h28).symm.trans hR
        exact q_vret X hQ dX9_tickOnce_77 rfl ⟨(by decide), (by decide)⟩ ⟨rfl, congrArg (fun z => FW G L a z c) (Option.some.inj hR), rfl⟩
  · replace hR := (if_pos h4).symm.trans hR
    exact q_vret X hQ dX9_tickOnce_8 rfl ⟨(by decide), (by decide)⟩ ⟨rfl, congrArg (fun z => FW G L a z c) (Option.some.inj hR), rfl⟩
def f_X9_ticks_2 (N : Nat) (p0 : Int32) : Nat → Int32 → Mem → Option Mem
  | 0, _, _ => none
  | fu + 1, x1, b2 => if p0 ≤ x1 then (some b2) else (bP (f_X9_isState N (1 : Int32) b2) fun x5 => if x5 = 0 then (some b2) else (bP (f_X9_tickOnce N b2) fun b9 => bT (x1 + (1 : Int32)) fun x11 => f_X9_ticks_2 N p0 fu x11 b9))
theorem f_X9_ticks_2_s (N : Nat) (p0 : Int32) {fu : Nat} {x1 : Int32} {b2 : Mem} : f_X9_ticks_2 N p0 (fu + 1) x1 b2 = (if p0 ≤ x1 then (some b2) else (bP (f_X9_isState N (1 : Int32) b2) fun x5 => if x5 = 0 then (some b2) else (bP (f_X9_tickOnce N b2) fun b9 => bT (x1 + (1 : Int32)) fun x11 => f_X9_ticks_2 N p0 fu x11 b9))) := rfl
def f_X9_ticks (N : Nat) (p0 : Int32) (b : Mem) : Option Mem := f_X9_ticks_2 N p0 N (0 : Int32) b
set_option maxRecDepth 100000 in
set_option maxHeartbeats 4000000 in
theorem m_X9_ticks {l : Launch} (hl : l.stackTraces = false) {G : GG} {L : List Nat} (hL : LOK L) {a b c : Mem} {N : Nat} {p0 : Int32} {a' : Mem} (hR : f_X9_ticks N p0 b = some a') : Ct l G yX9_ticks (.code yX9_ticks cX9_ticks 3 none) 4 85 0 0 [.ref (ad L 96), .int p0] L (FW G L a b c) px0 (stay L (fun r f1 => f1 = (FW G L a a' c) ∧ r = none)) := by
  refine Ct.ofq (own := RX9) hl rfl (by decide) [some (.ref (ad L 96)), some (.int p0), none] rfl (Nat.le_of_ble_eq_true rfl) ?_
  intro p e s m below meth c9 A ar Q hQ X
  unfold f_X9_ticks at hR
  refine j_iconst X (0) dX9_ticks_0 (by decide) ?_
  refine j_istore_n X (i := 2) dX9_ticks_1 rfl (by decide) (lvOK_s rfl okPrev_int) ?_
  dsimp only [List.set]
  have hb2 : ∀ (fu : Nat) (x1 : Int32) (b2 : Mem) , f_X9_ticks_2 N p0 fu x1 b2 = some a' → J G p l e ({ frames := 4, cells := 0, slots := 0, locals := 85 } : Room) s m ar below meth c9 A Q 3 0 0 2 [some (.ref (ad L 96)), some (.int p0), some (.int x1)] [] L (FW G L a b2 c) := by
    intro fu
    induction fu with
    | zero =>
      intro x1 b2 hR
      cases hR
    | succ fu ih =>
      intro x1 b2 hR
      replace hR := (f_X9_ticks_2_s N p0).symm.trans hR
      refine j_iload_n X (i := 2) dX9_ticks_2 rfl rfl ?_
      refine j_iload_n X (i := 1) dX9_ticks_3 rfl rfl ?_
      refine j_icmp_ge X (tgt := 25) dX9_ticks_4 (by decide) (fun h3 => ?_) (fun h3 => ?_)
      · replace hR := (if_pos h3).symm.trans hR
        exact q_vret X hQ dX9_ticks_25 rfl ⟨(by decide), (by decide)⟩ ⟨rfl, congrArg (fun z => FW G L a z c) (Option.some.inj hR), rfl⟩
      · replace hR := (if_neg h3).symm.trans hR
        refine j_aload_n X (i := 0) dX9_ticks_7 rfl rfl ?_
        refine j_iconst X (1) dX9_ticks_8 (by decide) ?_
        obtain ⟨x5, h4, hR⟩ := bP_inv hR
        refine j_callV1 X 9 (m_X9_isState hl hL h4) ml_X9_76 im_yX9_isState se_yX9_isState in_X9 cd_yX9_isState hy_yX9_isState dX9_ticks_9 rfl (ad_mem hL (by decide)) (FW9 hL) ⟨(by decide), (by decide)⟩ ⟨(by decide), (by decide)⟩ (Nat.le_of_ble_eq_true rfl) (fun _ h => h.elim) (fun r9 L9 f9 h9 => ?_)
        obtain ⟨h91, h92, h93, h6⟩ := h9
        subst r9
        subst f9
        subst L9
        dsimp only [Option.toList, List.cons_append, List.nil_append, List.append]
        refine j_if_eq X (tgt := 25) dX9_ticks_12 (by decide) (fun h7 => ?_) (fun h7 => ?_)
        · replace hR := (if_pos h7).symm.trans hR
          exact q_vret X hQ dX9_ticks_25 rfl ⟨(by decide), (by decide)⟩ ⟨rfl, congrArg (fun z => FW G L a z c) (Option.some.inj hR), rfl⟩
        · replace hR := (if_neg h7).symm.trans hR
          refine j_aload_n X (i := 0) dX9_ticks_15 rfl rfl ?_
          obtain ⟨b9, h8, hR⟩ := bP_inv hR
          refine j_callV0 X 9 (m_X9_tickOnce hl hL h8) ml_X9_93 im_yX9_tickOnce se_yX9_tickOnce in_X9 cd_yX9_tickOnce hy_yX9_tickOnce dX9_ticks_16 rfl (ad_mem hL (by decide)) (FW9 hL) ⟨(by decide), (by decide)⟩ ⟨(by decide), (by decide)⟩ (Nat.le_of_ble_eq_true rfl) (fun _ h => h.elim) (fun r9 L9 f9 h9 => ?_)
          obtain ⟨h91, h92, h93⟩ := h9
          subst r9
          subst f9
          subst L9
          dsimp only [Option.toList, List.cons_append, List.nil_append, List.append]
          obtain ⟨x11, h12, hR⟩ := bT_inv hR
          refine j_iinc X x11 dX9_ticks_19 rfl h12 (by decide) (lvOK_s rfl okPrev_int) ?_
          dsimp only [List.set]
          refine j_goto X (tgt := 2) dX9_ticks_22 (by decide) ?_
          exact J.sub (lvle_of (by simp only [lvle, and_self])) (ih _ _  hR)
  exact J.sub (lvle_of (by simp only [lvle, and_self])) (hb2 _ _ _  hR)
def f_X9_layBack_2 (N : Nat) (p0 : Int32) : Nat → Int32 → Mem → Option (Int32 × Mem)
  | 0, _, _ => none
  | fu + 1, x1, b2 => if (311 : Int32) ≤ x1 then (some (p0, b2)) else (chkI x1 311 <| chkI x1 311 <| bT (upR b2 1 (upd (b2 1) (x1).toNatClampNeg (b2 3 (x1).toNatClampNeg))) fun b6 => bT (x1 + (1 : Int32)) fun x8 => f_X9_layBack_2 N p0 fu x8 b6)
theorem f_X9_layBack_2_s (N : Nat) (p0 : Int32) {fu : Nat} {x1 : Int32} {b2 : Mem} : f_X9_layBack_2 N p0 (fu + 1) x1 b2 = (if (311 : Int32) ≤ x1 then (some (p0, b2)) else (chkI x1 311 <| chkI x1 311 <| bT (upR b2 1 (upd (b2 1) (x1).toNatClampNeg (b2 3 (x1).toNatClampNeg))) fun b6 => bT (x1 + (1 : Int32)) fun x8 => f_X9_layBack_2 N p0 fu x8 b6)) := rfl
def f_X9_layBack (N : Nat) (p0 : Int32) (b : Mem) : Option (Int32 × Mem) := f_X9_layBack_2 N p0 N (0 : Int32) b
set_option maxRecDepth 100000 in
set_option maxHeartbeats 4000000 in
theorem m_X9_layBack {l : Launch} (hl : l.stackTraces = false) {G : GG} {L : List Nat} (hL : LOK L) {a b c : Mem} {N : Nat} {p0 : Int32} {v : Int32} {a' : Mem} (hR : f_X9_layBack N p0 b = some (v, a')) : Ct l G yX9_layBack (.code yX9_layBack cX9_layBack 3 (some .int)) 0 0 0 0 [.ref (ad L 96), .int p0] L (FW G L a b c) px0 (stay L (fun r f1 => f1 = (FW G L a a' c) ∧ r = some (.int v))) := by
  refine Ct.ofq (own := RX9) hl rfl (by decide) [some (.ref (ad L 96)), some (.int p0), none] rfl (Nat.le_of_ble_eq_true rfl) ?_
  intro p e s m below meth c9 A ar Q hQ X
  unfold f_X9_layBack at hR
  refine j_iconst X (0) dX9_layBack_0 (by decide) ?_
  refine j_istore_n X (i := 2) dX9_layBack_1 rfl (by decide) (lvOK_s rfl okPrev_int) ?_
  dsimp only [List.set]
  have hb2 : ∀ (fu : Nat) (x1 : Int32) (b2 : Mem) , f_X9_layBack_2 N p0 fu x1 b2 = some (v, a') → J G p l e ({ frames := 0, cells := 0, slots := 0, locals := 0 } : Room) s m ar below meth c9 A Q 3 0 0 2 [some (.ref (ad L 96)), some (.int p0), some (.int x1)] [] L (FW G L a b2 c) := by
    intro fu
    induction fu with
    | zero =>
      intro x1 b2 hR
      cases hR
    | succ fu ih =>
      intro x1 b2 hR
      replace hR := (f_X9_layBack_2_s N p0).symm.trans hR
      refine j_iload_n X (i := 2) dX9_layBack_2 rfl rfl ?_
      refine j_sipush X (311) dX9_layBack_3 (by decide) ?_
      refine j_icmp_ge X (tgt := 27) dX9_layBack_6 (by decide) (fun h3 => ?_) (fun h3 => ?_)
      · replace hR := (if_pos h3).symm.trans hR
        refine j_iload_n X (i := 1) dX9_layBack_27 rfl rfl ?_
        exact q_iret X hQ dX9_layBack_28 rfl ⟨(by decide), (by decide)⟩ ⟨rfl, congrArg (fun z => FW G L a z c) (Prod.mk.inj (Option.some.inj hR)).2, congrArg (fun z => some (Value.int z)) (Prod.mk.inj (Option.some.inj hR)).1⟩
      · replace hR := (if_neg h3).symm.trans hR
        refine j_aload_n X (i := 0) dX9_layBack_9 rfl rfl ?_
        refine j_getf X 9 1 rfl cw_X9 fl_X9_17 (by decide) dX9_layBack_10 (ad_mem hL (by decide)) (FW9 hL) rfl ?_
        refine j_iload_n X (i := 2) dX9_layBack_13 rfl rfl ?_
        refine j_aload_n X (i := 0) dX9_layBack_14 rfl rfl ?_
        refine j_getf X 9 4 rfl cw_X9 fl_X9_27 (by decide) dX9_layBack_15 (ad_mem hL (by decide)) (FW9 hL) rfl ?_
        refine j_iload_n X (i := 2) dX9_layBack_18 rfl rfl ?_
        obtain ⟨h4, hR⟩ := chkI_inv hR
        refine j_iald X dX9_layBack_19 (ad_mem hL (by decide)) (FWr99 hL) h4 ?_
        obtain ⟨h5, hR⟩ := chkI_inv hR
        obtain ⟨b6, h7, hR⟩ := bT_inv hR
        refine t_Iast_97 X hL h5 h7 dX9_layBack_20 ?_
        obtain ⟨x8, h9, hR⟩ := bT_inv hR
        refine j_iinc X x8 dX9_layBack_21 rfl h9 (by decide) (lvOK_s rfl okPrev_int) ?_
        dsimp only [List.set]
        refine j_goto X (tgt := 2) dX9_layBack_24 (by decide) ?_
        exact J.sub (lvle_of (by simp only [lvle, and_self])) (ih _ _  hR)
  exact J.sub (lvle_of (by simp only [lvle, and_self])) (hb2 _ _ _  hR)
def f_X9_leftIn (N : Nat) (p0 : Int32) (p1 : Int32) (b : Mem) : Option (Int32 × Mem) := bT (f_X9_isSide p0 b) fun x2 => bT (f_X9_in (Int32.toInt64 p1) (0 : Int64) (9999 : Int64) b) fun x5 => bT2 (f_X9_passes2 x2 x5 b) fun x8 b9 => if x8 = 0 then (some ((0 : Int32), b9)) else (bP (f_X9_keepAside N b9) fun b13 => bP (f_X9_ticks N p1 b13) fun b16 => bP (f_X9_of N p0 (0 : Int32) b16) fun x19 => bP2 (f_X9_layBack N x19 b16) fun x22 b23 => some (x22, b23))
set_option maxRecDepth 100000 in
set_option maxHeartbeats 4000000 in
theorem m_X9_leftIn {l : Launch} (hl : l.stackTraces = false) {G : GG} {L : List Nat} (hL : LOK L) {a b c : Mem} {N : Nat} {p0 : Int32} {p1 : Int32} {v : Int32} {a' : Mem} (hR : f_X9_leftIn N p0 p1 b = some (v, a')) : Ct l G yX9_leftIn (.code yX9_leftIn cX9_leftIn 3 (some .int)) 5 107 0 0 [.ref (ad L 96), .int p0, .int p1] L (FW G L a b c) px0 (stay L (fun r f1 => f1 = (FW G L a a' c) ∧ r = some (.int v))) := by
  refine Ct.ofq (own := RX9) hl rfl (by decide) [some (.ref (ad L 96)), some (.int p0), some (.int p1)] rfl (Nat.le_of_ble_eq_true rfl) ?_
  intro p e s m below meth c9 A ar Q hQ X
  unfold f_X9_leftIn at hR
  refine j_aload_n X (i := 0) dX9_leftIn_0 rfl rfl ?_
  refine j_iload_n X (i := 1) dX9_leftIn_1 rfl rfl ?_
  obtain ⟨x2, h1, hR⟩ := bT_inv hR
  refine j_callS1 X (m_X9_isSide hl hL h1) ml_X9_318 st_yX9_isSide in_X9 cd_yX9_isSide hy_yX9_isSide dX9_leftIn_2 ⟨(by decide), (by decide)⟩ ⟨(by decide), (by decide)⟩ (Nat.le_of_ble_eq_true rfl) (fun _ h => h.elim) (fun r9 L9 f9 h9 => ?_)
  obtain ⟨h91, h92, h93, h3⟩ := h9
  subst r9
  subst f9
  subst L9
  dsimp only [Option.toList, List.cons_append, List.nil_append, List.append]
  refine j_iload_n X (i := 2) dX9_leftIn_5 rfl rfl ?_
  refine j_i2l X dX9_leftIn_6 ?_
  refine j_lconst X (0) dX9_leftIn_7 (by decide) ?_
  refine j_ldc2 X dX9_leftIn_8 cj_X9_349 ?_
  obtain ⟨x5, h4, hR⟩ := bT_inv hR
  refine j_callS3 X (m_X9_in hl hL h4) ml_X9_64 st_yX9_in in_X9 cd_yX9_in hy_yX9_in dX9_leftIn_11 ⟨(by decide), (by decide)⟩ ⟨(by decide), (by decide)⟩ (Nat.le_of_ble_eq_true rfl) (fun _ h => h.elim) (fun r9 L9 f9 h9 => ?_)
  obtain ⟨h91, h92, h93, h6⟩ := h9
  subst r9
  subst f9
  subst L9
  dsimp only [Option.toList, List.cons_append, List.nil_append, List.append]
  obtain ⟨x8, b9, h7, hR⟩ := bT2_inv hR
  refine j_callV2 X 9 (m_X9_passes2 hl hL h3 h6 h7) ml_X9_314 im_yX9_passes2 se_yX9_passes2 in_X9 cd_yX9_passes2 hy_yX9_passes2 dX9_leftIn_14 rfl (ad_mem hL (by decide)) (FW9 hL) ⟨(by decide), (by decide)⟩ ⟨(by decide), (by decide)⟩ (Nat.le_of_ble_eq_true rfl) (fun _ h => h.elim) (fun r9 L9 f9 h9 => ?_)
  obtain ⟨h91, h92, h93, h10⟩ := h9
  subst r9
  subst f9
  subst L9
  dsimp only [Option.toList, List.cons_append, List.nil_append, List.append]
  refine j_if_ne X (tgt := 22) dX9_leftIn_17 (by decide) (fun h11 => ?_) (fun h11 => ?_)
  · replace hR := (if_neg h11).symm.trans hR
    refine j_aload_n X (i := 0) dX9_leftIn_22 rfl rfl ?_
    obtain ⟨b13, h12, hR⟩ := bP_inv hR
    refine j_callV0 X 9 (m_X9_keepAside hl hL h12) ml_X9_354 im_yX9_keepAside se_yX9_keepAside in_X9 cd_yX9_keepAside hy_yX9_keepAside dX9_leftIn_23 rfl (ad_mem hL (by decide)) (FW9 hL) ⟨(by decide), (by decide)⟩ ⟨(by decide), (by decide)⟩ (Nat.le_of_ble_eq_true rfl) (fun _ h => h.elim) (fun r9 L9 f9 h9 => ?_)
    obtain ⟨h91, h92, h93⟩ := h9
    subst r9
    subst f9
    subst L9
    dsimp only [Option.toList, List.cons_append, List.nil_append, List.append]
    refine j_aload_n X (i := 0) dX9_leftIn_26 rfl rfl ?_
    refine j_iload_n X (i := 2) dX9_leftIn_27 rfl rfl ?_
    obtain ⟨b16, h15, hR⟩ := bP_inv hR
    refine j_callV1 X 9 (m_X9_ticks hl hL h15) ml_X9_150 im_yX9_ticks se_yX9_ticks in_X9 cd_yX9_ticks hy_yX9_ticks dX9_leftIn_28 rfl (ad_mem hL (by decide)) (FW9 hL) ⟨(by decide), (by decide)⟩ ⟨(by decide), (by decide)⟩ (Nat.le_of_ble_eq_true rfl) (fun _ h => h.elim) (fun r9 L9 f9 h9 => ?_)
    obtain ⟨h91, h92, h93⟩ := h9
    subst r9
    subst f9
    subst L9
    dsimp only [Option.toList, List.cons_append, List.nil_append, List.append]
    refine j_aload_n X (i := 0) dX9_leftIn_31 rfl rfl ?_
    refine j_aload_n X (i := 0) dX9_leftIn_32 rfl rfl ?_
    refine j_iload_n X (i := 1) dX9_leftIn_33 rfl rfl ?_
    refine j_iconst X (0) dX9_leftIn_34 (by decide) ?_
    obtain ⟨x19, h18, hR⟩ := bP_inv hR
    refine j_callV2 X 9 (m_X9_of hl hL h18) ml_X9_57 im_yX9_of se_yX9_of in_X9 cd_yX9_of hy_yX9_of dX9_leftIn_35 rfl (ad_mem hL (by decide)) (FW9 hL) ⟨(by decide), (by decide)⟩ ⟨(by decide), (by decide)⟩ (Nat.le_of_ble_eq_true rfl) (fun _ h => h.elim) (fun r9 L9 f9 h9 => ?_)
    obtain ⟨h91, h92, h93⟩ := h9
    subst r9
    subst f9
    subst L9
    dsimp only [Option.toList, List.cons_append, List.nil_append, List.append]
    obtain ⟨x22, b23, h21, hR⟩ := bP2_inv hR
    refine j_callV1 X 9 (m_X9_layBack hl hL h21) ml_X9_357 im_yX9_layBack se_yX9_layBack in_X9 cd_yX9_layBack hy_yX9_layBack dX9_leftIn_38 rfl (ad_mem hL (by decide)) (FW9 hL) ⟨(by decide), (by decide)⟩ ⟨(by decide), (by decide)⟩ (Nat.le_of_ble_eq_true rfl) (fun _ h => h.elim) (fun r9 L9 f9 h9 => ?_)
    obtain ⟨h91, h92, h93⟩ := h9
    subst r9
    subst f9
    subst L9
    dsimp only [Option.toList, List.cons_append, List.nil_append, List.append]
    exact q_iret X hQ dX9_leftIn_41 rfl ⟨(by decide), (by decide)⟩ ⟨rfl, congrArg (fun z => FW G L a z c) (Prod.mk.inj (Option.some.inj hR)).2, congrArg (fun z => some (Value.int z)) (Prod.mk.inj (Option.some.inj hR)).1⟩
  · replace hR := (if_pos h11).symm.trans hR
    refine j_iconst X (0) dX9_leftIn_20 (by decide) ?_
    exact q_iret X hQ dX9_leftIn_21 rfl ⟨(by decide), (by decide)⟩ ⟨rfl, congrArg (fun z => FW G L a z c) (Prod.mk.inj (Option.some.inj hR)).2, congrArg (fun z => some (Value.int z)) (Prod.mk.inj (Option.some.inj hR)).1⟩
def f_X9_overIn_39 (N : Nat) (b1 : Mem) (x6 : Int32) : Option (Int32 × Mem) := if x6 = 0 then (some ((-1 : Int32), b1)) else (bP (f_X9_mover N b1) fun x9 => bP (f_X9_runsFor N x9 b1) fun x12 => some (x12, b1))
def f_X9_overIn_38 (N : Nat) (b1 : Mem)  : Option (Int32 × Mem) := f_X9_overIn_39 N b1 (0 : Int32)
def f_X9_overIn (N : Nat) (b : Mem) : Option (Int32 × Mem) := bT (up2 b 0 0 (0 : Int32)) fun b1 => bP (f_X9_isState N (1 : Int32) b1) fun x4 => if x4 = 0 then (f_X9_overIn_38 N b1 ) else (if (b1 1 ((10 : Int32)).toNatClampNeg) = 0 then (bP (f_X9_mover N b1) fun x17 => bP (f_X9_fell N x17 b1) fun x20 => if x20 = 0 then (f_X9_overIn_39 N b1 (1 : Int32)) else (f_X9_overIn_38 N b1 )) else (f_X9_overIn_38 N b1 ))
set_option maxRecDepth 100000 in
set_option maxHeartbeats 4000000 in
theorem m_X9_overIn {l : Launch} (hl : l.stackTraces = false) {G : GG} {L : List Nat} (hL : LOK L) {a b c : Mem} {N : Nat}  {v : Int32} {a' : Mem} (hR : f_X9_overIn N b = some (v, a')) : Ct l G yX9_overIn (.code yX9_overIn cX9_overIn 2 (some .int)) 4 87 0 0 [.ref (ad L 96)] L (FW G L a b c) px0 (stay L (fun r f1 => f1 = (FW G L a a' c) ∧ r = some (.int v))) := by
  refine Ct.ofq (own := RX9) hl rfl (by decide) [some (.ref (ad L 96)), none] rfl (Nat.le_of_ble_eq_true rfl) ?_
  intro p e s m below meth c9 A ar Q hQ X
  unfold f_X9_overIn at hR
  refine j_aload_n X (i := 0) dX9_overIn_0 rfl rfl ?_
  refine j_iconst X (0) dX9_overIn_1 (by decide) ?_
  obtain ⟨b1, h2, hR⟩ := bT_inv hR
  refine tp_X9_0 X hL h2 fl_X9_3 dX9_overIn_2 ?_
  refine j_aload_n X (i := 0) dX9_overIn_5 rfl rfl ?_
  refine j_iconst X (1) dX9_overIn_6 (by decide) ?_
  obtain ⟨x4, h3, hR⟩ := bP_inv hR
  refine j_callV1 X 9 (m_X9_isState hl hL h3) ml_X9_76 im_yX9_isState se_yX9_isState in_X9 cd_yX9_isState hy_yX9_isState dX9_overIn_7 rfl (ad_mem hL (by decide)) (FW9 hL) ⟨(by decide), (by decide)⟩ ⟨(by decide), (by decide)⟩ (Nat.le_of_ble_eq_true rfl) (fun _ h => h.elim) (fun r9 L9 f9 h9 => ?_)
  obtain ⟨h91, h92, h93, h5⟩ := h9
  subst r9
  subst f9
  subst L9
  dsimp only [Option.toList, List.cons_append, List.nil_append, List.append]
  have hb39 : ∀ (x6 : Int32) (hBx6 : isB x6), f_X9_overIn_39 N b1 x6 = some (v, a') → J G p l e ({ frames := 4, cells := 0, slots := 0, locals := 87 } : Room) s m ar below meth c9 A Q 2 0 0 39 [some (.ref (ad L 96)), none] [.int x6] L (FW G L a b1 c) := by
    intro x6 hBx6 hR
    unfold f_X9_overIn_39 at hR
    refine j_istore_n X (i := 1) dX9_overIn_39 rfl (by decide) (lvOK_s rfl okPrev_ref) ?_
    dsimp only [List.set]
    refine j_iload_n X (i := 1) dX9_overIn_40 rfl rfl ?_
    refine j_if_eq X (tgt := 55) dX9_overIn_41 (by decide) (fun h7 => ?_) (fun h7 => ?_)
    · replace hR := (if_pos h7).symm.trans hR
      refine j_iconst X (-1) dX9_overIn_55 (by decide) ?_
      exact q_iret X hQ dX9_overIn_56 rfl ⟨(by decide), (by decide)⟩ ⟨rfl, congrArg (fun z => FW G L a z c) (Prod.mk.inj (Option.some.inj hR)).2, congrArg (fun z => some (Value.int z)) (Prod.mk.inj (Option.some.inj hR)).1⟩
    · replace hR := (if_neg h7).symm.trans hR
      refine j_aload_n X (i := 0) dX9_overIn_44 rfl rfl ?_
      refine j_aload_n X (i := 0) dX9_overIn_45 rfl rfl ?_
      obtain ⟨x9, h8, hR⟩ := bP_inv hR
      refine j_callV0 X 9 (m_X9_mover hl hL h8) ml_X9_80 im_yX9_mover se_yX9_mover in_X9 cd_yX9_mover hy_yX9_mover dX9_overIn_46 rfl (ad_mem hL (by decide)) (FW9 hL) ⟨(by decide), (by decide)⟩ ⟨(by decide), (by decide)⟩ (Nat.le_of_ble_eq_true rfl) (fun _ h => h.elim) (fun r9 L9 f9 h9 => ?_)
      obtain ⟨h91, h92, h93⟩ := h9
      subst r9
      subst f9
      subst L9
      dsimp only [Option.toList, List.cons_append, List.nil_append, List.append]
      obtain ⟨x12, h11, hR⟩ := bP_inv hR
      refine j_callV1 X 9 (m_X9_runsFor hl hL h11) ml_X9_332 im_yX9_runsFor se_yX9_runsFor in_X9 cd_yX9_runsFor hy_yX9_runsFor dX9_overIn_49 rfl (ad_mem hL (by decide)) (FW9 hL) ⟨(by decide), (by decide)⟩ ⟨(by decide), (by decide)⟩ (Nat.le_of_ble_eq_true rfl) (fun _ h => h.elim) (fun r9 L9 f9 h9 => ?_)
      obtain ⟨h91, h92, h93⟩ := h9
      subst r9
      subst f9
      subst L9
      dsimp only [Option.toList, List.cons_append, List.nil_append, List.append]
      refine j_goto X (tgt := 56) dX9_overIn_52 (by decide) ?_
      exact q_iret X hQ dX9_overIn_56 rfl ⟨(by decide), (by decide)⟩ ⟨rfl, congrArg (fun z => FW G L a z c) (Prod.mk.inj (Option.some.inj hR)).2, congrArg (fun z => some (Value.int z)) (Prod.mk.inj (Option.some.inj hR)).1⟩
  have hb38 : f_X9_overIn_38 N b1 = some (v, a') → J G p l e ({ frames := 4, cells := 0, slots := 0, locals := 87 } : Room) s m ar below meth c9 A Q 2 0 0 38 [some (.ref (ad L 96)), none] [] L (FW G L a b1 c) := by
    intro hR
    unfold f_X9_overIn_38 at hR
    refine j_iconst X (0) dX9_overIn_38 (by decide) ?_
    exact J.sub (lvle_of (by simp only [lvle, and_self])) (hb39 _ isB_0 hR)
  refine j_if_eq X (tgt := 38) dX9_overIn_10 (by decide) (fun h14 => ?_) (fun h14 => ?_)
  · replace hR := (if_pos h14).symm.trans hR
    exact J.sub (lvle_of (by simp only [lvle, and_self])) (hb38 hR)
  · replace hR := (if_neg h14).symm.trans hR
    refine j_aload_n X (i := 0) dX9_overIn_13 rfl rfl ?_
    refine j_getf X 9 1 rfl cw_X9 fl_X9_17 (by decide) dX9_overIn_14 (ad_mem hL (by decide)) (FW9 hL) rfl ?_
    refine j_bipush X (10) dX9_overIn_17 (by decide) ?_
    refine j_iald X dX9_overIn_19 (ad_mem hL (by decide)) (FWr97 hL) (by unfold vp_in; decide) ?_
    refine j_if_ne X (tgt := 38) dX9_overIn_20 (by decide) (fun h15 => ?_) (fun h15 => ?_)
    · replace hR := (if_neg h15).symm.trans hR
      exact J.sub (lvle_of (by simp only [lvle, and_self])) (hb38 hR)
    · replace hR := (if_pos h15).symm.trans hR
      refine j_aload_n X (i := 0) dX9_overIn_23 rfl rfl ?_
      refine j_aload_n X (i := 0) dX9_overIn_24 rfl rfl ?_
      obtain ⟨x17, h16, hR⟩ := bP_inv hR
      refine j_callV0 X 9 (m_X9_mover hl hL h16) ml_X9_80 im_yX9_mover se_yX9_mover in_X9 cd_yX9_mover hy_yX9_mover dX9_overIn_25 rfl (ad_mem hL (by decide)) (FW9 hL) ⟨(by decide), (by decide)⟩ ⟨(by decide), (by decide)⟩ (Nat.le_of_ble_eq_true rfl) (fun _ h => h.elim) (fun r9 L9 f9 h9 => ?_)
      obtain ⟨h91, h92, h93⟩ := h9
      subst r9
      subst f9
      subst L9
      dsimp only [Option.toList, List.cons_append, List.nil_append, List.append]
      obtain ⟨x20, h19, hR⟩ := bP_inv hR
      refine j_callV1 X 9 (m_X9_fell hl hL h19) ml_X9_96 im_yX9_fell se_yX9_fell in_X9 cd_yX9_fell hy_yX9_fell dX9_overIn_28 rfl (ad_mem hL (by decide)) (FW9 hL) ⟨(by decide), (by decide)⟩ ⟨(by decide), (by decide)⟩ (Nat.le_of_ble_eq_true rfl) (fun _ h => h.elim) (fun r9 L9 f9 h9 => ?_)
      obtain ⟨h91, h92, h93, h21⟩ := h9
      subst r9
      subst f9
      subst L9
      dsimp only [Option.toList, List.cons_append, List.nil_append, List.append]
      refine j_if_ne X (tgt := 38) dX9_overIn_31 (by decide) (fun h22 => ?_) (fun h22 => ?_)
      · replace hR := (if_neg h22).symm.trans hR
        exact J.sub (lvle_of (by simp only [lvle, and_self])) (hb38 hR)
      · replace hR := (if_pos h22).symm.trans hR
        refine j_iconst X (1) dX9_overIn_34 (by decide) ?_
        refine j_goto X (tgt := 39) dX9_overIn_35 (by decide) ?_
        exact J.sub (lvle_of (by simp only [lvle, and_self])) (hb39 _ isB_1 hR)
def f_X9_sealable (N : Nat) (b : Mem) : Option Int32 := bP (f_X9_isState N (1 : Int32) b) fun x2 => if x2 = 0 then (some (0 : Int32)) else (if (b (rowM (b 0 3)) ((5 : Int32)).toNatClampNeg) = (-1 : Int32) then (some (0 : Int32)) else (if (b (rowM (b 0 3)) ((6 : Int32)).toNatClampNeg) < (b (rowM (b 0 3)) ((5 : Int32)).toNatClampNeg) then (some (0 : Int32)) else (some (1 : Int32))))
set_option maxRecDepth 100000 in
set_option maxHeartbeats 4000000 in
theorem m_X9_sealable {l : Launch} (hl : l.stackTraces = false) {G : GG} {L : List Nat} (hL : LOK L) {a b c : Mem} {N : Nat}  {v : Int32} (hR : f_X9_sealable N b = some v) : Ct l G yX9_sealable (.code yX9_sealable cX9_sealable 1 (some .boolean)) 1 21 0 0 [.ref (ad L 96)] L (FW G L a b c) px0 (stay L (fun r f1 => f1 = (FW G L a b c) ∧ r = some (.int v) ∧ isB v)) := by
  refine Ct.ofq (own := RX9) hl rfl (by decide) [some (.ref (ad L 96))] rfl (Nat.le_of_ble_eq_true rfl) ?_
  intro p e s m below meth c9 A ar Q hQ X
  unfold f_X9_sealable at hR
  refine j_aload_n X (i := 0) dX9_sealable_0 rfl rfl ?_
  refine j_iconst X (1) dX9_sealable_1 (by decide) ?_
  obtain ⟨x2, h1, hR⟩ := bP_inv hR
  refine j_callV1 X 9 (m_X9_isState hl hL h1) ml_X9_76 im_yX9_isState se_yX9_isState in_X9 cd_yX9_isState hy_yX9_isState dX9_sealable_2 rfl (ad_mem hL (by decide)) (FW9 hL) ⟨(by decide), (by decide)⟩ ⟨(by decide), (by decide)⟩ (Nat.le_of_ble_eq_true rfl) (fun _ h => h.elim) (fun r9 L9 f9 h9 => ?_)
  obtain ⟨h91, h92, h93, h3⟩ := h9
  subst r9
  subst f9
  subst L9
  dsimp only [Option.toList, List.cons_append, List.nil_append, List.append]
  refine j_if_eq X (tgt := 38) dX9_sealable_5 (by decide) (fun h4 => ?_) (fun h4 => ?_)
  · replace hR := (if_pos h4).symm.trans hR
    refine j_iconst X (0) dX9_sealable_38 (by decide) ?_
    exact q_zret X hQ dX9_sealable_39 rfl (nar_B isB_0) ⟨(by decide), (by decide)⟩ ⟨rfl, rfl, congrArg (fun z => some (Value.int z)) (Option.some.inj hR), (Option.some.inj hR) ▸ isB_0⟩
  · replace hR := (if_neg h4).symm.trans hR
    refine j_aload_n X (i := 0) dX9_sealable_8 rfl rfl ?_
    refine j_getf X 9 3 rfl cw_X9 fl_X9_24 (by decide) dX9_sealable_9 (ad_mem hL (by decide)) (FW9 hL) rfl ?_
    refine j_iconst X (5) dX9_sealable_12 (by decide) ?_
    refine j_iald X dX9_sealable_13 (inLr hL) (FWrow hL) (by unfold vp_in; decide) ?_
    refine j_iconst X (-1) dX9_sealable_14 (by decide) ?_
    refine j_icmp_eq X (tgt := 38) dX9_sealable_15 (by decide) (fun h5 => ?_) (fun h5 => ?_)
    · replace hR := (if_pos h5).symm.trans hR
      refine j_iconst X (0) dX9_sealable_38 (by decide) ?_
      exact q_zret X hQ dX9_sealable_39 rfl (nar_B isB_0) ⟨(by decide), (by decide)⟩ ⟨rfl, rfl, congrArg (fun z => some (Value.int z)) (Option.some.inj hR), (Option.some.inj hR) ▸ isB_0⟩
    · replace hR := (if_neg h5).symm.trans hR
      refine j_aload_n X (i := 0) dX9_sealable_18 rfl rfl ?_
      refine j_getf X 9 3 rfl cw_X9 fl_X9_24 (by decide) dX9_sealable_19 (ad_mem hL (by decide)) (FW9 hL) rfl ?_
      refine j_bipush X (6) dX9_sealable_22 (by decide) ?_
      refine j_iald X dX9_sealable_24 (inLr hL) (FWrow hL) (by unfold vp_in; decide) ?_
      refine j_aload_n X (i := 0) dX9_sealable_25 rfl rfl ?_
      refine j_getf X 9 3 rfl cw_X9 fl_X9_24 (by decide) dX9_sealable_26 (ad_mem hL (by decide)) (FW9 hL) rfl ?_
      refine j_iconst X (5) dX9_sealable_29 (by decide) ?_
      refine j_iald X dX9_sealable_30 (inLr hL) (FWrow hL) (by unfold vp_in; decide) ?_
      refine j_icmp_lt X (tgt := 38) dX9_sealable_31 (by decide) (fun h6 => ?_) (fun h6 => ?_)
      · replace hR := (if_pos h6).symm.trans hR
        refine j_iconst X (0) dX9_sealable_38 (by decide) ?_
        exact q_zret X hQ dX9_sealable_39 rfl (nar_B isB_0) ⟨(by decide), (by decide)⟩ ⟨rfl, rfl, congrArg (fun z => some (Value.int z)) (Option.some.inj hR), (Option.some.inj hR) ▸ isB_0⟩
      · replace hR := (if_neg h6).symm.trans hR
        refine j_iconst X (1) dX9_sealable_34 (by decide) ?_
        refine j_goto X (tgt := 39) dX9_sealable_35 (by decide) ?_
        exact q_zret X hQ dX9_sealable_39 rfl (nar_B isB_1) ⟨(by decide), (by decide)⟩ ⟨rfl, rfl, congrArg (fun z => some (Value.int z)) (Option.some.inj hR), (Option.some.inj hR) ▸ isB_1⟩
def f_X9_canSeal (N : Nat) (b : Mem) : Option (Int32 × Mem) := bT (up2 b 0 0 (0 : Int32)) fun b1 => bP (f_X9_sealable N b1) fun x4 => some (x4, b1)
set_option maxRecDepth 100000 in
set_option maxHeartbeats 4000000 in
theorem m_X9_canSeal {l : Launch} (hl : l.stackTraces = false) {G : GG} {L : List Nat} (hL : LOK L) {a b c : Mem} {N : Nat}  {v : Int32} {a' : Mem} (hR : f_X9_canSeal N b = some (v, a')) : Ct l G yX9_canSeal (.code yX9_canSeal cX9_canSeal 1 (some .boolean)) 2 41 0 0 [.ref (ad L 96)] L (FW G L a b c) px0 (stay L (fun r f1 => f1 = (FW G L a a' c) ∧ r = some (.int v) ∧ isB v)) := by
  refine Ct.ofq (own := RX9) hl rfl (by decide) [some (.ref (ad L 96))] rfl (Nat.le_of_ble_eq_true rfl) ?_
  intro p e s m below meth c9 A ar Q hQ X
  unfold f_X9_canSeal at hR
  refine j_aload_n X (i := 0) dX9_canSeal_0 rfl rfl ?_
  refine j_iconst X (0) dX9_canSeal_1 (by decide) ?_
  obtain ⟨b1, h2, hR⟩ := bT_inv hR
  refine tp_X9_0 X hL h2 fl_X9_3 dX9_canSeal_2 ?_
  refine j_aload_n X (i := 0) dX9_canSeal_5 rfl rfl ?_
  obtain ⟨x4, h3, hR⟩ := bP_inv hR
  refine j_callV0 X 9 (m_X9_sealable hl hL h3) ml_X9_360 im_yX9_sealable se_yX9_sealable in_X9 cd_yX9_sealable hy_yX9_sealable dX9_canSeal_6 rfl (ad_mem hL (by decide)) (FW9 hL) ⟨(by decide), (by decide)⟩ ⟨(by decide), (by decide)⟩ (Nat.le_of_ble_eq_true rfl) (fun _ h => h.elim) (fun r9 L9 f9 h9 => ?_)
  obtain ⟨h91, h92, h93, h5⟩ := h9
  subst r9
  subst f9
  subst L9
  dsimp only [Option.toList, List.cons_append, List.nil_append, List.append]
  exact q_zret X hQ dX9_canSeal_9 rfl (nar_B h5) ⟨(by decide), (by decide)⟩ ⟨rfl, congrArg (fun z => FW G L a z c) (Prod.mk.inj (Option.some.inj hR)).2, congrArg (fun z => some (Value.int z)) (Prod.mk.inj (Option.some.inj hR)).1, (Prod.mk.inj (Option.some.inj hR)).1 ▸ h5⟩
def f_X9_sealIn (N : Nat) (b : Mem) : Option (Int32 × Mem) := bT (up2 b 0 0 (0 : Int32)) fun b1 => bP (f_X9_isState N (1 : Int32) b1) fun x4 => if x4 = 0 then (some ((-1 : Int32), b1)) else (if (b1 1 ((5 : Int32)).toNatClampNeg) = (-1 : Int32) then (some ((-1 : Int32), b1)) else (some ((mxI (0 : Int32) ((b1 1 ((5 : Int32)).toNatClampNeg) - (b1 1 ((6 : Int32)).toNatClampNeg))), b1)))
set_option maxRecDepth 100000 in
set_option maxHeartbeats 4000000 in
theorem m_X9_sealIn {l : Launch} (hl : l.stackTraces = false) {G : GG} {L : List Nat} (hL : LOK L) {a b c : Mem} {N : Nat}  {v : Int32} {a' : Mem} (hR : f_X9_sealIn N b = some (v, a')) : Ct l G yX9_sealIn (.code yX9_sealIn cX9_sealIn 1 (some .int)) 1 24 0 0 [.ref (ad L 96)] L (FW G L a b c) px0 (stay L (fun r f1 => f1 = (FW G L a a' c) ∧ r = some (.int v))) := by
  refine Ct.ofq (own := RX9) hl rfl (by decide) [some (.ref (ad L 96))] rfl (Nat.le_of_ble_eq_true rfl) ?_
  intro p e s m below meth c9 A ar Q hQ X
  unfold f_X9_sealIn at hR
  refine j_aload_n X (i := 0) dX9_sealIn_0 rfl rfl ?_
  refine j_iconst X (0) dX9_sealIn_1 (by decide) ?_
  obtain ⟨b1, h2, hR⟩ := bT_inv hR
  refine tp_X9_0 X hL h2 fl_X9_3 dX9_sealIn_2 ?_
  refine j_aload_n X (i := 0) dX9_sealIn_5 rfl rfl ?_
  refine j_iconst X (1) dX9_sealIn_6 (by decide) ?_
  obtain ⟨x4, h3, hR⟩ := bP_inv hR
  refine j_callV1 X 9 (m_X9_isState hl hL h3) ml_X9_76 im_yX9_isState se_yX9_isState in_X9 cd_yX9_isState hy_yX9_isState dX9_sealIn_7 rfl (ad_mem hL (by decide)) (FW9 hL) ⟨(by decide), (by decide)⟩ ⟨(by decide), (by decide)⟩ (Nat.le_of_ble_eq_true rfl) (fun _ h => h.elim) (fun r9 L9 f9 h9 => ?_)
  obtain ⟨h91, h92, h93, h5⟩ := h9
  subst r9
  subst f9
  subst L9
  dsimp only [Option.toList, List.cons_append, List.nil_append, List.append]
  refine j_if_eq X (tgt := 23) dX9_sealIn_10 (by decide) (fun h6 => ?_) (fun h6 => ?_)
  · replace hR := (if_pos h6).symm.trans hR
    refine j_iconst X (-1) dX9_sealIn_23 (by decide) ?_
    exact q_iret X hQ dX9_sealIn_24 rfl ⟨(by decide), (by decide)⟩ ⟨rfl, congrArg (fun z => FW G L a z c) (Prod.mk.inj (Option.some.inj hR)).2, congrArg (fun z => some (Value.int z)) (Prod.mk.inj (Option.some.inj hR)).1⟩
  · replace hR := (if_neg h6).symm.trans hR
    refine j_aload_n X (i := 0) dX9_sealIn_13 rfl rfl ?_
    refine j_getf X 9 1 rfl cw_X9 fl_X9_17 (by decide) dX9_sealIn_14 (ad_mem hL (by decide)) (FW9 hL) rfl ?_
    refine j_iconst X (5) dX9_sealIn_17 (by decide) ?_
    refine j_iald X dX9_sealIn_18 (ad_mem hL (by decide)) (FWr97 hL) (by unfold vp_in; decide) ?_
    refine j_iconst X (-1) dX9_sealIn_19 (by decide) ?_
    refine j_icmp_ne X (tgt := 25) dX9_sealIn_20 (by decide) (fun h7 => ?_) (fun h7 => ?_)
    · replace hR := (if_neg h7).symm.trans hR
      refine j_iconst X (0) dX9_sealIn_25 (by decide) ?_
      refine j_aload_n X (i := 0) dX9_sealIn_26 rfl rfl ?_
      refine j_getf X 9 1 rfl cw_X9 fl_X9_17 (by decide) dX9_sealIn_27 (ad_mem hL (by decide)) (FW9 hL) rfl ?_
      refine j_iconst X (5) dX9_sealIn_30 (by decide) ?_
      refine j_iald X dX9_sealIn_31 (ad_mem hL (by decide)) (FWr97 hL) (by unfold vp_in; decide) ?_
      refine j_aload_n X (i := 0) dX9_sealIn_32 rfl rfl ?_
      refine j_getf X 9 1 rfl cw_X9 fl_X9_17 (by decide) dX9_sealIn_33 (ad_mem hL (by decide)) (FW9 hL) rfl ?_
      refine j_bipush X (6) dX9_sealIn_36 (by decide) ?_
      refine j_iald X dX9_sealIn_38 (ad_mem hL (by decide)) (FWr97 hL) (by unfold vp_in; decide) ?_
      refine j_isub X dX9_sealIn_39 ?_
      refine j_mmax X ml_X9_114 dX9_sealIn_40 ⟨(by decide), (Nat.le_of_ble_eq_true rfl)⟩ ⟨(by decide), (by decide)⟩ ?_
      exact q_iret X hQ dX9_sealIn_43 rfl ⟨(by decide), (by decide)⟩ ⟨rfl, congrArg (fun z => FW G L a z c) (Prod.mk.inj (Option.some.inj hR)).2, congrArg (fun z => some (Value.int z)) (Prod.mk.inj (Option.some.inj hR)).1⟩
    · replace hR := (if_pos h7).symm.trans hR
      refine j_iconst X (-1) dX9_sealIn_23 (by decide) ?_
      exact q_iret X hQ dX9_sealIn_24 rfl ⟨(by decide), (by decide)⟩ ⟨rfl, congrArg (fun z => FW G L a z c) (Prod.mk.inj (Option.some.inj hR)).2, congrArg (fun z => some (Value.int z)) (Prod.mk.inj (Option.some.inj hR)).1⟩
def f_X9_arePaces (p0 : Int32) (p1 : Int32) (b : Mem) : Int32 := bT (f_X9_isPace p0 b) fun x2 => if x2 = 0 then ((0 : Int32)) else (bT (f_X9_isPace p1 b) fun x6 => if x6 = 0 then ((0 : Int32)) else ((1 : Int32)))
set_option maxRecDepth 100000 in
set_option maxHeartbeats 4000000 in
theorem m_X9_arePaces {l : Launch} (hl : l.stackTraces = false) {G : GG} {L : List Nat} (hL : LOK L) {a b c : Mem} {p0 : Int32} {p1 : Int32} {v : Int32} (hR : f_X9_arePaces p0 p1 b = v) : Ct l G yX9_arePaces (.code yX9_arePaces cX9_arePaces 2 (some .boolean)) 2 45 0 0 [.int p0, .int p1] L (FW G L a b c) px0 (stay L (fun r f1 => f1 = (FW G L a b c) ∧ r = some (.int v) ∧ isB v)) := by
  refine Ct.ofq (own := RX9) hl rfl (by decide) [some (.int p0), some (.int p1)] rfl (Nat.le_of_ble_eq_true rfl) ?_
  intro p e s m below meth c9 A ar Q hQ X
  unfold f_X9_arePaces at hR
  refine j_iload_n X (i := 0) dX9_arePaces_0 rfl rfl ?_
  obtain ⟨x2, h1, hR⟩ := bT_inv hR
  refine j_callS1 X (m_X9_isPace hl hL h1) ml_X9_346 st_yX9_isPace in_X9 cd_yX9_isPace hy_yX9_isPace dX9_arePaces_1 ⟨(by decide), (by decide)⟩ ⟨(by decide), (by decide)⟩ (Nat.le_of_ble_eq_true rfl) (fun _ h => h.elim) (fun r9 L9 f9 h9 => ?_)
  obtain ⟨h91, h92, h93, h3⟩ := h9
  subst r9
  subst f9
  subst L9
  dsimp only [Option.toList, List.cons_append, List.nil_append, List.append]
  refine j_if_eq X (tgt := 18) dX9_arePaces_4 (by decide) (fun h4 => ?_) (fun h4 => ?_)
  · replace hR := (if_pos h4).symm.trans hR
    refine j_iconst X (0) dX9_arePaces_18 (by decide) ?_
    exact q_zret X hQ dX9_arePaces_19 rfl (nar_B isB_0) ⟨(by decide), (by decide)⟩ ⟨rfl, rfl, congrArg (fun z => some (Value.int z)) hR, hR ▸ isB_0⟩
  · replace hR := (if_neg h4).symm.trans hR
    refine j_iload_n X (i := 1) dX9_arePaces_7 rfl rfl ?_
    obtain ⟨x6, h5, hR⟩ := bT_inv hR
    refine j_callS1 X (m_X9_isPace hl hL h5) ml_X9_346 st_yX9_isPace in_X9 cd_yX9_isPace hy_yX9_isPace dX9_arePaces_8 ⟨(by decide), (by decide)⟩ ⟨(by decide), (by decide)⟩ (Nat.le_of_ble_eq_true rfl) (fun _ h => h.elim) (fun r9 L9 f9 h9 => ?_)
    obtain ⟨h91, h92, h93, h7⟩ := h9
    subst r9
    subst f9
    subst L9
    dsimp only [Option.toList, List.cons_append, List.nil_append, List.append]
    refine j_if_eq X (tgt := 18) dX9_arePaces_11 (by decide) (fun h8 => ?_) (fun h8 => ?_)
    · replace hR := (if_pos h8).symm.trans hR
      refine j_iconst X (0) dX9_arePaces_18 (by decide) ?_
      exact q_zret X hQ dX9_arePaces_19 rfl (nar_B isB_0) ⟨(by decide), (by decide)⟩ ⟨rfl, rfl, congrArg (fun z => some (Value.int z)) hR, hR ▸ isB_0⟩
    · replace hR := (if_neg h8).symm.trans hR
      refine j_iconst X (1) dX9_arePaces_14 (by decide) ?_
      refine j_goto X (tgt := 19) dX9_arePaces_15 (by decide) ?_
      exact q_zret X hQ dX9_arePaces_19 rfl (nar_B isB_1) ⟨(by decide), (by decide)⟩ ⟨rfl, rfl, congrArg (fun z => some (Value.int z)) hR, hR ▸ isB_1⟩
def f_X9_paceOf (p0 : Int32) (p1 : Int32) (p2 : Int32) (b : Mem) : Int32 := if p0 = 0 then (p1) else (p2)
set_option maxRecDepth 100000 in
set_option maxHeartbeats 4000000 in
theorem m_X9_paceOf {l : Launch} (hl : l.stackTraces = false) {G : GG} {L : List Nat} (hL : LOK L) {a b c : Mem} {p0 : Int32} {p1 : Int32} {p2 : Int32} {v : Int32} (hR : f_X9_paceOf p0 p1 p2 b = v) : Ct l G yX9_paceOf (.code yX9_paceOf cX9_paceOf 3 (some .int)) 0 0 0 0 [.int p0, .int p1, .int p2] L (FW G L a b c) px0 (stay L (fun r f1 => f1 = (FW G L a b c) ∧ r = some (.int v))) := by
  refine Ct.ofq (own := RX9) hl rfl (by decide) [some (.int p0), some (.int p1), some (.int p2)] rfl (Nat.le_of_ble_eq_true rfl) ?_
  intro p e s m below meth c9 A ar Q hQ X
  unfold f_X9_paceOf at hR
  refine j_iload_n X (i := 0) dX9_paceOf_0 rfl rfl ?_
  refine j_if_ne X (tgt := 8) dX9_paceOf_1 (by decide) (fun h1 => ?_) (fun h1 => ?_)
  · replace hR := (if_neg h1).symm.trans hR
    refine j_iload_n X (i := 2) dX9_paceOf_8 rfl rfl ?_
    exact q_iret X hQ dX9_paceOf_9 rfl ⟨(by decide), (by decide)⟩ ⟨rfl, rfl, congrArg (fun z => some (Value.int z)) hR⟩
  · replace hR := (if_pos h1).symm.trans hR
    refine j_iload_n X (i := 1) dX9_paceOf_4 rfl rfl ?_
    refine j_goto X (tgt := 9) dX9_paceOf_5 (by decide) ?_
    exact q_iret X hQ dX9_paceOf_9 rfl ⟨(by decide), (by decide)⟩ ⟨rfl, rfl, congrArg (fun z => some (Value.int z)) hR⟩
def f_X9_gainsOf (N : Nat) (p0 : Int32) (b : Mem) : Option Int32 := bP (f_X9_fell N p0 b) fun x2 => if x2 = 0 then (bP (f_X9_of N p0 (5 : Int32) b) fun x6 => if x6 = (1 : Int32) then (bP (f_X9_of N p0 (0 : Int32) b) fun x19 => some ((b (rowM (b 0 3)) ((4 : Int32)).toNatClampNeg) - x19)) else (bP (f_X9_its N p0 (2 : Int32) b) fun x10 => bP (f_X9_of N p0 (7 : Int32) b) fun x13 => bP (f_X9_its N p0 (4 : Int32) b) fun x16 => some (x10 + (mnI x13 x16)))) else (some (0 : Int32))
set_option maxRecDepth 100000 in
set_option maxHeartbeats 4000000 in
theorem m_X9_gainsOf {l : Launch} (hl : l.stackTraces = false) {G : GG} {L : List Nat} (hL : LOK L) {a b c : Mem} {N : Nat} {p0 : Int32} {v : Int32} (hR : f_X9_gainsOf N p0 b = some v) : Ct l G yX9_gainsOf (.code yX9_gainsOf cX9_gainsOf 2 (some .int)) 2 44 0 0 [.ref (ad L 96), .int p0] L (FW G L a b c) px0 (stay L (fun r f1 => f1 = (FW G L a b c) ∧ r = some (.int v))) := by
  refine Ct.ofq (own := RX9) hl rfl (by decide) [some (.ref (ad L 96)), some (.int p0)] rfl (Nat.le_of_ble_eq_true rfl) ?_
  intro p e s m below meth c9 A ar Q hQ X
  unfold f_X9_gainsOf at hR
  refine j_aload_n X (i := 0) dX9_gainsOf_0 rfl rfl ?_
  refine j_iload_n X (i := 1) dX9_gainsOf_1 rfl rfl ?_
  obtain ⟨x2, h1, hR⟩ := bP_inv hR
  refine j_callV1 X 9 (m_X9_fell hl hL h1) ml_X9_96 im_yX9_fell se_yX9_fell in_X9 cd_yX9_fell hy_yX9_fell dX9_gainsOf_2 rfl (ad_mem hL (by decide)) (FW9 hL) ⟨(by decide), (by decide)⟩ ⟨(by decide), (by decide)⟩ (Nat.le_of_ble_eq_true rfl) (fun _ h => h.elim) (fun r9 L9 f9 h9 => ?_)
  obtain ⟨h91, h92, h93, h3⟩ := h9
  subst r9
  subst f9
  subst L9
  dsimp only [Option.toList, List.cons_append, List.nil_append, List.append]
  refine j_if_eq X (tgt := 10) dX9_gainsOf_5 (by decide) (fun h4 => ?_) (fun h4 => ?_)
  · replace hR := (if_pos h4).symm.trans hR
    refine j_aload_n X (i := 0) dX9_gainsOf_10 rfl rfl ?_
    refine j_iload_n X (i := 1) dX9_gainsOf_11 rfl rfl ?_
    refine j_iconst X (5) dX9_gainsOf_12 (by decide) ?_
    obtain ⟨x6, h5, hR⟩ := bP_inv hR
    refine j_callV2 X 9 (m_X9_of hl hL h5) ml_X9_57 im_yX9_of se_yX9_of in_X9 cd_yX9_of hy_yX9_of dX9_gainsOf_13 rfl (ad_mem hL (by decide)) (FW9 hL) ⟨(by decide), (by decide)⟩ ⟨(by decide), (by decide)⟩ (Nat.le_of_ble_eq_true rfl) (fun _ h => h.elim) (fun r9 L9 f9 h9 => ?_)
    obtain ⟨h91, h92, h93⟩ := h9
    subst r9
    subst f9
    subst L9
    dsimp only [Option.toList, List.cons_append, List.nil_append, List.append]
    refine j_iconst X (1) dX9_gainsOf_16 (by decide) ?_
    refine j_icmp_ne X (tgt := 34) dX9_gainsOf_17 (by decide) (fun h8 => ?_) (fun h8 => ?_)
    · replace hR := (if_neg h8).symm.trans hR
      refine j_aload_n X (i := 0) dX9_gainsOf_34 rfl rfl ?_
      refine j_iload_n X (i := 1) dX9_gainsOf_35 rfl rfl ?_
      refine j_iconst X (2) dX9_gainsOf_36 (by decide) ?_
      obtain ⟨x10, h9, hR⟩ := bP_inv hR
      refine j_callV2 X 9 (m_X9_its hl hL h9) ml_X9_87 im_yX9_its se_yX9_its in_X9 cd_yX9_its hy_yX9_its dX9_gainsOf_37 rfl (ad_mem hL (by decide)) (FW9 hL) ⟨(by decide), (by decide)⟩ ⟨(by decide), (by decide)⟩ (Nat.le_of_ble_eq_true rfl) (fun _ h => h.elim) (fun r9 L9 f9 h9 => ?_)
      obtain ⟨h91, h92, h93⟩ := h9
      subst r9
      subst f9
      subst L9
      dsimp only [Option.toList, List.cons_append, List.nil_append, List.append]
      refine j_aload_n X (i := 0) dX9_gainsOf_40 rfl rfl ?_
      refine j_iload_n X (i := 1) dX9_gainsOf_41 rfl rfl ?_
      refine j_bipush X (7) dX9_gainsOf_42 (by decide) ?_
      obtain ⟨x13, h12, hR⟩ := bP_inv hR
      refine j_callV2 X 9 (m_X9_of hl hL h12) ml_X9_57 im_yX9_of se_yX9_of in_X9 cd_yX9_of hy_yX9_of dX9_gainsOf_44 rfl (ad_mem hL (by decide)) (FW9 hL) ⟨(by decide), (by decide)⟩ ⟨(by decide), (by decide)⟩ (Nat.le_of_ble_eq_true rfl) (fun _ h => h.elim) (fun r9 L9 f9 h9 => ?_)
      obtain ⟨h91, h92, h93⟩ := h9
      subst r9
      subst f9
      subst L9
      dsimp only [Option.toList, List.cons_append, List.nil_append, List.append]
      refine j_aload_n X (i := 0) dX9_gainsOf_47 rfl rfl ?_
      refine j_iload_n X (i := 1) dX9_gainsOf_48 rfl rfl ?_
      refine j_iconst X (4) dX9_gainsOf_49 (by decide) ?_
      obtain ⟨x16, h15, hR⟩ := bP_inv hR
      refine j_callV2 X 9 (m_X9_its hl hL h15) ml_X9_87 im_yX9_its se_yX9_its in_X9 cd_yX9_its hy_yX9_its dX9_gainsOf_50 rfl (ad_mem hL (by decide)) (FW9 hL) ⟨(by decide), (by decide)⟩ ⟨(by decide), (by decide)⟩ (Nat.le_of_ble_eq_true rfl) (fun _ h => h.elim) (fun r9 L9 f9 h9 => ?_)
      obtain ⟨h91, h92, h93⟩ := h9
      subst r9
      subst f9
      subst L9
      dsimp only [Option.toList, List.cons_append, List.nil_append, List.append]
      refine j_mmin X ml_X9_99 dX9_gainsOf_53 ⟨(by decide), (Nat.le_of_ble_eq_true rfl)⟩ ⟨(by decide), (by decide)⟩ ?_
      refine j_iadd X dX9_gainsOf_56 ?_
      exact q_iret X hQ dX9_gainsOf_57 rfl ⟨(by decide), (by decide)⟩ ⟨rfl, rfl, congrArg (fun z => some (Value.int z)) (Option.some.inj hR)⟩
    · replace hR := (if_pos h8).symm.trans hR
      refine j_aload_n X (i := 0) dX9_gainsOf_20 rfl rfl ?_
      refine j_getf X 9 3 rfl cw_X9 fl_X9_24 (by decide) dX9_gainsOf_21 (ad_mem hL (by decide)) (FW9 hL) rfl ?_
      refine j_iconst X (4) dX9_gainsOf_24 (by decide) ?_
      refine j_iald X dX9_gainsOf_25 (inLr hL) (FWrow hL) (by unfold vp_in; decide) ?_
      refine j_aload_n X (i := 0) dX9_gainsOf_26 rfl rfl ?_
      refine j_iload_n X (i := 1) dX9_gainsOf_27 rfl rfl ?_
      refine j_iconst X (0) dX9_gainsOf_28 (by decide) ?_
      obtain ⟨x19, h18, hR⟩ := bP_inv hR
      refine j_callV2 X 9 (m_X9_of hl hL h18) ml_X9_57 im_yX9_of se_yX9_of in_X9 cd_yX9_of hy_yX9_of dX9_gainsOf_29 rfl (ad_mem hL (by decide)) (FW9 hL) ⟨(by decide), (by decide)⟩ ⟨(by decide), (by decide)⟩ (Nat.le_of_ble_eq_true rfl) (fun _ h => h.elim) (fun r9 L9 f9 h9 => ?_)
      obtain ⟨h91, h92, h93⟩ := h9
      subst r9
      subst f9
      subst L9
      dsimp only [Option.toList, List.cons_append, List.nil_append, List.append]
      refine j_isub X dX9_gainsOf_32 ?_
      exact q_iret X hQ dX9_gainsOf_33 rfl ⟨(by decide), (by decide)⟩ ⟨rfl, rfl, congrArg (fun z => some (Value.int z)) (Option.some.inj hR)⟩
  · replace hR := (if_neg h4).symm.trans hR
    refine j_iconst X (0) dX9_gainsOf_8 (by decide) ?_
    exact q_iret X hQ dX9_gainsOf_9 rfl ⟨(by decide), (by decide)⟩ ⟨rfl, rfl, congrArg (fun z => some (Value.int z)) (Option.some.inj hR)⟩
def f_X9_beginPeriod (N : Nat) (p0 : Int32) (b : Mem) : Option Mem := bP (f_X9_of N p0 (2 : Int32) b) fun x2 => bP (f_X9_put N p0 (2 : Int32) (mnI (x2 + (1 : Int32)) ((b (rowM (b 0 3)) ((2 : Int32)).toNatClampNeg) - (1 : Int32))) b) fun b5 => bP (f_X9_put N p0 (3 : Int32) (0 : Int32) b5) fun b8 => bP (f_X9_add N p0 (11 : Int32) (1 : Int32) b8) fun b11 => bP (f_X9_fell N p0 b11) fun x14 => if x14 = 0 then (bP (f_X9_its N p0 (1 : Int32) b11) fun x18 => bP (f_X9_add N p0 (0 : Int32) x18 b11) fun b21 => some b21) else (bP (f_X9_add N p0 (0 : Int32) (0 : Int32) b11) fun b24 => some b24)
set_option maxRecDepth 100000 in
set_option maxHeartbeats 4000000 in
theorem m_X9_beginPeriod {l : Launch} (hl : l.stackTraces = false) {G : GG} {L : List Nat} (hL : LOK L) {a b c : Mem} {N : Nat} {p0 : Int32} {a' : Mem} (hR : f_X9_beginPeriod N p0 b = some a') : Ct l G yX9_beginPeriod (.code yX9_beginPeriod cX9_beginPeriod 2 none) 2 44 0 0 [.ref (ad L 96), .int p0] L (FW G L a b c) px0 (stay L (fun r f1 => f1 = (FW G L a a' c) ∧ r = none)) := by
  refine Ct.ofq (own := RX9) hl rfl (by decide) [some (.ref (ad L 96)), some (.int p0)] rfl (Nat.le_of_ble_eq_true rfl) ?_
  intro p e s m below meth c9 A ar Q hQ X
  unfold f_X9_beginPeriod at hR
  refine j_aload_n X (i := 0) dX9_beginPeriod_0 rfl rfl ?_
  refine j_iload_n X (i := 1) dX9_beginPeriod_1 rfl rfl ?_
  refine j_iconst X (2) dX9_beginPeriod_2 (by decide) ?_
  refine j_aload_n X (i := 0) dX9_beginPeriod_3 rfl rfl ?_
  refine j_iload_n X (i := 1) dX9_beginPeriod_4 rfl rfl ?_
  refine j_iconst X (2) dX9_beginPeriod_5 (by decide) ?_
  obtain ⟨x2, h1, hR⟩ := bP_inv hR
  refine j_callV2 X 9 (m_X9_of hl hL h1) ml_X9_57 im_yX9_of se_yX9_of in_X9 cd_yX9_of hy_yX9_of dX9_beginPeriod_6 rfl (ad_mem hL (by decide)) (FW9 hL) ⟨(by decide), (by decide)⟩ ⟨(by decide), (by decide)⟩ (Nat.le_of_ble_eq_true rfl) (fun _ h => h.elim) (fun r9 L9 f9 h9 => ?_)
  obtain ⟨h91, h92, h93⟩ := h9
  subst r9
  subst f9
  subst L9
  dsimp only [Option.toList, List.cons_append, List.nil_append, List.append]
  refine j_iconst X (1) dX9_beginPeriod_9 (by decide) ?_
  refine j_iadd X dX9_beginPeriod_10 ?_
  refine j_aload_n X (i := 0) dX9_beginPeriod_11 rfl rfl ?_
  refine j_getf X 9 3 rfl cw_X9 fl_X9_24 (by decide) dX9_beginPeriod_12 (ad_mem hL (by decide)) (FW9 hL) rfl ?_
  refine j_iconst X (2) dX9_beginPeriod_15 (by decide) ?_
  refine j_iald X dX9_beginPeriod_16 (inLr hL) (FWrow hL) (by unfold vp_in; decide) ?_
  refine j_iconst X (1) dX9_beginPeriod_17 (by decide) ?_
  refine j_isub X dX9_beginPeriod_18 ?_
  refine j_mmin X ml_X9_99 dX9_beginPeriod_19 ⟨(by decide), (Nat.le_of_ble_eq_true rfl)⟩ ⟨(by decide), (by decide)⟩ ?_
  obtain ⟨b5, h4, hR⟩ := bP_inv hR
  refine j_callV3 X 9 (m_X9_put hl hL h4) ml_X9_53 im_yX9_put se_yX9_put in_X9 cd_yX9_put hy_yX9_put dX9_beginPeriod_22 rfl (ad_mem hL (by decide)) (FW9 hL) ⟨(by decide), (by decide)⟩ ⟨(by decide), (by decide)⟩ (Nat.le_of_ble_eq_true rfl) (fun _ h => h.elim) (fun r9 L9 f9 h9 => ?_)
  obtain ⟨h91, h92, h93⟩ := h9
  subst r9
  subst f9
  subst L9
  dsimp only [Option.toList, List.cons_append, List.nil_append, List.append]
  refine j_aload_n X (i := 0) dX9_beginPeriod_25 rfl rfl ?_
  refine j_iload_n X (i := 1) dX9_beginPeriod_26 rfl rfl ?_
  refine j_iconst X (3) dX9_beginPeriod_27 (by decide) ?_
  refine j_iconst X (0) dX9_beginPeriod_28 (by decide) ?_
  obtain ⟨b8, h7, hR⟩ := bP_inv hR
  refine j_callV3 X 9 (m_X9_put hl hL h7) ml_X9_53 im_yX9_put se_yX9_put in_X9 cd_yX9_put hy_yX9_put dX9_beginPeriod_29 rfl (ad_mem hL (by decide)) (FW9 hL) ⟨(by decide), (by decide)⟩ ⟨(by decide), (by decide)⟩ (Nat.le_of_ble_eq_true rfl) (fun _ h => h.elim) (fun r9 L9 f9 h9 => ?_)
  obtain ⟨h91, h92, h93⟩ := h9
  subst r9
  subst f9
  subst L9
  dsimp only [Option.toList, List.cons_append, List.nil_append, List.append]
  refine j_aload_n X (i := 0) dX9_beginPeriod_32 rfl rfl ?_
  refine j_iload_n X (i := 1) dX9_beginPeriod_33 rfl rfl ?_
  refine j_bipush X (11) dX9_beginPeriod_34 (by decide) ?_
  refine j_iconst X (1) dX9_beginPeriod_36 (by decide) ?_
  obtain ⟨b11, h10, hR⟩ := bP_inv hR
  refine j_callV3 X 9 (m_X9_add hl hL h10) ml_X9_84 im_yX9_add se_yX9_add in_X9 cd_yX9_add hy_yX9_add dX9_beginPeriod_37 rfl (ad_mem hL (by decide)) (FW9 hL) ⟨(by decide), (by decide)⟩ ⟨(by decide), (by decide)⟩ (Nat.le_of_ble_eq_true rfl) (fun _ h => h.elim) (fun r9 L9 f9 h9 => ?_)
  obtain ⟨h91, h92, h93⟩ := h9
  subst r9
  subst f9
  subst L9
  dsimp only [Option.toList, List.cons_append, List.nil_append, List.append]
  refine j_aload_n X (i := 0) dX9_beginPeriod_40 rfl rfl ?_
  refine j_iload_n X (i := 1) dX9_beginPeriod_41 rfl rfl ?_
  refine j_iconst X (0) dX9_beginPeriod_42 (by decide) ?_
  refine j_aload_n X (i := 0) dX9_beginPeriod_43 rfl rfl ?_
  refine j_iload_n X (i := 1) dX9_beginPeriod_44 rfl rfl ?_
  obtain ⟨x14, h13, hR⟩ := bP_inv hR
  refine j_callV1 X 9 (m_X9_fell hl hL h13) ml_X9_96 im_yX9_fell se_yX9_fell in_X9 cd_yX9_fell hy_yX9_fell dX9_beginPeriod_45 rfl (ad_mem hL (by decide)) (FW9 hL) ⟨(by decide), (by decide)⟩ ⟨(by decide), (by decide)⟩ (Nat.le_of_ble_eq_true rfl) (fun _ h => h.elim) (fun r9 L9 f9 h9 => ?_)
  obtain ⟨h91, h92, h93, h15⟩ := h9
  subst r9
  subst f9
  subst L9
  dsimp only [Option.toList, List.cons_append, List.nil_append, List.append]
  refine j_if_eq X (tgt := 55) dX9_beginPeriod_48 (by decide) (fun h16 => ?_) (fun h16 => ?_)
  · replace hR := (if_pos h16).symm.trans hR
    refine j_aload_n X (i := 0) dX9_beginPeriod_55 rfl rfl ?_
    refine j_iload_n X (i := 1) dX9_beginPeriod_56 rfl rfl ?_
    refine j_iconst X (1) dX9_beginPeriod_57 (by decide) ?_
    obtain ⟨x18, h17, hR⟩ := bP_inv hR
    refine j_callV2 X 9 (m_X9_its hl hL h17) ml_X9_87 im_yX9_its se_yX9_its in_X9 cd_yX9_its hy_yX9_its dX9_beginPeriod_58 rfl (ad_mem hL (by decide)) (FW9 hL) ⟨(by decide), (by decide)⟩ ⟨(by decide), (by decide)⟩ (Nat.le_of_ble_eq_true rfl) (fun _ h => h.elim) (fun r9 L9 f9 h9 => ?_)
    obtain ⟨h91, h92, h93⟩ := h9
    subst r9
    subst f9
    subst L9
    dsimp only [Option.toList, List.cons_append, List.nil_append, List.append]
    obtain ⟨b21, h20, hR⟩ := bP_inv hR
    refine j_callV3 X 9 (m_X9_add hl hL h20) ml_X9_84 im_yX9_add se_yX9_add in_X9 cd_yX9_add hy_yX9_add dX9_beginPeriod_61 rfl (ad_mem hL (by decide)) (FW9 hL) ⟨(by decide), (by decide)⟩ ⟨(by decide), (by decide)⟩ (Nat.le_of_ble_eq_true rfl) (fun _ h => h.elim) (fun r9 L9 f9 h9 => ?_)
    obtain ⟨h91, h92, h93⟩ := h9
    subst r9
    subst f9
    subst L9
    dsimp only [Option.toList, List.cons_append, List.nil_append, List.append]
    exact q_vret X hQ dX9_beginPeriod_64 rfl ⟨(by decide), (by decide)⟩ ⟨rfl, congrArg (fun z => FW G L a z c) (Option.some.inj hR), rfl⟩
  · replace hR := (if_neg h16).symm.trans hR
    refine j_iconst X (0) dX9_beginPeriod_51 (by decide) ?_
    refine j_goto X (tgt := 61) dX9_beginPeriod_52 (by decide) ?_
    obtain ⟨b24, h23, hR⟩ := bP_inv hR
    refine j_callV3 X 9 (m_X9_add hl hL h23) ml_X9_84 im_yX9_add se_yX9_add in_X9 cd_yX9_add hy_yX9_add dX9_beginPeriod_61 rfl (ad_mem hL (by decide)) (FW9 hL) ⟨(by decide), (by decide)⟩ ⟨(by decide), (by decide)⟩ (Nat.le_of_ble_eq_true rfl) (fun _ h => h.elim) (fun r9 L9 f9 h9 => ?_)
    obtain ⟨h91, h92, h93⟩ := h9
    subst r9
    subst f9
    subst L9
    dsimp only [Option.toList, List.cons_append, List.nil_append, List.append]
    exact q_vret X hQ dX9_beginPeriod_64 rfl ⟨(by decide), (by decide)⟩ ⟨rfl, congrArg (fun z => FW G L a z c) (Option.some.inj hR), rfl⟩
def f_X9_keepLog_5 (N : Nat) (p0 : Int32) (p1 : Int32) (p2 : Int32) (p3 : Int32) : Nat → Int32 → Mem → Option Mem
  | 0, _, _ => none
  | fu + 1, x1, b2 => if x1 < (77 : Int32) then (bT (upR b2 (rowM (b2 0 3)) (upd (b2 (rowM (b2 0 3))) ((71 : Int32)).toNatClampNeg p0)) fun b4 => bT (upR b4 (rowM (b4 0 3)) (upd (b4 (rowM (b4 0 3))) ((72 : Int32)).toNatClampNeg p1)) fun b6 => bT (upR b6 (rowM (b6 0 3)) (upd (b6 (rowM (b6 0 3))) ((73 : Int32)).toNatClampNeg p2)) fun b8 => bT (upR b8 (rowM (b8 0 3)) (upd (b8 (rowM (b8 0 3))) ((74 : Int32)).toNatClampNeg p3)) fun b10 => bP (f_X9_of N p0 (0 : Int32) b10) fun x13 => bT (upR b10 (rowM (b10 0 3)) (upd (b10 (rowM (b10 0 3))) ((75 : Int32)).toNatClampNeg x13)) fun b15 => bT (upR b15 (rowM (b15 0 3)) (upd (b15 (rowM (b15 0 3))) ((76 : Int32)).toNatClampNeg (b15 (rowM (b15 0 3)) ((7 : Int32)).toNatClampNeg))) fun b17 => bT (upR b17 (rowM (b17 0 3)) (upd (b17 (rowM (b17 0 3))) ((8 : Int32)).toNatClampNeg ((b17 (rowM (b17 0 3)) ((8 : Int32)).toNatClampNeg) + (1 : Int32)))) fun b19 => some b19) else (chkI (x1 - (6 : Int32)) 311 <| chkI x1 311 <| bT (upR b2 (rowM (b2 0 3)) (upd (b2 (rowM (b2 0 3))) (x1).toNatClampNeg (b2 (rowM (b2 0 3)) ((x1 - (6 : Int32))).toNatClampNeg))) fun b23 => bT (x1 + (-1 : Int32)) fun x25 => f_X9_keepLog_5 N p0 p1 p2 p3 fu x25 b23)
theorem f_X9_keepLog_5_s (N : Nat) (p0 : Int32) (p1 : Int32) (p2 : Int32) (p3 : Int32) {fu : Nat} {x1 : Int32} {b2 : Mem} : f_X9_keepLog_5 N p0 p1 p2 p3 (fu + 1) x1 b2 = (if x1 < (77 : Int32) then (bT (upR b2 (rowM (b2 0 3)) (upd (b2 (rowM (b2 0 3))) ((71 : Int32)).toNatClampNeg p0)) fun b4 => bT (upR b4 (rowM (b4 0 3)) (upd (b4 (rowM (b4 0 3))) ((72 : Int32)).toNatClampNeg p1)) fun b6 => bT (upR b6 (rowM (b6 0 3)) (upd (b6 (rowM (b6 0 3))) ((73 : Int32)).toNatClampNeg p2)) fun b8 => bT (upR b8 (rowM (b8 0 3)) (upd (b8 (rowM (b8 0 3))) ((74 : Int32)).toNatClampNeg p3)) fun b10 => bP (f_X9_of N p0 (0 : Int32) b10) fun x13 => bT (upR b10 (rowM (b10 0 3)) (upd (b10 (rowM (b10 0 3))) ((75 : Int32)).toNatClampNeg x13)) fun b15 => bT (upR b15 (rowM (b15 0 3)) (upd (b15 (rowM (b15 0 3))) ((76 : Int32)).toNatClampNeg (b15 (rowM (b15 0 3)) ((7 : Int32)).toNatClampNeg))) fun b17 => bT (upR b17 (rowM (b17 0 3)) (upd (b17 (rowM (b17 0 3))) ((8 : Int32)).toNatClampNeg ((b17 (rowM (b17 0 3)) ((8 : Int32)).toNatClampNeg) + (1 : Int32)))) fun b19 => some b19) else (chkI (x1 - (6 : Int32)) 311 <| chkI x1 311 <| bT (upR b2 (rowM (b2 0 3)) (upd (b2 (rowM (b2 0 3))) (x1).toNatClampNeg (b2 (rowM (b2 0 3)) ((x1 - (6 : Int32))).toNatClampNeg))) fun b23 => bT (x1 + (-1 : Int32)) fun x25 => f_X9_keepLog_5 N p0 p1 p2 p3 fu x25 b23)) := rfl
def f_X9_keepLog (N : Nat) (p0 : Int32) (p1 : Int32) (p2 : Int32) (p3 : Int32) (b : Mem) : Option Mem := f_X9_keepLog_5 N p0 p1 p2 p3 N (310 : Int32) b
set_option maxRecDepth 100000 in
set_option maxHeartbeats 4000000 in
theorem m_X9_keepLog {l : Launch} (hl : l.stackTraces = false) {G : GG} {L : List Nat} (hL : LOK L) {a b c : Mem} {N : Nat} {p0 : Int32} {p1 : Int32} {p2 : Int32} {p3 : Int32} {a' : Mem} (hR : f_X9_keepLog N p0 p1 p2 p3 b = some a') : Ct l G yX9_keepLog (.code yX9_keepLog cX9_keepLog 6 none) 1 22 0 0 [.ref (ad L 96), .int p0, .int p1, .int p2, .int p3] L (FW G L a b c) px0 (stay L (fun r f1 => f1 = (FW G L a a' c) ∧ r = none)) := by
  refine Ct.ofq (own := RX9) hl rfl (by decide) [some (.ref (ad L 96)), some (.int p0), some (.int p1), some (.int p2), some (.int p3), none] rfl (Nat.le_of_ble_eq_true rfl) ?_
  intro p e s m below meth c9 A ar Q hQ X
  unfold f_X9_keepLog at hR
  refine j_sipush X (310) dX9_keepLog_0 (by decide) ?_
  refine j_istore X dX9_keepLog_3 (by decide) (lvOK_s rfl okPrev_int) ?_
  dsimp only [List.set]
  have hb5 : ∀ (fu : Nat) (x1 : Int32) (b2 : Mem) , f_X9_keepLog_5 N p0 p1 p2 p3 fu x1 b2 = some a' → J G p l e ({ frames := 1, cells := 0, slots := 0, locals := 22 } : Room) s m ar below meth c9 A Q 6 0 0 5 [some (.ref (ad L 96)), some (.int p0), some (.int p1), some (.int p2), some (.int p3), some (.int x1)] [] L (FW G L a b2 c) := by
    intro fu
    induction fu with
    | zero =>
      intro x1 b2 hR
      cases hR
    | succ fu ih =>
      intro x1 b2 hR
      replace hR := (f_X9_keepLog_5_s N p0 p1 p2 p3).symm.trans hR
      refine j_iload X dX9_keepLog_5 rfl ?_
      refine j_bipush X (77) dX9_keepLog_7 (by decide) ?_
      refine j_icmp_lt X (tgt := 35) dX9_keepLog_9 (by decide) (fun h3 => ?_) (fun h3 => ?_)
      · replace hR := (if_pos h3).symm.trans hR
        refine j_aload_n X (i := 0) dX9_keepLog_35 rfl rfl ?_
        refine j_getf X 9 3 rfl cw_X9 fl_X9_24 (by decide) dX9_keepLog_36 (ad_mem hL (by decide)) (FW9 hL) rfl ?_
        refine j_bipush X (71) dX9_keepLog_39 (by decide) ?_
        refine j_iload_n X (i := 1) dX9_keepLog_41 rfl rfl ?_
        obtain ⟨b4, h5, hR⟩ := bT_inv hR
        refine trow_iast X hL (by unfold vp_in; decide) h5 dX9_keepLog_42 ?_
        refine j_aload_n X (i := 0) dX9_keepLog_43 rfl rfl ?_
        refine j_getf X 9 3 rfl cw_X9 fl_X9_24 (by decide) dX9_keepLog_44 (ad_mem hL (by decide)) (FW9 hL) rfl ?_
        refine j_bipush X (72) dX9_keepLog_47 (by decide) ?_
        refine j_iload_n X (i := 2) dX9_keepLog_49 rfl rfl ?_
        obtain ⟨b6, h7, hR⟩ := bT_inv hR
        refine trow_iast X hL (by unfold vp_in; decide) h7 dX9_keepLog_50 ?_
        refine j_aload_n X (i := 0) dX9_keepLog_51 rfl rfl ?_
        refine j_getf X 9 3 rfl cw_X9 fl_X9_24 (by decide) dX9_keepLog_52 (ad_mem hL (by decide)) (FW9 hL) rfl ?_
        refine j_bipush X (73) dX9_keepLog_55 (by decide) ?_
        refine j_iload_n X (i := 3) dX9_keepLog_57 rfl rfl ?_
        obtain ⟨b8, h9, hR⟩ := bT_inv hR
        refine trow_iast X hL (by unfold vp_in; decide) h9 dX9_keepLog_58 ?_
        refine j_aload_n X (i := 0) dX9_keepLog_59 rfl rfl ?_
        refine j_getf X 9 3 rfl cw_X9 fl_X9_24 (by decide) dX9_keepLog_60 (ad_mem hL (by decide)) (FW9 hL) rfl ?_
        refine j_bipush X (74) dX9_keepLog_63 (by decide) ?_
        refine j_iload X dX9_keepLog_65 rfl ?_
        obtain ⟨b10, h11, hR⟩ := bT_inv hR
        refine trow_iast X hL (by unfold vp_in; decide) h11 dX9_keepLog_67 ?_
        refine j_aload_n X (i := 0) dX9_keepLog_68 rfl rfl ?_
        refine j_getf X 9 3 rfl cw_X9 fl_X9_24 (by decide) dX9_keepLog_69 (ad_mem hL (by decide)) (FW9 hL) rfl ?_
        refine j_bipush X (75) dX9_keepLog_72 (by decide) ?_
        refine j_aload_n X (i := 0) dX9_keepLog_74 rfl rfl ?_
        refine j_iload_n X (i := 1) dX9_keepLog_75 rfl rfl ?_
        refine j_iconst X (0) dX9_keepLog_76 (by decide) ?_
        obtain ⟨x13, h12, hR⟩ := bP_inv hR
        refine j_callV2 X 9 (m_X9_of hl hL h12) ml_X9_57 im_yX9_of se_yX9_of in_X9 cd_yX9_of hy_yX9_of dX9_keepLog_77 rfl (ad_mem hL (by decide)) (FW9 hL) ⟨(by decide), (by decide)⟩ ⟨(by decide), (by decide)⟩ (Nat.le_of_ble_eq_true rfl) (fun _ h => h.elim) (fun r9 L9 f9 h9 => ?_)
        obtain ⟨h91, h92, h93⟩ := h9
        subst r9
        subst f9
        subst L9
        dsimp only [Option.toList, List.cons_append, List.nil_append, List.append]
        obtain ⟨b15, h16, hR⟩ := bT_inv hR
        refine trow_iast X hL (by unfold vp_in; decide) h16 dX9_keepLog_80 ?_
        refine j_aload_n X (i := 0) dX9_keepLog_81 rfl rfl ?_
        refine j_getf X 9 3 rfl cw_X9 fl_X9_24 (by decide) dX9_keepLog_82 (ad_mem hL (by decide)) (FW9 hL) rfl ?_
        refine j_bipush X (76) dX9_keepLog_85 (by decide) ?_
        refine j_aload_n X (i := 0) dX9_keepLog_87 rfl rfl ?_
        refine j_getf X 9 3 rfl cw_X9 fl_X9_24 (by decide) dX9_keepLog_88 (ad_mem hL (by decide)) (FW9 hL) rfl ?_
        refine j_bipush X (7) dX9_keepLog_91 (by decide) ?_
        refine j_iald X dX9_keepLog_93 (inLr hL) (FWrow hL) (by unfold vp_in; decide) ?_
        obtain ⟨b17, h18, hR⟩ := bT_inv hR
        refine trow_iast X hL (by unfold vp_in; decide) h18 dX9_keepLog_94 ?_
        refine j_aload_n X (i := 0) dX9_keepLog_95 rfl rfl ?_
        refine j_getf X 9 3 rfl cw_X9 fl_X9_24 (by decide) dX9_keepLog_96 (ad_mem hL (by decide)) (FW9 hL) rfl ?_
        refine j_bipush X (8) dX9_keepLog_99 (by decide) ?_
        refine j_dup2 X dX9_keepLog_101 rfl rfl ?_
        refine j_iald X dX9_keepLog_102 (inLr hL) (FWrow hL) (by unfold vp_in; decide) ?_
        refine j_iconst X (1) dX9_keepLog_103 (by decide) ?_
        refine j_iadd X dX9_keepLog_104 ?_
        obtain ⟨b19, h20, hR⟩ := bT_inv hR
        refine trow_iast X hL (by unfold vp_in; decide) h20 dX9_keepLog_105 ?_
        exact q_vret X hQ dX9_keepLog_106 rfl ⟨(by decide), (by decide)⟩ ⟨rfl, congrArg (fun z => FW G L a z c) (Option.some.inj hR), rfl⟩
      · replace hR := (if_neg h3).symm.trans hR
        refine j_aload_n X (i := 0) dX9_keepLog_12 rfl rfl ?_
        refine j_getf X 9 3 rfl cw_X9 fl_X9_24 (by decide) dX9_keepLog_13 (ad_mem hL (by decide)) (FW9 hL) rfl ?_
        refine j_iload X dX9_keepLog_16 rfl ?_
        refine j_aload_n X (i := 0) dX9_keepLog_18 rfl rfl ?_
        refine j_getf X 9 3 rfl cw_X9 fl_X9_24 (by decide) dX9_keepLog_19 (ad_mem hL (by decide)) (FW9 hL) rfl ?_
        refine j_iload X dX9_keepLog_22 rfl ?_
        refine j_bipush X (6) dX9_keepLog_24 (by decide) ?_
        refine j_isub X dX9_keepLog_26 ?_
        obtain ⟨h21, hR⟩ := chkI_inv hR
        refine j_iald X dX9_keepLog_27 (inLr hL) (FWrow hL) h21 ?_
        obtain ⟨h22, hR⟩ := chkI_inv hR
        obtain ⟨b23, h24, hR⟩ := bT_inv hR
        refine trow_iast X hL h22 h24 dX9_keepLog_28 ?_
        obtain ⟨x25, h26, hR⟩ := bT_inv hR
        refine j_iinc X x25 dX9_keepLog_29 rfl h26 (by decide) (lvOK_s rfl okPrev_int) ?_
        dsimp only [List.set]
        refine j_goto X (tgt := 5) dX9_keepLog_32 (by decide) ?_
        exact J.sub (lvle_of (by simp only [lvle, and_self])) (ih _ _  hR)
  exact J.sub (lvle_of (by simp only [lvle, and_self])) (hb5 _ _ _  hR)
def f_X9_moveOnce_61 (N : Nat) (x2 : Int32) (x5 : Int32) (b19 : Mem) : Option (Int32 × Mem) := bP (f_X9_of N x2 (6 : Int32) b19) fun x21 => bP (f_X9_of N x2 (7 : Int32) b19) fun x24 => bP (f_X9_keepLog N x2 x21 x24 x5 b19) fun b27 => bP (f_X9_put N x2 (6 : Int32) (0 : Int32) b27) fun b30 => bP (f_X9_put N x2 (7 : Int32) (0 : Int32) b30) fun b33 => bT (upR b33 (rowM (b33 0 3)) (upd (b33 (rowM (b33 0 3))) ((1 : Int32)).toNatClampNeg ((1 : Int32) - x2))) fun b35 => some (x5, b35)
def f_X9_moveOnce (N : Nat) (b : Mem) : Option (Int32 × Mem) := bP (f_X9_mover N b) fun x2 => bP (f_X9_gainsOf N x2 b) fun x5 => bP (f_X9_add N x2 (0 : Int32) x5 b) fun b8 => bP (f_X9_add N x2 (1 : Int32) (1 : Int32) b8) fun b11 => bP (f_X9_add N x2 (3 : Int32) (1 : Int32) b11) fun b14 => bP (f_X9_its N x2 (0 : Int32) b14) fun x17 => if x17 ≤ 0 then (f_X9_moveOnce_61 N x2 x5 b14) else (bP (f_X9_of N x2 (3 : Int32) b14) fun x39 => bP (f_X9_its N x2 (0 : Int32) b14) fun x42 => if x39 = x42 then (bP (f_X9_beginPeriod N x2 b14) fun b46 => f_X9_moveOnce_61 N x2 x5 b46) else (f_X9_moveOnce_61 N x2 x5 b14))
set_option maxRecDepth 100000 in
set_option maxHeartbeats 4000000 in
theorem m_X9_moveOnce {l : Launch} (hl : l.stackTraces = false) {G : GG} {L : List Nat} (hL : LOK L) {a b c : Mem} {N : Nat}  {v : Int32} {a' : Mem} (hR : f_X9_moveOnce N b = some (v, a')) : Ct l G yX9_moveOnce (.code yX9_moveOnce cX9_moveOnce 3 (some .int)) 3 65 0 0 [.ref (ad L 96)] L (FW G L a b c) px0 (stay L (fun r f1 => f1 = (FW G L a a' c) ∧ r = some (.int v))) := by
  refine Ct.ofq (own := RX9) hl rfl (by decide) [some (.ref (ad L 96)), none, none] rfl (Nat.le_of_ble_eq_true rfl) ?_
  intro p e s m below meth c9 A ar Q hQ X
  unfold f_X9_moveOnce at hR
  refine j_aload_n X (i := 0) dX9_moveOnce_0 rfl rfl ?_
  obtain ⟨x2, h1, hR⟩ := bP_inv hR
  refine j_callV0 X 9 (m_X9_mover hl hL h1) ml_X9_80 im_yX9_mover se_yX9_mover in_X9 cd_yX9_mover hy_yX9_mover dX9_moveOnce_1 rfl (ad_mem hL (by decide)) (FW9 hL) ⟨(by decide), (by decide)⟩ ⟨(by decide), (by decide)⟩ (Nat.le_of_ble_eq_true rfl) (fun _ h => h.elim) (fun r9 L9 f9 h9 => ?_)
  obtain ⟨h91, h92, h93⟩ := h9
  subst r9
  subst f9
  subst L9
  dsimp only [Option.toList, List.cons_append, List.nil_append, List.append]
  refine j_istore_n X (i := 1) dX9_moveOnce_4 rfl (by decide) (lvOK_s rfl okPrev_ref) ?_
  dsimp only [List.set]
  refine j_aload_n X (i := 0) dX9_moveOnce_5 rfl rfl ?_
  refine j_iload_n X (i := 1) dX9_moveOnce_6 rfl rfl ?_
  obtain ⟨x5, h4, hR⟩ := bP_inv hR
  refine j_callV1 X 9 (m_X9_gainsOf hl hL h4) ml_X9_104 im_yX9_gainsOf se_yX9_gainsOf in_X9 cd_yX9_gainsOf hy_yX9_gainsOf dX9_moveOnce_7 rfl (ad_mem hL (by decide)) (FW9 hL) ⟨(by decide), (by decide)⟩ ⟨(by decide), (by decide)⟩ (Nat.le_of_ble_eq_true rfl) (fun _ h => h.elim) (fun r9 L9 f9 h9 => ?_)
  obtain ⟨h91, h92, h93⟩ := h9
  subst r9
  subst f9
  subst L9
  dsimp only [Option.toList, List.cons_append, List.nil_append, List.append]
  refine j_istore_n X (i := 2) dX9_moveOnce_10 rfl (by decide) (lvOK_s rfl okPrev_int) ?_
  dsimp only [List.set]
  refine j_aload_n X (i := 0) dX9_moveOnce_11 rfl rfl ?_
  refine j_iload_n X (i := 1) dX9_moveOnce_12 rfl rfl ?_
  refine j_iconst X (0) dX9_moveOnce_13 (by decide) ?_
  refine j_iload_n X (i := 2) dX9_moveOnce_14 rfl rfl ?_
  obtain ⟨b8, h7, hR⟩ := bP_inv hR
  refine j_callV3 X 9 (m_X9_add hl hL h7) ml_X9_84 im_yX9_add se_yX9_add in_X9 cd_yX9_add hy_yX9_add dX9_moveOnce_15 rfl (ad_mem hL (by decide)) (FW9 hL) ⟨(by decide), (by decide)⟩ ⟨(by decide), (by decide)⟩ (Nat.le_of_ble_eq_true rfl) (fun _ h => h.elim) (fun r9 L9 f9 h9 => ?_)
  obtain ⟨h91, h92, h93⟩ := h9
  subst r9
  subst f9
  subst L9
  dsimp only [Option.toList, List.cons_append, List.nil_append, List.append]
  refine j_aload_n X (i := 0) dX9_moveOnce_18 rfl rfl ?_
  refine j_iload_n X (i := 1) dX9_moveOnce_19 rfl rfl ?_
  refine j_iconst X (1) dX9_moveOnce_20 (by decide) ?_
  refine j_iconst X (1) dX9_moveOnce_21 (by decide) ?_
  obtain ⟨b11, h10, hR⟩ := bP_inv hR
  refine j_callV3 X 9 (m_X9_add hl hL h10) ml_X9_84 im_yX9_add se_yX9_add in_X9 cd_yX9_add hy_yX9_add dX9_moveOnce_22 rfl (ad_mem hL (by decide)) (FW9 hL) ⟨(by decide), (by decide)⟩ ⟨(by decide), (by decide)⟩ (Nat.le_of_ble_eq_true rfl) (fun _ h => h.elim) (fun r9 L9 f9 h9 => ?_)
  obtain ⟨h91, h92, h93⟩ := h9
  subst r9
  subst f9
  subst L9
  dsimp only [Option.toList, List.cons_append, List.nil_append, List.append]
  refine j_aload_n X (i := 0) dX9_moveOnce_25 rfl rfl ?_
  refine j_iload_n X (i := 1) dX9_moveOnce_26 rfl rfl ?_
  refine j_iconst X (3) dX9_moveOnce_27 (by decide) ?_
  refine j_iconst X (1) dX9_moveOnce_28 (by decide) ?_
  obtain ⟨b14, h13, hR⟩ := bP_inv hR
  refine j_callV3 X 9 (m_X9_add hl hL h13) ml_X9_84 im_yX9_add se_yX9_add in_X9 cd_yX9_add hy_yX9_add dX9_moveOnce_29 rfl (ad_mem hL (by decide)) (FW9 hL) ⟨(by decide), (by decide)⟩ ⟨(by decide), (by decide)⟩ (Nat.le_of_ble_eq_true rfl) (fun _ h => h.elim) (fun r9 L9 f9 h9 => ?_)
  obtain ⟨h91, h92, h93⟩ := h9
  subst r9
  subst f9
  subst L9
  dsimp only [Option.toList, List.cons_append, List.nil_append, List.append]
  refine j_aload_n X (i := 0) dX9_moveOnce_32 rfl rfl ?_
  refine j_iload_n X (i := 1) dX9_moveOnce_33 rfl rfl ?_
  refine j_iconst X (0) dX9_moveOnce_34 (by decide) ?_
  obtain ⟨x17, h16, hR⟩ := bP_inv hR
  refine j_callV2 X 9 (m_X9_its hl hL h16) ml_X9_87 im_yX9_its se_yX9_its in_X9 cd_yX9_its hy_yX9_its dX9_moveOnce_35 rfl (ad_mem hL (by decide)) (FW9 hL) ⟨(by decide), (by decide)⟩ ⟨(by decide), (by decide)⟩ (Nat.le_of_ble_eq_true rfl) (fun _ h => h.elim) (fun r9 L9 f9 h9 => ?_)
  obtain ⟨h91, h92, h93⟩ := h9
  subst r9
  subst f9
  subst L9
  dsimp only [Option.toList, List.cons_append, List.nil_append, List.append]
  have hb61 : ∀ (b19 : Mem) , f_X9_moveOnce_61 N x2 x5 b19 = some (v, a') → J G p l e ({ frames := 3, cells := 0, slots := 0, locals := 65 } : Room) s m ar below meth c9 A Q 3 0 0 61 [some (.ref (ad L 96)), some (.int x2), some (.int x5)] [] L (FW G L a b19 c) := by
    intro b19 hR
    unfold f_X9_moveOnce_61 at hR
    refine j_aload_n X (i := 0) dX9_moveOnce_61 rfl rfl ?_
    refine j_iload_n X (i := 1) dX9_moveOnce_62 rfl rfl ?_
    refine j_aload_n X (i := 0) dX9_moveOnce_63 rfl rfl ?_
    refine j_iload_n X (i := 1) dX9_moveOnce_64 rfl rfl ?_
    refine j_bipush X (6) dX9_moveOnce_65 (by decide) ?_
    obtain ⟨x21, h20, hR⟩ := bP_inv hR
    refine j_callV2 X 9 (m_X9_of hl hL h20) ml_X9_57 im_yX9_of se_yX9_of in_X9 cd_yX9_of hy_yX9_of dX9_moveOnce_67 rfl (ad_mem hL (by decide)) (FW9 hL) ⟨(by decide), (by decide)⟩ ⟨(by decide), (by decide)⟩ (Nat.le_of_ble_eq_true rfl) (fun _ h => h.elim) (fun r9 L9 f9 h9 => ?_)
    obtain ⟨h91, h92, h93⟩ := h9
    subst r9
    subst f9
    subst L9
    dsimp only [Option.toList, List.cons_append, List.nil_append, List.append]
    refine j_aload_n X (i := 0) dX9_moveOnce_70 rfl rfl ?_
    refine j_iload_n X (i := 1) dX9_moveOnce_71 rfl rfl ?_
    refine j_bipush X (7) dX9_moveOnce_72 (by decide) ?_
    obtain ⟨x24, h23, hR⟩ := bP_inv hR
    refine j_callV2 X 9 (m_X9_of hl hL h23) ml_X9_57 im_yX9_of se_yX9_of in_X9 cd_yX9_of hy_yX9_of dX9_moveOnce_74 rfl (ad_mem hL (by decide)) (FW9 hL) ⟨(by decide), (by decide)⟩ ⟨(by decide), (by decide)⟩ (Nat.le_of_ble_eq_true rfl) (fun _ h => h.elim) (fun r9 L9 f9 h9 => ?_)
    obtain ⟨h91, h92, h93⟩ := h9
    subst r9
    subst f9
    subst L9
    dsimp only [Option.toList, List.cons_append, List.nil_append, List.append]
    refine j_iload_n X (i := 2) dX9_moveOnce_77 rfl rfl ?_
    obtain ⟨b27, h26, hR⟩ := bP_inv hR
    refine j_callV4 X 9 (m_X9_keepLog hl hL h26) ml_X9_110 im_yX9_keepLog se_yX9_keepLog in_X9 cd_yX9_keepLog hy_yX9_keepLog dX9_moveOnce_78 rfl (ad_mem hL (by decide)) (FW9 hL) ⟨(by decide), (by decide)⟩ ⟨(by decide), (by decide)⟩ (Nat.le_of_ble_eq_true rfl) (fun _ h => h.elim) (fun r9 L9 f9 h9 => ?_)
    obtain ⟨h91, h92, h93⟩ := h9
    subst r9
    subst f9
    subst L9
    dsimp only [Option.toList, List.cons_append, List.nil_append, List.append]
    refine j_aload_n X (i := 0) dX9_moveOnce_81 rfl rfl ?_
    refine j_iload_n X (i := 1) dX9_moveOnce_82 rfl rfl ?_
    refine j_bipush X (6) dX9_moveOnce_83 (by decide) ?_
    refine j_iconst X (0) dX9_moveOnce_85 (by decide) ?_
    obtain ⟨b30, h29, hR⟩ := bP_inv hR
    refine j_callV3 X 9 (m_X9_put hl hL h29) ml_X9_53 im_yX9_put se_yX9_put in_X9 cd_yX9_put hy_yX9_put dX9_moveOnce_86 rfl (ad_mem hL (by decide)) (FW9 hL) ⟨(by decide), (by decide)⟩ ⟨(by decide), (by decide)⟩ (Nat.le_of_ble_eq_true rfl) (fun _ h => h.elim) (fun r9 L9 f9 h9 => ?_)
    obtain ⟨h91, h92, h93⟩ := h9
    subst r9
    subst f9
    subst L9
    dsimp only [Option.toList, List.cons_append, List.nil_append, List.append]
    refine j_aload_n X (i := 0) dX9_moveOnce_89 rfl rfl ?_
    refine j_iload_n X (i := 1) dX9_moveOnce_90 rfl rfl ?_
    refine j_bipush X (7) dX9_moveOnce_91 (by decide) ?_
    refine j_iconst X (0) dX9_moveOnce_93 (by decide) ?_
    obtain ⟨b33, h32, hR⟩ := bP_inv hR
    refine j_callV3 X 9 (m_X9_put hl hL h32) ml_X9_53 im_yX9_put se_yX9_put in_X9 cd_yX9_put hy_yX9_put dX9_moveOnce_94 rfl (ad_mem hL (by decide)) (FW9 hL) ⟨(by decide), (by decide)⟩ ⟨(by decide), (by decide)⟩ (Nat.le_of_ble_eq_true rfl) (fun _ h => h.elim) (fun r9 L9 f9 h9 => ?_)
    obtain ⟨h91, h92, h93⟩ := h9
    subst r9
    subst f9
    subst L9
    dsimp only [Option.toList, List.cons_append, List.nil_append, List.append]
    refine j_aload_n X (i := 0) dX9_moveOnce_97 rfl rfl ?_
    refine j_getf X 9 3 rfl cw_X9 fl_X9_24 (by decide) dX9_moveOnce_98 (ad_mem hL (by decide)) (FW9 hL) rfl ?_
    refine j_iconst X (1) dX9_moveOnce_101 (by decide) ?_
    refine j_iconst X (1) dX9_moveOnce_102 (by decide) ?_
    refine j_iload_n X (i := 1) dX9_moveOnce_103 rfl rfl ?_
    refine j_isub X dX9_moveOnce_104 ?_
    obtain ⟨b35, h36, hR⟩ := bT_inv hR
    refine trow_iast X hL (by unfold vp_in; decide) h36 dX9_moveOnce_105 ?_
    refine j_iload_n X (i := 2) dX9_moveOnce_106 rfl rfl ?_
    exact q_iret X hQ dX9_moveOnce_107 rfl ⟨(by decide), (by decide)⟩ ⟨rfl, congrArg (fun z => FW G L a z c) (Prod.mk.inj (Option.some.inj hR)).2, congrArg (fun z => some (Value.int z)) (Prod.mk.inj (Option.some.inj hR)).1⟩
  refine j_if_le X (tgt := 61) dX9_moveOnce_38 (by decide) (fun h37 => ?_) (fun h37 => ?_)
  · replace hR := (if_pos h37).symm.trans hR
    exact J.sub (lvle_of (by simp only [lvle, and_self])) (hb61 _  hR)
  · replace hR := (if_neg h37).symm.trans hR
    refine j_aload_n X (i := 0) dX9_moveOnce_41 rfl rfl ?_
    refine j_iload_n X (i := 1) dX9_moveOnce_42 rfl rfl ?_
    refine j_iconst X (3) dX9_moveOnce_43 (by decide) ?_
    obtain ⟨x39, h38, hR⟩ := bP_inv hR
    refine j_callV2 X 9 (m_X9_of hl hL h38) ml_X9_57 im_yX9_of se_yX9_of in_X9 cd_yX9_of hy_yX9_of dX9_moveOnce_44 rfl (ad_mem hL (by decide)) (FW9 hL) ⟨(by decide), (by decide)⟩ ⟨(by decide), (by decide)⟩ (Nat.le_of_ble_eq_true rfl) (fun _ h => h.elim) (fun r9 L9 f9 h9 => ?_)
    obtain ⟨h91, h92, h93⟩ := h9
    subst r9
    subst f9
    subst L9
    dsimp only [Option.toList, List.cons_append, List.nil_append, List.append]
    refine j_aload_n X (i := 0) dX9_moveOnce_47 rfl rfl ?_
    refine j_iload_n X (i := 1) dX9_moveOnce_48 rfl rfl ?_
    refine j_iconst X (0) dX9_moveOnce_49 (by decide) ?_
    obtain ⟨x42, h41, hR⟩ := bP_inv hR
    refine j_callV2 X 9 (m_X9_its hl hL h41) ml_X9_87 im_yX9_its se_yX9_its in_X9 cd_yX9_its hy_yX9_its dX9_moveOnce_50 rfl (ad_mem hL (by decide)) (FW9 hL) ⟨(by decide), (by decide)⟩ ⟨(by decide), (by decide)⟩ (Nat.le_of_ble_eq_true rfl) (fun _ h => h.elim) (fun r9 L9 f9 h9 => ?_)
    obtain ⟨h91, h92, h93⟩ := h9
    subst r9
    subst f9
    subst L9
    dsimp only [Option.toList, List.cons_append, List.nil_append, List.append]
    refine j_icmp_ne X (tgt := 61) dX9_moveOnce_53 (by decide) (fun h44 => ?_) (fun h44 => ?_)
    · replace hR := (if_neg h44).symm.trans hR
      exact J.sub (lvle_of (by simp only [lvle, and_self])) (hb61 _  hR)
    · replace hR := (if_pos h44).symm.trans hR
      refine j_aload_n X (i := 0) dX9_moveOnce_56 rfl rfl ?_
      refine j_iload_n X (i := 1) dX9_moveOnce_57 rfl rfl ?_
      obtain ⟨b46, h45, hR⟩ := bP_inv hR
      refine j_callV1 X 9 (m_X9_beginPeriod hl hL h45) ml_X9_107 im_yX9_beginPeriod se_yX9_beginPeriod in_X9 cd_yX9_beginPeriod hy_yX9_beginPeriod dX9_moveOnce_58 rfl (ad_mem hL (by decide)) (FW9 hL) ⟨(by decide), (by decide)⟩ ⟨(by decide), (by decide)⟩ (Nat.le_of_ble_eq_true rfl) (fun _ h => h.elim) (fun r9 L9 f9 h9 => ?_)
      obtain ⟨h91, h92, h93⟩ := h9
      subst r9
      subst f9
      subst L9
      dsimp only [Option.toList, List.cons_append, List.nil_append, List.append]
      exact J.sub (lvle_of (by simp only [lvle, and_self])) (hb61 _  hR)
def f_X9_play_17 (N : Nat) (p0 : Int32) (p1 : Int32) (p2 : Int32) : Nat → Int32 → Mem → Option Mem
  | 0, _, _ => none
  | fu + 1, x5, b6 => bP (f_X9_isState N (1 : Int32) b6) fun x8 => if x8 = 0 then (some b6) else (if p2 ≤ (b6 0 10) then (some b6) else (bP (f_X9_mover N b6) fun x13 => bT (f_X9_paceOf x13 p0 p1 b6) fun x16 => bP (f_X9_of N x13 (6 : Int32) b6) fun x19 => bT (mxI (0 : Int32) (x16 - x19)) fun x21 => bP (f_X9_ticks N (mnI x21 x5) b6) fun b24 => if x21 ≤ x5 then (bT (x5 - x21) fun x27 => bP (f_X9_isState N (1 : Int32) b24) fun x30 => if x30 = 0 then (f_X9_play_17 N p0 p1 p2 fu x27 b24) else (bP2 (f_X9_moveOnce N b24) fun x34 b35 => bT (up2 b35 0 10 ((b35 0 10) + (1 : Int32))) fun b37 => f_X9_play_17 N p0 p1 p2 fu x27 b37)) else (some b24)))
theorem f_X9_play_17_s (N : Nat) (p0 : Int32) (p1 : Int32) (p2 : Int32) {fu : Nat} {x5 : Int32} {b6 : Mem} : f_X9_play_17 N p0 p1 p2 (fu + 1) x5 b6 = (bP (f_X9_isState N (1 : Int32) b6) fun x8 => if x8 = 0 then (some b6) else (if p2 ≤ (b6 0 10) then (some b6) else (bP (f_X9_mover N b6) fun x13 => bT (f_X9_paceOf x13 p0 p1 b6) fun x16 => bP (f_X9_of N x13 (6 : Int32) b6) fun x19 => bT (mxI (0 : Int32) (x16 - x19)) fun x21 => bP (f_X9_ticks N (mnI x21 x5) b6) fun b24 => if x21 ≤ x5 then (bT (x5 - x21) fun x27 => bP (f_X9_isState N (1 : Int32) b24) fun x30 => if x30 = 0 then (f_X9_play_17 N p0 p1 p2 fu x27 b24) else (bP2 (f_X9_moveOnce N b24) fun x34 b35 => bT (up2 b35 0 10 ((b35 0 10) + (1 : Int32))) fun b37 => f_X9_play_17 N p0 p1 p2 fu x27 b37)) else (some b24)))) := rfl
def f_X9_play (N : Nat) (p0 : Int32) (p1 : Int32) (p2 : Int32) (p3 : Int32) (b : Mem) : Option Mem := bT (upR b (rowM (b 0 3)) (upd (b (rowM (b 0 3))) ((10 : Int32)).toNatClampNeg (0 : Int32))) fun b1 => bT (up2 b1 0 10 (0 : Int32)) fun b3 => f_X9_play_17 N p0 p1 p2 N p3 b3
set_option maxRecDepth 100000 in
set_option maxHeartbeats 4000000 in
theorem m_X9_play {l : Launch} (hl : l.stackTraces = false) {G : GG} {L : List Nat} (hL : LOK L) {a b c : Mem} {N : Nat} {p0 : Int32} {p1 : Int32} {p2 : Int32} {p3 : Int32} {a' : Mem} (hR : f_X9_play N p0 p1 p2 p3 b = some a') : Ct l G yX9_play (.code yX9_play cX9_play 9 none) 5 107 0 0 [.ref (ad L 96), .int p0, .int p1, .int p2, .int p3] L (FW G L a b c) px0 (stay L (fun r f1 => f1 = (FW G L a a' c) ∧ r = none)) := by
  refine Ct.ofq (own := RX9) hl rfl (by decide) [some (.ref (ad L 96)), some (.int p0), some (.int p1), some (.int p2), some (.int p3), none, none, none, none] rfl (Nat.le_of_ble_eq_true rfl) ?_
  intro p e s m below meth c9 A ar Q hQ X
  unfold f_X9_play at hR
  refine j_aload_n X (i := 0) dX9_play_0 rfl rfl ?_
  refine j_getf X 9 3 rfl cw_X9 fl_X9_24 (by decide) dX9_play_1 (ad_mem hL (by decide)) (FW9 hL) rfl ?_
  refine j_bipush X (10) dX9_play_4 (by decide) ?_
  refine j_iconst X (0) dX9_play_6 (by decide) ?_
  obtain ⟨b1, h2, hR⟩ := bT_inv hR
  refine trow_iast X hL (by unfold vp_in; decide) h2 dX9_play_7 ?_
  refine j_aload_n X (i := 0) dX9_play_8 rfl rfl ?_
  refine j_iconst X (0) dX9_play_9 (by decide) ?_
  obtain ⟨b3, h4, hR⟩ := bT_inv hR
  refine tp_X9_10 X hL h4 fl_X9_143 dX9_play_10 ?_
  refine j_iload X dX9_play_13 rfl ?_
  refine j_istore X dX9_play_15 (by decide) (lvOK_s rfl okPrev_int) ?_
  dsimp only [List.set]
  have hb17 : ∀ (fu : Nat) (x5 : Int32) (b6 : Mem) , f_X9_play_17 N p0 p1 p2 fu x5 b6 = some a' → J G p l e ({ frames := 5, cells := 0, slots := 0, locals := 107 } : Room) s m ar below meth c9 A Q 9 0 0 17 [some (.ref (ad L 96)), some (.int p0), some (.int p1), some (.int p2), none, some (.int x5), none, none, none] [] L (FW G L a b6 c) := by
    intro fu
    induction fu with
    | zero =>
      intro x5 b6 hR
      cases hR
    | succ fu ih =>
      intro x5 b6 hR
      replace hR := (f_X9_play_17_s N p0 p1 p2).symm.trans hR
      refine j_aload_n X (i := 0) dX9_play_17 rfl rfl ?_
      refine j_iconst X (1) dX9_play_18 (by decide) ?_
      obtain ⟨x8, h7, hR⟩ := bP_inv hR
      refine j_callV1 X 9 (m_X9_isState hl hL h7) ml_X9_76 im_yX9_isState se_yX9_isState in_X9 cd_yX9_isState hy_yX9_isState dX9_play_19 rfl (ad_mem hL (by decide)) (FW9 hL) ⟨(by decide), (by decide)⟩ ⟨(by decide), (by decide)⟩ (Nat.le_of_ble_eq_true rfl) (fun _ h => h.elim) (fun r9 L9 f9 h9 => ?_)
      obtain ⟨h91, h92, h93, h9⟩ := h9
      subst r9
      subst f9
      subst L9
      dsimp only [Option.toList, List.cons_append, List.nil_append, List.append]
      refine j_if_eq X (tgt := 114) dX9_play_22 (by decide) (fun h10 => ?_) (fun h10 => ?_)
      · replace hR := (if_pos h10).symm.trans hR
        exact q_vret X hQ dX9_play_114 rfl ⟨(by decide), (by decide)⟩ ⟨rfl, congrArg (fun z => FW G L a z c) (Option.some.inj hR), rfl⟩
      · replace hR := (if_neg h10).symm.trans hR
        refine j_aload_n X (i := 0) dX9_play_25 rfl rfl ?_
        refine j_getf X 9 10 rfl cw_X9 fl_X9_143 (by decide) dX9_play_26 (ad_mem hL (by decide)) (FW9 hL) rfl ?_
        refine j_iload_n X (i := 3) dX9_play_29 rfl rfl ?_
        refine j_icmp_ge X (tgt := 114) dX9_play_30 (by decide) (fun h11 => ?_) (fun h11 => ?_)
        · replace hR := (if_pos h11).symm.trans hR
          exact q_vret X hQ dX9_play_114 rfl ⟨(by decide), (by decide)⟩ ⟨rfl, congrArg (fun z => FW G L a z c) (Option.some.inj hR), rfl⟩
        · replace hR := (if_neg h11).symm.trans hR
          refine j_aload_n X (i := 0) dX9_play_33 rfl rfl ?_
          obtain ⟨x13, h12, hR⟩ := bP_inv hR
          refine j_callV0 X 9 (m_X9_mover hl hL h12) ml_X9_80 im_yX9_mover se_yX9_mover in_X9 cd_yX9_mover hy_yX9_mover dX9_play_34 rfl (ad_mem hL (by decide)) (FW9 hL) ⟨(by decide), (by decide)⟩ ⟨(by decide), (by decide)⟩ (Nat.le_of_ble_eq_true rfl) (fun _ h => h.elim) (fun r9 L9 f9 h9 => ?_)
          obtain ⟨h91, h92, h93⟩ := h9
          subst r9
          subst f9
          subst L9
          dsimp only [Option.toList, List.cons_append, List.nil_append, List.append]
          refine j_istore X dX9_play_37 (by decide) (lvOK_s rfl okPrev_int) ?_
          dsimp only [List.set]
          refine j_iconst X (0) dX9_play_39 (by decide) ?_
          refine j_iload X dX9_play_40 rfl ?_
          refine j_iload_n X (i := 1) dX9_play_42 rfl rfl ?_
          refine j_iload_n X (i := 2) dX9_play_43 rfl rfl ?_
          obtain ⟨x16, h15, hR⟩ := bT_inv hR
          refine j_callS3 X (m_X9_paceOf hl hL h15) ml_X9_146 st_yX9_paceOf in_X9 cd_yX9_paceOf hy_yX9_paceOf dX9_play_44 ⟨(by decide), (by decide)⟩ ⟨(by decide), (by decide)⟩ (Nat.le_of_ble_eq_true rfl) (fun _ h => h.elim) (fun r9 L9 f9 h9 => ?_)
          obtain ⟨h91, h92, h93⟩ := h9
          subst r9
          subst f9
          subst L9
          dsimp only [Option.toList, List.cons_append, List.nil_append, List.append]
          refine j_aload_n X (i := 0) dX9_play_47 rfl rfl ?_
          refine j_iload X dX9_play_48 rfl ?_
          refine j_bipush X (6) dX9_play_50 (by decide) ?_
          obtain ⟨x19, h18, hR⟩ := bP_inv hR
          refine j_callV2 X 9 (m_X9_of hl hL h18) ml_X9_57 im_yX9_of se_yX9_of in_X9 cd_yX9_of hy_yX9_of dX9_play_52 rfl (ad_mem hL (by decide)) (FW9 hL) ⟨(by decide), (by decide)⟩ ⟨(by decide), (by decide)⟩ (Nat.le_of_ble_eq_true rfl) (fun _ h => h.elim) (fun r9 L9 f9 h9 => ?_)
          obtain ⟨h91, h92, h93⟩ := h9
          subst r9
          subst f9
          subst L9
          dsimp only [Option.toList, List.cons_append, List.nil_append, List.append]
          refine j_isub X dX9_play_55 ?_
          refine j_mmax X ml_X9_114 dX9_play_56 ⟨(by decide), (Nat.le_of_ble_eq_true rfl)⟩ ⟨(by decide), (by decide)⟩ ?_
          obtain ⟨x21, h22, hR⟩ := bT_inv hR
          refine J.eqi h22 ?_
          refine j_istore X dX9_play_59 (by decide) (lvOK_s rfl okPrev_int) ?_
          dsimp only [List.set]
          refine j_aload_n X (i := 0) dX9_play_61 rfl rfl ?_
          refine j_iload X dX9_play_62 rfl ?_
          refine j_iload X dX9_play_64 rfl ?_
          refine j_mmin X ml_X9_99 dX9_play_66 ⟨(by decide), (Nat.le_of_ble_eq_true rfl)⟩ ⟨(by decide), (by decide)⟩ ?_
          obtain ⟨b24, h23, hR⟩ := bP_inv hR
          refine j_callV1 X 9 (m_X9_ticks hl hL h23) ml_X9_150 im_yX9_ticks se_yX9_ticks in_X9 cd_yX9_ticks hy_yX9_ticks dX9_play_69 rfl (ad_mem hL (by decide)) (FW9 hL) ⟨(by decide), (by decide)⟩ ⟨(by decide), (by decide)⟩ (Nat.le_of_ble_eq_true rfl) (fun _ h => h.elim) (fun r9 L9 f9 h9 => ?_)
          obtain ⟨h91, h92, h93⟩ := h9
          subst r9
          subst f9
          subst L9
          dsimp only [Option.toList, List.cons_append, List.nil_append, List.append]
          refine j_iload X dX9_play_72 rfl ?_
          refine j_iload X dX9_play_74 rfl ?_
          refine j_icmp_le X (tgt := 80) dX9_play_76 (by decide) (fun h26 => ?_) (fun h26 => ?_)
          · replace hR := (if_pos h26).symm.trans hR
            refine j_iload X dX9_play_80 rfl ?_
            refine j_iload X dX9_play_82 rfl ?_
            refine j_isub X dX9_play_84 ?_
            obtain ⟨x27, h28, hR⟩ := bT_inv hR
            refine J.eqi h28 ?_
            refine j_istore X dX9_play_85 (by decide) (lvOK_s rfl okPrev_none) ?_
            dsimp only [List.set]
            refine j_aload_n X (i := 0) dX9_play_87 rfl rfl ?_
            refine j_iconst X (1) dX9_play_88 (by decide) ?_
            obtain ⟨x30, h29, hR⟩ := bP_inv hR
            refine j_callV1 X 9 (m_X9_isState hl hL h29) ml_X9_76 im_yX9_isState se_yX9_isState in_X9 cd_yX9_isState hy_yX9_isState dX9_play_89 rfl (ad_mem hL (by decide)) (FW9 hL) ⟨(by decide), (by decide)⟩ ⟨(by decide), (by decide)⟩ (Nat.le_of_ble_eq_true rfl) (fun _ h => h.elim) (fun r9 L9 f9 h9 => ?_)
            obtain ⟨h91, h92, h93, h31⟩ := h9
            subst r9
            subst f9
            subst L9
            dsimp only [Option.toList, List.cons_append, List.nil_append, List.append]
            refine j_if_eq X (tgt := 111) dX9_play_92 (by decide) (fun h32 => ?_) (fun h32 => ?_)
            · replace hR := (if_pos h32).symm.trans hR
              refine j_goto X (tgt := 17) dX9_play_111 (by decide) ?_
              exact J.sub (lvle_of (by simp only [lvle, and_self])) (ih _ _  hR)
            · replace hR := (if_neg h32).symm.trans hR
              refine j_aload_n X (i := 0) dX9_play_95 rfl rfl ?_
              obtain ⟨x34, b35, h33, hR⟩ := bP2_inv hR
              refine j_callV0 X 9 (m_X9_moveOnce hl hL h33) ml_X9_153 im_yX9_moveOnce se_yX9_moveOnce in_X9 cd_yX9_moveOnce hy_yX9_moveOnce dX9_play_96 rfl (ad_mem hL (by decide)) (FW9 hL) ⟨(by decide), (by decide)⟩ ⟨(by decide), (by decide)⟩ (Nat.le_of_ble_eq_true rfl) (fun _ h => h.elim) (fun r9 L9 f9 h9 => ?_)
              obtain ⟨h91, h92, h93⟩ := h9
              subst r9
              subst f9
              subst L9
              dsimp only [Option.toList, List.cons_append, List.nil_append, List.append]
              refine j_istore X dX9_play_99 (by decide) (lvOK_s rfl okPrev_int) ?_
              dsimp only [List.set]
              refine j_aload_n X (i := 0) dX9_play_101 rfl rfl ?_
              refine j_dup X dX9_play_102 rfl ?_
              refine j_getf X 9 10 rfl cw_X9 fl_X9_143 (by decide) dX9_play_103 (ad_mem hL (by decide)) (FW9 hL) rfl ?_
              refine j_iconst X (1) dX9_play_106 (by decide) ?_
              refine j_iadd X dX9_play_107 ?_
              obtain ⟨b37, h38, hR⟩ := bT_inv hR
              refine tp_X9_10 X hL h38 fl_X9_143 dX9_play_108 ?_
              refine j_goto X (tgt := 17) dX9_play_111 (by decide) ?_
              exact J.sub (lvle_of (by simp only [lvle, and_self])) (ih _ _  hR)
          · replace hR := (if_neg h26).symm.trans hR
            exact q_vret X hQ dX9_play_79 rfl ⟨(by decide), (by decide)⟩ ⟨rfl, congrArg (fun z => FW G L a z c) (Option.some.inj hR), rfl⟩
  exact J.sub (lvle_of (by simp only [lvle, and_self])) (hb17 _ _ _  hR)
def f_X9_ends (N : Nat) (p0 : Int32) (p1 : Int32) (b : Mem) : Option (Int32 × Mem) := bT (f_X9_arePaces p0 p1 b) fun x2 => bT2 (f_X9_passes x2 b) fun x5 b6 => if x5 = 0 then (some ((0 : Int32), b6)) else (bP (f_X9_isState N (1 : Int32) b6) fun x10 => if x10 = 0 then (some ((-1 : Int32), b6)) else (bP (f_X9_keepAside N b6) fun b14 => bP (f_X9_play N p0 p1 (400 : Int32) (2147483647 : Int32) b14) fun b17 => bP2 (f_X9_layBack N (b17 (rowM (b17 0 3)) ((11 : Int32)).toNatClampNeg) b17) fun x20 b21 => some (x20, b21)))
set_option maxRecDepth 100000 in
set_option maxHeartbeats 4000000 in
theorem m_X9_ends {l : Launch} (hl : l.stackTraces = false) {G : GG} {L : List Nat} (hL : LOK L) {a b c : Mem} {N : Nat} {p0 : Int32} {p1 : Int32} {v : Int32} {a' : Mem} (hR : f_X9_ends N p0 p1 b = some (v, a')) : Ct l G yX9_ends (.code yX9_ends cX9_ends 3 (some .int)) 6 135 0 0 [.ref (ad L 96), .int p0, .int p1] L (FW G L a b c) px0 (stay L (fun r f1 => f1 = (FW G L a a' c) ∧ r = some (.int v))) := by
  refine Ct.ofq (own := RX9) hl rfl (by decide) [some (.ref (ad L 96)), some (.int p0), some (.int p1)] rfl (Nat.le_of_ble_eq_true rfl) ?_
  intro p e s m below meth c9 A ar Q hQ X
  unfold f_X9_ends at hR
  refine j_aload_n X (i := 0) dX9_ends_0 rfl rfl ?_
  refine j_iload_n X (i := 1) dX9_ends_1 rfl rfl ?_
  refine j_iload_n X (i := 2) dX9_ends_2 rfl rfl ?_
  obtain ⟨x2, h1, hR⟩ := bT_inv hR
  refine j_callS2 X (m_X9_arePaces hl hL h1) ml_X9_363 st_yX9_arePaces in_X9 cd_yX9_arePaces hy_yX9_arePaces dX9_ends_3 ⟨(by decide), (by decide)⟩ ⟨(by decide), (by decide)⟩ (Nat.le_of_ble_eq_true rfl) (fun _ h => h.elim) (fun r9 L9 f9 h9 => ?_)
  obtain ⟨h91, h92, h93, h3⟩ := h9
  subst r9
  subst f9
  subst L9
  dsimp only [Option.toList, List.cons_append, List.nil_append, List.append]
  obtain ⟨x5, b6, h4, hR⟩ := bT2_inv hR
  refine j_callV1 X 9 (m_X9_passes hl hL h3 h4) ml_X9_159 im_yX9_passes se_yX9_passes in_X9 cd_yX9_passes hy_yX9_passes dX9_ends_6 rfl (ad_mem hL (by decide)) (FW9 hL) ⟨(by decide), (by decide)⟩ ⟨(by decide), (by decide)⟩ (Nat.le_of_ble_eq_true rfl) (fun _ h => h.elim) (fun r9 L9 f9 h9 => ?_)
  obtain ⟨h91, h92, h93, h7⟩ := h9
  subst r9
  subst f9
  subst L9
  dsimp only [Option.toList, List.cons_append, List.nil_append, List.append]
  refine j_if_ne X (tgt := 14) dX9_ends_9 (by decide) (fun h8 => ?_) (fun h8 => ?_)
  · replace hR := (if_neg h8).symm.trans hR
    refine j_aload_n X (i := 0) dX9_ends_14 rfl rfl ?_
    refine j_iconst X (1) dX9_ends_15 (by decide) ?_
    obtain ⟨x10, h9, hR⟩ := bP_inv hR
    refine j_callV1 X 9 (m_X9_isState hl hL h9) ml_X9_76 im_yX9_isState se_yX9_isState in_X9 cd_yX9_isState hy_yX9_isState dX9_ends_16 rfl (ad_mem hL (by decide)) (FW9 hL) ⟨(by decide), (by decide)⟩ ⟨(by decide), (by decide)⟩ (Nat.le_of_ble_eq_true rfl) (fun _ h => h.elim) (fun r9 L9 f9 h9 => ?_)
    obtain ⟨h91, h92, h93, h11⟩ := h9
    subst r9
    subst f9
    subst L9
    dsimp only [Option.toList, List.cons_append, List.nil_append, List.append]
    refine j_if_ne X (tgt := 24) dX9_ends_19 (by decide) (fun h12 => ?_) (fun h12 => ?_)
    · replace hR := (if_neg h12).symm.trans hR
      refine j_aload_n X (i := 0) dX9_ends_24 rfl rfl ?_
      obtain ⟨b14, h13, hR⟩ := bP_inv hR
      refine j_callV0 X 9 (m_X9_keepAside hl hL h13) ml_X9_354 im_yX9_keepAside se_yX9_keepAside in_X9 cd_yX9_keepAside hy_yX9_keepAside dX9_ends_25 rfl (ad_mem hL (by decide)) (FW9 hL) ⟨(by decide), (by decide)⟩ ⟨(by decide), (by decide)⟩ (Nat.le_of_ble_eq_true rfl) (fun _ h => h.elim) (fun r9 L9 f9 h9 => ?_)
      obtain ⟨h91, h92, h93⟩ := h9
      subst r9
      subst f9
      subst L9
      dsimp only [Option.toList, List.cons_append, List.nil_append, List.append]
      refine j_aload_n X (i := 0) dX9_ends_28 rfl rfl ?_
      refine j_iload_n X (i := 1) dX9_ends_29 rfl rfl ?_
      refine j_iload_n X (i := 2) dX9_ends_30 rfl rfl ?_
      refine j_sipush X (400) dX9_ends_31 (by decide) ?_
      refine j_ldcw X dX9_ends_34 co_X9_369 ?_
      obtain ⟨b17, h16, hR⟩ := bP_inv hR
      refine j_callV4 X 9 (m_X9_play hl hL h16) ml_X9_370 im_yX9_play se_yX9_play in_X9 cd_yX9_play hy_yX9_play dX9_ends_37 rfl (ad_mem hL (by decide)) (FW9 hL) ⟨(by decide), (by decide)⟩ ⟨(by decide), (by decide)⟩ (Nat.le_of_ble_eq_true rfl) (fun _ h => h.elim) (fun r9 L9 f9 h9 => ?_)
      obtain ⟨h91, h92, h93⟩ := h9
      subst r9
      subst f9
      subst L9
      dsimp only [Option.toList, List.cons_append, List.nil_append, List.append]
      refine j_aload_n X (i := 0) dX9_ends_40 rfl rfl ?_
      refine j_aload_n X (i := 0) dX9_ends_41 rfl rfl ?_
      refine j_getf X 9 3 rfl cw_X9 fl_X9_24 (by decide) dX9_ends_42 (ad_mem hL (by decide)) (FW9 hL) rfl ?_
      refine j_bipush X (11) dX9_ends_45 (by decide) ?_
      refine j_iald X dX9_ends_47 (inLr hL) (FWrow hL) (by unfold vp_in; decide) ?_
      obtain ⟨x20, b21, h19, hR⟩ := bP2_inv hR
      refine j_callV1 X 9 (m_X9_layBack hl hL h19) ml_X9_357 im_yX9_layBack se_yX9_layBack in_X9 cd_yX9_layBack hy_yX9_layBack dX9_ends_48 rfl (ad_mem hL (by decide)) (FW9 hL) ⟨(by decide), (by decide)⟩ ⟨(by decide), (by decide)⟩ (Nat.le_of_ble_eq_true rfl) (fun _ h => h.elim) (fun r9 L9 f9 h9 => ?_)
      obtain ⟨h91, h92, h93⟩ := h9
      subst r9
      subst f9
      subst L9
      dsimp only [Option.toList, List.cons_append, List.nil_append, List.append]
      exact q_iret X hQ dX9_ends_51 rfl ⟨(by decide), (by decide)⟩ ⟨rfl, congrArg (fun z => FW G L a z c) (Prod.mk.inj (Option.some.inj hR)).2, congrArg (fun z => some (Value.int z)) (Prod.mk.inj (Option.some.inj hR)).1⟩
    · replace hR := (if_pos h12).symm.trans hR
      refine j_iconst X (-1) dX9_ends_22 (by decide) ?_
      exact q_iret X hQ dX9_ends_23 rfl ⟨(by decide), (by decide)⟩ ⟨rfl, congrArg (fun z => FW G L a z c) (Prod.mk.inj (Option.some.inj hR)).2, congrArg (fun z => some (Value.int z)) (Prod.mk.inj (Option.some.inj hR)).1⟩
  · replace hR := (if_pos h8).symm.trans hR
    refine j_iconst X (0) dX9_ends_12 (by decide) ?_
    exact q_iret X hQ dX9_ends_13 rfl ⟨(by decide), (by decide)⟩ ⟨rfl, congrArg (fun z => FW G L a z c) (Prod.mk.inj (Option.some.inj hR)).2, congrArg (fun z => some (Value.int z)) (Prod.mk.inj (Option.some.inj hR)).1⟩
def f_X9_endsAfter (N : Nat) (p0 : Int32) (p1 : Int32) (b : Mem) : Option (Int32 × Mem) := bT (f_X9_arePaces p0 p1 b) fun x2 => bT2 (f_X9_passes x2 b) fun x5 b6 => if x5 = 0 then (some ((0 : Int32), b6)) else (bP (f_X9_isState N (1 : Int32) b6) fun x10 => if x10 = 0 then (some ((-1 : Int32), b6)) else (bP (f_X9_keepAside N b6) fun b14 => bP (f_X9_play N p0 p1 (400 : Int32) (2147483647 : Int32) b14) fun b17 => bP2 (f_X9_layBack N (b17 0 10) b17) fun x20 b21 => some (x20, b21)))
set_option maxRecDepth 100000 in
set_option maxHeartbeats 4000000 in
theorem m_X9_endsAfter {l : Launch} (hl : l.stackTraces = false) {G : GG} {L : List Nat} (hL : LOK L) {a b c : Mem} {N : Nat} {p0 : Int32} {p1 : Int32} {v : Int32} {a' : Mem} (hR : f_X9_endsAfter N p0 p1 b = some (v, a')) : Ct l G yX9_endsAfter (.code yX9_endsAfter cX9_endsAfter 3 (some .int)) 6 135 0 0 [.ref (ad L 96), .int p0, .int p1] L (FW G L a b c) px0 (stay L (fun r f1 => f1 = (FW G L a a' c) ∧ r = some (.int v))) := by
  refine Ct.ofq (own := RX9) hl rfl (by decide) [some (.ref (ad L 96)), some (.int p0), some (.int p1)] rfl (Nat.le_of_ble_eq_true rfl) ?_
  intro p e s m below meth c9 A ar Q hQ X
  unfold f_X9_endsAfter at hR
  refine j_aload_n X (i := 0) dX9_endsAfter_0 rfl rfl ?_
  refine j_iload_n X (i := 1) dX9_endsAfter_1 rfl rfl ?_
  refine j_iload_n X (i := 2) dX9_endsAfter_2 rfl rfl ?_
  obtain ⟨x2, h1, hR⟩ := bT_inv hR
  refine j_callS2 X (m_X9_arePaces hl hL h1) ml_X9_363 st_yX9_arePaces in_X9 cd_yX9_arePaces hy_yX9_arePaces dX9_endsAfter_3 ⟨(by decide), (by decide)⟩ ⟨(by decide), (by decide)⟩ (Nat.le_of_ble_eq_true rfl) (fun _ h => h.elim) (fun r9 L9 f9 h9 => ?_)
  obtain ⟨h91, h92, h93, h3⟩ := h9
  subst r9
  subst f9
  subst L9
  dsimp only [Option.toList, List.cons_append, List.nil_append, List.append]
  obtain ⟨x5, b6, h4, hR⟩ := bT2_inv hR
  refine j_callV1 X 9 (m_X9_passes hl hL h3 h4) ml_X9_159 im_yX9_passes se_yX9_passes in_X9 cd_yX9_passes hy_yX9_passes dX9_endsAfter_6 rfl (ad_mem hL (by decide)) (FW9 hL) ⟨(by decide), (by decide)⟩ ⟨(by decide), (by decide)⟩ (Nat.le_of_ble_eq_true rfl) (fun _ h => h.elim) (fun r9 L9 f9 h9 => ?_)
  obtain ⟨h91, h92, h93, h7⟩ := h9
  subst r9
  subst f9
  subst L9
  dsimp only [Option.toList, List.cons_append, List.nil_append, List.append]
  refine j_if_ne X (tgt := 14) dX9_endsAfter_9 (by decide) (fun h8 => ?_) (fun h8 => ?_)
  · replace hR := (if_neg h8).symm.trans hR
    refine j_aload_n X (i := 0) dX9_endsAfter_14 rfl rfl ?_
    refine j_iconst X (1) dX9_endsAfter_15 (by decide) ?_
    obtain ⟨x10, h9, hR⟩ := bP_inv hR
    refine j_callV1 X 9 (m_X9_isState hl hL h9) ml_X9_76 im_yX9_isState se_yX9_isState in_X9 cd_yX9_isState hy_yX9_isState dX9_endsAfter_16 rfl (ad_mem hL (by decide)) (FW9 hL) ⟨(by decide), (by decide)⟩ ⟨(by decide), (by decide)⟩ (Nat.le_of_ble_eq_true rfl) (fun _ h => h.elim) (fun r9 L9 f9 h9 => ?_)
    obtain ⟨h91, h92, h93, h11⟩ := h9
    subst r9
    subst f9
    subst L9
    dsimp only [Option.toList, List.cons_append, List.nil_append, List.append]
    refine j_if_ne X (tgt := 24) dX9_endsAfter_19 (by decide) (fun h12 => ?_) (fun h12 => ?_)
    · replace hR := (if_neg h12).symm.trans hR
      refine j_aload_n X (i := 0) dX9_endsAfter_24 rfl rfl ?_
      obtain ⟨b14, h13, hR⟩ := bP_inv hR
      refine j_callV0 X 9 (m_X9_keepAside hl hL h13) ml_X9_354 im_yX9_keepAside se_yX9_keepAside in_X9 cd_yX9_keepAside hy_yX9_keepAside dX9_endsAfter_25 rfl (ad_mem hL (by decide)) (FW9 hL) ⟨(by decide), (by decide)⟩ ⟨(by decide), (by decide)⟩ (Nat.le_of_ble_eq_true rfl) (fun _ h => h.elim) (fun r9 L9 f9 h9 => ?_)
      obtain ⟨h91, h92, h93⟩ := h9
      subst r9
      subst f9
      subst L9
      dsimp only [Option.toList, List.cons_append, List.nil_append, List.append]
      refine j_aload_n X (i := 0) dX9_endsAfter_28 rfl rfl ?_
      refine j_iload_n X (i := 1) dX9_endsAfter_29 rfl rfl ?_
      refine j_iload_n X (i := 2) dX9_endsAfter_30 rfl rfl ?_
      refine j_sipush X (400) dX9_endsAfter_31 (by decide) ?_
      refine j_ldcw X dX9_endsAfter_34 co_X9_369 ?_
      obtain ⟨b17, h16, hR⟩ := bP_inv hR
      refine j_callV4 X 9 (m_X9_play hl hL h16) ml_X9_370 im_yX9_play se_yX9_play in_X9 cd_yX9_play hy_yX9_play dX9_endsAfter_37 rfl (ad_mem hL (by decide)) (FW9 hL) ⟨(by decide), (by decide)⟩ ⟨(by decide), (by decide)⟩ (Nat.le_of_ble_eq_true rfl) (fun _ h => h.elim) (fun r9 L9 f9 h9 => ?_)
      obtain ⟨h91, h92, h93⟩ := h9
      subst r9
      subst f9
      subst L9
      dsimp only [Option.toList, List.cons_append, List.nil_append, List.append]
      refine j_aload_n X (i := 0) dX9_endsAfter_40 rfl rfl ?_
      refine j_aload_n X (i := 0) dX9_endsAfter_41 rfl rfl ?_
      refine j_getf X 9 10 rfl cw_X9 fl_X9_143 (by decide) dX9_endsAfter_42 (ad_mem hL (by decide)) (FW9 hL) rfl ?_
      obtain ⟨x20, b21, h19, hR⟩ := bP2_inv hR
      refine j_callV1 X 9 (m_X9_layBack hl hL h19) ml_X9_357 im_yX9_layBack se_yX9_layBack in_X9 cd_yX9_layBack hy_yX9_layBack dX9_endsAfter_45 rfl (ad_mem hL (by decide)) (FW9 hL) ⟨(by decide), (by decide)⟩ ⟨(by decide), (by decide)⟩ (Nat.le_of_ble_eq_true rfl) (fun _ h => h.elim) (fun r9 L9 f9 h9 => ?_)
      obtain ⟨h91, h92, h93⟩ := h9
      subst r9
      subst f9
      subst L9
      dsimp only [Option.toList, List.cons_append, List.nil_append, List.append]
      exact q_iret X hQ dX9_endsAfter_48 rfl ⟨(by decide), (by decide)⟩ ⟨rfl, congrArg (fun z => FW G L a z c) (Prod.mk.inj (Option.some.inj hR)).2, congrArg (fun z => some (Value.int z)) (Prod.mk.inj (Option.some.inj hR)).1⟩
    · replace hR := (if_pos h12).symm.trans hR
      refine j_iconst X (-1) dX9_endsAfter_22 (by decide) ?_
      exact q_iret X hQ dX9_endsAfter_23 rfl ⟨(by decide), (by decide)⟩ ⟨rfl, congrArg (fun z => FW G L a z c) (Prod.mk.inj (Option.some.inj hR)).2, congrArg (fun z => some (Value.int z)) (Prod.mk.inj (Option.some.inj hR)).1⟩
  · replace hR := (if_pos h8).symm.trans hR
    refine j_iconst X (0) dX9_endsAfter_12 (by decide) ?_
    exact q_iret X hQ dX9_endsAfter_13 rfl ⟨(by decide), (by decide)⟩ ⟨rfl, congrArg (fun z => FW G L a z c) (Prod.mk.inj (Option.some.inj hR)).2, congrArg (fun z => some (Value.int z)) (Prod.mk.inj (Option.some.inj hR)).1⟩
def f_X9_movesIn_26 (N : Nat) (p0 : Int32) (p1 : Int32) (p2 : Int32) (b : Mem) (x4 : Int32) : Option (Int32 × Mem) := bT2 (f_X9_passes x4 b) fun x6 b7 => if x6 = 0 then (some ((0 : Int32), b7)) else (bP (f_X9_isState N (1 : Int32) b7) fun x11 => if x11 = 0 then (some ((-1 : Int32), b7)) else (bP (f_X9_keepAside N b7) fun b15 => bP (f_X9_play N p0 p1 (2147483647 : Int32) p2 b15) fun b18 => bP2 (f_X9_layBack N (b18 0 10) b18) fun x21 b22 => some (x21, b22)))
def f_X9_movesIn_25 (N : Nat) (p0 : Int32) (p1 : Int32) (p2 : Int32) (b : Mem)  : Option (Int32 × Mem) := f_X9_movesIn_26 N p0 p1 p2 b (0 : Int32)
def f_X9_movesIn (N : Nat) (p0 : Int32) (p1 : Int32) (p2 : Int32) (b : Mem) : Option (Int32 × Mem) := bT (f_X9_arePaces p0 p1 b) fun x2 => if x2 = 0 then (f_X9_movesIn_25 N p0 p1 p2 b ) else (bT (f_X9_in (Int32.toInt64 p2) (1 : Int64) (9999 : Int64) b) fun x26 => if x26 = 0 then (f_X9_movesIn_25 N p0 p1 p2 b ) else (f_X9_movesIn_26 N p0 p1 p2 b (1 : Int32)))
set_option maxRecDepth 100000 in
set_option maxHeartbeats 4000000 in
theorem m_X9_movesIn {l : Launch} (hl : l.stackTraces = false) {G : GG} {L : List Nat} (hL : LOK L) {a b c : Mem} {N : Nat} {p0 : Int32} {p1 : Int32} {p2 : Int32} {v : Int32} {a' : Mem} (hR : f_X9_movesIn N p0 p1 p2 b = some (v, a')) : Ct l G yX9_movesIn (.code yX9_movesIn cX9_movesIn 4 (some .int)) 6 135 0 0 [.ref (ad L 96), .int p0, .int p1, .int p2] L (FW G L a b c) px0 (stay L (fun r f1 => f1 = (FW G L a a' c) ∧ r = some (.int v))) := by
  refine Ct.ofq (own := RX9) hl rfl (by decide) [some (.ref (ad L 96)), some (.int p0), some (.int p1), some (.int p2)] rfl (Nat.le_of_ble_eq_true rfl) ?_
  intro p e s m below meth c9 A ar Q hQ X
  unfold f_X9_movesIn at hR
  refine j_aload_n X (i := 0) dX9_movesIn_0 rfl rfl ?_
  refine j_iload_n X (i := 1) dX9_movesIn_1 rfl rfl ?_
  refine j_iload_n X (i := 2) dX9_movesIn_2 rfl rfl ?_
  obtain ⟨x2, h1, hR⟩ := bT_inv hR
  refine j_callS2 X (m_X9_arePaces hl hL h1) ml_X9_363 st_yX9_arePaces in_X9 cd_yX9_arePaces hy_yX9_arePaces dX9_movesIn_3 ⟨(by decide), (by decide)⟩ ⟨(by decide), (by decide)⟩ (Nat.le_of_ble_eq_true rfl) (fun _ h => h.elim) (fun r9 L9 f9 h9 => ?_)
  obtain ⟨h91, h92, h93, h3⟩ := h9
  subst r9
  subst f9
  subst L9
  dsimp only [Option.toList, List.cons_append, List.nil_append, List.append]
  have hb26 : ∀ (x4 : Int32) (hBx4 : isB x4), f_X9_movesIn_26 N p0 p1 p2 b x4 = some (v, a') → J G p l e ({ frames := 6, cells := 0, slots := 0, locals := 135 } : Room) s m ar below meth c9 A Q 4 0 0 26 [some (.ref (ad L 96)), some (.int p0), some (.int p1), some (.int p2)] [.int x4, .ref (ad L 96)] L (FW G L a b c) := by
    intro x4 hBx4 hR
    unfold f_X9_movesIn_26 at hR
    obtain ⟨x6, b7, h5, hR⟩ := bT2_inv hR
    refine j_callV1 X 9 (m_X9_passes hl hL hBx4 h5) ml_X9_159 im_yX9_passes se_yX9_passes in_X9 cd_yX9_passes hy_yX9_passes dX9_movesIn_26 rfl (ad_mem hL (by decide)) (FW9 hL) ⟨(by decide), (by decide)⟩ ⟨(by decide), (by decide)⟩ (Nat.le_of_ble_eq_true rfl) (fun _ h => h.elim) (fun r9 L9 f9 h9 => ?_)
    obtain ⟨h91, h92, h93, h8⟩ := h9
    subst r9
    subst f9
    subst L9
    dsimp only [Option.toList, List.cons_append, List.nil_append, List.append]
    refine j_if_ne X (tgt := 34) dX9_movesIn_29 (by decide) (fun h9 => ?_) (fun h9 => ?_)
    · replace hR := (if_neg h9).symm.trans hR
      refine j_aload_n X (i := 0) dX9_movesIn_34 rfl rfl ?_
      refine j_iconst X (1) dX9_movesIn_35 (by decide) ?_
      obtain ⟨x11, h10, hR⟩ := bP_inv hR
      refine j_callV1 X 9 (m_X9_isState hl hL h10) ml_X9_76 im_yX9_isState se_yX9_isState in_X9 cd_yX9_isState hy_yX9_isState dX9_movesIn_36 rfl (ad_mem hL (by decide)) (FW9 hL) ⟨(by decide), (by decide)⟩ ⟨(by decide), (by decide)⟩ (Nat.le_of_ble_eq_true rfl) (fun _ h => h.elim) (fun r9 L9 f9 h9 => ?_)
      obtain ⟨h91, h92, h93, h12⟩ := h9
      subst r9
      subst f9
      subst L9
      dsimp only [Option.toList, List.cons_append, List.nil_append, List.append]
      refine j_if_ne X (tgt := 44) dX9_movesIn_39 (by decide) (fun h13 => ?_) (fun h13 => ?_)
      · replace hR := (if_neg h13).symm.trans hR
        refine j_aload_n X (i := 0) dX9_movesIn_44 rfl rfl ?_
        obtain ⟨b15, h14, hR⟩ := bP_inv hR
        refine j_callV0 X 9 (m_X9_keepAside hl hL h14) ml_X9_354 im_yX9_keepAside se_yX9_keepAside in_X9 cd_yX9_keepAside hy_yX9_keepAside dX9_movesIn_45 rfl (ad_mem hL (by decide)) (FW9 hL) ⟨(by decide), (by decide)⟩ ⟨(by decide), (by decide)⟩ (Nat.le_of_ble_eq_true rfl) (fun _ h => h.elim) (fun r9 L9 f9 h9 => ?_)
        obtain ⟨h91, h92, h93⟩ := h9
        subst r9
        subst f9
        subst L9
        dsimp only [Option.toList, List.cons_append, List.nil_append, List.append]
        refine j_aload_n X (i := 0) dX9_movesIn_48 rfl rfl ?_
        refine j_iload_n X (i := 1) dX9_movesIn_49 rfl rfl ?_
        refine j_iload_n X (i := 2) dX9_movesIn_50 rfl rfl ?_
        refine j_ldcw X dX9_movesIn_51 co_X9_369 ?_
        refine j_iload_n X (i := 3) dX9_movesIn_54 rfl rfl ?_
        obtain ⟨b18, h17, hR⟩ := bP_inv hR
        refine j_callV4 X 9 (m_X9_play hl hL h17) ml_X9_370 im_yX9_play se_yX9_play in_X9 cd_yX9_play hy_yX9_play dX9_movesIn_55 rfl (ad_mem hL (by decide)) (FW9 hL) ⟨(by decide), (by decide)⟩ ⟨(by decide), (by decide)⟩ (Nat.le_of_ble_eq_true rfl) (fun _ h => h.elim) (fun r9 L9 f9 h9 => ?_)
        obtain ⟨h91, h92, h93⟩ := h9
        subst r9
        subst f9
        subst L9
        dsimp only [Option.toList, List.cons_append, List.nil_append, List.append]
        refine j_aload_n X (i := 0) dX9_movesIn_58 rfl rfl ?_
        refine j_aload_n X (i := 0) dX9_movesIn_59 rfl rfl ?_
        refine j_getf X 9 10 rfl cw_X9 fl_X9_143 (by decide) dX9_movesIn_60 (ad_mem hL (by decide)) (FW9 hL) rfl ?_
        obtain ⟨x21, b22, h20, hR⟩ := bP2_inv hR
        refine j_callV1 X 9 (m_X9_layBack hl hL h20) ml_X9_357 im_yX9_layBack se_yX9_layBack in_X9 cd_yX9_layBack hy_yX9_layBack dX9_movesIn_63 rfl (ad_mem hL (by decide)) (FW9 hL) ⟨(by decide), (by decide)⟩ ⟨(by decide), (by decide)⟩ (Nat.le_of_ble_eq_true rfl) (fun _ h => h.elim) (fun r9 L9 f9 h9 => ?_)
        obtain ⟨h91, h92, h93⟩ := h9
        subst r9
        subst f9
        subst L9
        dsimp only [Option.toList, List.cons_append, List.nil_append, List.append]
        exact q_iret X hQ dX9_movesIn_66 rfl ⟨(by decide), (by decide)⟩ ⟨rfl, congrArg (fun z => FW G L a z c) (Prod.mk.inj (Option.some.inj hR)).2, congrArg (fun z => some (Value.int z)) (Prod.mk.inj (Option.some.inj hR)).1⟩
      · replace hR := (if_pos h13).symm.trans hR
        refine j_iconst X (-1) dX9_movesIn_42 (by decide) ?_
        exact q_iret X hQ dX9_movesIn_43 rfl ⟨(by decide), (by decide)⟩ ⟨rfl, congrArg (fun z => FW G L a z c) (Prod.mk.inj (Option.some.inj hR)).2, congrArg (fun z => some (Value.int z)) (Prod.mk.inj (Option.some.inj hR)).1⟩
    · replace hR := (if_pos h9).symm.trans hR
      refine j_iconst X (0) dX9_movesIn_32 (by decide) ?_
      exact q_iret X hQ dX9_movesIn_33 rfl ⟨(by decide), (by decide)⟩ ⟨rfl, congrArg (fun z => FW G L a z c) (Prod.mk.inj (Option.some.inj hR)).2, congrArg (fun z => some (Value.int z)) (Prod.mk.inj (Option.some.inj hR)).1⟩
  have hb25 : f_X9_movesIn_25 N p0 p1 p2 b = some (v, a') → J G p l e ({ frames := 6, cells := 0, slots := 0, locals := 135 } : Room) s m ar below meth c9 A Q 4 0 0 25 [some (.ref (ad L 96)), some (.int p0), some (.int p1), some (.int p2)] [.ref (ad L 96)] L (FW G L a b c) := by
    intro hR
    unfold f_X9_movesIn_25 at hR
    refine j_iconst X (0) dX9_movesIn_25 (by decide) ?_
    exact J.sub (lvle_of (by simp only [lvle, and_self])) (hb26 _ isB_0 hR)
  refine j_if_eq X (tgt := 25) dX9_movesIn_6 (by decide) (fun h24 => ?_) (fun h24 => ?_)
  · replace hR := (if_pos h24).symm.trans hR
    exact J.sub (lvle_of (by simp only [lvle, and_self])) (hb25 hR)
  · replace hR := (if_neg h24).symm.trans hR
    refine j_iload_n X (i := 3) dX9_movesIn_9 rfl rfl ?_
    refine j_i2l X dX9_movesIn_10 ?_
    refine j_lconst X (1) dX9_movesIn_11 (by decide) ?_
    refine j_ldc2 X dX9_movesIn_12 cj_X9_349 ?_
    obtain ⟨x26, h25, hR⟩ := bT_inv hR
    refine j_callS3 X (m_X9_in hl hL h25) ml_X9_64 st_yX9_in in_X9 cd_yX9_in hy_yX9_in dX9_movesIn_15 ⟨(by decide), (by decide)⟩ ⟨(by decide), (by decide)⟩ (Nat.le_of_ble_eq_true rfl) (fun _ h => h.elim) (fun r9 L9 f9 h9 => ?_)
    obtain ⟨h91, h92, h93, h27⟩ := h9
    subst r9
    subst f9
    subst L9
    dsimp only [Option.toList, List.cons_append, List.nil_append, List.append]
    refine j_if_eq X (tgt := 25) dX9_movesIn_18 (by decide) (fun h28 => ?_) (fun h28 => ?_)
    · replace hR := (if_pos h28).symm.trans hR
      exact J.sub (lvle_of (by simp only [lvle, and_self])) (hb25 hR)
    · replace hR := (if_neg h28).symm.trans hR
      refine j_iconst X (1) dX9_movesIn_21 (by decide) ?_
      refine j_goto X (tgt := 26) dX9_movesIn_22 (by decide) ?_
      exact J.sub (lvle_of (by simp only [lvle, and_self])) (hb26 _ isB_1 hR)
def f_X9_aheadAfter_26 (N : Nat) (p0 : Int32) (p1 : Int32) (p2 : Int32) (b : Mem) (x4 : Int32) : Option (Int32 × Mem) := bT2 (f_X9_passes x4 b) fun x6 b7 => if x6 = 0 then (some ((0 : Int32), b7)) else (bP (f_X9_isState N (1 : Int32) b7) fun x11 => if x11 = 0 then (some ((-1 : Int32), b7)) else (bP (f_X9_keepAside N b7) fun b15 => bP (f_X9_play N p0 p1 p2 (2147483647 : Int32) b15) fun b18 => bP (f_X9_of N (0 : Int32) (0 : Int32) b18) fun x21 => bP (f_X9_of N (1 : Int32) (0 : Int32) b18) fun x24 => bP2 (f_X9_layBack N (x21 - x24) b18) fun x27 b28 => some (x27, b28)))
def f_X9_aheadAfter_25 (N : Nat) (p0 : Int32) (p1 : Int32) (p2 : Int32) (b : Mem)  : Option (Int32 × Mem) := f_X9_aheadAfter_26 N p0 p1 p2 b (0 : Int32)
def f_X9_aheadAfter (N : Nat) (p0 : Int32) (p1 : Int32) (p2 : Int32) (b : Mem) : Option (Int32 × Mem) := bT (f_X9_arePaces p0 p1 b) fun x2 => if x2 = 0 then (f_X9_aheadAfter_25 N p0 p1 p2 b ) else (bT (f_X9_in (Int32.toInt64 p2) (0 : Int64) (400 : Int64) b) fun x32 => if x32 = 0 then (f_X9_aheadAfter_25 N p0 p1 p2 b ) else (f_X9_aheadAfter_26 N p0 p1 p2 b (1 : Int32)))
set_option maxRecDepth 100000 in
set_option maxHeartbeats 4000000 in
theorem m_X9_aheadAfter {l : Launch} (hl : l.stackTraces = false) {G : GG} {L : List Nat} (hL : LOK L) {a b c : Mem} {N : Nat} {p0 : Int32} {p1 : Int32} {p2 : Int32} {v : Int32} {a' : Mem} (hR : f_X9_aheadAfter N p0 p1 p2 b = some (v, a')) : Ct l G yX9_aheadAfter (.code yX9_aheadAfter cX9_aheadAfter 4 (some .int)) 6 135 0 0 [.ref (ad L 96), .int p0, .int p1, .int p2] L (FW G L a b c) px0 (stay L (fun r f1 => f1 = (FW G L a a' c) ∧ r = some (.int v))) := by
  refine Ct.ofq (own := RX9) hl rfl (by decide) [some (.ref (ad L 96)), some (.int p0), some (.int p1), some (.int p2)] rfl (Nat.le_of_ble_eq_true rfl) ?_
  intro p e s m below meth c9 A ar Q hQ X
  unfold f_X9_aheadAfter at hR
  refine j_aload_n X (i := 0) dX9_aheadAfter_0 rfl rfl ?_
  refine j_iload_n X (i := 1) dX9_aheadAfter_1 rfl rfl ?_
  refine j_iload_n X (i := 2) dX9_aheadAfter_2 rfl rfl ?_
  obtain ⟨x2, h1, hR⟩ := bT_inv hR
  refine j_callS2 X (m_X9_arePaces hl hL h1) ml_X9_363 st_yX9_arePaces in_X9 cd_yX9_arePaces hy_yX9_arePaces dX9_aheadAfter_3 ⟨(by decide), (by decide)⟩ ⟨(by decide), (by decide)⟩ (Nat.le_of_ble_eq_true rfl) (fun _ h => h.elim) (fun r9 L9 f9 h9 => ?_)
  obtain ⟨h91, h92, h93, h3⟩ := h9
  subst r9
  subst f9
  subst L9
  dsimp only [Option.toList, List.cons_append, List.nil_append, List.append]
  have hb26 : ∀ (x4 : Int32) (hBx4 : isB x4), f_X9_aheadAfter_26 N p0 p1 p2 b x4 = some (v, a') → J G p l e ({ frames := 6, cells := 0, slots := 0, locals := 135 } : Room) s m ar below meth c9 A Q 4 0 0 26 [some (.ref (ad L 96)), some (.int p0), some (.int p1), some (.int p2)] [.int x4, .ref (ad L 96)] L (FW G L a b c) := by
    intro x4 hBx4 hR
    unfold f_X9_aheadAfter_26 at hR
    obtain ⟨x6, b7, h5, hR⟩ := bT2_inv hR
    refine j_callV1 X 9 (m_X9_passes hl hL hBx4 h5) ml_X9_159 im_yX9_passes se_yX9_passes in_X9 cd_yX9_passes hy_yX9_passes dX9_aheadAfter_26 rfl (ad_mem hL (by decide)) (FW9 hL) ⟨(by decide), (by decide)⟩ ⟨(by decide), (by decide)⟩ (Nat.le_of_ble_eq_true rfl) (fun _ h => h.elim) (fun r9 L9 f9 h9 => ?_)
    obtain ⟨h91, h92, h93, h8⟩ := h9
    subst r9
    subst f9
    subst L9
    dsimp only [Option.toList, List.cons_append, List.nil_append, List.append]
    refine j_if_ne X (tgt := 34) dX9_aheadAfter_29 (by decide) (fun h9 => ?_) (fun h9 => ?_)
    · replace hR := (if_neg h9).symm.trans hR
      refine j_aload_n X (i := 0) dX9_aheadAfter_34 rfl rfl ?_
      refine j_iconst X (1) dX9_aheadAfter_35 (by decide) ?_
      obtain ⟨x11, h10, hR⟩ := bP_inv hR
      refine j_callV1 X 9 (m_X9_isState hl hL h10) ml_X9_76 im_yX9_isState se_yX9_isState in_X9 cd_yX9_isState hy_yX9_isState dX9_aheadAfter_36 rfl (ad_mem hL (by decide)) (FW9 hL) ⟨(by decide), (by decide)⟩ ⟨(by decide), (by decide)⟩ (Nat.le_of_ble_eq_true rfl) (fun _ h => h.elim) (fun r9 L9 f9 h9 => ?_)
      obtain ⟨h91, h92, h93, h12⟩ := h9
      subst r9
      subst f9
      subst L9
      dsimp only [Option.toList, List.cons_append, List.nil_append, List.append]
      refine j_if_ne X (tgt := 44) dX9_aheadAfter_39 (by decide) (fun h13 => ?_) (fun h13 => ?_)
      · replace hR := (if_neg h13).symm.trans hR
        refine j_aload_n X (i := 0) dX9_aheadAfter_44 rfl rfl ?_
        obtain ⟨b15, h14, hR⟩ := bP_inv hR
        refine j_callV0 X 9 (m_X9_keepAside hl hL h14) ml_X9_354 im_yX9_keepAside se_yX9_keepAside in_X9 cd_yX9_keepAside hy_yX9_keepAside dX9_aheadAfter_45 rfl (ad_mem hL (by decide)) (FW9 hL) ⟨(by decide), (by decide)⟩ ⟨(by decide), (by decide)⟩ (Nat.le_of_ble_eq_true rfl) (fun _ h => h.elim) (fun r9 L9 f9 h9 => ?_)
        obtain ⟨h91, h92, h93⟩ := h9
        subst r9
        subst f9
        subst L9
        dsimp only [Option.toList, List.cons_append, List.nil_append, List.append]
        refine j_aload_n X (i := 0) dX9_aheadAfter_48 rfl rfl ?_
        refine j_iload_n X (i := 1) dX9_aheadAfter_49 rfl rfl ?_
        refine j_iload_n X (i := 2) dX9_aheadAfter_50 rfl rfl ?_
        refine j_iload_n X (i := 3) dX9_aheadAfter_51 rfl rfl ?_
        refine j_ldcw X dX9_aheadAfter_52 co_X9_369 ?_
        obtain ⟨b18, h17, hR⟩ := bP_inv hR
        refine j_callV4 X 9 (m_X9_play hl hL h17) ml_X9_370 im_yX9_play se_yX9_play in_X9 cd_yX9_play hy_yX9_play dX9_aheadAfter_55 rfl (ad_mem hL (by decide)) (FW9 hL) ⟨(by decide), (by decide)⟩ ⟨(by decide), (by decide)⟩ (Nat.le_of_ble_eq_true rfl) (fun _ h => h.elim) (fun r9 L9 f9 h9 => ?_)
        obtain ⟨h91, h92, h93⟩ := h9
        subst r9
        subst f9
        subst L9
        dsimp only [Option.toList, List.cons_append, List.nil_append, List.append]
        refine j_aload_n X (i := 0) dX9_aheadAfter_58 rfl rfl ?_
        refine j_aload_n X (i := 0) dX9_aheadAfter_59 rfl rfl ?_
        refine j_iconst X (0) dX9_aheadAfter_60 (by decide) ?_
        refine j_iconst X (0) dX9_aheadAfter_61 (by decide) ?_
        obtain ⟨x21, h20, hR⟩ := bP_inv hR
        refine j_callV2 X 9 (m_X9_of hl hL h20) ml_X9_57 im_yX9_of se_yX9_of in_X9 cd_yX9_of hy_yX9_of dX9_aheadAfter_62 rfl (ad_mem hL (by decide)) (FW9 hL) ⟨(by decide), (by decide)⟩ ⟨(by decide), (by decide)⟩ (Nat.le_of_ble_eq_true rfl) (fun _ h => h.elim) (fun r9 L9 f9 h9 => ?_)
        obtain ⟨h91, h92, h93⟩ := h9
        subst r9
        subst f9
        subst L9
        dsimp only [Option.toList, List.cons_append, List.nil_append, List.append]
        refine j_aload_n X (i := 0) dX9_aheadAfter_65 rfl rfl ?_
        refine j_iconst X (1) dX9_aheadAfter_66 (by decide) ?_
        refine j_iconst X (0) dX9_aheadAfter_67 (by decide) ?_
        obtain ⟨x24, h23, hR⟩ := bP_inv hR
        refine j_callV2 X 9 (m_X9_of hl hL h23) ml_X9_57 im_yX9_of se_yX9_of in_X9 cd_yX9_of hy_yX9_of dX9_aheadAfter_68 rfl (ad_mem hL (by decide)) (FW9 hL) ⟨(by decide), (by decide)⟩ ⟨(by decide), (by decide)⟩ (Nat.le_of_ble_eq_true rfl) (fun _ h => h.elim) (fun r9 L9 f9 h9 => ?_)
        obtain ⟨h91, h92, h93⟩ := h9
        subst r9
        subst f9
        subst L9
        dsimp only [Option.toList, List.cons_append, List.nil_append, List.append]
        refine j_isub X dX9_aheadAfter_71 ?_
        obtain ⟨x27, b28, h26, hR⟩ := bP2_inv hR
        refine j_callV1 X 9 (m_X9_layBack hl hL h26) ml_X9_357 im_yX9_layBack se_yX9_layBack in_X9 cd_yX9_layBack hy_yX9_layBack dX9_aheadAfter_72 rfl (ad_mem hL (by decide)) (FW9 hL) ⟨(by decide), (by decide)⟩ ⟨(by decide), (by decide)⟩ (Nat.le_of_ble_eq_true rfl) (fun _ h => h.elim) (fun r9 L9 f9 h9 => ?_)
        obtain ⟨h91, h92, h93⟩ := h9
        subst r9
        subst f9
        subst L9
        dsimp only [Option.toList, List.cons_append, List.nil_append, List.append]
        exact q_iret X hQ dX9_aheadAfter_75 rfl ⟨(by decide), (by decide)⟩ ⟨rfl, congrArg (fun z => FW G L a z c) (Prod.mk.inj (Option.some.inj hR)).2, congrArg (fun z => some (Value.int z)) (Prod.mk.inj (Option.some.inj hR)).1⟩
      · replace hR := (if_pos h13).symm.trans hR
        refine j_iconst X (-1) dX9_aheadAfter_42 (by decide) ?_
        exact q_iret X hQ dX9_aheadAfter_43 rfl ⟨(by decide), (by decide)⟩ ⟨rfl, congrArg (fun z => FW G L a z c) (Prod.mk.inj (Option.some.inj hR)).2, congrArg (fun z => some (Value.int z)) (Prod.mk.inj (Option.some.inj hR)).1⟩
    · replace hR := (if_pos h9).symm.trans hR
      refine j_iconst X (0) dX9_aheadAfter_32 (by decide) ?_
      exact q_iret X hQ dX9_aheadAfter_33 rfl ⟨(by decide), (by decide)⟩ ⟨rfl, congrArg (fun z => FW G L a z c) (Prod.mk.inj (Option.some.inj hR)).2, congrArg (fun z => some (Value.int z)) (Prod.mk.inj (Option.some.inj hR)).1⟩
  have hb25 : f_X9_aheadAfter_25 N p0 p1 p2 b = some (v, a') → J G p l e ({ frames := 6, cells := 0, slots := 0, locals := 135 } : Room) s m ar below meth c9 A Q 4 0 0 25 [some (.ref (ad L 96)), some (.int p0), some (.int p1), some (.int p2)] [.ref (ad L 96)] L (FW G L a b c) := by
    intro hR
    unfold f_X9_aheadAfter_25 at hR
    refine j_iconst X (0) dX9_aheadAfter_25 (by decide) ?_
    exact J.sub (lvle_of (by simp only [lvle, and_self])) (hb26 _ isB_0 hR)
  refine j_if_eq X (tgt := 25) dX9_aheadAfter_6 (by decide) (fun h30 => ?_) (fun h30 => ?_)
  · replace hR := (if_pos h30).symm.trans hR
    exact J.sub (lvle_of (by simp only [lvle, and_self])) (hb25 hR)
  · replace hR := (if_neg h30).symm.trans hR
    refine j_iload_n X (i := 3) dX9_aheadAfter_9 rfl rfl ?_
    refine j_i2l X dX9_aheadAfter_10 ?_
    refine j_lconst X (0) dX9_aheadAfter_11 (by decide) ?_
    refine j_ldc2 X dX9_aheadAfter_12 cj_X9_373 ?_
    obtain ⟨x32, h31, hR⟩ := bT_inv hR
    refine j_callS3 X (m_X9_in hl hL h31) ml_X9_64 st_yX9_in in_X9 cd_yX9_in hy_yX9_in dX9_aheadAfter_15 ⟨(by decide), (by decide)⟩ ⟨(by decide), (by decide)⟩ (Nat.le_of_ble_eq_true rfl) (fun _ h => h.elim) (fun r9 L9 f9 h9 => ?_)
    obtain ⟨h91, h92, h93, h33⟩ := h9
    subst r9
    subst f9
    subst L9
    dsimp only [Option.toList, List.cons_append, List.nil_append, List.append]
    refine j_if_eq X (tgt := 25) dX9_aheadAfter_18 (by decide) (fun h34 => ?_) (fun h34 => ?_)
    · replace hR := (if_pos h34).symm.trans hR
      exact J.sub (lvle_of (by simp only [lvle, and_self])) (hb25 hR)
    · replace hR := (if_neg h34).symm.trans hR
      refine j_iconst X (1) dX9_aheadAfter_21 (by decide) ?_
      refine j_goto X (tgt := 26) dX9_aheadAfter_22 (by decide) ?_
      exact J.sub (lvle_of (by simp only [lvle, and_self])) (hb26 _ isB_1 hR)
def f_X9_becomes (N : Nat) (p0 : Int32) (b : Mem) : Option (Int32 × Mem) := bP (f_X9_remember N b) fun b2 => bT (upR b2 1 (upd (b2 1) ((0 : Int32)).toNatClampNeg p0)) fun b4 => bP (f_X9_mover N b4) fun x7 => some (x7, b4)
set_option maxRecDepth 100000 in
set_option maxHeartbeats 4000000 in
theorem m_X9_becomes {l : Launch} (hl : l.stackTraces = false) {G : GG} {L : List Nat} (hL : LOK L) {a b c : Mem} {N : Nat} {p0 : Int32} {v : Int32} {a' : Mem} (hR : f_X9_becomes N p0 b = some (v, a')) : Ct l G yX9_becomes (.code yX9_becomes cX9_becomes 2 (some .int)) 1 21 0 0 [.ref (ad L 96), .int p0] L (FW G L a b c) px0 (stay L (fun r f1 => f1 = (FW G L a a' c) ∧ r = some (.int v))) := by
  refine Ct.ofq (own := RX9) hl rfl (by decide) [some (.ref (ad L 96)), some (.int p0)] rfl (Nat.le_of_ble_eq_true rfl) ?_
  intro p e s m below meth c9 A ar Q hQ X
  unfold f_X9_becomes at hR
  refine j_aload_n X (i := 0) dX9_becomes_0 rfl rfl ?_
  obtain ⟨b2, h1, hR⟩ := bP_inv hR
  refine j_callV0 X 9 (m_X9_remember hl hL h1) ml_X9_304 im_yX9_remember se_yX9_remember in_X9 cd_yX9_remember hy_yX9_remember dX9_becomes_1 rfl (ad_mem hL (by decide)) (FW9 hL) ⟨(by decide), (by decide)⟩ ⟨(by decide), (by decide)⟩ (Nat.le_of_ble_eq_true rfl) (fun _ h => h.elim) (fun r9 L9 f9 h9 => ?_)
  obtain ⟨h91, h92, h93⟩ := h9
  subst r9
  subst f9
  subst L9
  dsimp only [Option.toList, List.cons_append, List.nil_append, List.append]
  refine j_aload_n X (i := 0) dX9_becomes_4 rfl rfl ?_
  refine j_getf X 9 1 rfl cw_X9 fl_X9_17 (by decide) dX9_becomes_5 (ad_mem hL (by decide)) (FW9 hL) rfl ?_
  refine j_iconst X (0) dX9_becomes_8 (by decide) ?_
  refine j_iload_n X (i := 1) dX9_becomes_9 rfl rfl ?_
  obtain ⟨b4, h5, hR⟩ := bT_inv hR
  refine t_Iast_97 X hL (by unfold vp_in; decide) h5 dX9_becomes_10 ?_
  refine j_aload_n X (i := 0) dX9_becomes_11 rfl rfl ?_
  obtain ⟨x7, h6, hR⟩ := bP_inv hR
  refine j_callV0 X 9 (m_X9_mover hl hL h6) ml_X9_80 im_yX9_mover se_yX9_mover in_X9 cd_yX9_mover hy_yX9_mover dX9_becomes_12 rfl (ad_mem hL (by decide)) (FW9 hL) ⟨(by decide), (by decide)⟩ ⟨(by decide), (by decide)⟩ (Nat.le_of_ble_eq_true rfl) (fun _ h => h.elim) (fun r9 L9 f9 h9 => ?_)
  obtain ⟨h91, h92, h93⟩ := h9
  subst r9
  subst f9
  subst L9
  dsimp only [Option.toList, List.cons_append, List.nil_append, List.append]
  exact q_iret X hQ dX9_becomes_15 rfl ⟨(by decide), (by decide)⟩ ⟨rfl, congrArg (fun z => FW G L a z c) (Prod.mk.inj (Option.some.inj hR)).2, congrArg (fun z => some (Value.int z)) (Prod.mk.inj (Option.some.inj hR)).1⟩
def f_X9_start (N : Nat) (b : Mem) : Option (Int32 × Mem) := bP (f_X9_isState N (0 : Int32) b) fun x2 => bT2 (f_X9_passes x2 b) fun x5 b6 => if x5 = 0 then (some ((0 : Int32), b6)) else (bP2 (f_X9_becomes N (1 : Int32) b6) fun x10 b11 => some (x10, b11))
set_option maxRecDepth 100000 in
set_option maxHeartbeats 4000000 in
theorem m_X9_start {l : Launch} (hl : l.stackTraces = false) {G : GG} {L : List Nat} (hL : LOK L) {a b c : Mem} {N : Nat}  {v : Int32} {a' : Mem} (hR : f_X9_start N b = some (v, a')) : Ct l G yX9_start (.code yX9_start cX9_start 1 (some .int)) 2 44 0 0 [.ref (ad L 96)] L (FW G L a b c) px0 (stay L (fun r f1 => f1 = (FW G L a a' c) ∧ r = some (.int v))) := by
  refine Ct.ofq (own := RX9) hl rfl (by decide) [some (.ref (ad L 96))] rfl (Nat.le_of_ble_eq_true rfl) ?_
  intro p e s m below meth c9 A ar Q hQ X
  unfold f_X9_start at hR
  refine j_aload_n X (i := 0) dX9_start_0 rfl rfl ?_
  refine j_aload_n X (i := 0) dX9_start_1 rfl rfl ?_
  refine j_iconst X (0) dX9_start_2 (by decide) ?_
  obtain ⟨x2, h1, hR⟩ := bP_inv hR
  refine j_callV1 X 9 (m_X9_isState hl hL h1) ml_X9_76 im_yX9_isState se_yX9_isState in_X9 cd_yX9_isState hy_yX9_isState dX9_start_3 rfl (ad_mem hL (by decide)) (FW9 hL) ⟨(by decide), (by decide)⟩ ⟨(by decide), (by decide)⟩ (Nat.le_of_ble_eq_true rfl) (fun _ h => h.elim) (fun r9 L9 f9 h9 => ?_)
  obtain ⟨h91, h92, h93, h3⟩ := h9
  subst r9
  subst f9
  subst L9
  dsimp only [Option.toList, List.cons_append, List.nil_append, List.append]
  obtain ⟨x5, b6, h4, hR⟩ := bT2_inv hR
  refine j_callV1 X 9 (m_X9_passes hl hL h3 h4) ml_X9_159 im_yX9_passes se_yX9_passes in_X9 cd_yX9_passes hy_yX9_passes dX9_start_6 rfl (ad_mem hL (by decide)) (FW9 hL) ⟨(by decide), (by decide)⟩ ⟨(by decide), (by decide)⟩ (Nat.le_of_ble_eq_true rfl) (fun _ h => h.elim) (fun r9 L9 f9 h9 => ?_)
  obtain ⟨h91, h92, h93, h7⟩ := h9
  subst r9
  subst f9
  subst L9
  dsimp only [Option.toList, List.cons_append, List.nil_append, List.append]
  refine j_if_eq X (tgt := 20) dX9_start_9 (by decide) (fun h8 => ?_) (fun h8 => ?_)
  · replace hR := (if_pos h8).symm.trans hR
    refine j_iconst X (0) dX9_start_20 (by decide) ?_
    exact q_iret X hQ dX9_start_21 rfl ⟨(by decide), (by decide)⟩ ⟨rfl, congrArg (fun z => FW G L a z c) (Prod.mk.inj (Option.some.inj hR)).2, congrArg (fun z => some (Value.int z)) (Prod.mk.inj (Option.some.inj hR)).1⟩
  · replace hR := (if_neg h8).symm.trans hR
    refine j_aload_n X (i := 0) dX9_start_12 rfl rfl ?_
    refine j_iconst X (1) dX9_start_13 (by decide) ?_
    obtain ⟨x10, b11, h9, hR⟩ := bP2_inv hR
    refine j_callV1 X 9 (m_X9_becomes hl hL h9) ml_X9_375 im_yX9_becomes se_yX9_becomes in_X9 cd_yX9_becomes hy_yX9_becomes dX9_start_14 rfl (ad_mem hL (by decide)) (FW9 hL) ⟨(by decide), (by decide)⟩ ⟨(by decide), (by decide)⟩ (Nat.le_of_ble_eq_true rfl) (fun _ h => h.elim) (fun r9 L9 f9 h9 => ?_)
    obtain ⟨h91, h92, h93⟩ := h9
    subst r9
    subst f9
    subst L9
    dsimp only [Option.toList, List.cons_append, List.nil_append, List.append]
    refine j_goto X (tgt := 21) dX9_start_17 (by decide) ?_
    exact q_iret X hQ dX9_start_21 rfl ⟨(by decide), (by decide)⟩ ⟨rfl, congrArg (fun z => FW G L a z c) (Prod.mk.inj (Option.some.inj hR)).2, congrArg (fun z => some (Value.int z)) (Prod.mk.inj (Option.some.inj hR)).1⟩
def f_X9_tick (N : Nat) (p0 : Int32) (b : Mem) : Option (Int32 × Mem) := bT (f_X9_in (Int32.toInt64 p0) (1 : Int64) (9999 : Int64) b) fun x2 => bT2 (f_X9_passes x2 b) fun x5 b6 => if x5 = 0 then (some ((0 : Int32), b6)) else (bP (f_X9_remember N b6) fun b10 => bP (f_X9_ticks N p0 b10) fun b13 => bP (f_X9_mover N b13) fun x16 => bP (f_X9_of N x16 (0 : Int32) b13) fun x19 => some (x19, b13))
set_option maxRecDepth 100000 in
set_option maxHeartbeats 4000000 in
theorem m_X9_tick {l : Launch} (hl : l.stackTraces = false) {G : GG} {L : List Nat} (hL : LOK L) {a b c : Mem} {N : Nat} {p0 : Int32} {v : Int32} {a' : Mem} (hR : f_X9_tick N p0 b = some (v, a')) : Ct l G yX9_tick (.code yX9_tick cX9_tick 2 (some .int)) 5 107 0 0 [.ref (ad L 96), .int p0] L (FW G L a b c) px0 (stay L (fun r f1 => f1 = (FW G L a a' c) ∧ r = some (.int v))) := by
  refine Ct.ofq (own := RX9) hl rfl (by decide) [some (.ref (ad L 96)), some (.int p0)] rfl (Nat.le_of_ble_eq_true rfl) ?_
  intro p e s m below meth c9 A ar Q hQ X
  unfold f_X9_tick at hR
  refine j_aload_n X (i := 0) dX9_tick_0 rfl rfl ?_
  refine j_iload_n X (i := 1) dX9_tick_1 rfl rfl ?_
  refine j_i2l X dX9_tick_2 ?_
  refine j_lconst X (1) dX9_tick_3 (by decide) ?_
  refine j_ldc2 X dX9_tick_4 cj_X9_349 ?_
  obtain ⟨x2, h1, hR⟩ := bT_inv hR
  refine j_callS3 X (m_X9_in hl hL h1) ml_X9_64 st_yX9_in in_X9 cd_yX9_in hy_yX9_in dX9_tick_7 ⟨(by decide), (by decide)⟩ ⟨(by decide), (by decide)⟩ (Nat.le_of_ble_eq_true rfl) (fun _ h => h.elim) (fun r9 L9 f9 h9 => ?_)
  obtain ⟨h91, h92, h93, h3⟩ := h9
  subst r9
  subst f9
  subst L9
  dsimp only [Option.toList, List.cons_append, List.nil_append, List.append]
  obtain ⟨x5, b6, h4, hR⟩ := bT2_inv hR
  refine j_callV1 X 9 (m_X9_passes hl hL h3 h4) ml_X9_159 im_yX9_passes se_yX9_passes in_X9 cd_yX9_passes hy_yX9_passes dX9_tick_10 rfl (ad_mem hL (by decide)) (FW9 hL) ⟨(by decide), (by decide)⟩ ⟨(by decide), (by decide)⟩ (Nat.le_of_ble_eq_true rfl) (fun _ h => h.elim) (fun r9 L9 f9 h9 => ?_)
  obtain ⟨h91, h92, h93, h7⟩ := h9
  subst r9
  subst f9
  subst L9
  dsimp only [Option.toList, List.cons_append, List.nil_append, List.append]
  refine j_if_ne X (tgt := 18) dX9_tick_13 (by decide) (fun h8 => ?_) (fun h8 => ?_)
  · replace hR := (if_neg h8).symm.trans hR
    refine j_aload_n X (i := 0) dX9_tick_18 rfl rfl ?_
    obtain ⟨b10, h9, hR⟩ := bP_inv hR
    refine j_callV0 X 9 (m_X9_remember hl hL h9) ml_X9_304 im_yX9_remember se_yX9_remember in_X9 cd_yX9_remember hy_yX9_remember dX9_tick_19 rfl (ad_mem hL (by decide)) (FW9 hL) ⟨(by decide), (by decide)⟩ ⟨(by decide), (by decide)⟩ (Nat.le_of_ble_eq_true rfl) (fun _ h => h.elim) (fun r9 L9 f9 h9 => ?_)
    obtain ⟨h91, h92, h93⟩ := h9
    subst r9
    subst f9
    subst L9
    dsimp only [Option.toList, List.cons_append, List.nil_append, List.append]
    refine j_aload_n X (i := 0) dX9_tick_22 rfl rfl ?_
    refine j_iload_n X (i := 1) dX9_tick_23 rfl rfl ?_
    obtain ⟨b13, h12, hR⟩ := bP_inv hR
    refine j_callV1 X 9 (m_X9_ticks hl hL h12) ml_X9_150 im_yX9_ticks se_yX9_ticks in_X9 cd_yX9_ticks hy_yX9_ticks dX9_tick_24 rfl (ad_mem hL (by decide)) (FW9 hL) ⟨(by decide), (by decide)⟩ ⟨(by decide), (by decide)⟩ (Nat.le_of_ble_eq_true rfl) (fun _ h => h.elim) (fun r9 L9 f9 h9 => ?_)
    obtain ⟨h91, h92, h93⟩ := h9
    subst r9
    subst f9
    subst L9
    dsimp only [Option.toList, List.cons_append, List.nil_append, List.append]
    refine j_aload_n X (i := 0) dX9_tick_27 rfl rfl ?_
    refine j_aload_n X (i := 0) dX9_tick_28 rfl rfl ?_
    obtain ⟨x16, h15, hR⟩ := bP_inv hR
    refine j_callV0 X 9 (m_X9_mover hl hL h15) ml_X9_80 im_yX9_mover se_yX9_mover in_X9 cd_yX9_mover hy_yX9_mover dX9_tick_29 rfl (ad_mem hL (by decide)) (FW9 hL) ⟨(by decide), (by decide)⟩ ⟨(by decide), (by decide)⟩ (Nat.le_of_ble_eq_true rfl) (fun _ h => h.elim) (fun r9 L9 f9 h9 => ?_)
    obtain ⟨h91, h92, h93⟩ := h9
    subst r9
    subst f9
    subst L9
    dsimp only [Option.toList, List.cons_append, List.nil_append, List.append]
    refine j_iconst X (0) dX9_tick_32 (by decide) ?_
    obtain ⟨x19, h18, hR⟩ := bP_inv hR
    refine j_callV2 X 9 (m_X9_of hl hL h18) ml_X9_57 im_yX9_of se_yX9_of in_X9 cd_yX9_of hy_yX9_of dX9_tick_33 rfl (ad_mem hL (by decide)) (FW9 hL) ⟨(by decide), (by decide)⟩ ⟨(by decide), (by decide)⟩ (Nat.le_of_ble_eq_true rfl) (fun _ h => h.elim) (fun r9 L9 f9 h9 => ?_)
    obtain ⟨h91, h92, h93⟩ := h9
    subst r9
    subst f9
    subst L9
    dsimp only [Option.toList, List.cons_append, List.nil_append, List.append]
    exact q_iret X hQ dX9_tick_36 rfl ⟨(by decide), (by decide)⟩ ⟨rfl, congrArg (fun z => FW G L a z c) (Prod.mk.inj (Option.some.inj hR)).2, congrArg (fun z => some (Value.int z)) (Prod.mk.inj (Option.some.inj hR)).1⟩
  · replace hR := (if_pos h8).symm.trans hR
    refine j_iconst X (0) dX9_tick_16 (by decide) ?_
    exact q_iret X hQ dX9_tick_17 rfl ⟨(by decide), (by decide)⟩ ⟨rfl, congrArg (fun z => FW G L a z c) (Prod.mk.inj (Option.some.inj hR)).2, congrArg (fun z => some (Value.int z)) (Prod.mk.inj (Option.some.inj hR)).1⟩
def f_X9_move (N : Nat) (b : Mem) : Option (Int32 × Mem) := bP (f_X9_isState N (1 : Int32) b) fun x2 => bT2 (f_X9_passes x2 b) fun x5 b6 => if x5 = 0 then (some ((0 : Int32), b6)) else (bP (f_X9_remember N b6) fun b10 => bP2 (f_X9_moveOnce N b10) fun x13 b14 => some (x13, b14))
set_option maxRecDepth 100000 in
set_option maxHeartbeats 4000000 in
theorem m_X9_move {l : Launch} (hl : l.stackTraces = false) {G : GG} {L : List Nat} (hL : LOK L) {a b c : Mem} {N : Nat}  {v : Int32} {a' : Mem} (hR : f_X9_move N b = some (v, a')) : Ct l G yX9_move (.code yX9_move cX9_move 1 (some .int)) 4 87 0 0 [.ref (ad L 96)] L (FW G L a b c) px0 (stay L (fun r f1 => f1 = (FW G L a a' c) ∧ r = some (.int v))) := by
  refine Ct.ofq (own := RX9) hl rfl (by decide) [some (.ref (ad L 96))] rfl (Nat.le_of_ble_eq_true rfl) ?_
  intro p e s m below meth c9 A ar Q hQ X
  unfold f_X9_move at hR
  refine j_aload_n X (i := 0) dX9_move_0 rfl rfl ?_
  refine j_aload_n X (i := 0) dX9_move_1 rfl rfl ?_
  refine j_iconst X (1) dX9_move_2 (by decide) ?_
  obtain ⟨x2, h1, hR⟩ := bP_inv hR
  refine j_callV1 X 9 (m_X9_isState hl hL h1) ml_X9_76 im_yX9_isState se_yX9_isState in_X9 cd_yX9_isState hy_yX9_isState dX9_move_3 rfl (ad_mem hL (by decide)) (FW9 hL) ⟨(by decide), (by decide)⟩ ⟨(by decide), (by decide)⟩ (Nat.le_of_ble_eq_true rfl) (fun _ h => h.elim) (fun r9 L9 f9 h9 => ?_)
  obtain ⟨h91, h92, h93, h3⟩ := h9
  subst r9
  subst f9
  subst L9
  dsimp only [Option.toList, List.cons_append, List.nil_append, List.append]
  obtain ⟨x5, b6, h4, hR⟩ := bT2_inv hR
  refine j_callV1 X 9 (m_X9_passes hl hL h3 h4) ml_X9_159 im_yX9_passes se_yX9_passes in_X9 cd_yX9_passes hy_yX9_passes dX9_move_6 rfl (ad_mem hL (by decide)) (FW9 hL) ⟨(by decide), (by decide)⟩ ⟨(by decide), (by decide)⟩ (Nat.le_of_ble_eq_true rfl) (fun _ h => h.elim) (fun r9 L9 f9 h9 => ?_)
  obtain ⟨h91, h92, h93, h7⟩ := h9
  subst r9
  subst f9
  subst L9
  dsimp only [Option.toList, List.cons_append, List.nil_append, List.append]
  refine j_if_ne X (tgt := 14) dX9_move_9 (by decide) (fun h8 => ?_) (fun h8 => ?_)
  · replace hR := (if_neg h8).symm.trans hR
    refine j_aload_n X (i := 0) dX9_move_14 rfl rfl ?_
    obtain ⟨b10, h9, hR⟩ := bP_inv hR
    refine j_callV0 X 9 (m_X9_remember hl hL h9) ml_X9_304 im_yX9_remember se_yX9_remember in_X9 cd_yX9_remember hy_yX9_remember dX9_move_15 rfl (ad_mem hL (by decide)) (FW9 hL) ⟨(by decide), (by decide)⟩ ⟨(by decide), (by decide)⟩ (Nat.le_of_ble_eq_true rfl) (fun _ h => h.elim) (fun r9 L9 f9 h9 => ?_)
    obtain ⟨h91, h92, h93⟩ := h9
    subst r9
    subst f9
    subst L9
    dsimp only [Option.toList, List.cons_append, List.nil_append, List.append]
    refine j_aload_n X (i := 0) dX9_move_18 rfl rfl ?_
    obtain ⟨x13, b14, h12, hR⟩ := bP2_inv hR
    refine j_callV0 X 9 (m_X9_moveOnce hl hL h12) ml_X9_153 im_yX9_moveOnce se_yX9_moveOnce in_X9 cd_yX9_moveOnce hy_yX9_moveOnce dX9_move_19 rfl (ad_mem hL (by decide)) (FW9 hL) ⟨(by decide), (by decide)⟩ ⟨(by decide), (by decide)⟩ (Nat.le_of_ble_eq_true rfl) (fun _ h => h.elim) (fun r9 L9 f9 h9 => ?_)
    obtain ⟨h91, h92, h93⟩ := h9
    subst r9
    subst f9
    subst L9
    dsimp only [Option.toList, List.cons_append, List.nil_append, List.append]
    exact q_iret X hQ dX9_move_22 rfl ⟨(by decide), (by decide)⟩ ⟨rfl, congrArg (fun z => FW G L a z c) (Prod.mk.inj (Option.some.inj hR)).2, congrArg (fun z => some (Value.int z)) (Prod.mk.inj (Option.some.inj hR)).1⟩
  · replace hR := (if_pos h8).symm.trans hR
    refine j_iconst X (0) dX9_move_12 (by decide) ?_
    exact q_iret X hQ dX9_move_13 rfl ⟨(by decide), (by decide)⟩ ⟨rfl, congrArg (fun z => FW G L a z c) (Prod.mk.inj (Option.some.inj hR)).2, congrArg (fun z => some (Value.int z)) (Prod.mk.inj (Option.some.inj hR)).1⟩
def f_X9_pause (N : Nat) (b : Mem) : Option (Int32 × Mem) := bP (f_X9_isState N (1 : Int32) b) fun x2 => bT2 (f_X9_passes x2 b) fun x5 b6 => if x5 = 0 then (some ((0 : Int32), b6)) else (bP2 (f_X9_becomes N (2 : Int32) b6) fun x10 b11 => some (x10, b11))
set_option maxRecDepth 100000 in
set_option maxHeartbeats 4000000 in
theorem m_X9_pause {l : Launch} (hl : l.stackTraces = false) {G : GG} {L : List Nat} (hL : LOK L) {a b c : Mem} {N : Nat}  {v : Int32} {a' : Mem} (hR : f_X9_pause N b = some (v, a')) : Ct l G yX9_pause (.code yX9_pause cX9_pause 1 (some .int)) 2 44 0 0 [.ref (ad L 96)] L (FW G L a b c) px0 (stay L (fun r f1 => f1 = (FW G L a a' c) ∧ r = some (.int v))) := by
  refine Ct.ofq (own := RX9) hl rfl (by decide) [some (.ref (ad L 96))] rfl (Nat.le_of_ble_eq_true rfl) ?_
  intro p e s m below meth c9 A ar Q hQ X
  unfold f_X9_pause at hR
  refine j_aload_n X (i := 0) dX9_pause_0 rfl rfl ?_
  refine j_aload_n X (i := 0) dX9_pause_1 rfl rfl ?_
  refine j_iconst X (1) dX9_pause_2 (by decide) ?_
  obtain ⟨x2, h1, hR⟩ := bP_inv hR
  refine j_callV1 X 9 (m_X9_isState hl hL h1) ml_X9_76 im_yX9_isState se_yX9_isState in_X9 cd_yX9_isState hy_yX9_isState dX9_pause_3 rfl (ad_mem hL (by decide)) (FW9 hL) ⟨(by decide), (by decide)⟩ ⟨(by decide), (by decide)⟩ (Nat.le_of_ble_eq_true rfl) (fun _ h => h.elim) (fun r9 L9 f9 h9 => ?_)
  obtain ⟨h91, h92, h93, h3⟩ := h9
  subst r9
  subst f9
  subst L9
  dsimp only [Option.toList, List.cons_append, List.nil_append, List.append]
  obtain ⟨x5, b6, h4, hR⟩ := bT2_inv hR
  refine j_callV1 X 9 (m_X9_passes hl hL h3 h4) ml_X9_159 im_yX9_passes se_yX9_passes in_X9 cd_yX9_passes hy_yX9_passes dX9_pause_6 rfl (ad_mem hL (by decide)) (FW9 hL) ⟨(by decide), (by decide)⟩ ⟨(by decide), (by decide)⟩ (Nat.le_of_ble_eq_true rfl) (fun _ h => h.elim) (fun r9 L9 f9 h9 => ?_)
  obtain ⟨h91, h92, h93, h7⟩ := h9
  subst r9
  subst f9
  subst L9
  dsimp only [Option.toList, List.cons_append, List.nil_append, List.append]
  refine j_if_eq X (tgt := 20) dX9_pause_9 (by decide) (fun h8 => ?_) (fun h8 => ?_)
  · replace hR := (if_pos h8).symm.trans hR
    refine j_iconst X (0) dX9_pause_20 (by decide) ?_
    exact q_iret X hQ dX9_pause_21 rfl ⟨(by decide), (by decide)⟩ ⟨rfl, congrArg (fun z => FW G L a z c) (Prod.mk.inj (Option.some.inj hR)).2, congrArg (fun z => some (Value.int z)) (Prod.mk.inj (Option.some.inj hR)).1⟩
  · replace hR := (if_neg h8).symm.trans hR
    refine j_aload_n X (i := 0) dX9_pause_12 rfl rfl ?_
    refine j_iconst X (2) dX9_pause_13 (by decide) ?_
    obtain ⟨x10, b11, h9, hR⟩ := bP2_inv hR
    refine j_callV1 X 9 (m_X9_becomes hl hL h9) ml_X9_375 im_yX9_becomes se_yX9_becomes in_X9 cd_yX9_becomes hy_yX9_becomes dX9_pause_14 rfl (ad_mem hL (by decide)) (FW9 hL) ⟨(by decide), (by decide)⟩ ⟨(by decide), (by decide)⟩ (Nat.le_of_ble_eq_true rfl) (fun _ h => h.elim) (fun r9 L9 f9 h9 => ?_)
    obtain ⟨h91, h92, h93⟩ := h9
    subst r9
    subst f9
    subst L9
    dsimp only [Option.toList, List.cons_append, List.nil_append, List.append]
    refine j_goto X (tgt := 21) dX9_pause_17 (by decide) ?_
    exact q_iret X hQ dX9_pause_21 rfl ⟨(by decide), (by decide)⟩ ⟨rfl, congrArg (fun z => FW G L a z c) (Prod.mk.inj (Option.some.inj hR)).2, congrArg (fun z => some (Value.int z)) (Prod.mk.inj (Option.some.inj hR)).1⟩
def f_X9_proceed (N : Nat) (b : Mem) : Option (Int32 × Mem) := bP (f_X9_isState N (2 : Int32) b) fun x2 => bT2 (f_X9_passes x2 b) fun x5 b6 => if x5 = 0 then (some ((0 : Int32), b6)) else (bP2 (f_X9_becomes N (1 : Int32) b6) fun x10 b11 => some (x10, b11))
set_option maxRecDepth 100000 in
set_option maxHeartbeats 4000000 in
theorem m_X9_proceed {l : Launch} (hl : l.stackTraces = false) {G : GG} {L : List Nat} (hL : LOK L) {a b c : Mem} {N : Nat}  {v : Int32} {a' : Mem} (hR : f_X9_proceed N b = some (v, a')) : Ct l G yX9_proceed (.code yX9_proceed cX9_proceed 1 (some .int)) 2 44 0 0 [.ref (ad L 96)] L (FW G L a b c) px0 (stay L (fun r f1 => f1 = (FW G L a a' c) ∧ r = some (.int v))) := by
  refine Ct.ofq (own := RX9) hl rfl (by decide) [some (.ref (ad L 96))] rfl (Nat.le_of_ble_eq_true rfl) ?_
  intro p e s m below meth c9 A ar Q hQ X
  unfold f_X9_proceed at hR
  refine j_aload_n X (i := 0) dX9_proceed_0 rfl rfl ?_
  refine j_aload_n X (i := 0) dX9_proceed_1 rfl rfl ?_
  refine j_iconst X (2) dX9_proceed_2 (by decide) ?_
  obtain ⟨x2, h1, hR⟩ := bP_inv hR
  refine j_callV1 X 9 (m_X9_isState hl hL h1) ml_X9_76 im_yX9_isState se_yX9_isState in_X9 cd_yX9_isState hy_yX9_isState dX9_proceed_3 rfl (ad_mem hL (by decide)) (FW9 hL) ⟨(by decide), (by decide)⟩ ⟨(by decide), (by decide)⟩ (Nat.le_of_ble_eq_true rfl) (fun _ h => h.elim) (fun r9 L9 f9 h9 => ?_)
  obtain ⟨h91, h92, h93, h3⟩ := h9
  subst r9
  subst f9
  subst L9
  dsimp only [Option.toList, List.cons_append, List.nil_append, List.append]
  obtain ⟨x5, b6, h4, hR⟩ := bT2_inv hR
  refine j_callV1 X 9 (m_X9_passes hl hL h3 h4) ml_X9_159 im_yX9_passes se_yX9_passes in_X9 cd_yX9_passes hy_yX9_passes dX9_proceed_6 rfl (ad_mem hL (by decide)) (FW9 hL) ⟨(by decide), (by decide)⟩ ⟨(by decide), (by decide)⟩ (Nat.le_of_ble_eq_true rfl) (fun _ h => h.elim) (fun r9 L9 f9 h9 => ?_)
  obtain ⟨h91, h92, h93, h7⟩ := h9
  subst r9
  subst f9
  subst L9
  dsimp only [Option.toList, List.cons_append, List.nil_append, List.append]
  refine j_if_eq X (tgt := 20) dX9_proceed_9 (by decide) (fun h8 => ?_) (fun h8 => ?_)
  · replace hR := (if_pos h8).symm.trans hR
    refine j_iconst X (0) dX9_proceed_20 (by decide) ?_
    exact q_iret X hQ dX9_proceed_21 rfl ⟨(by decide), (by decide)⟩ ⟨rfl, congrArg (fun z => FW G L a z c) (Prod.mk.inj (Option.some.inj hR)).2, congrArg (fun z => some (Value.int z)) (Prod.mk.inj (Option.some.inj hR)).1⟩
  · replace hR := (if_neg h8).symm.trans hR
    refine j_aload_n X (i := 0) dX9_proceed_12 rfl rfl ?_
    refine j_iconst X (1) dX9_proceed_13 (by decide) ?_
    obtain ⟨x10, b11, h9, hR⟩ := bP2_inv hR
    refine j_callV1 X 9 (m_X9_becomes hl hL h9) ml_X9_375 im_yX9_becomes se_yX9_becomes in_X9 cd_yX9_becomes hy_yX9_becomes dX9_proceed_14 rfl (ad_mem hL (by decide)) (FW9 hL) ⟨(by decide), (by decide)⟩ ⟨(by decide), (by decide)⟩ (Nat.le_of_ble_eq_true rfl) (fun _ h => h.elim) (fun r9 L9 f9 h9 => ?_)
    obtain ⟨h91, h92, h93⟩ := h9
    subst r9
    subst f9
    subst L9
    dsimp only [Option.toList, List.cons_append, List.nil_append, List.append]
    refine j_goto X (tgt := 21) dX9_proceed_17 (by decide) ?_
    exact q_iret X hQ dX9_proceed_21 rfl ⟨(by decide), (by decide)⟩ ⟨rfl, congrArg (fun z => FW G L a z c) (Prod.mk.inj (Option.some.inj hR)).2, congrArg (fun z => some (Value.int z)) (Prod.mk.inj (Option.some.inj hR)).1⟩
def f_X9_seal (N : Nat) (b : Mem) : Option (Int32 × Mem) := bP (f_X9_sealable N b) fun x2 => bT2 (f_X9_passes x2 b) fun x5 b6 => if x5 = 0 then (some ((0 : Int32), b6)) else (bP2 (f_X9_becomes N (3 : Int32) b6) fun x10 b11 => some (x10, b11))
set_option maxRecDepth 100000 in
set_option maxHeartbeats 4000000 in
theorem m_X9_seal {l : Launch} (hl : l.stackTraces = false) {G : GG} {L : List Nat} (hL : LOK L) {a b c : Mem} {N : Nat}  {v : Int32} {a' : Mem} (hR : f_X9_seal N b = some (v, a')) : Ct l G yX9_seal (.code yX9_seal cX9_seal 1 (some .int)) 2 44 0 0 [.ref (ad L 96)] L (FW G L a b c) px0 (stay L (fun r f1 => f1 = (FW G L a a' c) ∧ r = some (.int v))) := by
  refine Ct.ofq (own := RX9) hl rfl (by decide) [some (.ref (ad L 96))] rfl (Nat.le_of_ble_eq_true rfl) ?_
  intro p e s m below meth c9 A ar Q hQ X
  unfold f_X9_seal at hR
  refine j_aload_n X (i := 0) dX9_seal_0 rfl rfl ?_
  refine j_aload_n X (i := 0) dX9_seal_1 rfl rfl ?_
  obtain ⟨x2, h1, hR⟩ := bP_inv hR
  refine j_callV0 X 9 (m_X9_sealable hl hL h1) ml_X9_360 im_yX9_sealable se_yX9_sealable in_X9 cd_yX9_sealable hy_yX9_sealable dX9_seal_2 rfl (ad_mem hL (by decide)) (FW9 hL) ⟨(by decide), (by decide)⟩ ⟨(by decide), (by decide)⟩ (Nat.le_of_ble_eq_true rfl) (fun _ h => h.elim) (fun r9 L9 f9 h9 => ?_)
  obtain ⟨h91, h92, h93, h3⟩ := h9
  subst r9
  subst f9
  subst L9
  dsimp only [Option.toList, List.cons_append, List.nil_append, List.append]
  obtain ⟨x5, b6, h4, hR⟩ := bT2_inv hR
  refine j_callV1 X 9 (m_X9_passes hl hL h3 h4) ml_X9_159 im_yX9_passes se_yX9_passes in_X9 cd_yX9_passes hy_yX9_passes dX9_seal_5 rfl (ad_mem hL (by decide)) (FW9 hL) ⟨(by decide), (by decide)⟩ ⟨(by decide), (by decide)⟩ (Nat.le_of_ble_eq_true rfl) (fun _ h => h.elim) (fun r9 L9 f9 h9 => ?_)
  obtain ⟨h91, h92, h93, h7⟩ := h9
  subst r9
  subst f9
  subst L9
  dsimp only [Option.toList, List.cons_append, List.nil_append, List.append]
  refine j_if_eq X (tgt := 19) dX9_seal_8 (by decide) (fun h8 => ?_) (fun h8 => ?_)
  · replace hR := (if_pos h8).symm.trans hR
    refine j_iconst X (0) dX9_seal_19 (by decide) ?_
    exact q_iret X hQ dX9_seal_20 rfl ⟨(by decide), (by decide)⟩ ⟨rfl, congrArg (fun z => FW G L a z c) (Prod.mk.inj (Option.some.inj hR)).2, congrArg (fun z => some (Value.int z)) (Prod.mk.inj (Option.some.inj hR)).1⟩
  · replace hR := (if_neg h8).symm.trans hR
    refine j_aload_n X (i := 0) dX9_seal_11 rfl rfl ?_
    refine j_iconst X (3) dX9_seal_12 (by decide) ?_
    obtain ⟨x10, b11, h9, hR⟩ := bP2_inv hR
    refine j_callV1 X 9 (m_X9_becomes hl hL h9) ml_X9_375 im_yX9_becomes se_yX9_becomes in_X9 cd_yX9_becomes hy_yX9_becomes dX9_seal_13 rfl (ad_mem hL (by decide)) (FW9 hL) ⟨(by decide), (by decide)⟩ ⟨(by decide), (by decide)⟩ (Nat.le_of_ble_eq_true rfl) (fun _ h => h.elim) (fun r9 L9 f9 h9 => ?_)
    obtain ⟨h91, h92, h93⟩ := h9
    subst r9
    subst f9
    subst L9
    dsimp only [Option.toList, List.cons_append, List.nil_append, List.append]
    refine j_goto X (tgt := 20) dX9_seal_16 (by decide) ?_
    exact q_iret X hQ dX9_seal_20 rfl ⟨(by decide), (by decide)⟩ ⟨rfl, congrArg (fun z => FW G L a z c) (Prod.mk.inj (Option.some.inj hR)).2, congrArg (fun z => some (Value.int z)) (Prod.mk.inj (Option.some.inj hR)).1⟩
def f_X9_open (N : Nat) (b : Mem) : Option (Int32 × Mem) := bP (f_X9_isState N (3 : Int32) b) fun x2 => bT2 (f_X9_passes x2 b) fun x5 b6 => if x5 = 0 then (some ((0 : Int32), b6)) else (bP2 (f_X9_becomes N (1 : Int32) b6) fun x10 b11 => bT (upR b11 1 (upd (b11 1) ((6 : Int32)).toNatClampNeg (0 : Int32))) fun b13 => bP2 (f_X9_moveOnce N b13) fun x16 b17 => some (x16, b17))
set_option maxRecDepth 100000 in
set_option maxHeartbeats 4000000 in
theorem m_X9_open {l : Launch} (hl : l.stackTraces = false) {G : GG} {L : List Nat} (hL : LOK L) {a b c : Mem} {N : Nat}  {v : Int32} {a' : Mem} (hR : f_X9_open N b = some (v, a')) : Ct l G yX9_open (.code yX9_open cX9_open 2 (some .int)) 4 87 0 0 [.ref (ad L 96)] L (FW G L a b c) px0 (stay L (fun r f1 => f1 = (FW G L a a' c) ∧ r = some (.int v))) := by
  refine Ct.ofq (own := RX9) hl rfl (by decide) [some (.ref (ad L 96)), none] rfl (Nat.le_of_ble_eq_true rfl) ?_
  intro p e s m below meth c9 A ar Q hQ X
  unfold f_X9_open at hR
  refine j_aload_n X (i := 0) dX9_open_0 rfl rfl ?_
  refine j_aload_n X (i := 0) dX9_open_1 rfl rfl ?_
  refine j_iconst X (3) dX9_open_2 (by decide) ?_
  obtain ⟨x2, h1, hR⟩ := bP_inv hR
  refine j_callV1 X 9 (m_X9_isState hl hL h1) ml_X9_76 im_yX9_isState se_yX9_isState in_X9 cd_yX9_isState hy_yX9_isState dX9_open_3 rfl (ad_mem hL (by decide)) (FW9 hL) ⟨(by decide), (by decide)⟩ ⟨(by decide), (by decide)⟩ (Nat.le_of_ble_eq_true rfl) (fun _ h => h.elim) (fun r9 L9 f9 h9 => ?_)
  obtain ⟨h91, h92, h93, h3⟩ := h9
  subst r9
  subst f9
  subst L9
  dsimp only [Option.toList, List.cons_append, List.nil_append, List.append]
  obtain ⟨x5, b6, h4, hR⟩ := bT2_inv hR
  refine j_callV1 X 9 (m_X9_passes hl hL h3 h4) ml_X9_159 im_yX9_passes se_yX9_passes in_X9 cd_yX9_passes hy_yX9_passes dX9_open_6 rfl (ad_mem hL (by decide)) (FW9 hL) ⟨(by decide), (by decide)⟩ ⟨(by decide), (by decide)⟩ (Nat.le_of_ble_eq_true rfl) (fun _ h => h.elim) (fun r9 L9 f9 h9 => ?_)
  obtain ⟨h91, h92, h93, h7⟩ := h9
  subst r9
  subst f9
  subst L9
  dsimp only [Option.toList, List.cons_append, List.nil_append, List.append]
  refine j_if_ne X (tgt := 14) dX9_open_9 (by decide) (fun h8 => ?_) (fun h8 => ?_)
  · replace hR := (if_neg h8).symm.trans hR
    refine j_aload_n X (i := 0) dX9_open_14 rfl rfl ?_
    refine j_iconst X (1) dX9_open_15 (by decide) ?_
    obtain ⟨x10, b11, h9, hR⟩ := bP2_inv hR
    refine j_callV1 X 9 (m_X9_becomes hl hL h9) ml_X9_375 im_yX9_becomes se_yX9_becomes in_X9 cd_yX9_becomes hy_yX9_becomes dX9_open_16 rfl (ad_mem hL (by decide)) (FW9 hL) ⟨(by decide), (by decide)⟩ ⟨(by decide), (by decide)⟩ (Nat.le_of_ble_eq_true rfl) (fun _ h => h.elim) (fun r9 L9 f9 h9 => ?_)
    obtain ⟨h91, h92, h93⟩ := h9
    subst r9
    subst f9
    subst L9
    dsimp only [Option.toList, List.cons_append, List.nil_append, List.append]
    refine j_istore_n X (i := 1) dX9_open_19 rfl (by decide) (lvOK_s rfl okPrev_ref) ?_
    dsimp only [List.set]
    refine j_aload_n X (i := 0) dX9_open_20 rfl rfl ?_
    refine j_getf X 9 1 rfl cw_X9 fl_X9_17 (by decide) dX9_open_21 (ad_mem hL (by decide)) (FW9 hL) rfl ?_
    refine j_bipush X (6) dX9_open_24 (by decide) ?_
    refine j_iconst X (0) dX9_open_26 (by decide) ?_
    obtain ⟨b13, h14, hR⟩ := bT_inv hR
    refine t_Iast_97 X hL (by unfold vp_in; decide) h14 dX9_open_27 ?_
    refine j_aload_n X (i := 0) dX9_open_28 rfl rfl ?_
    obtain ⟨x16, b17, h15, hR⟩ := bP2_inv hR
    refine j_callV0 X 9 (m_X9_moveOnce hl hL h15) ml_X9_153 im_yX9_moveOnce se_yX9_moveOnce in_X9 cd_yX9_moveOnce hy_yX9_moveOnce dX9_open_29 rfl (ad_mem hL (by decide)) (FW9 hL) ⟨(by decide), (by decide)⟩ ⟨(by decide), (by decide)⟩ (Nat.le_of_ble_eq_true rfl) (fun _ h => h.elim) (fun r9 L9 f9 h9 => ?_)
    obtain ⟨h91, h92, h93⟩ := h9
    subst r9
    subst f9
    subst L9
    dsimp only [Option.toList, List.cons_append, List.nil_append, List.append]
    exact q_iret X hQ dX9_open_32 rfl ⟨(by decide), (by decide)⟩ ⟨rfl, congrArg (fun z => FW G L a z c) (Prod.mk.inj (Option.some.inj hR)).2, congrArg (fun z => some (Value.int z)) (Prod.mk.inj (Option.some.inj hR)).1⟩
  · replace hR := (if_pos h8).symm.trans hR
    refine j_iconst X (0) dX9_open_12 (by decide) ?_
    exact q_iret X hQ dX9_open_13 rfl ⟨(by decide), (by decide)⟩ ⟨rfl, congrArg (fun z => FW G L a z c) (Prod.mk.inj (Option.some.inj hR)).2, congrArg (fun z => some (Value.int z)) (Prod.mk.inj (Option.some.inj hR)).1⟩
def f_X9_swap_36 (N : Nat)  : Nat → Int32 → Mem → Option (Int32 × Mem)
  | 0, _, _ => none
  | fu + 1, x13, b14 => if (17 : Int32) ≤ x13 then (bP2 (f_X9_ahead N b14) fun x17 b18 => some (x17, b18)) else (bP (f_X9_of N (0 : Int32) x13 b14) fun x21 => bP (f_X9_of N (1 : Int32) x13 b14) fun x24 => bP (f_X9_put N (0 : Int32) x13 x24 b14) fun b27 => bP (f_X9_put N (1 : Int32) x13 x21 b27) fun b30 => bT (x13 + (1 : Int32)) fun x32 => f_X9_swap_36 N fu x32 b30)
theorem f_X9_swap_36_s (N : Nat)  {fu : Nat} {x13 : Int32} {b14 : Mem} : f_X9_swap_36 N (fu + 1) x13 b14 = (if (17 : Int32) ≤ x13 then (bP2 (f_X9_ahead N b14) fun x17 b18 => some (x17, b18)) else (bP (f_X9_of N (0 : Int32) x13 b14) fun x21 => bP (f_X9_of N (1 : Int32) x13 b14) fun x24 => bP (f_X9_put N (0 : Int32) x13 x24 b14) fun b27 => bP (f_X9_put N (1 : Int32) x13 x21 b27) fun b30 => bT (x13 + (1 : Int32)) fun x32 => f_X9_swap_36 N fu x32 b30)) := rfl
def f_X9_swap_22 (N : Nat) (b : Mem) (x4 : Int32) : Option (Int32 × Mem) := bT2 (f_X9_passes x4 b) fun x6 b7 => if x6 = 0 then (some ((0 : Int32), b7)) else (bP (f_X9_remember N b7) fun b11 => f_X9_swap_36 N N (0 : Int32) b11)
def f_X9_swap_17 (N : Nat) (b : Mem)  : Option (Int32 × Mem) := f_X9_swap_22 N b (1 : Int32)
def f_X9_swap (N : Nat) (b : Mem) : Option (Int32 × Mem) := bP (f_X9_isState N (0 : Int32) b) fun x2 => if x2 = 0 then (bP (f_X9_isState N (2 : Int32) b) fun x36 => if x36 = 0 then (f_X9_swap_22 N b (0 : Int32)) else (f_X9_swap_17 N b )) else (f_X9_swap_17 N b )
set_option maxRecDepth 100000 in
set_option maxHeartbeats 4000000 in
theorem m_X9_swap {l : Launch} (hl : l.stackTraces = false) {G : GG} {L : List Nat} (hL : LOK L) {a b c : Mem} {N : Nat}  {v : Int32} {a' : Mem} (hR : f_X9_swap N b = some (v, a')) : Ct l G yX9_swap (.code yX9_swap cX9_swap 3 (some .int)) 2 44 0 0 [.ref (ad L 96)] L (FW G L a b c) px0 (stay L (fun r f1 => f1 = (FW G L a a' c) ∧ r = some (.int v))) := by
  refine Ct.ofq (own := RX9) hl rfl (by decide) [some (.ref (ad L 96)), none, none] rfl (Nat.le_of_ble_eq_true rfl) ?_
  intro p e s m below meth c9 A ar Q hQ X
  unfold f_X9_swap at hR
  refine j_aload_n X (i := 0) dX9_swap_0 rfl rfl ?_
  refine j_aload_n X (i := 0) dX9_swap_1 rfl rfl ?_
  refine j_iconst X (0) dX9_swap_2 (by decide) ?_
  obtain ⟨x2, h1, hR⟩ := bP_inv hR
  refine j_callV1 X 9 (m_X9_isState hl hL h1) ml_X9_76 im_yX9_isState se_yX9_isState in_X9 cd_yX9_isState hy_yX9_isState dX9_swap_3 rfl (ad_mem hL (by decide)) (FW9 hL) ⟨(by decide), (by decide)⟩ ⟨(by decide), (by decide)⟩ (Nat.le_of_ble_eq_true rfl) (fun _ h => h.elim) (fun r9 L9 f9 h9 => ?_)
  obtain ⟨h91, h92, h93, h3⟩ := h9
  subst r9
  subst f9
  subst L9
  dsimp only [Option.toList, List.cons_append, List.nil_append, List.append]
  have hb22 : ∀ (x4 : Int32) (hBx4 : isB x4), f_X9_swap_22 N b x4 = some (v, a') → J G p l e ({ frames := 2, cells := 0, slots := 0, locals := 44 } : Room) s m ar below meth c9 A Q 3 0 0 22 [some (.ref (ad L 96)), none, none] [.int x4, .ref (ad L 96)] L (FW G L a b c) := by
    intro x4 hBx4 hR
    unfold f_X9_swap_22 at hR
    obtain ⟨x6, b7, h5, hR⟩ := bT2_inv hR
    refine j_callV1 X 9 (m_X9_passes hl hL hBx4 h5) ml_X9_159 im_yX9_passes se_yX9_passes in_X9 cd_yX9_passes hy_yX9_passes dX9_swap_22 rfl (ad_mem hL (by decide)) (FW9 hL) ⟨(by decide), (by decide)⟩ ⟨(by decide), (by decide)⟩ (Nat.le_of_ble_eq_true rfl) (fun _ h => h.elim) (fun r9 L9 f9 h9 => ?_)
    obtain ⟨h91, h92, h93, h8⟩ := h9
    subst r9
    subst f9
    subst L9
    dsimp only [Option.toList, List.cons_append, List.nil_append, List.append]
    refine j_if_ne X (tgt := 30) dX9_swap_25 (by decide) (fun h9 => ?_) (fun h9 => ?_)
    · replace hR := (if_neg h9).symm.trans hR
      refine j_aload_n X (i := 0) dX9_swap_30 rfl rfl ?_
      obtain ⟨b11, h10, hR⟩ := bP_inv hR
      refine j_callV0 X 9 (m_X9_remember hl hL h10) ml_X9_304 im_yX9_remember se_yX9_remember in_X9 cd_yX9_remember hy_yX9_remember dX9_swap_31 rfl (ad_mem hL (by decide)) (FW9 hL) ⟨(by decide), (by decide)⟩ ⟨(by decide), (by decide)⟩ (Nat.le_of_ble_eq_true rfl) (fun _ h => h.elim) (fun r9 L9 f9 h9 => ?_)
      obtain ⟨h91, h92, h93⟩ := h9
      subst r9
      subst f9
      subst L9
      dsimp only [Option.toList, List.cons_append, List.nil_append, List.append]
      refine j_iconst X (0) dX9_swap_34 (by decide) ?_
      refine j_istore_n X (i := 1) dX9_swap_35 rfl (by decide) (lvOK_s rfl okPrev_ref) ?_
      dsimp only [List.set]
      have hb36 : ∀ (fu : Nat) (x13 : Int32) (b14 : Mem) , f_X9_swap_36 N fu x13 b14 = some (v, a') → J G p l e ({ frames := 2, cells := 0, slots := 0, locals := 44 } : Room) s m ar below meth c9 A Q 3 0 0 36 [some (.ref (ad L 96)), some (.int x13), none] [] L (FW G L a b14 c) := by
        intro fu
        induction fu with
        | zero =>
          intro x13 b14 hR
          cases hR
        | succ fu ih =>
          intro x13 b14 hR
          replace hR := (f_X9_swap_36_s N ).symm.trans hR
          refine j_iload_n X (i := 1) dX9_swap_36 rfl rfl ?_
          refine j_bipush X (17) dX9_swap_37 (by decide) ?_
          refine j_icmp_ge X (tgt := 74) dX9_swap_39 (by decide) (fun h15 => ?_) (fun h15 => ?_)
          · replace hR := (if_pos h15).symm.trans hR
            refine j_aload_n X (i := 0) dX9_swap_74 rfl rfl ?_
            obtain ⟨x17, b18, h16, hR⟩ := bP2_inv hR
            refine j_callV0 X 9 (m_X9_ahead hl hL h16) ml_X9_378 im_yX9_ahead se_yX9_ahead in_X9 cd_yX9_ahead hy_yX9_ahead dX9_swap_75 rfl (ad_mem hL (by decide)) (FW9 hL) ⟨(by decide), (by decide)⟩ ⟨(by decide), (by decide)⟩ (Nat.le_of_ble_eq_true rfl) (fun _ h => h.elim) (fun r9 L9 f9 h9 => ?_)
            obtain ⟨h91, h92, h93⟩ := h9
            subst r9
            subst f9
            subst L9
            dsimp only [Option.toList, List.cons_append, List.nil_append, List.append]
            exact q_iret X hQ dX9_swap_78 rfl ⟨(by decide), (by decide)⟩ ⟨rfl, congrArg (fun z => FW G L a z c) (Prod.mk.inj (Option.some.inj hR)).2, congrArg (fun z => some (Value.int z)) (Prod.mk.inj (Option.some.inj hR)).1⟩
          · replace hR := (if_neg h15).symm.trans hR
            refine j_aload_n X (i := 0) dX9_swap_42 rfl rfl ?_
            refine j_iconst X (0) dX9_swap_43 (by decide) ?_
            refine j_iload_n X (i := 1) dX9_swap_44 rfl rfl ?_
            obtain ⟨x21, h20, hR⟩ := bP_inv hR
            refine j_callV2 X 9 (m_X9_of hl hL h20) ml_X9_57 im_yX9_of se_yX9_of in_X9 cd_yX9_of hy_yX9_of dX9_swap_45 rfl (ad_mem hL (by decide)) (FW9 hL) ⟨(by decide), (by decide)⟩ ⟨(by decide), (by decide)⟩ (Nat.le_of_ble_eq_true rfl) (fun _ h => h.elim) (fun r9 L9 f9 h9 => ?_)
            obtain ⟨h91, h92, h93⟩ := h9
            subst r9
            subst f9
            subst L9
            dsimp only [Option.toList, List.cons_append, List.nil_append, List.append]
            refine j_istore_n X (i := 2) dX9_swap_48 rfl (by decide) (lvOK_s rfl okPrev_int) ?_
            dsimp only [List.set]
            refine j_aload_n X (i := 0) dX9_swap_49 rfl rfl ?_
            refine j_iconst X (0) dX9_swap_50 (by decide) ?_
            refine j_iload_n X (i := 1) dX9_swap_51 rfl rfl ?_
            refine j_aload_n X (i := 0) dX9_swap_52 rfl rfl ?_
            refine j_iconst X (1) dX9_swap_53 (by decide) ?_
            refine j_iload_n X (i := 1) dX9_swap_54 rfl rfl ?_
            obtain ⟨x24, h23, hR⟩ := bP_inv hR
            refine j_callV2 X 9 (m_X9_of hl hL h23) ml_X9_57 im_yX9_of se_yX9_of in_X9 cd_yX9_of hy_yX9_of dX9_swap_55 rfl (ad_mem hL (by decide)) (FW9 hL) ⟨(by decide), (by decide)⟩ ⟨(by decide), (by decide)⟩ (Nat.le_of_ble_eq_true rfl) (fun _ h => h.elim) (fun r9 L9 f9 h9 => ?_)
            obtain ⟨h91, h92, h93⟩ := h9
            subst r9
            subst f9
            subst L9
            dsimp only [Option.toList, List.cons_append, List.nil_append, List.append]
            obtain ⟨b27, h26, hR⟩ := bP_inv hR
            refine j_callV3 X 9 (m_X9_put hl hL h26) ml_X9_53 im_yX9_put se_yX9_put in_X9 cd_yX9_put hy_yX9_put dX9_swap_58 rfl (ad_mem hL (by decide)) (FW9 hL) ⟨(by decide), (by decide)⟩ ⟨(by decide), (by decide)⟩ (Nat.le_of_ble_eq_true rfl) (fun _ h => h.elim) (fun r9 L9 f9 h9 => ?_)
            obtain ⟨h91, h92, h93⟩ := h9
            subst r9
            subst f9
            subst L9
            dsimp only [Option.toList, List.cons_append, List.nil_append, List.append]
            refine j_aload_n X (i := 0) dX9_swap_61 rfl rfl ?_
            refine j_iconst X (1) dX9_swap_62 (by decide) ?_
            refine j_iload_n X (i := 1) dX9_swap_63 rfl rfl ?_
            refine j_iload_n X (i := 2) dX9_swap_64 rfl rfl ?_
            obtain ⟨b30, h29, hR⟩ := bP_inv hR
            refine j_callV3 X 9 (m_X9_put hl hL h29) ml_X9_53 im_yX9_put se_yX9_put in_X9 cd_yX9_put hy_yX9_put dX9_swap_65 rfl (ad_mem hL (by decide)) (FW9 hL) ⟨(by decide), (by decide)⟩ ⟨(by decide), (by decide)⟩ (Nat.le_of_ble_eq_true rfl) (fun _ h => h.elim) (fun r9 L9 f9 h9 => ?_)
            obtain ⟨h91, h92, h93⟩ := h9
            subst r9
            subst f9
            subst L9
            dsimp only [Option.toList, List.cons_append, List.nil_append, List.append]
            obtain ⟨x32, h33, hR⟩ := bT_inv hR
            refine j_iinc X x32 dX9_swap_68 rfl h33 (by decide) (lvOK_s rfl okPrev_ref) ?_
            dsimp only [List.set]
            refine j_goto X (tgt := 36) dX9_swap_71 (by decide) ?_
            exact J.sub (lvle_of (by simp only [lvle, and_self])) (ih _ _  hR)
      exact J.sub (lvle_of (by simp only [lvle, and_self])) (hb36 _ _ _  hR)
    · replace hR := (if_pos h9).symm.trans hR
      refine j_iconst X (0) dX9_swap_28 (by decide) ?_
      exact q_iret X hQ dX9_swap_29 rfl ⟨(by decide), (by decide)⟩ ⟨rfl, congrArg (fun z => FW G L a z c) (Prod.mk.inj (Option.some.inj hR)).2, congrArg (fun z => some (Value.int z)) (Prod.mk.inj (Option.some.inj hR)).1⟩
  have hb17 : f_X9_swap_17 N b = some (v, a') → J G p l e ({ frames := 2, cells := 0, slots := 0, locals := 44 } : Room) s m ar below meth c9 A Q 3 0 0 17 [some (.ref (ad L 96)), none, none] [.ref (ad L 96)] L (FW G L a b c) := by
    intro hR
    unfold f_X9_swap_17 at hR
    refine j_iconst X (1) dX9_swap_17 (by decide) ?_
    refine j_goto X (tgt := 22) dX9_swap_18 (by decide) ?_
    exact J.sub (lvle_of (by simp only [lvle, and_self])) (hb22 _ isB_1 hR)
  refine j_if_ne X (tgt := 17) dX9_swap_6 (by decide) (fun h34 => ?_) (fun h34 => ?_)
  · replace hR := (if_neg h34).symm.trans hR
    exact J.sub (lvle_of (by simp only [lvle, and_self])) (hb17 hR)
  · replace hR := (if_pos h34).symm.trans hR
    refine j_aload_n X (i := 0) dX9_swap_9 rfl rfl ?_
    refine j_iconst X (2) dX9_swap_10 (by decide) ?_
    obtain ⟨x36, h35, hR⟩ := bP_inv hR
    refine j_callV1 X 9 (m_X9_isState hl hL h35) ml_X9_76 im_yX9_isState se_yX9_isState in_X9 cd_yX9_isState hy_yX9_isState dX9_swap_11 rfl (ad_mem hL (by decide)) (FW9 hL) ⟨(by decide), (by decide)⟩ ⟨(by decide), (by decide)⟩ (Nat.le_of_ble_eq_true rfl) (fun _ h => h.elim) (fun r9 L9 f9 h9 => ?_)
    obtain ⟨h91, h92, h93, h37⟩ := h9
    subst r9
    subst f9
    subst L9
    dsimp only [Option.toList, List.cons_append, List.nil_append, List.append]
    refine j_if_eq X (tgt := 21) dX9_swap_14 (by decide) (fun h38 => ?_) (fun h38 => ?_)
    · replace hR := (if_pos h38).symm.trans hR
      refine j_iconst X (0) dX9_swap_21 (by decide) ?_
      exact J.sub (lvle_of (by simp only [lvle, and_self])) (hb22 _ isB_0 hR)
    · replace hR := (if_neg h38).symm.trans hR
      exact J.sub (lvle_of (by simp only [lvle, and_self])) (hb17 hR)
def f_X9_claim_35 (N : Nat) (p0 : Int32) (b : Mem) (x2 : Int32) (x7 : Int32) : Option (Int32 × Mem) := bT2 (f_X9_passes2 x2 x7 b) fun x9 b10 => if x9 = 0 then (some ((0 : Int32), b10)) else (bP (f_X9_remember N b10) fun b14 => bP (f_X9_fell N p0 b14) fun x17 => if x17 = 0 then (bP (f_X9_wonBy N p0 b14) fun x21 => bP (f_X9_endGame N x21 b14) fun b24 => some ((b24 1 ((11 : Int32)).toNatClampNeg), b24)) else (bP (f_X9_endGame N (2 : Int32) b14) fun b27 => some ((b27 1 ((11 : Int32)).toNatClampNeg), b27)))
def f_X9_claim_34 (N : Nat) (p0 : Int32) (b : Mem) (x2 : Int32)  : Option (Int32 × Mem) := f_X9_claim_35 N p0 b x2 (0 : Int32)
def f_X9_claim (N : Nat) (p0 : Int32) (b : Mem) : Option (Int32 × Mem) := bT (f_X9_isSide p0 b) fun x2 => bP (f_X9_isState N (4 : Int32) b) fun x5 => if x5 = 0 then (bT (f_X9_isSide p0 b) fun x31 => if x31 = 0 then (f_X9_claim_34 N p0 b x2 ) else (bP (f_X9_fell N ((1 : Int32) - p0) b) fun x35 => if x35 = 0 then (f_X9_claim_34 N p0 b x2 ) else (f_X9_claim_35 N p0 b x2 (1 : Int32)))) else (f_X9_claim_34 N p0 b x2 )
set_option maxRecDepth 100000 in
set_option maxHeartbeats 4000000 in
theorem m_X9_claim {l : Launch} (hl : l.stackTraces = false) {G : GG} {L : List Nat} (hL : LOK L) {a b c : Mem} {N : Nat} {p0 : Int32} {v : Int32} {a' : Mem} (hR : f_X9_claim N p0 b = some (v, a')) : Ct l G yX9_claim (.code yX9_claim cX9_claim 2 (some .int)) 2 45 0 0 [.ref (ad L 96), .int p0] L (FW G L a b c) px0 (stay L (fun r f1 => f1 = (FW G L a a' c) ∧ r = some (.int v))) := by
  refine Ct.ofq (own := RX9) hl rfl (by decide) [some (.ref (ad L 96)), some (.int p0)] rfl (Nat.le_of_ble_eq_true rfl) ?_
  intro p e s m below meth c9 A ar Q hQ X
  unfold f_X9_claim at hR
  refine j_aload_n X (i := 0) dX9_claim_0 rfl rfl ?_
  refine j_iload_n X (i := 1) dX9_claim_1 rfl rfl ?_
  obtain ⟨x2, h1, hR⟩ := bT_inv hR
  refine j_callS1 X (m_X9_isSide hl hL h1) ml_X9_318 st_yX9_isSide in_X9 cd_yX9_isSide hy_yX9_isSide dX9_claim_2 ⟨(by decide), (by decide)⟩ ⟨(by decide), (by decide)⟩ (Nat.le_of_ble_eq_true rfl) (fun _ h => h.elim) (fun r9 L9 f9 h9 => ?_)
  obtain ⟨h91, h92, h93, h3⟩ := h9
  subst r9
  subst f9
  subst L9
  dsimp only [Option.toList, List.cons_append, List.nil_append, List.append]
  refine j_aload_n X (i := 0) dX9_claim_5 rfl rfl ?_
  refine j_iconst X (4) dX9_claim_6 (by decide) ?_
  obtain ⟨x5, h4, hR⟩ := bP_inv hR
  refine j_callV1 X 9 (m_X9_isState hl hL h4) ml_X9_76 im_yX9_isState se_yX9_isState in_X9 cd_yX9_isState hy_yX9_isState dX9_claim_7 rfl (ad_mem hL (by decide)) (FW9 hL) ⟨(by decide), (by decide)⟩ ⟨(by decide), (by decide)⟩ (Nat.le_of_ble_eq_true rfl) (fun _ h => h.elim) (fun r9 L9 f9 h9 => ?_)
  obtain ⟨h91, h92, h93, h6⟩ := h9
  subst r9
  subst f9
  subst L9
  dsimp only [Option.toList, List.cons_append, List.nil_append, List.append]
  have hb35 : ∀ (x7 : Int32) (hBx7 : isB x7), f_X9_claim_35 N p0 b x2 x7 = some (v, a') → J G p l e ({ frames := 2, cells := 0, slots := 0, locals := 45 } : Room) s m ar below meth c9 A Q 2 0 0 35 [some (.ref (ad L 96)), some (.int p0)] [.int x7, .int x2, .ref (ad L 96)] L (FW G L a b c) := by
    intro x7 hBx7 hR
    unfold f_X9_claim_35 at hR
    obtain ⟨x9, b10, h8, hR⟩ := bT2_inv hR
    refine j_callV2 X 9 (m_X9_passes2 hl hL h3 hBx7 h8) ml_X9_314 im_yX9_passes2 se_yX9_passes2 in_X9 cd_yX9_passes2 hy_yX9_passes2 dX9_claim_35 rfl (ad_mem hL (by decide)) (FW9 hL) ⟨(by decide), (by decide)⟩ ⟨(by decide), (by decide)⟩ (Nat.le_of_ble_eq_true rfl) (fun _ h => h.elim) (fun r9 L9 f9 h9 => ?_)
    obtain ⟨h91, h92, h93, h11⟩ := h9
    subst r9
    subst f9
    subst L9
    dsimp only [Option.toList, List.cons_append, List.nil_append, List.append]
    refine j_if_ne X (tgt := 43) dX9_claim_38 (by decide) (fun h12 => ?_) (fun h12 => ?_)
    · replace hR := (if_neg h12).symm.trans hR
      refine j_aload_n X (i := 0) dX9_claim_43 rfl rfl ?_
      obtain ⟨b14, h13, hR⟩ := bP_inv hR
      refine j_callV0 X 9 (m_X9_remember hl hL h13) ml_X9_304 im_yX9_remember se_yX9_remember in_X9 cd_yX9_remember hy_yX9_remember dX9_claim_44 rfl (ad_mem hL (by decide)) (FW9 hL) ⟨(by decide), (by decide)⟩ ⟨(by decide), (by decide)⟩ (Nat.le_of_ble_eq_true rfl) (fun _ h => h.elim) (fun r9 L9 f9 h9 => ?_)
      obtain ⟨h91, h92, h93⟩ := h9
      subst r9
      subst f9
      subst L9
      dsimp only [Option.toList, List.cons_append, List.nil_append, List.append]
      refine j_aload_n X (i := 0) dX9_claim_47 rfl rfl ?_
      refine j_aload_n X (i := 0) dX9_claim_48 rfl rfl ?_
      refine j_iload_n X (i := 1) dX9_claim_49 rfl rfl ?_
      obtain ⟨x17, h16, hR⟩ := bP_inv hR
      refine j_callV1 X 9 (m_X9_fell hl hL h16) ml_X9_96 im_yX9_fell se_yX9_fell in_X9 cd_yX9_fell hy_yX9_fell dX9_claim_50 rfl (ad_mem hL (by decide)) (FW9 hL) ⟨(by decide), (by decide)⟩ ⟨(by decide), (by decide)⟩ (Nat.le_of_ble_eq_true rfl) (fun _ h => h.elim) (fun r9 L9 f9 h9 => ?_)
      obtain ⟨h91, h92, h93, h18⟩ := h9
      subst r9
      subst f9
      subst L9
      dsimp only [Option.toList, List.cons_append, List.nil_append, List.append]
      refine j_if_eq X (tgt := 60) dX9_claim_53 (by decide) (fun h19 => ?_) (fun h19 => ?_)
      · replace hR := (if_pos h19).symm.trans hR
        refine j_aload_n X (i := 0) dX9_claim_60 rfl rfl ?_
        refine j_iload_n X (i := 1) dX9_claim_61 rfl rfl ?_
        obtain ⟨x21, h20, hR⟩ := bP_inv hR
        refine j_callV1 X 9 (m_X9_wonBy hl hL h20) ml_X9_68 im_yX9_wonBy se_yX9_wonBy in_X9 cd_yX9_wonBy hy_yX9_wonBy dX9_claim_62 rfl (ad_mem hL (by decide)) (FW9 hL) ⟨(by decide), (by decide)⟩ ⟨(by decide), (by decide)⟩ (Nat.le_of_ble_eq_true rfl) (fun _ h => h.elim) (fun r9 L9 f9 h9 => ?_)
        obtain ⟨h91, h92, h93⟩ := h9
        subst r9
        subst f9
        subst L9
        dsimp only [Option.toList, List.cons_append, List.nil_append, List.append]
        obtain ⟨b24, h23, hR⟩ := bP_inv hR
        refine j_callV1 X 9 (m_X9_endGame hl hL h23) ml_X9_72 im_yX9_endGame se_yX9_endGame in_X9 cd_yX9_endGame hy_yX9_endGame dX9_claim_65 rfl (ad_mem hL (by decide)) (FW9 hL) ⟨(by decide), (by decide)⟩ ⟨(by decide), (by decide)⟩ (Nat.le_of_ble_eq_true rfl) (fun _ h => h.elim) (fun r9 L9 f9 h9 => ?_)
        obtain ⟨h91, h92, h93⟩ := h9
        subst r9
        subst f9
        subst L9
        dsimp only [Option.toList, List.cons_append, List.nil_append, List.append]
        refine j_aload_n X (i := 0) dX9_claim_68 rfl rfl ?_
        refine j_getf X 9 1 rfl cw_X9 fl_X9_17 (by decide) dX9_claim_69 (ad_mem hL (by decide)) (FW9 hL) rfl ?_
        refine j_bipush X (11) dX9_claim_72 (by decide) ?_
        refine j_iald X dX9_claim_74 (ad_mem hL (by decide)) (FWr97 hL) (by unfold vp_in; decide) ?_
        exact q_iret X hQ dX9_claim_75 rfl ⟨(by decide), (by decide)⟩ ⟨rfl, congrArg (fun z => FW G L a z c) (Prod.mk.inj (Option.some.inj hR)).2, congrArg (fun z => some (Value.int z)) (Prod.mk.inj (Option.some.inj hR)).1⟩
      · replace hR := (if_neg h19).symm.trans hR
        refine j_iconst X (2) dX9_claim_56 (by decide) ?_
        refine j_goto X (tgt := 65) dX9_claim_57 (by decide) ?_
        obtain ⟨b27, h26, hR⟩ := bP_inv hR
        refine j_callV1 X 9 (m_X9_endGame hl hL h26) ml_X9_72 im_yX9_endGame se_yX9_endGame in_X9 cd_yX9_endGame hy_yX9_endGame dX9_claim_65 rfl (ad_mem hL (by decide)) (FW9 hL) ⟨(by decide), (by decide)⟩ ⟨(by decide), (by decide)⟩ (Nat.le_of_ble_eq_true rfl) (fun _ h => h.elim) (fun r9 L9 f9 h9 => ?_)
        obtain ⟨h91, h92, h93⟩ := h9
        subst r9
        subst f9
        subst L9
        dsimp only [Option.toList, List.cons_append, List.nil_append, List.append]
        refine j_aload_n X (i := 0) dX9_claim_68 rfl rfl ?_
        refine j_getf X 9 1 rfl cw_X9 fl_X9_17 (by decide) dX9_claim_69 (ad_mem hL (by decide)) (FW9 hL) rfl ?_
        refine j_bipush X (11) dX9_claim_72 (by decide) ?_
        refine j_iald X dX9_claim_74 (ad_mem hL (by decide)) (FWr97 hL) (by unfold vp_in; decide) ?_
        exact q_iret X hQ dX9_claim_75 rfl ⟨(by decide), (by decide)⟩ ⟨rfl, congrArg (fun z => FW G L a z c) (Prod.mk.inj (Option.some.inj hR)).2, congrArg (fun z => some (Value.int z)) (Prod.mk.inj (Option.some.inj hR)).1⟩
    · replace hR := (if_pos h12).symm.trans hR
      refine j_iconst X (0) dX9_claim_41 (by decide) ?_
      exact q_iret X hQ dX9_claim_42 rfl ⟨(by decide), (by decide)⟩ ⟨rfl, congrArg (fun z => FW G L a z c) (Prod.mk.inj (Option.some.inj hR)).2, congrArg (fun z => some (Value.int z)) (Prod.mk.inj (Option.some.inj hR)).1⟩
  have hb34 : f_X9_claim_34 N p0 b x2 = some (v, a') → J G p l e ({ frames := 2, cells := 0, slots := 0, locals := 45 } : Room) s m ar below meth c9 A Q 2 0 0 34 [some (.ref (ad L 96)), some (.int p0)] [.int x2, .ref (ad L 96)] L (FW G L a b c) := by
    intro hR
    unfold f_X9_claim_34 at hR
    refine j_iconst X (0) dX9_claim_34 (by decide) ?_
    exact J.sub (lvle_of (by simp only [lvle, and_self])) (hb35 _ isB_0 hR)
  refine j_if_ne X (tgt := 34) dX9_claim_10 (by decide) (fun h29 => ?_) (fun h29 => ?_)
  · replace hR := (if_neg h29).symm.trans hR
    exact J.sub (lvle_of (by simp only [lvle, and_self])) (hb34 hR)
  · replace hR := (if_pos h29).symm.trans hR
    refine j_iload_n X (i := 1) dX9_claim_13 rfl rfl ?_
    obtain ⟨x31, h30, hR⟩ := bT_inv hR
    refine j_callS1 X (m_X9_isSide hl hL h30) ml_X9_318 st_yX9_isSide in_X9 cd_yX9_isSide hy_yX9_isSide dX9_claim_14 ⟨(by decide), (by decide)⟩ ⟨(by decide), (by decide)⟩ (Nat.le_of_ble_eq_true rfl) (fun _ h => h.elim) (fun r9 L9 f9 h9 => ?_)
    obtain ⟨h91, h92, h93, h32⟩ := h9
    subst r9
    subst f9
    subst L9
    dsimp only [Option.toList, List.cons_append, List.nil_append, List.append]
    refine j_if_eq X (tgt := 34) dX9_claim_17 (by decide) (fun h33 => ?_) (fun h33 => ?_)
    · replace hR := (if_pos h33).symm.trans hR
      exact J.sub (lvle_of (by simp only [lvle, and_self])) (hb34 hR)
    · replace hR := (if_neg h33).symm.trans hR
      refine j_aload_n X (i := 0) dX9_claim_20 rfl rfl ?_
      refine j_iconst X (1) dX9_claim_21 (by decide) ?_
      refine j_iload_n X (i := 1) dX9_claim_22 rfl rfl ?_
      refine j_isub X dX9_claim_23 ?_
      obtain ⟨x35, h34, hR⟩ := bP_inv hR
      refine j_callV1 X 9 (m_X9_fell hl hL h34) ml_X9_96 im_yX9_fell se_yX9_fell in_X9 cd_yX9_fell hy_yX9_fell dX9_claim_24 rfl (ad_mem hL (by decide)) (FW9 hL) ⟨(by decide), (by decide)⟩ ⟨(by decide), (by decide)⟩ (Nat.le_of_ble_eq_true rfl) (fun _ h => h.elim) (fun r9 L9 f9 h9 => ?_)
      obtain ⟨h91, h92, h93, h36⟩ := h9
      subst r9
      subst f9
      subst L9
      dsimp only [Option.toList, List.cons_append, List.nil_append, List.append]
      refine j_if_eq X (tgt := 34) dX9_claim_27 (by decide) (fun h37 => ?_) (fun h37 => ?_)
      · replace hR := (if_pos h37).symm.trans hR
        exact J.sub (lvle_of (by simp only [lvle, and_self])) (hb34 hR)
      · replace hR := (if_neg h37).symm.trans hR
        refine j_iconst X (1) dX9_claim_30 (by decide) ?_
        refine j_goto X (tgt := 35) dX9_claim_31 (by decide) ?_
        exact J.sub (lvle_of (by simp only [lvle, and_self])) (hb35 _ isB_1 hR)
def f_X9_resign_18 (N : Nat) (p0 : Int32) (b : Mem) (x2 : Int32) (x7 : Int32) : Option (Int32 × Mem) := bT2 (f_X9_passes2 x2 x7 b) fun x9 b10 => if x9 = 0 then (some ((0 : Int32), b10)) else (bP (f_X9_remember N b10) fun b14 => bP (f_X9_endGame N ((1 : Int32) - p0) b14) fun b17 => some ((b17 1 ((11 : Int32)).toNatClampNeg), b17))
def f_X9_resign (N : Nat) (p0 : Int32) (b : Mem) : Option (Int32 × Mem) := bT (f_X9_isSide p0 b) fun x2 => bP (f_X9_isState N (4 : Int32) b) fun x5 => if x5 = 0 then (f_X9_resign_18 N p0 b x2 (1 : Int32)) else (f_X9_resign_18 N p0 b x2 (0 : Int32))
set_option maxRecDepth 100000 in
set_option maxHeartbeats 4000000 in
theorem m_X9_resign {l : Launch} (hl : l.stackTraces = false) {G : GG} {L : List Nat} (hL : LOK L) {a b c : Mem} {N : Nat} {p0 : Int32} {v : Int32} {a' : Mem} (hR : f_X9_resign N p0 b = some (v, a')) : Ct l G yX9_resign (.code yX9_resign cX9_resign 2 (some .int)) 2 45 0 0 [.ref (ad L 96), .int p0] L (FW G L a b c) px0 (stay L (fun r f1 => f1 = (FW G L a a' c) ∧ r = some (.int v))) := by
  refine Ct.ofq (own := RX9) hl rfl (by decide) [some (.ref (ad L 96)), some (.int p0)] rfl (Nat.le_of_ble_eq_true rfl) ?_
  intro p e s m below meth c9 A ar Q hQ X
  unfold f_X9_resign at hR
  refine j_aload_n X (i := 0) dX9_resign_0 rfl rfl ?_
  refine j_iload_n X (i := 1) dX9_resign_1 rfl rfl ?_
  obtain ⟨x2, h1, hR⟩ := bT_inv hR
  refine j_callS1 X (m_X9_isSide hl hL h1) ml_X9_318 st_yX9_isSide in_X9 cd_yX9_isSide hy_yX9_isSide dX9_resign_2 ⟨(by decide), (by decide)⟩ ⟨(by decide), (by decide)⟩ (Nat.le_of_ble_eq_true rfl) (fun _ h => h.elim) (fun r9 L9 f9 h9 => ?_)
  obtain ⟨h91, h92, h93, h3⟩ := h9
  subst r9
  subst f9
  subst L9
  dsimp only [Option.toList, List.cons_append, List.nil_append, List.append]
  refine j_aload_n X (i := 0) dX9_resign_5 rfl rfl ?_
  refine j_iconst X (4) dX9_resign_6 (by decide) ?_
  obtain ⟨x5, h4, hR⟩ := bP_inv hR
  refine j_callV1 X 9 (m_X9_isState hl hL h4) ml_X9_76 im_yX9_isState se_yX9_isState in_X9 cd_yX9_isState hy_yX9_isState dX9_resign_7 rfl (ad_mem hL (by decide)) (FW9 hL) ⟨(by decide), (by decide)⟩ ⟨(by decide), (by decide)⟩ (Nat.le_of_ble_eq_true rfl) (fun _ h => h.elim) (fun r9 L9 f9 h9 => ?_)
  obtain ⟨h91, h92, h93, h6⟩ := h9
  subst r9
  subst f9
  subst L9
  dsimp only [Option.toList, List.cons_append, List.nil_append, List.append]
  have hb18 : ∀ (x7 : Int32) (hBx7 : isB x7), f_X9_resign_18 N p0 b x2 x7 = some (v, a') → J G p l e ({ frames := 2, cells := 0, slots := 0, locals := 45 } : Room) s m ar below meth c9 A Q 2 0 0 18 [some (.ref (ad L 96)), some (.int p0)] [.int x7, .int x2, .ref (ad L 96)] L (FW G L a b c) := by
    intro x7 hBx7 hR
    unfold f_X9_resign_18 at hR
    obtain ⟨x9, b10, h8, hR⟩ := bT2_inv hR
    refine j_callV2 X 9 (m_X9_passes2 hl hL h3 hBx7 h8) ml_X9_314 im_yX9_passes2 se_yX9_passes2 in_X9 cd_yX9_passes2 hy_yX9_passes2 dX9_resign_18 rfl (ad_mem hL (by decide)) (FW9 hL) ⟨(by decide), (by decide)⟩ ⟨(by decide), (by decide)⟩ (Nat.le_of_ble_eq_true rfl) (fun _ h => h.elim) (fun r9 L9 f9 h9 => ?_)
    obtain ⟨h91, h92, h93, h11⟩ := h9
    subst r9
    subst f9
    subst L9
    dsimp only [Option.toList, List.cons_append, List.nil_append, List.append]
    refine j_if_ne X (tgt := 26) dX9_resign_21 (by decide) (fun h12 => ?_) (fun h12 => ?_)
    · replace hR := (if_neg h12).symm.trans hR
      refine j_aload_n X (i := 0) dX9_resign_26 rfl rfl ?_
      obtain ⟨b14, h13, hR⟩ := bP_inv hR
      refine j_callV0 X 9 (m_X9_remember hl hL h13) ml_X9_304 im_yX9_remember se_yX9_remember in_X9 cd_yX9_remember hy_yX9_remember dX9_resign_27 rfl (ad_mem hL (by decide)) (FW9 hL) ⟨(by decide), (by decide)⟩ ⟨(by decide), (by decide)⟩ (Nat.le_of_ble_eq_true rfl) (fun _ h => h.elim) (fun r9 L9 f9 h9 => ?_)
      obtain ⟨h91, h92, h93⟩ := h9
      subst r9
      subst f9
      subst L9
      dsimp only [Option.toList, List.cons_append, List.nil_append, List.append]
      refine j_aload_n X (i := 0) dX9_resign_30 rfl rfl ?_
      refine j_iconst X (1) dX9_resign_31 (by decide) ?_
      refine j_iload_n X (i := 1) dX9_resign_32 rfl rfl ?_
      refine j_isub X dX9_resign_33 ?_
      obtain ⟨b17, h16, hR⟩ := bP_inv hR
      refine j_callV1 X 9 (m_X9_endGame hl hL h16) ml_X9_72 im_yX9_endGame se_yX9_endGame in_X9 cd_yX9_endGame hy_yX9_endGame dX9_resign_34 rfl (ad_mem hL (by decide)) (FW9 hL) ⟨(by decide), (by decide)⟩ ⟨(by decide), (by decide)⟩ (Nat.le_of_ble_eq_true rfl) (fun _ h => h.elim) (fun r9 L9 f9 h9 => ?_)
      obtain ⟨h91, h92, h93⟩ := h9
      subst r9
      subst f9
      subst L9
      dsimp only [Option.toList, List.cons_append, List.nil_append, List.append]
      refine j_aload_n X (i := 0) dX9_resign_37 rfl rfl ?_
      refine j_getf X 9 1 rfl cw_X9 fl_X9_17 (by decide) dX9_resign_38 (ad_mem hL (by decide)) (FW9 hL) rfl ?_
      refine j_bipush X (11) dX9_resign_41 (by decide) ?_
      refine j_iald X dX9_resign_43 (ad_mem hL (by decide)) (FWr97 hL) (by unfold vp_in; decide) ?_
      exact q_iret X hQ dX9_resign_44 rfl ⟨(by decide), (by decide)⟩ ⟨rfl, congrArg (fun z => FW G L a z c) (Prod.mk.inj (Option.some.inj hR)).2, congrArg (fun z => some (Value.int z)) (Prod.mk.inj (Option.some.inj hR)).1⟩
    · replace hR := (if_pos h12).symm.trans hR
      refine j_iconst X (0) dX9_resign_24 (by decide) ?_
      exact q_iret X hQ dX9_resign_25 rfl ⟨(by decide), (by decide)⟩ ⟨rfl, congrArg (fun z => FW G L a z c) (Prod.mk.inj (Option.some.inj hR)).2, congrArg (fun z => some (Value.int z)) (Prod.mk.inj (Option.some.inj hR)).1⟩
  refine j_if_ne X (tgt := 17) dX9_resign_10 (by decide) (fun h19 => ?_) (fun h19 => ?_)
  · replace hR := (if_neg h19).symm.trans hR
    refine j_iconst X (0) dX9_resign_17 (by decide) ?_
    exact J.sub (lvle_of (by simp only [lvle, and_self])) (hb18 _ isB_0 hR)
  · replace hR := (if_pos h19).symm.trans hR
    refine j_iconst X (1) dX9_resign_13 (by decide) ?_
    refine j_goto X (tgt := 18) dX9_resign_14 (by decide) ?_
    exact J.sub (lvle_of (by simp only [lvle, and_self])) (hb18 _ isB_1 hR)
def f_X9_give_55 (N : Nat) (p0 : Int32) (p1 : Int32) (b : Mem) (x2 : Int32) (x5 : Int32) (x7 : Int32) : Option (Int32 × Mem) := bT2 (f_X9_passes3 x2 x5 x7 b) fun x9 b10 => if x9 = 0 then (some ((0 : Int32), b10)) else (bP (f_X9_remember N b10) fun b14 => bP (f_X9_add N p0 (0 : Int32) p1 b14) fun b17 => bP (f_X9_of N p0 (0 : Int32) b17) fun x20 => some (x20, b17))
def f_X9_give_54 (N : Nat) (p0 : Int32) (p1 : Int32) (b : Mem) (x2 : Int32) (x5 : Int32)  : Option (Int32 × Mem) := f_X9_give_55 N p0 p1 b x2 x5 (0 : Int32)
def f_X9_give (N : Nat) (p0 : Int32) (p1 : Int32) (b : Mem) : Option (Int32 × Mem) := bT (f_X9_isSide p0 b) fun x2 => bT (f_X9_in (Int32.toInt64 p1) (-9999 : Int64) (9999 : Int64) b) fun x5 => if x2 = 0 then (f_X9_give_54 N p0 p1 b x2 x5 ) else (bP (f_X9_isState N (4 : Int32) b) fun x24 => if x24 = 0 then (bP (f_X9_fell N p0 b) fun x28 => if x28 = 0 then (bP (f_X9_of N p0 (0 : Int32) b) fun x32 => if (x32 + p1) < (1 : Int32) then (f_X9_give_54 N p0 p1 b x2 x5 ) else (f_X9_give_55 N p0 p1 b x2 x5 (1 : Int32))) else (f_X9_give_54 N p0 p1 b x2 x5 )) else (f_X9_give_54 N p0 p1 b x2 x5 ))
set_option maxRecDepth 100000 in
set_option maxHeartbeats 4000000 in
theorem m_X9_give {l : Launch} (hl : l.stackTraces = false) {G : GG} {L : List Nat} (hL : LOK L) {a b c : Mem} {N : Nat} {p0 : Int32} {p1 : Int32} {v : Int32} {a' : Mem} (hR : f_X9_give N p0 p1 b = some (v, a')) : Ct l G yX9_give (.code yX9_give cX9_give 4 (some .int)) 2 45 0 0 [.ref (ad L 96), .int p0, .int p1] L (FW G L a b c) px0 (stay L (fun r f1 => f1 = (FW G L a a' c) ∧ r = some (.int v))) := by
  refine Ct.ofq (own := RX9) hl rfl (by decide) [some (.ref (ad L 96)), some (.int p0), some (.int p1), none] rfl (Nat.le_of_ble_eq_true rfl) ?_
  intro p e s m below meth c9 A ar Q hQ X
  unfold f_X9_give at hR
  refine j_iload_n X (i := 1) dX9_give_0 rfl rfl ?_
  obtain ⟨x2, h1, hR⟩ := bT_inv hR
  refine j_callS1 X (m_X9_isSide hl hL h1) ml_X9_318 st_yX9_isSide in_X9 cd_yX9_isSide hy_yX9_isSide dX9_give_1 ⟨(by decide), (by decide)⟩ ⟨(by decide), (by decide)⟩ (Nat.le_of_ble_eq_true rfl) (fun _ h => h.elim) (fun r9 L9 f9 h9 => ?_)
  obtain ⟨h91, h92, h93, h3⟩ := h9
  subst r9
  subst f9
  subst L9
  dsimp only [Option.toList, List.cons_append, List.nil_append, List.append]
  refine j_istore_n X (i := 3) dX9_give_4 rfl (by decide) (lvOK_s rfl okPrev_int) ?_
  dsimp only [List.set]
  refine j_aload_n X (i := 0) dX9_give_5 rfl rfl ?_
  refine j_iload_n X (i := 3) dX9_give_6 rfl rfl ?_
  refine j_iload_n X (i := 2) dX9_give_7 rfl rfl ?_
  refine j_i2l X dX9_give_8 ?_
  refine j_ldc2 X dX9_give_9 cj_X9_381 ?_
  refine j_ldc2 X dX9_give_12 cj_X9_349 ?_
  obtain ⟨x5, h4, hR⟩ := bT_inv hR
  refine j_callS3 X (m_X9_in hl hL h4) ml_X9_64 st_yX9_in in_X9 cd_yX9_in hy_yX9_in dX9_give_15 ⟨(by decide), (by decide)⟩ ⟨(by decide), (by decide)⟩ (Nat.le_of_ble_eq_true rfl) (fun _ h => h.elim) (fun r9 L9 f9 h9 => ?_)
  obtain ⟨h91, h92, h93, h6⟩ := h9
  subst r9
  subst f9
  subst L9
  dsimp only [Option.toList, List.cons_append, List.nil_append, List.append]
  refine j_iload_n X (i := 3) dX9_give_18 rfl rfl ?_
  have hb55 : ∀ (x7 : Int32) (hBx7 : isB x7), f_X9_give_55 N p0 p1 b x2 x5 x7 = some (v, a') → J G p l e ({ frames := 2, cells := 0, slots := 0, locals := 45 } : Room) s m ar below meth c9 A Q 4 0 0 55 [some (.ref (ad L 96)), some (.int p0), some (.int p1), none] [.int x7, .int x5, .int x2, .ref (ad L 96)] L (FW G L a b c) := by
    intro x7 hBx7 hR
    unfold f_X9_give_55 at hR
    obtain ⟨x9, b10, h8, hR⟩ := bT2_inv hR
    refine j_callV3 X 9 (m_X9_passes3 hl hL h3 h6 hBx7 h8) ml_X9_7 im_yX9_passes3 se_yX9_passes3 in_X9 cd_yX9_passes3 hy_yX9_passes3 dX9_give_55 rfl (ad_mem hL (by decide)) (FW9 hL) ⟨(by decide), (by decide)⟩ ⟨(by decide), (by decide)⟩ (Nat.le_of_ble_eq_true rfl) (fun _ h => h.elim) (fun r9 L9 f9 h9 => ?_)
    obtain ⟨h91, h92, h93, h11⟩ := h9
    subst r9
    subst f9
    subst L9
    dsimp only [Option.toList, List.cons_append, List.nil_append, List.append]
    refine j_if_ne X (tgt := 63) dX9_give_58 (by decide) (fun h12 => ?_) (fun h12 => ?_)
    · replace hR := (if_neg h12).symm.trans hR
      refine j_aload_n X (i := 0) dX9_give_63 rfl rfl ?_
      obtain ⟨b14, h13, hR⟩ := bP_inv hR
      refine j_callV0 X 9 (m_X9_remember hl hL h13) ml_X9_304 im_yX9_remember se_yX9_remember in_X9 cd_yX9_remember hy_yX9_remember dX9_give_64 rfl (ad_mem hL (by decide)) (FW9 hL) ⟨(by decide), (by decide)⟩ ⟨(by decide), (by decide)⟩ (Nat.le_of_ble_eq_true rfl) (fun _ h => h.elim) (fun r9 L9 f9 h9 => ?_)
      obtain ⟨h91, h92, h93⟩ := h9
      subst r9
      subst f9
      subst L9
      dsimp only [Option.toList, List.cons_append, List.nil_append, List.append]
      refine j_aload_n X (i := 0) dX9_give_67 rfl rfl ?_
      refine j_iload_n X (i := 1) dX9_give_68 rfl rfl ?_
      refine j_iconst X (0) dX9_give_69 (by decide) ?_
      refine j_iload_n X (i := 2) dX9_give_70 rfl rfl ?_
      obtain ⟨b17, h16, hR⟩ := bP_inv hR
      refine j_callV3 X 9 (m_X9_add hl hL h16) ml_X9_84 im_yX9_add se_yX9_add in_X9 cd_yX9_add hy_yX9_add dX9_give_71 rfl (ad_mem hL (by decide)) (FW9 hL) ⟨(by decide), (by decide)⟩ ⟨(by decide), (by decide)⟩ (Nat.le_of_ble_eq_true rfl) (fun _ h => h.elim) (fun r9 L9 f9 h9 => ?_)
      obtain ⟨h91, h92, h93⟩ := h9
      subst r9
      subst f9
      subst L9
      dsimp only [Option.toList, List.cons_append, List.nil_append, List.append]
      refine j_aload_n X (i := 0) dX9_give_74 rfl rfl ?_
      refine j_iload_n X (i := 1) dX9_give_75 rfl rfl ?_
      refine j_iconst X (0) dX9_give_76 (by decide) ?_
      obtain ⟨x20, h19, hR⟩ := bP_inv hR
      refine j_callV2 X 9 (m_X9_of hl hL h19) ml_X9_57 im_yX9_of se_yX9_of in_X9 cd_yX9_of hy_yX9_of dX9_give_77 rfl (ad_mem hL (by decide)) (FW9 hL) ⟨(by decide), (by decide)⟩ ⟨(by decide), (by decide)⟩ (Nat.le_of_ble_eq_true rfl) (fun _ h => h.elim) (fun r9 L9 f9 h9 => ?_)
      obtain ⟨h91, h92, h93⟩ := h9
      subst r9
      subst f9
      subst L9
      dsimp only [Option.toList, List.cons_append, List.nil_append, List.append]
      exact q_iret X hQ dX9_give_80 rfl ⟨(by decide), (by decide)⟩ ⟨rfl, congrArg (fun z => FW G L a z c) (Prod.mk.inj (Option.some.inj hR)).2, congrArg (fun z => some (Value.int z)) (Prod.mk.inj (Option.some.inj hR)).1⟩
    · replace hR := (if_pos h12).symm.trans hR
      refine j_iconst X (0) dX9_give_61 (by decide) ?_
      exact q_iret X hQ dX9_give_62 rfl ⟨(by decide), (by decide)⟩ ⟨rfl, congrArg (fun z => FW G L a z c) (Prod.mk.inj (Option.some.inj hR)).2, congrArg (fun z => some (Value.int z)) (Prod.mk.inj (Option.some.inj hR)).1⟩
  have hb54 : f_X9_give_54 N p0 p1 b x2 x5 = some (v, a') → J G p l e ({ frames := 2, cells := 0, slots := 0, locals := 45 } : Room) s m ar below meth c9 A Q 4 0 0 54 [some (.ref (ad L 96)), some (.int p0), some (.int p1), none] [.int x5, .int x2, .ref (ad L 96)] L (FW G L a b c) := by
    intro hR
    unfold f_X9_give_54 at hR
    refine j_iconst X (0) dX9_give_54 (by decide) ?_
    exact J.sub (lvle_of (by simp only [lvle, and_self])) (hb55 _ isB_0 hR)
  refine j_if_eq X (tgt := 54) dX9_give_19 (by decide) (fun h22 => ?_) (fun h22 => ?_)
  · replace hR := (if_pos h22).symm.trans hR
    exact J.sub (lvle_of (by simp only [lvle, and_self])) (hb54 hR)
  · replace hR := (if_neg h22).symm.trans hR
    refine j_aload_n X (i := 0) dX9_give_22 rfl rfl ?_
    refine j_iconst X (4) dX9_give_23 (by decide) ?_
    obtain ⟨x24, h23, hR⟩ := bP_inv hR
    refine j_callV1 X 9 (m_X9_isState hl hL h23) ml_X9_76 im_yX9_isState se_yX9_isState in_X9 cd_yX9_isState hy_yX9_isState dX9_give_24 rfl (ad_mem hL (by decide)) (FW9 hL) ⟨(by decide), (by decide)⟩ ⟨(by decide), (by decide)⟩ (Nat.le_of_ble_eq_true rfl) (fun _ h => h.elim) (fun r9 L9 f9 h9 => ?_)
    obtain ⟨h91, h92, h93, h25⟩ := h9
    subst r9
    subst f9
    subst L9
    dsimp only [Option.toList, List.cons_append, List.nil_append, List.append]
    refine j_if_ne X (tgt := 54) dX9_give_27 (by decide) (fun h26 => ?_) (fun h26 => ?_)
    · replace hR := (if_neg h26).symm.trans hR
      exact J.sub (lvle_of (by simp only [lvle, and_self])) (hb54 hR)
    · replace hR := (if_pos h26).symm.trans hR
      refine j_aload_n X (i := 0) dX9_give_30 rfl rfl ?_
      refine j_iload_n X (i := 1) dX9_give_31 rfl rfl ?_
      obtain ⟨x28, h27, hR⟩ := bP_inv hR
      refine j_callV1 X 9 (m_X9_fell hl hL h27) ml_X9_96 im_yX9_fell se_yX9_fell in_X9 cd_yX9_fell hy_yX9_fell dX9_give_32 rfl (ad_mem hL (by decide)) (FW9 hL) ⟨(by decide), (by decide)⟩ ⟨(by decide), (by decide)⟩ (Nat.le_of_ble_eq_true rfl) (fun _ h => h.elim) (fun r9 L9 f9 h9 => ?_)
      obtain ⟨h91, h92, h93, h29⟩ := h9
      subst r9
      subst f9
      subst L9
      dsimp only [Option.toList, List.cons_append, List.nil_append, List.append]
      refine j_if_ne X (tgt := 54) dX9_give_35 (by decide) (fun h30 => ?_) (fun h30 => ?_)
      · replace hR := (if_neg h30).symm.trans hR
        exact J.sub (lvle_of (by simp only [lvle, and_self])) (hb54 hR)
      · replace hR := (if_pos h30).symm.trans hR
        refine j_aload_n X (i := 0) dX9_give_38 rfl rfl ?_
        refine j_iload_n X (i := 1) dX9_give_39 rfl rfl ?_
        refine j_iconst X (0) dX9_give_40 (by decide) ?_
        obtain ⟨x32, h31, hR⟩ := bP_inv hR
        refine j_callV2 X 9 (m_X9_of hl hL h31) ml_X9_57 im_yX9_of se_yX9_of in_X9 cd_yX9_of hy_yX9_of dX9_give_41 rfl (ad_mem hL (by decide)) (FW9 hL) ⟨(by decide), (by decide)⟩ ⟨(by decide), (by decide)⟩ (Nat.le_of_ble_eq_true rfl) (fun _ h => h.elim) (fun r9 L9 f9 h9 => ?_)
        obtain ⟨h91, h92, h93⟩ := h9
        subst r9
        subst f9
        subst L9
        dsimp only [Option.toList, List.cons_append, List.nil_append, List.append]
        refine j_iload_n X (i := 2) dX9_give_44 rfl rfl ?_
        refine j_iadd X dX9_give_45 ?_
        refine j_iconst X (1) dX9_give_46 (by decide) ?_
        refine j_icmp_lt X (tgt := 54) dX9_give_47 (by decide) (fun h34 => ?_) (fun h34 => ?_)
        · replace hR := (if_pos h34).symm.trans hR
          exact J.sub (lvle_of (by simp only [lvle, and_self])) (hb54 hR)
        · replace hR := (if_neg h34).symm.trans hR
          refine j_iconst X (1) dX9_give_50 (by decide) ?_
          refine j_goto X (tgt := 55) dX9_give_51 (by decide) ?_
          exact J.sub (lvle_of (by simp only [lvle, and_self])) (hb55 _ isB_1 hR)
def f_X9_setBare_33 (N : Nat) (p0 : Int32) (p1 : Int32) (b10 : Mem) (x15 : Int32) : Option (Int32 × Mem) := if p1 = 0 then (bP (f_X9_put N p0 (9 : Int32) (0 : Int32) b10) fun b18 => some (x15, b18)) else (bP (f_X9_put N p0 (9 : Int32) (1 : Int32) b10) fun b21 => some (x15, b21))
def f_X9_setBare (N : Nat) (p0 : Int32) (p1 : Int32) (b : Mem) : Option (Int32 × Mem) := bT (f_X9_isSide p0 b) fun x2 => bT2 (f_X9_passes x2 b) fun x5 b6 => if x5 = 0 then (some ((0 : Int32), b6)) else (bP (f_X9_remember N b6) fun b10 => bP (f_X9_of N p0 (9 : Int32) b10) fun x13 => if x13 = (1 : Int32) then (f_X9_setBare_33 N p0 p1 b10 (1 : Int32)) else (f_X9_setBare_33 N p0 p1 b10 (0 : Int32)))
set_option maxRecDepth 100000 in
set_option maxHeartbeats 4000000 in
theorem m_X9_setBare {l : Launch} (hl : l.stackTraces = false) {G : GG} {L : List Nat} (hL : LOK L) {a b c : Mem} {N : Nat} {p0 : Int32} {p1 : Int32} (hB1 : isB p1) {v : Int32} {a' : Mem} (hR : f_X9_setBare N p0 p1 b = some (v, a')) : Ct l G yX9_setBare (.code yX9_setBare cX9_setBare 4 (some .boolean)) 2 45 0 0 [.ref (ad L 96), .int p0, .int p1] L (FW G L a b c) px0 (stay L (fun r f1 => f1 = (FW G L a a' c) ∧ r = some (.int v) ∧ isB v)) := by
  refine Ct.ofq (own := RX9) hl rfl (by decide) [some (.ref (ad L 96)), some (.int p0), some (.int p1), none] rfl (Nat.le_of_ble_eq_true rfl) ?_
  intro p e s m below meth c9 A ar Q hQ X
  unfold f_X9_setBare at hR
  refine j_aload_n X (i := 0) dX9_setBare_0 rfl rfl ?_
  refine j_iload_n X (i := 1) dX9_setBare_1 rfl rfl ?_
  obtain ⟨x2, h1, hR⟩ := bT_inv hR
  refine j_callS1 X (m_X9_isSide hl hL h1) ml_X9_318 st_yX9_isSide in_X9 cd_yX9_isSide hy_yX9_isSide dX9_setBare_2 ⟨(by decide), (by decide)⟩ ⟨(by decide), (by decide)⟩ (Nat.le_of_ble_eq_true rfl) (fun _ h => h.elim) (fun r9 L9 f9 h9 => ?_)
  obtain ⟨h91, h92, h93, h3⟩ := h9
  subst r9
  subst f9
  subst L9
  dsimp only [Option.toList, List.cons_append, List.nil_append, List.append]
  obtain ⟨x5, b6, h4, hR⟩ := bT2_inv hR
  refine j_callV1 X 9 (m_X9_passes hl hL h3 h4) ml_X9_159 im_yX9_passes se_yX9_passes in_X9 cd_yX9_passes hy_yX9_passes dX9_setBare_5 rfl (ad_mem hL (by decide)) (FW9 hL) ⟨(by decide), (by decide)⟩ ⟨(by decide), (by decide)⟩ (Nat.le_of_ble_eq_true rfl) (fun _ h => h.elim) (fun r9 L9 f9 h9 => ?_)
  obtain ⟨h91, h92, h93, h7⟩ := h9
  subst r9
  subst f9
  subst L9
  dsimp only [Option.toList, List.cons_append, List.nil_append, List.append]
  refine j_if_ne X (tgt := 13) dX9_setBare_8 (by decide) (fun h8 => ?_) (fun h8 => ?_)
  · replace hR := (if_neg h8).symm.trans hR
    refine j_aload_n X (i := 0) dX9_setBare_13 rfl rfl ?_
    obtain ⟨b10, h9, hR⟩ := bP_inv hR
    refine j_callV0 X 9 (m_X9_remember hl hL h9) ml_X9_304 im_yX9_remember se_yX9_remember in_X9 cd_yX9_remember hy_yX9_remember dX9_setBare_14 rfl (ad_mem hL (by decide)) (FW9 hL) ⟨(by decide), (by decide)⟩ ⟨(by decide), (by decide)⟩ (Nat.le_of_ble_eq_true rfl) (fun _ h => h.elim) (fun r9 L9 f9 h9 => ?_)
    obtain ⟨h91, h92, h93⟩ := h9
    subst r9
    subst f9
    subst L9
    dsimp only [Option.toList, List.cons_append, List.nil_append, List.append]
    refine j_aload_n X (i := 0) dX9_setBare_17 rfl rfl ?_
    refine j_iload_n X (i := 1) dX9_setBare_18 rfl rfl ?_
    refine j_bipush X (9) dX9_setBare_19 (by decide) ?_
    obtain ⟨x13, h12, hR⟩ := bP_inv hR
    refine j_callV2 X 9 (m_X9_of hl hL h12) ml_X9_57 im_yX9_of se_yX9_of in_X9 cd_yX9_of hy_yX9_of dX9_setBare_21 rfl (ad_mem hL (by decide)) (FW9 hL) ⟨(by decide), (by decide)⟩ ⟨(by decide), (by decide)⟩ (Nat.le_of_ble_eq_true rfl) (fun _ h => h.elim) (fun r9 L9 f9 h9 => ?_)
    obtain ⟨h91, h92, h93⟩ := h9
    subst r9
    subst f9
    subst L9
    dsimp only [Option.toList, List.cons_append, List.nil_append, List.append]
    refine j_iconst X (1) dX9_setBare_24 (by decide) ?_
    have hb33 : ∀ (x15 : Int32) (hBx15 : isB x15), f_X9_setBare_33 N p0 p1 b10 x15 = some (v, a') → J G p l e ({ frames := 2, cells := 0, slots := 0, locals := 45 } : Room) s m ar below meth c9 A Q 4 0 0 33 [some (.ref (ad L 96)), some (.int p0), some (.int p1), none] [.int x15] L (FW G L a b10 c) := by
      intro x15 hBx15 hR
      unfold f_X9_setBare_33 at hR
      refine j_istore_n X (i := 3) dX9_setBare_33 rfl (by decide) (lvOK_s rfl okPrev_int) ?_
      dsimp only [List.set]
      refine j_aload_n X (i := 0) dX9_setBare_34 rfl rfl ?_
      refine j_iload_n X (i := 1) dX9_setBare_35 rfl rfl ?_
      refine j_bipush X (9) dX9_setBare_36 (by decide) ?_
      refine j_iload_n X (i := 2) dX9_setBare_38 rfl rfl ?_
      refine j_if_eq X (tgt := 46) dX9_setBare_39 (by decide) (fun h16 => ?_) (fun h16 => ?_)
      · replace hR := (if_pos h16).symm.trans hR
        refine j_iconst X (0) dX9_setBare_46 (by decide) ?_
        obtain ⟨b18, h17, hR⟩ := bP_inv hR
        refine j_callV3 X 9 (m_X9_put hl hL h17) ml_X9_53 im_yX9_put se_yX9_put in_X9 cd_yX9_put hy_yX9_put dX9_setBare_47 rfl (ad_mem hL (by decide)) (FW9 hL) ⟨(by decide), (by decide)⟩ ⟨(by decide), (by decide)⟩ (Nat.le_of_ble_eq_true rfl) (fun _ h => h.elim) (fun r9 L9 f9 h9 => ?_)
        obtain ⟨h91, h92, h93⟩ := h9
        subst r9
        subst f9
        subst L9
        dsimp only [Option.toList, List.cons_append, List.nil_append, List.append]
        refine j_iload_n X (i := 3) dX9_setBare_50 rfl rfl ?_
        exact q_zret X hQ dX9_setBare_51 rfl (nar_B hBx15) ⟨(by decide), (by decide)⟩ ⟨rfl, congrArg (fun z => FW G L a z c) (Prod.mk.inj (Option.some.inj hR)).2, congrArg (fun z => some (Value.int z)) (Prod.mk.inj (Option.some.inj hR)).1, (Prod.mk.inj (Option.some.inj hR)).1 ▸ hBx15⟩
      · replace hR := (if_neg h16).symm.trans hR
        refine j_iconst X (1) dX9_setBare_42 (by decide) ?_
        refine j_goto X (tgt := 47) dX9_setBare_43 (by decide) ?_
        obtain ⟨b21, h20, hR⟩ := bP_inv hR
        refine j_callV3 X 9 (m_X9_put hl hL h20) ml_X9_53 im_yX9_put se_yX9_put in_X9 cd_yX9_put hy_yX9_put dX9_setBare_47 rfl (ad_mem hL (by decide)) (FW9 hL) ⟨(by decide), (by decide)⟩ ⟨(by decide), (by decide)⟩ (Nat.le_of_ble_eq_true rfl) (fun _ h => h.elim) (fun r9 L9 f9 h9 => ?_)
        obtain ⟨h91, h92, h93⟩ := h9
        subst r9
        subst f9
        subst L9
        dsimp only [Option.toList, List.cons_append, List.nil_append, List.append]
        refine j_iload_n X (i := 3) dX9_setBare_50 rfl rfl ?_
        exact q_zret X hQ dX9_setBare_51 rfl (nar_B hBx15) ⟨(by decide), (by decide)⟩ ⟨rfl, congrArg (fun z => FW G L a z c) (Prod.mk.inj (Option.some.inj hR)).2, congrArg (fun z => some (Value.int z)) (Prod.mk.inj (Option.some.inj hR)).1, (Prod.mk.inj (Option.some.inj hR)).1 ▸ hBx15⟩
    refine j_icmp_ne X (tgt := 32) dX9_setBare_25 (by decide) (fun h23 => ?_) (fun h23 => ?_)
    · replace hR := (if_neg h23).symm.trans hR
      refine j_iconst X (0) dX9_setBare_32 (by decide) ?_
      exact J.sub (lvle_of (by simp only [lvle, and_self])) (hb33 _ isB_0 hR)
    · replace hR := (if_pos h23).symm.trans hR
      refine j_iconst X (1) dX9_setBare_28 (by decide) ?_
      refine j_goto X (tgt := 33) dX9_setBare_29 (by decide) ?_
      exact J.sub (lvle_of (by simp only [lvle, and_self])) (hb33 _ isB_1 hR)
  · replace hR := (if_pos h8).symm.trans hR
    refine j_iconst X (0) dX9_setBare_11 (by decide) ?_
    exact q_zret X hQ dX9_setBare_12 rfl (nar_B isB_0) ⟨(by decide), (by decide)⟩ ⟨rfl, congrArg (fun z => FW G L a z c) (Prod.mk.inj (Option.some.inj hR)).2, congrArg (fun z => some (Value.int z)) (Prod.mk.inj (Option.some.inj hR)).1, (Prod.mk.inj (Option.some.inj hR)).1 ▸ isB_0⟩
def f_X9_setClaims_25 (N : Nat) (p0 : Int32) (b4 : Mem) (x6 : Int32) : Option (Int32 × Mem) := if p0 = 0 then (bT (upR b4 1 (upd (b4 1) ((10 : Int32)).toNatClampNeg (0 : Int32))) fun b8 => some (x6, b8)) else (bT (upR b4 1 (upd (b4 1) ((10 : Int32)).toNatClampNeg (1 : Int32))) fun b10 => some (x6, b10))
def f_X9_setClaims (N : Nat) (p0 : Int32) (b : Mem) : Option (Int32 × Mem) := bT (up2 b 0 0 (0 : Int32)) fun b1 => bP (f_X9_remember N b1) fun b4 => if (b4 1 ((10 : Int32)).toNatClampNeg) = (1 : Int32) then (f_X9_setClaims_25 N p0 b4 (1 : Int32)) else (f_X9_setClaims_25 N p0 b4 (0 : Int32))
set_option maxRecDepth 100000 in
set_option maxHeartbeats 4000000 in
theorem m_X9_setClaims {l : Launch} (hl : l.stackTraces = false) {G : GG} {L : List Nat} (hL : LOK L) {a b c : Mem} {N : Nat} {p0 : Int32} (hB0 : isB p0) {v : Int32} {a' : Mem} (hR : f_X9_setClaims N p0 b = some (v, a')) : Ct l G yX9_setClaims (.code yX9_setClaims cX9_setClaims 3 (some .boolean)) 1 21 0 0 [.ref (ad L 96), .int p0] L (FW G L a b c) px0 (stay L (fun r f1 => f1 = (FW G L a a' c) ∧ r = some (.int v) ∧ isB v)) := by
  refine Ct.ofq (own := RX9) hl rfl (by decide) [some (.ref (ad L 96)), some (.int p0), none] rfl (Nat.le_of_ble_eq_true rfl) ?_
  intro p e s m below meth c9 A ar Q hQ X
  unfold f_X9_setClaims at hR
  refine j_aload_n X (i := 0) dX9_setClaims_0 rfl rfl ?_
  refine j_iconst X (0) dX9_setClaims_1 (by decide) ?_
  obtain ⟨b1, h2, hR⟩ := bT_inv hR
  refine tp_X9_0 X hL h2 fl_X9_3 dX9_setClaims_2 ?_
  refine j_aload_n X (i := 0) dX9_setClaims_5 rfl rfl ?_
  obtain ⟨b4, h3, hR⟩ := bP_inv hR
  refine j_callV0 X 9 (m_X9_remember hl hL h3) ml_X9_304 im_yX9_remember se_yX9_remember in_X9 cd_yX9_remember hy_yX9_remember dX9_setClaims_6 rfl (ad_mem hL (by decide)) (FW9 hL) ⟨(by decide), (by decide)⟩ ⟨(by decide), (by decide)⟩ (Nat.le_of_ble_eq_true rfl) (fun _ h => h.elim) (fun r9 L9 f9 h9 => ?_)
  obtain ⟨h91, h92, h93⟩ := h9
  subst r9
  subst f9
  subst L9
  dsimp only [Option.toList, List.cons_append, List.nil_append, List.append]
  refine j_aload_n X (i := 0) dX9_setClaims_9 rfl rfl ?_
  refine j_getf X 9 1 rfl cw_X9 fl_X9_17 (by decide) dX9_setClaims_10 (ad_mem hL (by decide)) (FW9 hL) rfl ?_
  refine j_bipush X (10) dX9_setClaims_13 (by decide) ?_
  refine j_iald X dX9_setClaims_15 (ad_mem hL (by decide)) (FWr97 hL) (by unfold vp_in; decide) ?_
  refine j_iconst X (1) dX9_setClaims_16 (by decide) ?_
  have hb25 : ∀ (x6 : Int32) (hBx6 : isB x6), f_X9_setClaims_25 N p0 b4 x6 = some (v, a') → J G p l e ({ frames := 1, cells := 0, slots := 0, locals := 21 } : Room) s m ar below meth c9 A Q 3 0 0 25 [some (.ref (ad L 96)), some (.int p0), none] [.int x6] L (FW G L a b4 c) := by
    intro x6 hBx6 hR
    unfold f_X9_setClaims_25 at hR
    refine j_istore_n X (i := 2) dX9_setClaims_25 rfl (by decide) (lvOK_s rfl okPrev_int) ?_
    dsimp only [List.set]
    refine j_aload_n X (i := 0) dX9_setClaims_26 rfl rfl ?_
    refine j_getf X 9 1 rfl cw_X9 fl_X9_17 (by decide) dX9_setClaims_27 (ad_mem hL (by decide)) (FW9 hL) rfl ?_
    refine j_bipush X (10) dX9_setClaims_30 (by decide) ?_
    refine j_iload_n X (i := 1) dX9_setClaims_32 rfl rfl ?_
    refine j_if_eq X (tgt := 40) dX9_setClaims_33 (by decide) (fun h7 => ?_) (fun h7 => ?_)
    · replace hR := (if_pos h7).symm.trans hR
      refine j_iconst X (0) dX9_setClaims_40 (by decide) ?_
      obtain ⟨b8, h9, hR⟩ := bT_inv hR
      refine t_Iast_97 X hL (by unfold vp_in; decide) h9 dX9_setClaims_41 ?_
      refine j_iload_n X (i := 2) dX9_setClaims_42 rfl rfl ?_
      exact q_zret X hQ dX9_setClaims_43 rfl (nar_B hBx6) ⟨(by decide), (by decide)⟩ ⟨rfl, congrArg (fun z => FW G L a z c) (Prod.mk.inj (Option.some.inj hR)).2, congrArg (fun z => some (Value.int z)) (Prod.mk.inj (Option.some.inj hR)).1, (Prod.mk.inj (Option.some.inj hR)).1 ▸ hBx6⟩
    · replace hR := (if_neg h7).symm.trans hR
      refine j_iconst X (1) dX9_setClaims_36 (by decide) ?_
      refine j_goto X (tgt := 41) dX9_setClaims_37 (by decide) ?_
      obtain ⟨b10, h11, hR⟩ := bT_inv hR
      refine t_Iast_97 X hL (by unfold vp_in; decide) h11 dX9_setClaims_41 ?_
      refine j_iload_n X (i := 2) dX9_setClaims_42 rfl rfl ?_
      exact q_zret X hQ dX9_setClaims_43 rfl (nar_B hBx6) ⟨(by decide), (by decide)⟩ ⟨rfl, congrArg (fun z => FW G L a z c) (Prod.mk.inj (Option.some.inj hR)).2, congrArg (fun z => some (Value.int z)) (Prod.mk.inj (Option.some.inj hR)).1, (Prod.mk.inj (Option.some.inj hR)).1 ▸ hBx6⟩
  refine j_icmp_ne X (tgt := 24) dX9_setClaims_17 (by decide) (fun h12 => ?_) (fun h12 => ?_)
  · replace hR := (if_neg h12).symm.trans hR
    refine j_iconst X (0) dX9_setClaims_24 (by decide) ?_
    exact J.sub (lvle_of (by simp only [lvle, and_self])) (hb25 _ isB_0 hR)
  · replace hR := (if_pos h12).symm.trans hR
    refine j_iconst X (1) dX9_setClaims_20 (by decide) ?_
    refine j_goto X (tgt := 25) dX9_setClaims_21 (by decide) ?_
    exact J.sub (lvle_of (by simp only [lvle, and_self])) (hb25 _ isB_1 hR)
def f_X9_setPeriod_37 (N : Nat) (p0 : Int32) (p1 : Int32) (p2 : Int32) (b : Mem) (x2 : Int32) (x7 : Int32) : Option (Int32 × Mem) := bT2 (f_X9_passes2 x2 x7 b) fun x9 b10 => if x9 = 0 then (some ((0 : Int32), b10)) else (bP (f_X9_remember N b10) fun b14 => bP (f_X9_ofPeriod N p0 p1 b14) fun x17 => chkI (((12 : Int32) + ((5 : Int32) * p0)) + p1) 311 <| bT (upR b14 1 (upd (b14 1) ((((12 : Int32) + ((5 : Int32) * p0)) + p1)).toNatClampNeg p2)) fun b20 => some (x17, b20))
def f_X9_setPeriod_36 (N : Nat) (p0 : Int32) (p1 : Int32) (p2 : Int32) (b : Mem) (x2 : Int32)  : Option (Int32 × Mem) := f_X9_setPeriod_37 N p0 p1 p2 b x2 (0 : Int32)
def f_X9_setPeriod (N : Nat) (p0 : Int32) (p1 : Int32) (p2 : Int32) (b : Mem) : Option (Int32 × Mem) := bP (f_X9_isPeriod N p0 b) fun x2 => bT (f_X9_in (Int32.toInt64 p1) (2 : Int64) (4 : Int64) b) fun x5 => if x5 = 0 then (f_X9_setPeriod_36 N p0 p1 p2 b x2 ) else (bT (f_X9_in (Int32.toInt64 p2) (0 : Int64) (999 : Int64) b) fun x24 => if x24 = 0 then (f_X9_setPeriod_36 N p0 p1 p2 b x2 ) else (f_X9_setPeriod_37 N p0 p1 p2 b x2 (1 : Int32)))
set_option maxRecDepth 100000 in
set_option maxHeartbeats 4000000 in
theorem m_X9_setPeriod {l : Launch} (hl : l.stackTraces = false) {G : GG} {L : List Nat} (hL : LOK L) {a b c : Mem} {N : Nat} {p0 : Int32} {p1 : Int32} {p2 : Int32} {v : Int32} {a' : Mem} (hR : f_X9_setPeriod N p0 p1 p2 b = some (v, a')) : Ct l G yX9_setPeriod (.code yX9_setPeriod cX9_setPeriod 5 (some .int)) 2 46 0 0 [.ref (ad L 96), .int p0, .int p1, .int p2] L (FW G L a b c) px0 (stay L (fun r f1 => f1 = (FW G L a a' c) ∧ r = some (.int v))) := by
  refine Ct.ofq (own := RX9) hl rfl (by decide) [some (.ref (ad L 96)), some (.int p0), some (.int p1), some (.int p2), none] rfl (Nat.le_of_ble_eq_true rfl) ?_
  intro p e s m below meth c9 A ar Q hQ X
  unfold f_X9_setPeriod at hR
  refine j_aload_n X (i := 0) dX9_setPeriod_0 rfl rfl ?_
  refine j_aload_n X (i := 0) dX9_setPeriod_1 rfl rfl ?_
  refine j_iload_n X (i := 1) dX9_setPeriod_2 rfl rfl ?_
  obtain ⟨x2, h1, hR⟩ := bP_inv hR
  refine j_callV1 X 9 (m_X9_isPeriod hl hL h1) ml_X9_309 im_yX9_isPeriod se_yX9_isPeriod in_X9 cd_yX9_isPeriod hy_yX9_isPeriod dX9_setPeriod_3 rfl (ad_mem hL (by decide)) (FW9 hL) ⟨(by decide), (by decide)⟩ ⟨(by decide), (by decide)⟩ (Nat.le_of_ble_eq_true rfl) (fun _ h => h.elim) (fun r9 L9 f9 h9 => ?_)
  obtain ⟨h91, h92, h93, h3⟩ := h9
  subst r9
  subst f9
  subst L9
  dsimp only [Option.toList, List.cons_append, List.nil_append, List.append]
  refine j_iload_n X (i := 2) dX9_setPeriod_6 rfl rfl ?_
  refine j_i2l X dX9_setPeriod_7 ?_
  refine j_ldc2 X dX9_setPeriod_8 cj_X9_383 ?_
  refine j_ldc2 X dX9_setPeriod_11 cj_X9_312 ?_
  obtain ⟨x5, h4, hR⟩ := bT_inv hR
  refine j_callS3 X (m_X9_in hl hL h4) ml_X9_64 st_yX9_in in_X9 cd_yX9_in hy_yX9_in dX9_setPeriod_14 ⟨(by decide), (by decide)⟩ ⟨(by decide), (by decide)⟩ (Nat.le_of_ble_eq_true rfl) (fun _ h => h.elim) (fun r9 L9 f9 h9 => ?_)
  obtain ⟨h91, h92, h93, h6⟩ := h9
  subst r9
  subst f9
  subst L9
  dsimp only [Option.toList, List.cons_append, List.nil_append, List.append]
  have hb37 : ∀ (x7 : Int32) (hBx7 : isB x7), f_X9_setPeriod_37 N p0 p1 p2 b x2 x7 = some (v, a') → J G p l e ({ frames := 2, cells := 0, slots := 0, locals := 46 } : Room) s m ar below meth c9 A Q 5 0 0 37 [some (.ref (ad L 96)), some (.int p0), some (.int p1), some (.int p2), none] [.int x7, .int x2, .ref (ad L 96)] L (FW G L a b c) := by
    intro x7 hBx7 hR
    unfold f_X9_setPeriod_37 at hR
    obtain ⟨x9, b10, h8, hR⟩ := bT2_inv hR
    refine j_callV2 X 9 (m_X9_passes2 hl hL h3 hBx7 h8) ml_X9_314 im_yX9_passes2 se_yX9_passes2 in_X9 cd_yX9_passes2 hy_yX9_passes2 dX9_setPeriod_37 rfl (ad_mem hL (by decide)) (FW9 hL) ⟨(by decide), (by decide)⟩ ⟨(by decide), (by decide)⟩ (Nat.le_of_ble_eq_true rfl) (fun _ h => h.elim) (fun r9 L9 f9 h9 => ?_)
    obtain ⟨h91, h92, h93, h11⟩ := h9
    subst r9
    subst f9
    subst L9
    dsimp only [Option.toList, List.cons_append, List.nil_append, List.append]
    refine j_if_ne X (tgt := 45) dX9_setPeriod_40 (by decide) (fun h12 => ?_) (fun h12 => ?_)
    · replace hR := (if_neg h12).symm.trans hR
      refine j_aload_n X (i := 0) dX9_setPeriod_45 rfl rfl ?_
      obtain ⟨b14, h13, hR⟩ := bP_inv hR
      refine j_callV0 X 9 (m_X9_remember hl hL h13) ml_X9_304 im_yX9_remember se_yX9_remember in_X9 cd_yX9_remember hy_yX9_remember dX9_setPeriod_46 rfl (ad_mem hL (by decide)) (FW9 hL) ⟨(by decide), (by decide)⟩ ⟨(by decide), (by decide)⟩ (Nat.le_of_ble_eq_true rfl) (fun _ h => h.elim) (fun r9 L9 f9 h9 => ?_)
      obtain ⟨h91, h92, h93⟩ := h9
      subst r9
      subst f9
      subst L9
      dsimp only [Option.toList, List.cons_append, List.nil_append, List.append]
      refine j_aload_n X (i := 0) dX9_setPeriod_49 rfl rfl ?_
      refine j_iload_n X (i := 1) dX9_setPeriod_50 rfl rfl ?_
      refine j_iload_n X (i := 2) dX9_setPeriod_51 rfl rfl ?_
      obtain ⟨x17, h16, hR⟩ := bP_inv hR
      refine j_callV2 X 9 (m_X9_ofPeriod hl hL h16) ml_X9_61 im_yX9_ofPeriod se_yX9_ofPeriod in_X9 cd_yX9_ofPeriod hy_yX9_ofPeriod dX9_setPeriod_52 rfl (ad_mem hL (by decide)) (FW9 hL) ⟨(by decide), (by decide)⟩ ⟨(by decide), (by decide)⟩ (Nat.le_of_ble_eq_true rfl) (fun _ h => h.elim) (fun r9 L9 f9 h9 => ?_)
      obtain ⟨h91, h92, h93⟩ := h9
      subst r9
      subst f9
      subst L9
      dsimp only [Option.toList, List.cons_append, List.nil_append, List.append]
      refine j_istore X dX9_setPeriod_55 (by decide) (lvOK_s rfl okPrev_int) ?_
      dsimp only [List.set]
      refine j_aload_n X (i := 0) dX9_setPeriod_57 rfl rfl ?_
      refine j_getf X 9 1 rfl cw_X9 fl_X9_17 (by decide) dX9_setPeriod_58 (ad_mem hL (by decide)) (FW9 hL) rfl ?_
      refine j_bipush X (12) dX9_setPeriod_61 (by decide) ?_
      refine j_iconst X (5) dX9_setPeriod_63 (by decide) ?_
      refine j_iload_n X (i := 1) dX9_setPeriod_64 rfl rfl ?_
      refine j_imul X dX9_setPeriod_65 ?_
      refine j_iadd X dX9_setPeriod_66 ?_
      refine j_iload_n X (i := 2) dX9_setPeriod_67 rfl rfl ?_
      refine j_iadd X dX9_setPeriod_68 ?_
      refine j_iload_n X (i := 3) dX9_setPeriod_69 rfl rfl ?_
      obtain ⟨h19, hR⟩ := chkI_inv hR
      obtain ⟨b20, h21, hR⟩ := bT_inv hR
      refine t_Iast_97 X hL h19 h21 dX9_setPeriod_70 ?_
      refine j_iload X dX9_setPeriod_71 rfl ?_
      exact q_iret X hQ dX9_setPeriod_73 rfl ⟨(by decide), (by decide)⟩ ⟨rfl, congrArg (fun z => FW G L a z c) (Prod.mk.inj (Option.some.inj hR)).2, congrArg (fun z => some (Value.int z)) (Prod.mk.inj (Option.some.inj hR)).1⟩
    · replace hR := (if_pos h12).symm.trans hR
      refine j_iconst X (0) dX9_setPeriod_43 (by decide) ?_
      exact q_iret X hQ dX9_setPeriod_44 rfl ⟨(by decide), (by decide)⟩ ⟨rfl, congrArg (fun z => FW G L a z c) (Prod.mk.inj (Option.some.inj hR)).2, congrArg (fun z => some (Value.int z)) (Prod.mk.inj (Option.some.inj hR)).1⟩
  have hb36 : f_X9_setPeriod_36 N p0 p1 p2 b x2 = some (v, a') → J G p l e ({ frames := 2, cells := 0, slots := 0, locals := 46 } : Room) s m ar below meth c9 A Q 5 0 0 36 [some (.ref (ad L 96)), some (.int p0), some (.int p1), some (.int p2), none] [.int x2, .ref (ad L 96)] L (FW G L a b c) := by
    intro hR
    unfold f_X9_setPeriod_36 at hR
    refine j_iconst X (0) dX9_setPeriod_36 (by decide) ?_
    exact J.sub (lvle_of (by simp only [lvle, and_self])) (hb37 _ isB_0 hR)
  refine j_if_eq X (tgt := 36) dX9_setPeriod_17 (by decide) (fun h22 => ?_) (fun h22 => ?_)
  · replace hR := (if_pos h22).symm.trans hR
    exact J.sub (lvle_of (by simp only [lvle, and_self])) (hb36 hR)
  · replace hR := (if_neg h22).symm.trans hR
    refine j_iload_n X (i := 3) dX9_setPeriod_20 rfl rfl ?_
    refine j_i2l X dX9_setPeriod_21 ?_
    refine j_lconst X (0) dX9_setPeriod_22 (by decide) ?_
    refine j_ldc2 X dX9_setPeriod_23 cj_X9_385 ?_
    obtain ⟨x24, h23, hR⟩ := bT_inv hR
    refine j_callS3 X (m_X9_in hl hL h23) ml_X9_64 st_yX9_in in_X9 cd_yX9_in hy_yX9_in dX9_setPeriod_26 ⟨(by decide), (by decide)⟩ ⟨(by decide), (by decide)⟩ (Nat.le_of_ble_eq_true rfl) (fun _ h => h.elim) (fun r9 L9 f9 h9 => ?_)
    obtain ⟨h91, h92, h93, h25⟩ := h9
    subst r9
    subst f9
    subst L9
    dsimp only [Option.toList, List.cons_append, List.nil_append, List.append]
    refine j_if_eq X (tgt := 36) dX9_setPeriod_29 (by decide) (fun h26 => ?_) (fun h26 => ?_)
    · replace hR := (if_pos h26).symm.trans hR
      exact J.sub (lvle_of (by simp only [lvle, and_self])) (hb36 hR)
    · replace hR := (if_neg h26).symm.trans hR
      refine j_iconst X (1) dX9_setPeriod_32 (by decide) ?_
      refine j_goto X (tgt := 37) dX9_setPeriod_33 (by decide) ?_
      exact J.sub (lvle_of (by simp only [lvle, and_self])) (hb37 _ isB_1 hR)
def f_X9_isKeep (p0 : Int32) (b : Mem) : Int32 := bT (f_X9_in (Int32.toInt64 p0) (0 : Int64) (1 : Int64) b) fun x2 => x2
set_option maxRecDepth 100000 in
set_option maxHeartbeats 4000000 in
theorem m_X9_isKeep {l : Launch} (hl : l.stackTraces = false) {G : GG} {L : List Nat} (hL : LOK L) {a b c : Mem} {p0 : Int32} {v : Int32} (hR : f_X9_isKeep p0 b = v) : Ct l G yX9_isKeep (.code yX9_isKeep cX9_isKeep 1 (some .boolean)) 1 25 0 0 [.int p0] L (FW G L a b c) px0 (stay L (fun r f1 => f1 = (FW G L a b c) ∧ r = some (.int v) ∧ isB v)) := by
  refine Ct.ofq (own := RX9) hl rfl (by decide) [some (.int p0)] rfl (Nat.le_of_ble_eq_true rfl) ?_
  intro p e s m below meth c9 A ar Q hQ X
  unfold f_X9_isKeep at hR
  refine j_iload_n X (i := 0) dX9_isKeep_0 rfl rfl ?_
  refine j_i2l X dX9_isKeep_1 ?_
  refine j_lconst X (0) dX9_isKeep_2 (by decide) ?_
  refine j_lconst X (1) dX9_isKeep_3 (by decide) ?_
  obtain ⟨x2, h1, hR⟩ := bT_inv hR
  refine j_callS3 X (m_X9_in hl hL h1) ml_X9_64 st_yX9_in in_X9 cd_yX9_in hy_yX9_in dX9_isKeep_4 ⟨(by decide), (by decide)⟩ ⟨(by decide), (by decide)⟩ (Nat.le_of_ble_eq_true rfl) (fun _ h => h.elim) (fun r9 L9 f9 h9 => ?_)
  obtain ⟨h91, h92, h93, h3⟩ := h9
  subst r9
  subst f9
  subst L9
  dsimp only [Option.toList, List.cons_append, List.nil_append, List.append]
  exact q_zret X hQ dX9_isKeep_7 rfl (nar_B h3) ⟨(by decide), (by decide)⟩ ⟨rfl, rfl, congrArg (fun z => some (Value.int z)) hR, hR ▸ h3⟩
def f_X9_keep_15 (N : Nat) (p0 : Int32) : Nat → Int32 → Mem → Option (Int32 × Mem)
  | 0, _, _ => none
  | fu + 1, x9, b10 => if (311 : Int32) ≤ x9 then (chkI p0 2 <| bT (upR b10 6 (upd (b10 6) (p0).toNatClampNeg (vp_nar .boolean (1 : Int32)))) fun b13 => some ((b13 1 ((7 : Int32)).toNatClampNeg), b13)) else (chkI x9 311 <| chkI (((311 : Int32) * p0) + x9) 622 <| bT (upR b10 5 (upd (b10 5) ((((311 : Int32) * p0) + x9)).toNatClampNeg (b10 1 (x9).toNatClampNeg))) fun b17 => bT (x9 + (1 : Int32)) fun x19 => f_X9_keep_15 N p0 fu x19 b17)
theorem f_X9_keep_15_s (N : Nat) (p0 : Int32) {fu : Nat} {x9 : Int32} {b10 : Mem} : f_X9_keep_15 N p0 (fu + 1) x9 b10 = (if (311 : Int32) ≤ x9 then (chkI p0 2 <| bT (upR b10 6 (upd (b10 6) (p0).toNatClampNeg (vp_nar .boolean (1 : Int32)))) fun b13 => some ((b13 1 ((7 : Int32)).toNatClampNeg), b13)) else (chkI x9 311 <| chkI (((311 : Int32) * p0) + x9) 622 <| bT (upR b10 5 (upd (b10 5) ((((311 : Int32) * p0) + x9)).toNatClampNeg (b10 1 (x9).toNatClampNeg))) fun b17 => bT (x9 + (1 : Int32)) fun x19 => f_X9_keep_15 N p0 fu x19 b17)) := rfl
def f_X9_keep (N : Nat) (p0 : Int32) (b : Mem) : Option (Int32 × Mem) := bT (f_X9_isKeep p0 b) fun x2 => bT2 (f_X9_passes x2 b) fun x5 b6 => if x5 = 0 then (some ((0 : Int32), b6)) else (f_X9_keep_15 N p0 N (0 : Int32) b6)
set_option maxRecDepth 100000 in
set_option maxHeartbeats 4000000 in
theorem m_X9_keep {l : Launch} (hl : l.stackTraces = false) {G : GG} {L : List Nat} (hL : LOK L) {a b c : Mem} {N : Nat} {p0 : Int32} {v : Int32} {a' : Mem} (hR : f_X9_keep N p0 b = some (v, a')) : Ct l G yX9_keep (.code yX9_keep cX9_keep 3 (some .int)) 2 45 0 0 [.ref (ad L 96), .int p0] L (FW G L a b c) px0 (stay L (fun r f1 => f1 = (FW G L a a' c) ∧ r = some (.int v))) := by
  refine Ct.ofq (own := RX9) hl rfl (by decide) [some (.ref (ad L 96)), some (.int p0), none] rfl (Nat.le_of_ble_eq_true rfl) ?_
  intro p e s m below meth c9 A ar Q hQ X
  unfold f_X9_keep at hR
  refine j_aload_n X (i := 0) dX9_keep_0 rfl rfl ?_
  refine j_iload_n X (i := 1) dX9_keep_1 rfl rfl ?_
  obtain ⟨x2, h1, hR⟩ := bT_inv hR
  refine j_callS1 X (m_X9_isKeep hl hL h1) ml_X9_387 st_yX9_isKeep in_X9 cd_yX9_isKeep hy_yX9_isKeep dX9_keep_2 ⟨(by decide), (by decide)⟩ ⟨(by decide), (by decide)⟩ (Nat.le_of_ble_eq_true rfl) (fun _ h => h.elim) (fun r9 L9 f9 h9 => ?_)
  obtain ⟨h91, h92, h93, h3⟩ := h9
  subst r9
  subst f9
  subst L9
  dsimp only [Option.toList, List.cons_append, List.nil_append, List.append]
  obtain ⟨x5, b6, h4, hR⟩ := bT2_inv hR
  refine j_callV1 X 9 (m_X9_passes hl hL h3 h4) ml_X9_159 im_yX9_passes se_yX9_passes in_X9 cd_yX9_passes hy_yX9_passes dX9_keep_5 rfl (ad_mem hL (by decide)) (FW9 hL) ⟨(by decide), (by decide)⟩ ⟨(by decide), (by decide)⟩ (Nat.le_of_ble_eq_true rfl) (fun _ h => h.elim) (fun r9 L9 f9 h9 => ?_)
  obtain ⟨h91, h92, h93, h7⟩ := h9
  subst r9
  subst f9
  subst L9
  dsimp only [Option.toList, List.cons_append, List.nil_append, List.append]
  refine j_if_ne X (tgt := 13) dX9_keep_8 (by decide) (fun h8 => ?_) (fun h8 => ?_)
  · replace hR := (if_neg h8).symm.trans hR
    refine j_iconst X (0) dX9_keep_13 (by decide) ?_
    refine j_istore_n X (i := 2) dX9_keep_14 rfl (by decide) (lvOK_s rfl okPrev_int) ?_
    dsimp only [List.set]
    have hb15 : ∀ (fu : Nat) (x9 : Int32) (b10 : Mem) , f_X9_keep_15 N p0 fu x9 b10 = some (v, a') → J G p l e ({ frames := 2, cells := 0, slots := 0, locals := 45 } : Room) s m ar below meth c9 A Q 3 0 0 15 [some (.ref (ad L 96)), some (.int p0), some (.int x9)] [] L (FW G L a b10 c) := by
      intro fu
      induction fu with
      | zero =>
        intro x9 b10 hR
        cases hR
      | succ fu ih =>
        intro x9 b10 hR
        replace hR := (f_X9_keep_15_s N p0).symm.trans hR
        refine j_iload_n X (i := 2) dX9_keep_15 rfl rfl ?_
        refine j_sipush X (311) dX9_keep_16 (by decide) ?_
        refine j_icmp_ge X (tgt := 46) dX9_keep_19 (by decide) (fun h11 => ?_) (fun h11 => ?_)
        · replace hR := (if_pos h11).symm.trans hR
          refine j_aload_n X (i := 0) dX9_keep_46 rfl rfl ?_
          refine j_getf X 9 25 rfl cw_X9 fl_X9_40 (by decide) dX9_keep_47 (ad_mem hL (by decide)) (FW9 hL) rfl ?_
          refine j_iload_n X (i := 1) dX9_keep_50 rfl rfl ?_
          refine j_iconst X (1) dX9_keep_51 (by decide) ?_
          obtain ⟨h12, hR⟩ := chkI_inv hR
          obtain ⟨b13, h14, hR⟩ := bT_inv hR
          refine t_Zast_102 X hL h12 h14 dX9_keep_52 ?_
          refine j_aload_n X (i := 0) dX9_keep_53 rfl rfl ?_
          refine j_getf X 9 1 rfl cw_X9 fl_X9_17 (by decide) dX9_keep_54 (ad_mem hL (by decide)) (FW9 hL) rfl ?_
          refine j_bipush X (7) dX9_keep_57 (by decide) ?_
          refine j_iald X dX9_keep_59 (ad_mem hL (by decide)) (FWr97 hL) (by unfold vp_in; decide) ?_
          exact q_iret X hQ dX9_keep_60 rfl ⟨(by decide), (by decide)⟩ ⟨rfl, congrArg (fun z => FW G L a z c) (Prod.mk.inj (Option.some.inj hR)).2, congrArg (fun z => some (Value.int z)) (Prod.mk.inj (Option.some.inj hR)).1⟩
        · replace hR := (if_neg h11).symm.trans hR
          refine j_aload_n X (i := 0) dX9_keep_22 rfl rfl ?_
          refine j_getf X 9 24 rfl cw_X9 fl_X9_37 (by decide) dX9_keep_23 (ad_mem hL (by decide)) (FW9 hL) rfl ?_
          refine j_sipush X (311) dX9_keep_26 (by decide) ?_
          refine j_iload_n X (i := 1) dX9_keep_29 rfl rfl ?_
          refine j_imul X dX9_keep_30 ?_
          refine j_iload_n X (i := 2) dX9_keep_31 rfl rfl ?_
          refine j_iadd X dX9_keep_32 ?_
          refine j_aload_n X (i := 0) dX9_keep_33 rfl rfl ?_
          refine j_getf X 9 1 rfl cw_X9 fl_X9_17 (by decide) dX9_keep_34 (ad_mem hL (by decide)) (FW9 hL) rfl ?_
          refine j_iload_n X (i := 2) dX9_keep_37 rfl rfl ?_
          obtain ⟨h15, hR⟩ := chkI_inv hR
          refine j_iald X dX9_keep_38 (ad_mem hL (by decide)) (FWr97 hL) h15 ?_
          obtain ⟨h16, hR⟩ := chkI_inv hR
          obtain ⟨b17, h18, hR⟩ := bT_inv hR
          refine t_Iast_101 X hL h16 h18 dX9_keep_39 ?_
          obtain ⟨x19, h20, hR⟩ := bT_inv hR
          refine j_iinc X x19 dX9_keep_40 rfl h20 (by decide) (lvOK_s rfl okPrev_int) ?_
          dsimp only [List.set]
          refine j_goto X (tgt := 15) dX9_keep_43 (by decide) ?_
          exact J.sub (lvle_of (by simp only [lvle, and_self])) (ih _ _  hR)
    exact J.sub (lvle_of (by simp only [lvle, and_self])) (hb15 _ _ _  hR)
  · replace hR := (if_pos h8).symm.trans hR
    refine j_iconst X (0) dX9_keep_11 (by decide) ?_
    exact q_iret X hQ dX9_keep_12 rfl ⟨(by decide), (by decide)⟩ ⟨rfl, congrArg (fun z => FW G L a z c) (Prod.mk.inj (Option.some.inj hR)).2, congrArg (fun z => some (Value.int z)) (Prod.mk.inj (Option.some.inj hR)).1⟩
def f_X9_restore_40 (N : Nat) (p0 : Int32) : Nat → Int32 → Mem → Option (Int32 × Mem)
  | 0, _, _ => none
  | fu + 1, x16, b17 => if (311 : Int32) ≤ x16 then (some ((b17 1 ((7 : Int32)).toNatClampNeg), b17)) else (chkI (((311 : Int32) * p0) + x16) 622 <| chkI x16 311 <| bT (upR b17 1 (upd (b17 1) (x16).toNatClampNeg (b17 5 ((((311 : Int32) * p0) + x16)).toNatClampNeg))) fun b21 => bT (x16 + (1 : Int32)) fun x23 => f_X9_restore_40 N p0 fu x23 b21)
theorem f_X9_restore_40_s (N : Nat) (p0 : Int32) {fu : Nat} {x16 : Int32} {b17 : Mem} : f_X9_restore_40 N p0 (fu + 1) x16 b17 = (if (311 : Int32) ≤ x16 then (some ((b17 1 ((7 : Int32)).toNatClampNeg), b17)) else (chkI (((311 : Int32) * p0) + x16) 622 <| chkI x16 311 <| bT (upR b17 1 (upd (b17 1) (x16).toNatClampNeg (b17 5 ((((311 : Int32) * p0) + x16)).toNatClampNeg))) fun b21 => bT (x16 + (1 : Int32)) fun x23 => f_X9_restore_40 N p0 fu x23 b21)) := rfl
def f_X9_restore_26 (N : Nat) (p0 : Int32) (b : Mem) (x2 : Int32) (x7 : Int32) : Option (Int32 × Mem) := bT2 (f_X9_passes2 x2 x7 b) fun x9 b10 => if x9 = 0 then (some ((0 : Int32), b10)) else (bP (f_X9_remember N b10) fun b14 => f_X9_restore_40 N p0 N (0 : Int32) b14)
def f_X9_restore_21 (N : Nat) (p0 : Int32) (b : Mem) (x2 : Int32)  : Option (Int32 × Mem) := f_X9_restore_26 N p0 b x2 (1 : Int32)
def f_X9_restore (N : Nat) (p0 : Int32) (b : Mem) : Option (Int32 × Mem) := bT (f_X9_isKeep p0 b) fun x2 => bT (f_X9_isKeep p0 b) fun x5 => if x5 = 0 then (f_X9_restore_21 N p0 b x2 ) else (chkI p0 2 <| if (b 6 (p0).toNatClampNeg) = 0 then (f_X9_restore_26 N p0 b x2 (0 : Int32)) else (f_X9_restore_21 N p0 b x2 ))
set_option maxRecDepth 100000 in
set_option maxHeartbeats 4000000 in
theorem m_X9_restore {l : Launch} (hl : l.stackTraces = false) {G : GG} {L : List Nat} (hL : LOK L) {a b c : Mem} {N : Nat} {p0 : Int32} {v : Int32} {a' : Mem} (hR : f_X9_restore N p0 b = some (v, a')) : Ct l G yX9_restore (.code yX9_restore cX9_restore 3 (some .int)) 2 45 0 0 [.ref (ad L 96), .int p0] L (FW G L a b c) px0 (stay L (fun r f1 => f1 = (FW G L a a' c) ∧ r = some (.int v))) := by
  refine Ct.ofq (own := RX9) hl rfl (by decide) [some (.ref (ad L 96)), some (.int p0), none] rfl (Nat.le_of_ble_eq_true rfl) ?_
  intro p e s m below meth c9 A ar Q hQ X
  unfold f_X9_restore at hR
  refine j_aload_n X (i := 0) dX9_restore_0 rfl rfl ?_
  refine j_iload_n X (i := 1) dX9_restore_1 rfl rfl ?_
  obtain ⟨x2, h1, hR⟩ := bT_inv hR
  refine j_callS1 X (m_X9_isKeep hl hL h1) ml_X9_387 st_yX9_isKeep in_X9 cd_yX9_isKeep hy_yX9_isKeep dX9_restore_2 ⟨(by decide), (by decide)⟩ ⟨(by decide), (by decide)⟩ (Nat.le_of_ble_eq_true rfl) (fun _ h => h.elim) (fun r9 L9 f9 h9 => ?_)
  obtain ⟨h91, h92, h93, h3⟩ := h9
  subst r9
  subst f9
  subst L9
  dsimp only [Option.toList, List.cons_append, List.nil_append, List.append]
  refine j_iload_n X (i := 1) dX9_restore_5 rfl rfl ?_
  obtain ⟨x5, h4, hR⟩ := bT_inv hR
  refine j_callS1 X (m_X9_isKeep hl hL h4) ml_X9_387 st_yX9_isKeep in_X9 cd_yX9_isKeep hy_yX9_isKeep dX9_restore_6 ⟨(by decide), (by decide)⟩ ⟨(by decide), (by decide)⟩ (Nat.le_of_ble_eq_true rfl) (fun _ h => h.elim) (fun r9 L9 f9 h9 => ?_)
  obtain ⟨h91, h92, h93, h6⟩ := h9
  subst r9
  subst f9
  subst L9
  dsimp only [Option.toList, List.cons_append, List.nil_append, List.append]
  have hb26 : ∀ (x7 : Int32) (hBx7 : isB x7), f_X9_restore_26 N p0 b x2 x7 = some (v, a') → J G p l e ({ frames := 2, cells := 0, slots := 0, locals := 45 } : Room) s m ar below meth c9 A Q 3 0 0 26 [some (.ref (ad L 96)), some (.int p0), none] [.int x7, .int x2, .ref (ad L 96)] L (FW G L a b c) := by
    intro x7 hBx7 hR
    unfold f_X9_restore_26 at hR
    obtain ⟨x9, b10, h8, hR⟩ := bT2_inv hR
    refine j_callV2 X 9 (m_X9_passes2 hl hL h3 hBx7 h8) ml_X9_314 im_yX9_passes2 se_yX9_passes2 in_X9 cd_yX9_passes2 hy_yX9_passes2 dX9_restore_26 rfl (ad_mem hL (by decide)) (FW9 hL) ⟨(by decide), (by decide)⟩ ⟨(by decide), (by decide)⟩ (Nat.le_of_ble_eq_true rfl) (fun _ h => h.elim) (fun r9 L9 f9 h9 => ?_)
    obtain ⟨h91, h92, h93, h11⟩ := h9
    subst r9
    subst f9
    subst L9
    dsimp only [Option.toList, List.cons_append, List.nil_append, List.append]
    refine j_if_ne X (tgt := 34) dX9_restore_29 (by decide) (fun h12 => ?_) (fun h12 => ?_)
    · replace hR := (if_neg h12).symm.trans hR
      refine j_aload_n X (i := 0) dX9_restore_34 rfl rfl ?_
      obtain ⟨b14, h13, hR⟩ := bP_inv hR
      refine j_callV0 X 9 (m_X9_remember hl hL h13) ml_X9_304 im_yX9_remember se_yX9_remember in_X9 cd_yX9_remember hy_yX9_remember dX9_restore_35 rfl (ad_mem hL (by decide)) (FW9 hL) ⟨(by decide), (by decide)⟩ ⟨(by decide), (by decide)⟩ (Nat.le_of_ble_eq_true rfl) (fun _ h => h.elim) (fun r9 L9 f9 h9 => ?_)
      obtain ⟨h91, h92, h93⟩ := h9
      subst r9
      subst f9
      subst L9
      dsimp only [Option.toList, List.cons_append, List.nil_append, List.append]
      refine j_iconst X (0) dX9_restore_38 (by decide) ?_
      refine j_istore_n X (i := 2) dX9_restore_39 rfl (by decide) (lvOK_s rfl okPrev_int) ?_
      dsimp only [List.set]
      have hb40 : ∀ (fu : Nat) (x16 : Int32) (b17 : Mem) , f_X9_restore_40 N p0 fu x16 b17 = some (v, a') → J G p l e ({ frames := 2, cells := 0, slots := 0, locals := 45 } : Room) s m ar below meth c9 A Q 3 0 0 40 [some (.ref (ad L 96)), some (.int p0), some (.int x16)] [] L (FW G L a b17 c) := by
        intro fu
        induction fu with
        | zero =>
          intro x16 b17 hR
          cases hR
        | succ fu ih =>
          intro x16 b17 hR
          replace hR := (f_X9_restore_40_s N p0).symm.trans hR
          refine j_iload_n X (i := 2) dX9_restore_40 rfl rfl ?_
          refine j_sipush X (311) dX9_restore_41 (by decide) ?_
          refine j_icmp_ge X (tgt := 71) dX9_restore_44 (by decide) (fun h18 => ?_) (fun h18 => ?_)
          · replace hR := (if_pos h18).symm.trans hR
            refine j_aload_n X (i := 0) dX9_restore_71 rfl rfl ?_
            refine j_getf X 9 1 rfl cw_X9 fl_X9_17 (by decide) dX9_restore_72 (ad_mem hL (by decide)) (FW9 hL) rfl ?_
            refine j_bipush X (7) dX9_restore_75 (by decide) ?_
            refine j_iald X dX9_restore_77 (ad_mem hL (by decide)) (FWr97 hL) (by unfold vp_in; decide) ?_
            exact q_iret X hQ dX9_restore_78 rfl ⟨(by decide), (by decide)⟩ ⟨rfl, congrArg (fun z => FW G L a z c) (Prod.mk.inj (Option.some.inj hR)).2, congrArg (fun z => some (Value.int z)) (Prod.mk.inj (Option.some.inj hR)).1⟩
          · replace hR := (if_neg h18).symm.trans hR
            refine j_aload_n X (i := 0) dX9_restore_47 rfl rfl ?_
            refine j_getf X 9 1 rfl cw_X9 fl_X9_17 (by decide) dX9_restore_48 (ad_mem hL (by decide)) (FW9 hL) rfl ?_
            refine j_iload_n X (i := 2) dX9_restore_51 rfl rfl ?_
            refine j_aload_n X (i := 0) dX9_restore_52 rfl rfl ?_
            refine j_getf X 9 24 rfl cw_X9 fl_X9_37 (by decide) dX9_restore_53 (ad_mem hL (by decide)) (FW9 hL) rfl ?_
            refine j_sipush X (311) dX9_restore_56 (by decide) ?_
            refine j_iload_n X (i := 1) dX9_restore_59 rfl rfl ?_
            refine j_imul X dX9_restore_60 ?_
            refine j_iload_n X (i := 2) dX9_restore_61 rfl rfl ?_
            refine j_iadd X dX9_restore_62 ?_
            obtain ⟨h19, hR⟩ := chkI_inv hR
            refine j_iald X dX9_restore_63 (ad_mem hL (by decide)) (FWr101 hL) h19 ?_
            obtain ⟨h20, hR⟩ := chkI_inv hR
            obtain ⟨b21, h22, hR⟩ := bT_inv hR
            refine t_Iast_97 X hL h20 h22 dX9_restore_64 ?_
            obtain ⟨x23, h24, hR⟩ := bT_inv hR
            refine j_iinc X x23 dX9_restore_65 rfl h24 (by decide) (lvOK_s rfl okPrev_int) ?_
            dsimp only [List.set]
            refine j_goto X (tgt := 40) dX9_restore_68 (by decide) ?_
            exact J.sub (lvle_of (by simp only [lvle, and_self])) (ih _ _  hR)
      exact J.sub (lvle_of (by simp only [lvle, and_self])) (hb40 _ _ _  hR)
    · replace hR := (if_pos h12).symm.trans hR
      refine j_iconst X (0) dX9_restore_32 (by decide) ?_
      exact q_iret X hQ dX9_restore_33 rfl ⟨(by decide), (by decide)⟩ ⟨rfl, congrArg (fun z => FW G L a z c) (Prod.mk.inj (Option.some.inj hR)).2, congrArg (fun z => some (Value.int z)) (Prod.mk.inj (Option.some.inj hR)).1⟩
  have hb21 : f_X9_restore_21 N p0 b x2 = some (v, a') → J G p l e ({ frames := 2, cells := 0, slots := 0, locals := 45 } : Room) s m ar below meth c9 A Q 3 0 0 21 [some (.ref (ad L 96)), some (.int p0), none] [.int x2, .ref (ad L 96)] L (FW G L a b c) := by
    intro hR
    unfold f_X9_restore_21 at hR
    refine j_iconst X (1) dX9_restore_21 (by decide) ?_
    refine j_goto X (tgt := 26) dX9_restore_22 (by decide) ?_
    exact J.sub (lvle_of (by simp only [lvle, and_self])) (hb26 _ isB_1 hR)
  refine j_if_eq X (tgt := 21) dX9_restore_9 (by decide) (fun h25 => ?_) (fun h25 => ?_)
  · replace hR := (if_pos h25).symm.trans hR
    exact J.sub (lvle_of (by simp only [lvle, and_self])) (hb21 hR)
  · replace hR := (if_neg h25).symm.trans hR
    refine j_aload_n X (i := 0) dX9_restore_12 rfl rfl ?_
    refine j_getf X 9 25 rfl cw_X9 fl_X9_40 (by decide) dX9_restore_13 (ad_mem hL (by decide)) (FW9 hL) rfl ?_
    refine j_iload_n X (i := 1) dX9_restore_16 rfl rfl ?_
    obtain ⟨h26, hR⟩ := chkI_inv hR
    refine j_zald X dX9_restore_17 (ad_mem hL (by decide)) (FWr102 hL) h26 ?_
    refine j_if_eq X (tgt := 25) dX9_restore_18 (by decide) (fun h27 => ?_) (fun h27 => ?_)
    · replace hR := (if_pos h27).symm.trans hR
      refine j_iconst X (0) dX9_restore_25 (by decide) ?_
      exact J.sub (lvle_of (by simp only [lvle, and_self])) (hb26 _ isB_0 hR)
    · replace hR := (if_neg h27).symm.trans hR
      exact J.sub (lvle_of (by simp only [lvle, and_self])) (hb21 hR)
def f_X9_undo_33 (N : Nat)  : Nat → Int32 → Mem → Option (Int32 × Mem)
  | 0, _, _ => none
  | fu + 1, x9, b10 => if (311 : Int32) ≤ x9 then (some ((b10 0 27), b10)) else (chkI (((311 : Int32) * (b10 0 27)) + x9) 1866 <| chkI x9 311 <| bT (upR b10 1 (upd (b10 1) (x9).toNatClampNeg (b10 7 ((((311 : Int32) * (b10 0 27)) + x9)).toNatClampNeg))) fun b14 => bT (x9 + (1 : Int32)) fun x16 => f_X9_undo_33 N fu x16 b14)
theorem f_X9_undo_33_s (N : Nat)  {fu : Nat} {x9 : Int32} {b10 : Mem} : f_X9_undo_33 N (fu + 1) x9 b10 = (if (311 : Int32) ≤ x9 then (some ((b10 0 27), b10)) else (chkI (((311 : Int32) * (b10 0 27)) + x9) 1866 <| chkI x9 311 <| bT (upR b10 1 (upd (b10 1) (x9).toNatClampNeg (b10 7 ((((311 : Int32) * (b10 0 27)) + x9)).toNatClampNeg))) fun b14 => bT (x9 + (1 : Int32)) fun x16 => f_X9_undo_33 N fu x16 b14)) := rfl
def f_X9_undo_13 (N : Nat) (b : Mem) (x1 : Int32) : Option (Int32 × Mem) := bT2 (f_X9_passes x1 b) fun x3 b4 => if x3 = 0 then (some ((0 : Int32), b4)) else (bT (up2 b4 0 27 ((b4 0 27) - (1 : Int32))) fun b7 => f_X9_undo_33 N N (0 : Int32) b7)
def f_X9_undo (N : Nat) (b : Mem) : Option (Int32 × Mem) := if (b 0 27) ≤ 0 then (f_X9_undo_13 N b (0 : Int32)) else (f_X9_undo_13 N b (1 : Int32))
set_option maxRecDepth 100000 in
set_option maxHeartbeats 4000000 in
theorem m_X9_undo {l : Launch} (hl : l.stackTraces = false) {G : GG} {L : List Nat} (hL : LOK L) {a b c : Mem} {N : Nat}  {v : Int32} {a' : Mem} (hR : f_X9_undo N b = some (v, a')) : Ct l G yX9_undo (.code yX9_undo cX9_undo 2 (some .int)) 2 44 0 0 [.ref (ad L 96)] L (FW G L a b c) px0 (stay L (fun r f1 => f1 = (FW G L a a' c) ∧ r = some (.int v))) := by
  refine Ct.ofq (own := RX9) hl rfl (by decide) [some (.ref (ad L 96)), none] rfl (Nat.le_of_ble_eq_true rfl) ?_
  intro p e s m below meth c9 A ar Q hQ X
  unfold f_X9_undo at hR
  refine j_aload_n X (i := 0) dX9_undo_0 rfl rfl ?_
  refine j_aload_n X (i := 0) dX9_undo_1 rfl rfl ?_
  refine j_getf X 9 27 rfl cw_X9 fl_X9_390 (by decide) dX9_undo_2 (ad_mem hL (by decide)) (FW9 hL) rfl ?_
  have hb13 : ∀ (x1 : Int32) (hBx1 : isB x1), f_X9_undo_13 N b x1 = some (v, a') → J G p l e ({ frames := 2, cells := 0, slots := 0, locals := 44 } : Room) s m ar below meth c9 A Q 2 0 0 13 [some (.ref (ad L 96)), none] [.int x1, .ref (ad L 96)] L (FW G L a b c) := by
    intro x1 hBx1 hR
    unfold f_X9_undo_13 at hR
    obtain ⟨x3, b4, h2, hR⟩ := bT2_inv hR
    refine j_callV1 X 9 (m_X9_passes hl hL hBx1 h2) ml_X9_159 im_yX9_passes se_yX9_passes in_X9 cd_yX9_passes hy_yX9_passes dX9_undo_13 rfl (ad_mem hL (by decide)) (FW9 hL) ⟨(by decide), (by decide)⟩ ⟨(by decide), (by decide)⟩ (Nat.le_of_ble_eq_true rfl) (fun _ h => h.elim) (fun r9 L9 f9 h9 => ?_)
    obtain ⟨h91, h92, h93, h5⟩ := h9
    subst r9
    subst f9
    subst L9
    dsimp only [Option.toList, List.cons_append, List.nil_append, List.append]
    refine j_if_ne X (tgt := 21) dX9_undo_16 (by decide) (fun h6 => ?_) (fun h6 => ?_)
    · replace hR := (if_neg h6).symm.trans hR
      refine j_aload_n X (i := 0) dX9_undo_21 rfl rfl ?_
      refine j_dup X dX9_undo_22 rfl ?_
      refine j_getf X 9 27 rfl cw_X9 fl_X9_390 (by decide) dX9_undo_23 (ad_mem hL (by decide)) (FW9 hL) rfl ?_
      refine j_iconst X (1) dX9_undo_26 (by decide) ?_
      refine j_isub X dX9_undo_27 ?_
      obtain ⟨b7, h8, hR⟩ := bT_inv hR
      refine tp_X9_27 X hL h8 fl_X9_390 dX9_undo_28 ?_
      refine j_iconst X (0) dX9_undo_31 (by decide) ?_
      refine j_istore_n X (i := 1) dX9_undo_32 rfl (by decide) (lvOK_s rfl okPrev_ref) ?_
      dsimp only [List.set]
      have hb33 : ∀ (fu : Nat) (x9 : Int32) (b10 : Mem) , f_X9_undo_33 N fu x9 b10 = some (v, a') → J G p l e ({ frames := 2, cells := 0, slots := 0, locals := 44 } : Room) s m ar below meth c9 A Q 2 0 0 33 [some (.ref (ad L 96)), some (.int x9)] [] L (FW G L a b10 c) := by
        intro fu
        induction fu with
        | zero =>
          intro x9 b10 hR
          cases hR
        | succ fu ih =>
          intro x9 b10 hR
          replace hR := (f_X9_undo_33_s N ).symm.trans hR
          refine j_iload_n X (i := 1) dX9_undo_33 rfl rfl ?_
          refine j_sipush X (311) dX9_undo_34 (by decide) ?_
          refine j_icmp_ge X (tgt := 67) dX9_undo_37 (by decide) (fun h11 => ?_) (fun h11 => ?_)
          · replace hR := (if_pos h11).symm.trans hR
            refine j_aload_n X (i := 0) dX9_undo_67 rfl rfl ?_
            refine j_getf X 9 27 rfl cw_X9 fl_X9_390 (by decide) dX9_undo_68 (ad_mem hL (by decide)) (FW9 hL) rfl ?_
            exact q_iret X hQ dX9_undo_71 rfl ⟨(by decide), (by decide)⟩ ⟨rfl, congrArg (fun z => FW G L a z c) (Prod.mk.inj (Option.some.inj hR)).2, congrArg (fun z => some (Value.int z)) (Prod.mk.inj (Option.some.inj hR)).1⟩
          · replace hR := (if_neg h11).symm.trans hR
            refine j_aload_n X (i := 0) dX9_undo_40 rfl rfl ?_
            refine j_getf X 9 1 rfl cw_X9 fl_X9_17 (by decide) dX9_undo_41 (ad_mem hL (by decide)) (FW9 hL) rfl ?_
            refine j_iload_n X (i := 1) dX9_undo_44 rfl rfl ?_
            refine j_aload_n X (i := 0) dX9_undo_45 rfl rfl ?_
            refine j_getf X 9 26 rfl cw_X9 fl_X9_44 (by decide) dX9_undo_46 (ad_mem hL (by decide)) (FW9 hL) rfl ?_
            refine j_sipush X (311) dX9_undo_49 (by decide) ?_
            refine j_aload_n X (i := 0) dX9_undo_52 rfl rfl ?_
            refine j_getf X 9 27 rfl cw_X9 fl_X9_390 (by decide) dX9_undo_53 (ad_mem hL (by decide)) (FW9 hL) rfl ?_
            refine j_imul X dX9_undo_56 ?_
            refine j_iload_n X (i := 1) dX9_undo_57 rfl rfl ?_
            refine j_iadd X dX9_undo_58 ?_
            obtain ⟨h12, hR⟩ := chkI_inv hR
            refine j_iald X dX9_undo_59 (ad_mem hL (by decide)) (FWr103 hL) h12 ?_
            obtain ⟨h13, hR⟩ := chkI_inv hR
            obtain ⟨b14, h15, hR⟩ := bT_inv hR
            refine t_Iast_97 X hL h13 h15 dX9_undo_60 ?_
            obtain ⟨x16, h17, hR⟩ := bT_inv hR
            refine j_iinc X x16 dX9_undo_61 rfl h17 (by decide) (lvOK_s rfl okPrev_ref) ?_
            dsimp only [List.set]
            refine j_goto X (tgt := 33) dX9_undo_64 (by decide) ?_
            exact J.sub (lvle_of (by simp only [lvle, and_self])) (ih _ _  hR)
      exact J.sub (lvle_of (by simp only [lvle, and_self])) (hb33 _ _ _  hR)
    · replace hR := (if_pos h6).symm.trans hR
      refine j_iconst X (0) dX9_undo_19 (by decide) ?_
      exact q_iret X hQ dX9_undo_20 rfl ⟨(by decide), (by decide)⟩ ⟨rfl, congrArg (fun z => FW G L a z c) (Prod.mk.inj (Option.some.inj hR)).2, congrArg (fun z => some (Value.int z)) (Prod.mk.inj (Option.some.inj hR)).1⟩
  refine j_if_le X (tgt := 12) dX9_undo_5 (by decide) (fun h18 => ?_) (fun h18 => ?_)
  · replace hR := (if_pos h18).symm.trans hR
    refine j_iconst X (0) dX9_undo_12 (by decide) ?_
    exact J.sub (lvle_of (by simp only [lvle, and_self])) (hb13 _ isB_0 hR)
  · replace hR := (if_neg h18).symm.trans hR
    refine j_iconst X (1) dX9_undo_8 (by decide) ?_
    refine j_goto X (tgt := 13) dX9_undo_9 (by decide) ?_
    exact J.sub (lvle_of (by simp only [lvle, and_self])) (hb13 _ isB_1 hR)
def f_X9_undoCount (b : Mem) : (Int32 × Mem) := bT (up2 b 0 0 (0 : Int32)) fun b1 => ((b1 0 27), b1)
set_option maxRecDepth 100000 in
set_option maxHeartbeats 4000000 in
theorem m_X9_undoCount {l : Launch} (hl : l.stackTraces = false) {G : GG} {L : List Nat} (hL : LOK L) {a b c : Mem}  {v : Int32} {a' : Mem} (hR : f_X9_undoCount b = (v, a')) : Ct l G yX9_undoCount (.code yX9_undoCount cX9_undoCount 1 (some .int)) 0 0 0 0 [.ref (ad L 96)] L (FW G L a b c) px0 (stay L (fun r f1 => f1 = (FW G L a a' c) ∧ r = some (.int v))) := by
  refine Ct.ofq (own := RX9) hl rfl (by decide) [some (.ref (ad L 96))] rfl (Nat.le_of_ble_eq_true rfl) ?_
  intro p e s m below meth c9 A ar Q hQ X
  unfold f_X9_undoCount at hR
  refine j_aload_n X (i := 0) dX9_undoCount_0 rfl rfl ?_
  refine j_iconst X (0) dX9_undoCount_1 (by decide) ?_
  obtain ⟨b1, h2, hR⟩ := bT_inv hR
  refine tp_X9_0 X hL h2 fl_X9_3 dX9_undoCount_2 ?_
  refine j_aload_n X (i := 0) dX9_undoCount_5 rfl rfl ?_
  refine j_getf X 9 27 rfl cw_X9 fl_X9_390 (by decide) dX9_undoCount_6 (ad_mem hL (by decide)) (FW9 hL) rfl ?_
  exact q_iret X hQ dX9_undoCount_9 rfl ⟨(by decide), (by decide)⟩ ⟨rfl, congrArg (fun z => FW G L a z c) (Prod.mk.inj hR).2, congrArg (fun z => some (Value.int z)) (Prod.mk.inj hR).1⟩
def f_X9_write (N : Nat) (p0 : Int32) (b : Mem) : Option Mem := chkI (b 0 29) 300 <| bT (upR b 8 (upd (b 8) ((b 0 29)).toNatClampNeg (vp_nar .byte ((Int32.toInt8 p0).toInt32)))) fun b2 => bT (up2 b2 0 29 ((b2 0 29) + (1 : Int32))) fun b4 => some b4
set_option maxRecDepth 100000 in
set_option maxHeartbeats 4000000 in
theorem m_X9_write {l : Launch} (hl : l.stackTraces = false) {G : GG} {L : List Nat} (hL : LOK L) {a b c : Mem} {N : Nat} {p0 : Int32} {a' : Mem} (hR : f_X9_write N p0 b = some a') : Ct l G yX9_write (.code yX9_write cX9_write 2 none) 0 0 0 0 [.ref (ad L 96), .int p0] L (FW G L a b c) px0 (stay L (fun r f1 => f1 = (FW G L a a' c) ∧ r = none)) := by
  refine Ct.ofq (own := RX9) hl rfl (by decide) [some (.ref (ad L 96)), some (.int p0)] rfl (Nat.le_of_ble_eq_true rfl) ?_
  intro p e s m below meth c9 A ar Q hQ X
  unfold f_X9_write at hR
  refine j_aload_n X (i := 0) dX9_write_0 rfl rfl ?_
  refine j_getf X 9 28 rfl cw_X9 fl_X9_47 (by decide) dX9_write_1 (ad_mem hL (by decide)) (FW9 hL) rfl ?_
  refine j_aload_n X (i := 0) dX9_write_4 rfl rfl ?_
  refine j_getf X 9 29 rfl cw_X9 fl_X9_393 (by decide) dX9_write_5 (ad_mem hL (by decide)) (FW9 hL) rfl ?_
  refine j_iload_n X (i := 1) dX9_write_8 rfl rfl ?_
  refine j_i2b X dX9_write_9 ?_
  obtain ⟨h1, hR⟩ := chkI_inv hR
  obtain ⟨b2, h3, hR⟩ := bT_inv hR
  refine t_Bast_104 X hL h1 h3 dX9_write_10 ?_
  refine j_aload_n X (i := 0) dX9_write_11 rfl rfl ?_
  refine j_dup X dX9_write_12 rfl ?_
  refine j_getf X 9 29 rfl cw_X9 fl_X9_393 (by decide) dX9_write_13 (ad_mem hL (by decide)) (FW9 hL) rfl ?_
  refine j_iconst X (1) dX9_write_16 (by decide) ?_
  refine j_iadd X dX9_write_17 ?_
  obtain ⟨b4, h5, hR⟩ := bT_inv hR
  refine tp_X9_29 X hL h5 fl_X9_393 dX9_write_18 ?_
  exact q_vret X hQ dX9_write_21 rfl ⟨(by decide), (by decide)⟩ ⟨rfl, congrArg (fun z => FW G L a z c) (Option.some.inj hR), rfl⟩
def f_X9_space (N : Nat) (b : Mem) : Option Mem := if (b 0 29) ≤ 0 then (some b) else (bP (f_X9_write N (32 : Int32) b) fun b3 => some b3)
set_option maxRecDepth 100000 in
set_option maxHeartbeats 4000000 in
theorem m_X9_space {l : Launch} (hl : l.stackTraces = false) {G : GG} {L : List Nat} (hL : LOK L) {a b c : Mem} {N : Nat}  {a' : Mem} (hR : f_X9_space N b = some a') : Ct l G yX9_space (.code yX9_space cX9_space 1 none) 1 21 0 0 [.ref (ad L 96)] L (FW G L a b c) px0 (stay L (fun r f1 => f1 = (FW G L a a' c) ∧ r = none)) := by
  refine Ct.ofq (own := RX9) hl rfl (by decide) [some (.ref (ad L 96))] rfl (Nat.le_of_ble_eq_true rfl) ?_
  intro p e s m below meth c9 A ar Q hQ X
  unfold f_X9_space at hR
  refine j_aload_n X (i := 0) dX9_space_0 rfl rfl ?_
  refine j_getf X 9 29 rfl cw_X9 fl_X9_393 (by decide) dX9_space_1 (ad_mem hL (by decide)) (FW9 hL) rfl ?_
  refine j_if_le X (tgt := 13) dX9_space_4 (by decide) (fun h1 => ?_) (fun h1 => ?_)
  · replace hR := (if_pos h1).symm.trans hR
    exact q_vret X hQ dX9_space_13 rfl ⟨(by decide), (by decide)⟩ ⟨rfl, congrArg (fun z => FW G L a z c) (Option.some.inj hR), rfl⟩
  · replace hR := (if_neg h1).symm.trans hR
    refine j_aload_n X (i := 0) dX9_space_7 rfl rfl ?_
    refine j_bipush X (32) dX9_space_8 (by decide) ?_
    obtain ⟨b3, h2, hR⟩ := bP_inv hR
    refine j_callV1 X 9 (m_X9_write hl hL h2) ml_X9_396 im_yX9_write se_yX9_write in_X9 cd_yX9_write hy_yX9_write dX9_space_10 rfl (ad_mem hL (by decide)) (FW9 hL) ⟨(by decide), (by decide)⟩ ⟨(by decide), (by decide)⟩ (Nat.le_of_ble_eq_true rfl) (fun _ h => h.elim) (fun r9 L9 f9 h9 => ?_)
    obtain ⟨h91, h92, h93⟩ := h9
    subst r9
    subst f9
    subst L9
    dsimp only [Option.toList, List.cons_append, List.nil_append, List.append]
    exact q_vret X hQ dX9_space_13 rfl ⟨(by decide), (by decide)⟩ ⟨rfl, congrArg (fun z => FW G L a z c) (Option.some.inj hR), rfl⟩
def f_X9_writeInt_36 (N : Nat) (x2 : Int32) : Nat → Int32 → Mem → Option Mem
  | 0, _, _ => none
  | fu + 1, x7, b8 => if x7 ≤ 0 then (some b8) else (chkP (¬ x7 = 0) <| bP (f_X9_write N ((48 : Int32) + ((x2 / x7) - (x2 / x7) / (10 : Int32) * (10 : Int32))) b8) fun b13 => bT (x7 / (10 : Int32)) fun x15 => f_X9_writeInt_36 N x2 fu x15 b13)
theorem f_X9_writeInt_36_s (N : Nat) (x2 : Int32) {fu : Nat} {x7 : Int32} {b8 : Mem} : f_X9_writeInt_36 N x2 (fu + 1) x7 b8 = (if x7 ≤ 0 then (some b8) else (chkP (¬ x7 = 0) <| bP (f_X9_write N ((48 : Int32) + ((x2 / x7) - (x2 / x7) / (10 : Int32) * (10 : Int32))) b8) fun b13 => bT (x7 / (10 : Int32)) fun x15 => f_X9_writeInt_36 N x2 fu x15 b13)) := rfl
def f_X9_writeInt_17 (N : Nat) (b1 : Mem) (x2 : Int32) : Nat → Int32 → Option Mem
  | 0, _ => none
  | fu + 1, x4 => chkP (¬ x4 = 0) <| if (x2 / x4) < (10 : Int32) then (bP (f_X9_writeInt_36 N x2 N x4 b1) fun b18 => some b18) else (bT (x4 * (10 : Int32)) fun x20 => f_X9_writeInt_17 N b1 x2 fu x20)
theorem f_X9_writeInt_17_s (N : Nat) (b1 : Mem) (x2 : Int32) {fu : Nat} {x4 : Int32} : f_X9_writeInt_17 N b1 x2 (fu + 1) x4 = (chkP (¬ x4 = 0) <| if (x2 / x4) < (10 : Int32) then (bP (f_X9_writeInt_36 N x2 N x4 b1) fun b18 => some b18) else (bT (x4 * (10 : Int32)) fun x20 => f_X9_writeInt_17 N b1 x2 fu x20)) := rfl
def f_X9_writeInt_10 (N : Nat) (p0 : Int32) (b1 : Mem) : Option Mem := bT (abI p0) fun x2 => f_X9_writeInt_17 N b1 x2 N (1 : Int32)
def f_X9_writeInt (N : Nat) (p0 : Int32) (b : Mem) : Option Mem := if 0 ≤ p0 then (f_X9_writeInt_10 N p0 b) else (bP (f_X9_write N (45 : Int32) b) fun b24 => f_X9_writeInt_10 N p0 b24)
set_option maxRecDepth 100000 in
set_option maxHeartbeats 4000000 in
theorem m_X9_writeInt {l : Launch} (hl : l.stackTraces = false) {G : GG} {L : List Nat} (hL : LOK L) {a b c : Mem} {N : Nat} {p0 : Int32} {a' : Mem} (hR : f_X9_writeInt N p0 b = some a') : Ct l G yX9_writeInt (.code yX9_writeInt cX9_writeInt 5 none) 1 24 0 0 [.ref (ad L 96), .int p0] L (FW G L a b c) px0 (stay L (fun r f1 => f1 = (FW G L a a' c) ∧ r = none)) := by
  refine Ct.ofq (own := RX9) hl rfl (by decide) [some (.ref (ad L 96)), some (.int p0), none, none, none] rfl (Nat.le_of_ble_eq_true rfl) ?_
  intro p e s m below meth c9 A ar Q hQ X
  unfold f_X9_writeInt at hR
  refine j_iload_n X (i := 1) dX9_writeInt_0 rfl rfl ?_
  have hb10 : ∀ (b1 : Mem) , f_X9_writeInt_10 N p0 b1 = some a' → J G p l e ({ frames := 1, cells := 0, slots := 0, locals := 24 } : Room) s m ar below meth c9 A Q 5 0 0 10 [some (.ref (ad L 96)), some (.int p0), none, none, none] [] L (FW G L a b1 c) := by
    intro b1 hR
    unfold f_X9_writeInt_10 at hR
    refine j_iload_n X (i := 1) dX9_writeInt_10 rfl rfl ?_
    refine j_mabs X ml_X9_399 dX9_writeInt_11 ⟨(by decide), (Nat.le_of_ble_eq_true rfl)⟩ ⟨(by decide), (by decide)⟩ ?_
    obtain ⟨x2, h3, hR⟩ := bT_inv hR
    refine J.eqi h3 ?_
    refine j_istore_n X (i := 2) dX9_writeInt_14 rfl (by decide) (lvOK_s rfl okPrev_int) ?_
    dsimp only [List.set]
    refine j_iconst X (1) dX9_writeInt_15 (by decide) ?_
    refine j_istore_n X (i := 3) dX9_writeInt_16 rfl (by decide) (lvOK_s rfl okPrev_int) ?_
    dsimp only [List.set]
    have hb17 : ∀ (fu : Nat) (x4 : Int32) , f_X9_writeInt_17 N b1 x2 fu x4 = some a' → J G p l e ({ frames := 1, cells := 0, slots := 0, locals := 24 } : Room) s m ar below meth c9 A Q 5 0 0 17 [some (.ref (ad L 96)), none, some (.int x2), some (.int x4), none] [] L (FW G L a b1 c) := by
      intro fu
      induction fu with
      | zero =>
        intro x4 hR
        cases hR
      | succ fu ih =>
        intro x4 hR
        replace hR := (f_X9_writeInt_17_s N b1 x2).symm.trans hR
        refine j_iload_n X (i := 2) dX9_writeInt_17 rfl rfl ?_
        refine j_iload_n X (i := 3) dX9_writeInt_18 rfl rfl ?_
        obtain ⟨h5, hR⟩ := chkP_inv hR
        refine j_idiv X dX9_writeInt_19 h5 ?_
        refine j_bipush X (10) dX9_writeInt_20 (by decide) ?_
        refine j_icmp_lt X (tgt := 33) dX9_writeInt_22 (by decide) (fun h6 => ?_) (fun h6 => ?_)
        · replace hR := (if_pos h6).symm.trans hR
          refine j_iload_n X (i := 3) dX9_writeInt_33 rfl rfl ?_
          refine j_istore X dX9_writeInt_34 (by decide) (lvOK_s rfl okPrev_int) ?_
          dsimp only [List.set]
          have hb36 : ∀ (fu : Nat) (x7 : Int32) (b8 : Mem) (b17 : Mem), f_X9_writeInt_36 N x2 fu x7 b8 = some b17 → J G p l e ({ frames := 1, cells := 0, slots := 0, locals := 24 } : Room) s m ar below meth c9 A Q 5 0 0 65 [none, none, none, none, none] [] L (FW G L a b17 c) → J G p l e ({ frames := 1, cells := 0, slots := 0, locals := 24 } : Room) s m ar below meth c9 A Q 5 0 0 36 [some (.ref (ad L 96)), none, some (.int x2), none, some (.int x7)] [] L (FW G L a b8 c) := by
            intro fu
            induction fu with
            | zero =>
              intro x7 b8 b17 hR
              cases hR
            | succ fu ih =>
              intro x7 b8 b17 hR hK
              replace hR := (f_X9_writeInt_36_s N x2).symm.trans hR
              refine j_iload X dX9_writeInt_36 rfl ?_
              refine j_if_le X (tgt := 65) dX9_writeInt_38 (by decide) (fun h9 => ?_) (fun h9 => ?_)
              · replace hR := (if_pos h9).symm.trans hR
                have h10 := Option.some.inj hR
                subst h10
                exact J.sub (lvle_of (by simp only [lvle, and_self])) hK
              · replace hR := (if_neg h9).symm.trans hR
                refine j_aload_n X (i := 0) dX9_writeInt_41 rfl rfl ?_
                refine j_bipush X (48) dX9_writeInt_42 (by decide) ?_
                refine j_iload_n X (i := 2) dX9_writeInt_44 rfl rfl ?_
                refine j_iload X dX9_writeInt_45 rfl ?_
                obtain ⟨h11, hR⟩ := chkP_inv hR
                refine j_idiv X dX9_writeInt_47 h11 ?_
                refine j_bipush X (10) dX9_writeInt_48 (by decide) ?_
                refine j_irem X dX9_writeInt_50 (by decide) ?_
                refine j_iadd X dX9_writeInt_51 ?_
                obtain ⟨b13, h12, hR⟩ := bP_inv hR
                refine j_callV1 X 9 (m_X9_write hl hL h12) ml_X9_396 im_yX9_write se_yX9_write in_X9 cd_yX9_write hy_yX9_write dX9_writeInt_52 rfl (ad_mem hL (by decide)) (FW9 hL) ⟨(by decide), (by decide)⟩ ⟨(by decide), (by decide)⟩ (Nat.le_of_ble_eq_true rfl) (fun _ h => h.elim) (fun r9 L9 f9 h9 => ?_)
                obtain ⟨h91, h92, h93⟩ := h9
                subst r9
                subst f9
                subst L9
                dsimp only [Option.toList, List.cons_append, List.nil_append, List.append]
                refine j_iload X dX9_writeInt_55 rfl ?_
                refine j_bipush X (10) dX9_writeInt_57 (by decide) ?_
                refine j_idiv X dX9_writeInt_59 (by decide) ?_
                obtain ⟨x15, h16, hR⟩ := bT_inv hR
                refine J.eqi h16 ?_
                refine j_istore X dX9_writeInt_60 (by decide) (lvOK_s rfl okPrev_none) ?_
                dsimp only [List.set]
                refine j_goto X (tgt := 36) dX9_writeInt_62 (by decide) ?_
                exact J.sub (lvle_of (by simp only [lvle, and_self])) (ih _ _ _ hR hK)
          obtain ⟨b18, h19, hR⟩ := bP_inv hR
          refine J.sub (lvle_of (by simp only [lvle, and_self])) (hb36 _ _ _ _ h19 ?_)
          exact q_vret X hQ dX9_writeInt_65 rfl ⟨(by decide), (by decide)⟩ ⟨rfl, congrArg (fun z => FW G L a z c) (Option.some.inj hR), rfl⟩
        · replace hR := (if_neg h6).symm.trans hR
          refine j_iload_n X (i := 3) dX9_writeInt_25 rfl rfl ?_
          refine j_bipush X (10) dX9_writeInt_26 (by decide) ?_
          refine j_imul X dX9_writeInt_28 ?_
          obtain ⟨x20, h21, hR⟩ := bT_inv hR
          refine J.eqi h21 ?_
          refine j_istore_n X (i := 3) dX9_writeInt_29 rfl (by decide) (lvOK_s rfl okPrev_int) ?_
          dsimp only [List.set]
          refine j_goto X (tgt := 17) dX9_writeInt_30 (by decide) ?_
          exact J.sub (lvle_of (by simp only [lvle, and_self])) (ih _  hR)
    exact J.sub (lvle_of (by simp only [lvle, and_self])) (hb17 _ _  hR)
  refine j_if_ge X (tgt := 10) dX9_writeInt_1 (by decide) (fun h22 => ?_) (fun h22 => ?_)
  · replace hR := (if_pos h22).symm.trans hR
    exact J.sub (lvle_of (by simp only [lvle, and_self])) (hb10 _  hR)
  · replace hR := (if_neg h22).symm.trans hR
    refine j_aload_n X (i := 0) dX9_writeInt_4 rfl rfl ?_
    refine j_bipush X (45) dX9_writeInt_5 (by decide) ?_
    obtain ⟨b24, h23, hR⟩ := bP_inv hR
    refine j_callV1 X 9 (m_X9_write hl hL h23) ml_X9_396 im_yX9_write se_yX9_write in_X9 cd_yX9_write hy_yX9_write dX9_writeInt_7 rfl (ad_mem hL (by decide)) (FW9 hL) ⟨(by decide), (by decide)⟩ ⟨(by decide), (by decide)⟩ (Nat.le_of_ble_eq_true rfl) (fun _ h => h.elim) (fun r9 L9 f9 h9 => ?_)
    obtain ⟨h91, h92, h93⟩ := h9
    subst r9
    subst f9
    subst L9
    dsimp only [Option.toList, List.cons_append, List.nil_append, List.append]
    exact J.sub (lvle_of (by simp only [lvle, and_self])) (hb10 _  hR)
def f_X9_writeTwo (N : Nat) (p0 : Int32) (b : Mem) : Option Mem := bP (f_X9_write N (58 : Int32) b) fun b2 => bP (f_X9_write N ((48 : Int32) + (p0 / (10 : Int32))) b2) fun b5 => bP (f_X9_write N ((48 : Int32) + (p0 - p0 / (10 : Int32) * (10 : Int32))) b5) fun b8 => some b8
set_option maxRecDepth 100000 in
set_option maxHeartbeats 4000000 in
theorem m_X9_writeTwo {l : Launch} (hl : l.stackTraces = false) {G : GG} {L : List Nat} (hL : LOK L) {a b c : Mem} {N : Nat} {p0 : Int32} {a' : Mem} (hR : f_X9_writeTwo N p0 b = some a') : Ct l G yX9_writeTwo (.code yX9_writeTwo cX9_writeTwo 2 none) 1 21 0 0 [.ref (ad L 96), .int p0] L (FW G L a b c) px0 (stay L (fun r f1 => f1 = (FW G L a a' c) ∧ r = none)) := by
  refine Ct.ofq (own := RX9) hl rfl (by decide) [some (.ref (ad L 96)), some (.int p0)] rfl (Nat.le_of_ble_eq_true rfl) ?_
  intro p e s m below meth c9 A ar Q hQ X
  unfold f_X9_writeTwo at hR
  refine j_aload_n X (i := 0) dX9_writeTwo_0 rfl rfl ?_
  refine j_bipush X (58) dX9_writeTwo_1 (by decide) ?_
  obtain ⟨b2, h1, hR⟩ := bP_inv hR
  refine j_callV1 X 9 (m_X9_write hl hL h1) ml_X9_396 im_yX9_write se_yX9_write in_X9 cd_yX9_write hy_yX9_write dX9_writeTwo_3 rfl (ad_mem hL (by decide)) (FW9 hL) ⟨(by decide), (by decide)⟩ ⟨(by decide), (by decide)⟩ (Nat.le_of_ble_eq_true rfl) (fun _ h => h.elim) (fun r9 L9 f9 h9 => ?_)
  obtain ⟨h91, h92, h93⟩ := h9
  subst r9
  subst f9
  subst L9
  dsimp only [Option.toList, List.cons_append, List.nil_append, List.append]
  refine j_aload_n X (i := 0) dX9_writeTwo_6 rfl rfl ?_
  refine j_bipush X (48) dX9_writeTwo_7 (by decide) ?_
  refine j_iload_n X (i := 1) dX9_writeTwo_9 rfl rfl ?_
  refine j_bipush X (10) dX9_writeTwo_10 (by decide) ?_
  refine j_idiv X dX9_writeTwo_12 (by decide) ?_
  refine j_iadd X dX9_writeTwo_13 ?_
  obtain ⟨b5, h4, hR⟩ := bP_inv hR
  refine j_callV1 X 9 (m_X9_write hl hL h4) ml_X9_396 im_yX9_write se_yX9_write in_X9 cd_yX9_write hy_yX9_write dX9_writeTwo_14 rfl (ad_mem hL (by decide)) (FW9 hL) ⟨(by decide), (by decide)⟩ ⟨(by decide), (by decide)⟩ (Nat.le_of_ble_eq_true rfl) (fun _ h => h.elim) (fun r9 L9 f9 h9 => ?_)
  obtain ⟨h91, h92, h93⟩ := h9
  subst r9
  subst f9
  subst L9
  dsimp only [Option.toList, List.cons_append, List.nil_append, List.append]
  refine j_aload_n X (i := 0) dX9_writeTwo_17 rfl rfl ?_
  refine j_bipush X (48) dX9_writeTwo_18 (by decide) ?_
  refine j_iload_n X (i := 1) dX9_writeTwo_20 rfl rfl ?_
  refine j_bipush X (10) dX9_writeTwo_21 (by decide) ?_
  refine j_irem X dX9_writeTwo_23 (by decide) ?_
  refine j_iadd X dX9_writeTwo_24 ?_
  obtain ⟨b8, h7, hR⟩ := bP_inv hR
  refine j_callV1 X 9 (m_X9_write hl hL h7) ml_X9_396 im_yX9_write se_yX9_write in_X9 cd_yX9_write hy_yX9_write dX9_writeTwo_25 rfl (ad_mem hL (by decide)) (FW9 hL) ⟨(by decide), (by decide)⟩ ⟨(by decide), (by decide)⟩ (Nat.le_of_ble_eq_true rfl) (fun _ h => h.elim) (fun r9 L9 f9 h9 => ?_)
  obtain ⟨h91, h92, h93⟩ := h9
  subst r9
  subst f9
  subst L9
  dsimp only [Option.toList, List.cons_append, List.nil_append, List.append]
  exact q_vret X hQ dX9_writeTwo_28 rfl ⟨(by decide), (by decide)⟩ ⟨rfl, congrArg (fun z => FW G L a z c) (Option.some.inj hR), rfl⟩
def f_X9_writeClock_71 (N : Nat) (x5 : Int32) : Nat → Int32 → Mem → Option Mem
  | 0, _, _ => none
  | fu + 1, x27, b28 => bP (f_X9_of N x5 (4 : Int32) b28) fun x30 => if x30 ≤ x27 then (some b28) else (bP (f_X9_write N (43 : Int32) b28) fun b35 => bT (x27 + (1 : Int32)) fun x37 => f_X9_writeClock_71 N x5 fu x37 b35)
theorem f_X9_writeClock_71_s (N : Nat) (x5 : Int32) {fu : Nat} {x27 : Int32} {b28 : Mem} : f_X9_writeClock_71 N x5 (fu + 1) x27 b28 = (bP (f_X9_of N x5 (4 : Int32) b28) fun x30 => if x30 ≤ x27 then (some b28) else (bP (f_X9_write N (43 : Int32) b28) fun b35 => bT (x27 + (1 : Int32)) fun x37 => f_X9_writeClock_71 N x5 fu x37 b35)) := rfl
def f_X9_writeClock_71b (N : Nat) (x5 : Int32) : Nat → Int32 → Mem → Option Mem
  | 0, _, _ => none
  | fu + 1, x56, b57 => bP (f_X9_of N x5 (4 : Int32) b57) fun x59 => if x59 ≤ x56 then (some b57) else (bP (f_X9_write N (43 : Int32) b57) fun b64 => bT (x56 + (1 : Int32)) fun x66 => f_X9_writeClock_71b N x5 fu x66 b64)
theorem f_X9_writeClock_71b_s (N : Nat) (x5 : Int32) {fu : Nat} {x56 : Int32} {b57 : Mem} : f_X9_writeClock_71b N x5 (fu + 1) x56 b57 = (bP (f_X9_of N x5 (4 : Int32) b57) fun x59 => if x59 ≤ x56 then (some b57) else (bP (f_X9_write N (43 : Int32) b57) fun b64 => bT (x56 + (1 : Int32)) fun x66 => f_X9_writeClock_71b N x5 fu x66 b64)) := rfl
def f_X9_writeClock_12 (N : Nat)  : Nat → Int32 → Mem → Option (Int32 × Mem)
  | 0, _, _ => none
  | fu + 1, x5, b6 => if (2 : Int32) ≤ x5 then (some ((b6 0 29), b6)) else (bP (f_X9_space N b6) fun b9 => bP (f_X9_secondsOf N x5 b9) fun x12 => bP (f_X9_writeInt N (x12 / (3600 : Int32)) b9) fun b15 => bP (f_X9_writeTwo N ((x12 / (60 : Int32)) - (x12 / (60 : Int32)) / (60 : Int32) * (60 : Int32)) b15) fun b18 => bP (f_X9_writeTwo N (x12 - x12 / (60 : Int32) * (60 : Int32)) b18) fun b21 => bP (f_X9_fell N x5 b21) fun x24 => if x24 = 0 then (bP (f_X9_writeClock_71 N x5 N (0 : Int32) b21) fun b40 => bP (f_X9_mover N b40) fun x43 => if x43 = x5 then (bP (f_X9_write N (42 : Int32) b40) fun b49 => bT (x5 + (1 : Int32)) fun x51 => f_X9_writeClock_12 N fu x51 b49) else (bT (x5 + (1 : Int32)) fun x46 => f_X9_writeClock_12 N fu x46 b40)) else (bP (f_X9_write N (33 : Int32) b21) fun b54 => bP (f_X9_writeClock_71b N x5 N (0 : Int32) b54) fun b69 => bP (f_X9_mover N b69) fun x72 => if x72 = x5 then (bP (f_X9_write N (42 : Int32) b69) fun b78 => bT (x5 + (1 : Int32)) fun x80 => f_X9_writeClock_12 N fu x80 b78) else (bT (x5 + (1 : Int32)) fun x75 => f_X9_writeClock_12 N fu x75 b69)))
theorem f_X9_writeClock_12_s (N : Nat)  {fu : Nat} {x5 : Int32} {b6 : Mem} : f_X9_writeClock_12 N (fu + 1) x5 b6 = (if (2 : Int32) ≤ x5 then (some ((b6 0 29), b6)) else (bP (f_X9_space N b6) fun b9 => bP (f_X9_secondsOf N x5 b9) fun x12 => bP (f_X9_writeInt N (x12 / (3600 : Int32)) b9) fun b15 => bP (f_X9_writeTwo N ((x12 / (60 : Int32)) - (x12 / (60 : Int32)) / (60 : Int32) * (60 : Int32)) b15) fun b18 => bP (f_X9_writeTwo N (x12 - x12 / (60 : Int32) * (60 : Int32)) b18) fun b21 => bP (f_X9_fell N x5 b21) fun x24 => if x24 = 0 then (bP (f_X9_writeClock_71 N x5 N (0 : Int32) b21) fun b40 => bP (f_X9_mover N b40) fun x43 => if x43 = x5 then (bP (f_X9_write N (42 : Int32) b40) fun b49 => bT (x5 + (1 : Int32)) fun x51 => f_X9_writeClock_12 N fu x51 b49) else (bT (x5 + (1 : Int32)) fun x46 => f_X9_writeClock_12 N fu x46 b40)) else (bP (f_X9_write N (33 : Int32) b21) fun b54 => bP (f_X9_writeClock_71b N x5 N (0 : Int32) b54) fun b69 => bP (f_X9_mover N b69) fun x72 => if x72 = x5 then (bP (f_X9_write N (42 : Int32) b69) fun b78 => bT (x5 + (1 : Int32)) fun x80 => f_X9_writeClock_12 N fu x80 b78) else (bT (x5 + (1 : Int32)) fun x75 => f_X9_writeClock_12 N fu x75 b69)))) := rfl
def f_X9_writeClock (N : Nat) (b : Mem) : Option (Int32 × Mem) := bT (up2 b 0 0 (0 : Int32)) fun b1 => bT (up2 b1 0 29 (0 : Int32)) fun b3 => f_X9_writeClock_12 N N (0 : Int32) b3
set_option maxRecDepth 100000 in
set_option maxHeartbeats 4000000 in
theorem m_X9_writeClock {l : Launch} (hl : l.stackTraces = false) {G : GG} {L : List Nat} (hL : LOK L) {a b c : Mem} {N : Nat}  {v : Int32} {a' : Mem} (hR : f_X9_writeClock N b = some (v, a')) : Ct l G yX9_writeClock (.code yX9_writeClock cX9_writeClock 4 (some .int)) 2 48 0 0 [.ref (ad L 96)] L (FW G L a b c) px0 (stay L (fun r f1 => f1 = (FW G L a a' c) ∧ r = some (.int v))) := by
  refine Ct.ofq (own := RX9) hl rfl (by decide) [some (.ref (ad L 96)), none, none, none] rfl (Nat.le_of_ble_eq_true rfl) ?_
  intro p e s m below meth c9 A ar Q hQ X
  unfold f_X9_writeClock at hR
  refine j_aload_n X (i := 0) dX9_writeClock_0 rfl rfl ?_
  refine j_iconst X (0) dX9_writeClock_1 (by decide) ?_
  obtain ⟨b1, h2, hR⟩ := bT_inv hR
  refine tp_X9_0 X hL h2 fl_X9_3 dX9_writeClock_2 ?_
  refine j_aload_n X (i := 0) dX9_writeClock_5 rfl rfl ?_
  refine j_iconst X (0) dX9_writeClock_6 (by decide) ?_
  obtain ⟨b3, h4, hR⟩ := bT_inv hR
  refine tp_X9_29 X hL h4 fl_X9_393 dX9_writeClock_7 ?_
  refine j_iconst X (0) dX9_writeClock_10 (by decide) ?_
  refine j_istore_n X (i := 1) dX9_writeClock_11 rfl (by decide) (lvOK_s rfl okPrev_ref) ?_
  dsimp only [List.set]
  have hb12 : ∀ (fu : Nat) (x5 : Int32) (b6 : Mem) , f_X9_writeClock_12 N fu x5 b6 = some (v, a') → J G p l e ({ frames := 2, cells := 0, slots := 0, locals := 48 } : Room) s m ar below meth c9 A Q 4 0 0 12 [some (.ref (ad L 96)), some (.int x5), none, none] [] L (FW G L a b6 c) := by
    intro fu
    induction fu with
    | zero =>
      intro x5 b6 hR
      cases hR
    | succ fu ih =>
      intro x5 b6 hR
      replace hR := (f_X9_writeClock_12_s N ).symm.trans hR
      refine j_iload_n X (i := 1) dX9_writeClock_12 rfl rfl ?_
      refine j_iconst X (2) dX9_writeClock_13 (by decide) ?_
      refine j_icmp_ge X (tgt := 113) dX9_writeClock_14 (by decide) (fun h7 => ?_) (fun h7 => ?_)
      · replace hR := (if_pos h7).symm.trans hR
        refine j_aload_n X (i := 0) dX9_writeClock_113 rfl rfl ?_
        refine j_getf X 9 29 rfl cw_X9 fl_X9_393 (by decide) dX9_writeClock_114 (ad_mem hL (by decide)) (FW9 hL) rfl ?_
        exact q_iret X hQ dX9_writeClock_117 rfl ⟨(by decide), (by decide)⟩ ⟨rfl, congrArg (fun z => FW G L a z c) (Prod.mk.inj (Option.some.inj hR)).2, congrArg (fun z => some (Value.int z)) (Prod.mk.inj (Option.some.inj hR)).1⟩
      · replace hR := (if_neg h7).symm.trans hR
        refine j_aload_n X (i := 0) dX9_writeClock_17 rfl rfl ?_
        obtain ⟨b9, h8, hR⟩ := bP_inv hR
        refine j_callV0 X 9 (m_X9_space hl hL h8) ml_X9_402 im_yX9_space se_yX9_space in_X9 cd_yX9_space hy_yX9_space dX9_writeClock_18 rfl (ad_mem hL (by decide)) (FW9 hL) ⟨(by decide), (by decide)⟩ ⟨(by decide), (by decide)⟩ (Nat.le_of_ble_eq_true rfl) (fun _ h => h.elim) (fun r9 L9 f9 h9 => ?_)
        obtain ⟨h91, h92, h93⟩ := h9
        subst r9
        subst f9
        subst L9
        dsimp only [Option.toList, List.cons_append, List.nil_append, List.append]
        refine j_aload_n X (i := 0) dX9_writeClock_21 rfl rfl ?_
        refine j_iload_n X (i := 1) dX9_writeClock_22 rfl rfl ?_
        obtain ⟨x12, h11, hR⟩ := bP_inv hR
        refine j_callV1 X 9 (m_X9_secondsOf hl hL h11) ml_X9_335 im_yX9_secondsOf se_yX9_secondsOf in_X9 cd_yX9_secondsOf hy_yX9_secondsOf dX9_writeClock_23 rfl (ad_mem hL (by decide)) (FW9 hL) ⟨(by decide), (by decide)⟩ ⟨(by decide), (by decide)⟩ (Nat.le_of_ble_eq_true rfl) (fun _ h => h.elim) (fun r9 L9 f9 h9 => ?_)
        obtain ⟨h91, h92, h93⟩ := h9
        subst r9
        subst f9
        subst L9
        dsimp only [Option.toList, List.cons_append, List.nil_append, List.append]
        refine j_istore_n X (i := 2) dX9_writeClock_26 rfl (by decide) (lvOK_s rfl okPrev_int) ?_
        dsimp only [List.set]
        refine j_aload_n X (i := 0) dX9_writeClock_27 rfl rfl ?_
        refine j_iload_n X (i := 2) dX9_writeClock_28 rfl rfl ?_
        refine j_sipush X (3600) dX9_writeClock_29 (by decide) ?_
        refine j_idiv X dX9_writeClock_32 (by decide) ?_
        obtain ⟨b15, h14, hR⟩ := bP_inv hR
        refine j_callV1 X 9 (m_X9_writeInt hl hL h14) ml_X9_405 im_yX9_writeInt se_yX9_writeInt in_X9 cd_yX9_writeInt hy_yX9_writeInt dX9_writeClock_33 rfl (ad_mem hL (by decide)) (FW9 hL) ⟨(by decide), (by decide)⟩ ⟨(by decide), (by decide)⟩ (Nat.le_of_ble_eq_true rfl) (fun _ h => h.elim) (fun r9 L9 f9 h9 => ?_)
        obtain ⟨h91, h92, h93⟩ := h9
        subst r9
        subst f9
        subst L9
        dsimp only [Option.toList, List.cons_append, List.nil_append, List.append]
        refine j_aload_n X (i := 0) dX9_writeClock_36 rfl rfl ?_
        refine j_iload_n X (i := 2) dX9_writeClock_37 rfl rfl ?_
        refine j_bipush X (60) dX9_writeClock_38 (by decide) ?_
        refine j_idiv X dX9_writeClock_40 (by decide) ?_
        refine j_bipush X (60) dX9_writeClock_41 (by decide) ?_
        refine j_irem X dX9_writeClock_43 (by decide) ?_
        obtain ⟨b18, h17, hR⟩ := bP_inv hR
        refine j_callV1 X 9 (m_X9_writeTwo hl hL h17) ml_X9_408 im_yX9_writeTwo se_yX9_writeTwo in_X9 cd_yX9_writeTwo hy_yX9_writeTwo dX9_writeClock_44 rfl (ad_mem hL (by decide)) (FW9 hL) ⟨(by decide), (by decide)⟩ ⟨(by decide), (by decide)⟩ (Nat.le_of_ble_eq_true rfl) (fun _ h => h.elim) (fun r9 L9 f9 h9 => ?_)
        obtain ⟨h91, h92, h93⟩ := h9
        subst r9
        subst f9
        subst L9
        dsimp only [Option.toList, List.cons_append, List.nil_append, List.append]
        refine j_aload_n X (i := 0) dX9_writeClock_47 rfl rfl ?_
        refine j_iload_n X (i := 2) dX9_writeClock_48 rfl rfl ?_
        refine j_bipush X (60) dX9_writeClock_49 (by decide) ?_
        refine j_irem X dX9_writeClock_51 (by decide) ?_
        obtain ⟨b21, h20, hR⟩ := bP_inv hR
        refine j_callV1 X 9 (m_X9_writeTwo hl hL h20) ml_X9_408 im_yX9_writeTwo se_yX9_writeTwo in_X9 cd_yX9_writeTwo hy_yX9_writeTwo dX9_writeClock_52 rfl (ad_mem hL (by decide)) (FW9 hL) ⟨(by decide), (by decide)⟩ ⟨(by decide), (by decide)⟩ (Nat.le_of_ble_eq_true rfl) (fun _ h => h.elim) (fun r9 L9 f9 h9 => ?_)
        obtain ⟨h91, h92, h93⟩ := h9
        subst r9
        subst f9
        subst L9
        dsimp only [Option.toList, List.cons_append, List.nil_append, List.append]
        refine j_aload_n X (i := 0) dX9_writeClock_55 rfl rfl ?_
        refine j_iload_n X (i := 1) dX9_writeClock_56 rfl rfl ?_
        obtain ⟨x24, h23, hR⟩ := bP_inv hR
        refine j_callV1 X 9 (m_X9_fell hl hL h23) ml_X9_96 im_yX9_fell se_yX9_fell in_X9 cd_yX9_fell hy_yX9_fell dX9_writeClock_57 rfl (ad_mem hL (by decide)) (FW9 hL) ⟨(by decide), (by decide)⟩ ⟨(by decide), (by decide)⟩ (Nat.le_of_ble_eq_true rfl) (fun _ h => h.elim) (fun r9 L9 f9 h9 => ?_)
        obtain ⟨h91, h92, h93, h25⟩ := h9
        subst r9
        subst f9
        subst L9
        dsimp only [Option.toList, List.cons_append, List.nil_append, List.append]
        refine j_if_eq X (tgt := 69) dX9_writeClock_60 (by decide) (fun h26 => ?_) (fun h26 => ?_)
        · replace hR := (if_pos h26).symm.trans hR
          refine j_iconst X (0) dX9_writeClock_69 (by decide) ?_
          refine j_istore_n X (i := 3) dX9_writeClock_70 rfl (by decide) (lvOK_s rfl okPrev_int) ?_
          dsimp only [List.set]
          have hb71 : ∀ (fu : Nat) (x27 : Int32) (b28 : Mem) (b39 : Mem), f_X9_writeClock_71 N x5 fu x27 b28 = some b39 → J G p l e ({ frames := 2, cells := 0, slots := 0, locals := 48 } : Room) s m ar below meth c9 A Q 4 0 0 93 [some (.ref (ad L 96)), some (.int x5), none, none] [] L (FW G L a b39 c) → J G p l e ({ frames := 2, cells := 0, slots := 0, locals := 48 } : Room) s m ar below meth c9 A Q 4 0 0 71 [some (.ref (ad L 96)), some (.int x5), none, some (.int x27)] [] L (FW G L a b28 c) := by
            intro fu
            induction fu with
            | zero =>
              intro x27 b28 b39 hR
              cases hR
            | succ fu ih =>
              intro x27 b28 b39 hR hK
              replace hR := (f_X9_writeClock_71_s N x5).symm.trans hR
              refine j_iload_n X (i := 3) dX9_writeClock_71 rfl rfl ?_
              refine j_aload_n X (i := 0) dX9_writeClock_72 rfl rfl ?_
              refine j_iload_n X (i := 1) dX9_writeClock_73 rfl rfl ?_
              refine j_iconst X (4) dX9_writeClock_74 (by decide) ?_
              obtain ⟨x30, h29, hR⟩ := bP_inv hR
              refine j_callV2 X 9 (m_X9_of hl hL h29) ml_X9_57 im_yX9_of se_yX9_of in_X9 cd_yX9_of hy_yX9_of dX9_writeClock_75 rfl (ad_mem hL (by decide)) (FW9 hL) ⟨(by decide), (by decide)⟩ ⟨(by decide), (by decide)⟩ (Nat.le_of_ble_eq_true rfl) (fun _ h => h.elim) (fun r9 L9 f9 h9 => ?_)
              obtain ⟨h91, h92, h93⟩ := h9
              subst r9
              subst f9
              subst L9
              dsimp only [Option.toList, List.cons_append, List.nil_append, List.append]
              refine j_icmp_ge X (tgt := 93) dX9_writeClock_78 (by decide) (fun h32 => ?_) (fun h32 => ?_)
              · replace hR := (if_pos h32).symm.trans hR
                have h33 := Option.some.inj hR
                subst h33
                exact J.sub (lvle_of (by simp only [lvle, and_self])) hK
              · replace hR := (if_neg h32).symm.trans hR
                refine j_aload_n X (i := 0) dX9_writeClock_81 rfl rfl ?_
                refine j_bipush X (43) dX9_writeClock_82 (by decide) ?_
                obtain ⟨b35, h34, hR⟩ := bP_inv hR
                refine j_callV1 X 9 (m_X9_write hl hL h34) ml_X9_396 im_yX9_write se_yX9_write in_X9 cd_yX9_write hy_yX9_write dX9_writeClock_84 rfl (ad_mem hL (by decide)) (FW9 hL) ⟨(by decide), (by decide)⟩ ⟨(by decide), (by decide)⟩ (Nat.le_of_ble_eq_true rfl) (fun _ h => h.elim) (fun r9 L9 f9 h9 => ?_)
                obtain ⟨h91, h92, h93⟩ := h9
                subst r9
                subst f9
                subst L9
                dsimp only [Option.toList, List.cons_append, List.nil_append, List.append]
                obtain ⟨x37, h38, hR⟩ := bT_inv hR
                refine j_iinc X x37 dX9_writeClock_87 rfl h38 (by decide) (lvOK_s rfl okPrev_none) ?_
                dsimp only [List.set]
                refine j_goto X (tgt := 71) dX9_writeClock_90 (by decide) ?_
                exact J.sub (lvle_of (by simp only [lvle, and_self])) (ih _ _ _ hR hK)
          obtain ⟨b40, h41, hR⟩ := bP_inv hR
          refine J.sub (lvle_of (by simp only [lvle, and_self])) (hb71 _ _ _ _ h41 ?_)
          refine j_aload_n X (i := 0) dX9_writeClock_93 rfl rfl ?_
          obtain ⟨x43, h42, hR⟩ := bP_inv hR
          refine j_callV0 X 9 (m_X9_mover hl hL h42) ml_X9_80 im_yX9_mover se_yX9_mover in_X9 cd_yX9_mover hy_yX9_mover dX9_writeClock_94 rfl (ad_mem hL (by decide)) (FW9 hL) ⟨(by decide), (by decide)⟩ ⟨(by decide), (by decide)⟩ (Nat.le_of_ble_eq_true rfl) (fun _ h => h.elim) (fun r9 L9 f9 h9 => ?_)
          obtain ⟨h91, h92, h93⟩ := h9
          subst r9
          subst f9
          subst L9
          dsimp only [Option.toList, List.cons_append, List.nil_append, List.append]
          refine j_iload_n X (i := 1) dX9_writeClock_97 rfl rfl ?_
          refine j_icmp_ne X (tgt := 107) dX9_writeClock_98 (by decide) (fun h45 => ?_) (fun h45 => ?_)
          · replace hR := (if_neg h45).symm.trans hR
            obtain ⟨x46, h47, hR⟩ := bT_inv hR
            refine j_iinc X x46 dX9_writeClock_107 rfl h47 (by decide) (lvOK_s rfl okPrev_ref) ?_
            dsimp only [List.set]
            refine j_goto X (tgt := 12) dX9_writeClock_110 (by decide) ?_
            exact J.sub (lvle_of (by simp only [lvle, and_self])) (ih _ _  hR)
          · replace hR := (if_pos h45).symm.trans hR
            refine j_aload_n X (i := 0) dX9_writeClock_101 rfl rfl ?_
            refine j_bipush X (42) dX9_writeClock_102 (by decide) ?_
            obtain ⟨b49, h48, hR⟩ := bP_inv hR
            refine j_callV1 X 9 (m_X9_write hl hL h48) ml_X9_396 im_yX9_write se_yX9_write in_X9 cd_yX9_write hy_yX9_write dX9_writeClock_104 rfl (ad_mem hL (by decide)) (FW9 hL) ⟨(by decide), (by decide)⟩ ⟨(by decide), (by decide)⟩ (Nat.le_of_ble_eq_true rfl) (fun _ h => h.elim) (fun r9 L9 f9 h9 => ?_)
            obtain ⟨h91, h92, h93⟩ := h9
            subst r9
            subst f9
            subst L9
            dsimp only [Option.toList, List.cons_append, List.nil_append, List.append]
            obtain ⟨x51, h52, hR⟩ := bT_inv hR
            refine j_iinc X x51 dX9_writeClock_107 rfl h52 (by decide) (lvOK_s rfl okPrev_ref) ?_
            dsimp only [List.set]
            refine j_goto X (tgt := 12) dX9_writeClock_110 (by decide) ?_
            exact J.sub (lvle_of (by simp only [lvle, and_self])) (ih _ _  hR)
        · replace hR := (if_neg h26).symm.trans hR
          refine j_aload_n X (i := 0) dX9_writeClock_63 rfl rfl ?_
          refine j_bipush X (33) dX9_writeClock_64 (by decide) ?_
          obtain ⟨b54, h53, hR⟩ := bP_inv hR
          refine j_callV1 X 9 (m_X9_write hl hL h53) ml_X9_396 im_yX9_write se_yX9_write in_X9 cd_yX9_write hy_yX9_write dX9_writeClock_66 rfl (ad_mem hL (by decide)) (FW9 hL) ⟨(by decide), (by decide)⟩ ⟨(by decide), (by decide)⟩ (Nat.le_of_ble_eq_true rfl) (fun _ h => h.elim) (fun r9 L9 f9 h9 => ?_)
          obtain ⟨h91, h92, h93⟩ := h9
          subst r9
          subst f9
          subst L9
          dsimp only [Option.toList, List.cons_append, List.nil_append, List.append]
          refine j_iconst X (0) dX9_writeClock_69 (by decide) ?_
          refine j_istore_n X (i := 3) dX9_writeClock_70 rfl (by decide) (lvOK_s rfl okPrev_int) ?_
          dsimp only [List.set]
          have hb71 : ∀ (fu : Nat) (x56 : Int32) (b57 : Mem) (b68 : Mem), f_X9_writeClock_71b N x5 fu x56 b57 = some b68 → J G p l e ({ frames := 2, cells := 0, slots := 0, locals := 48 } : Room) s m ar below meth c9 A Q 4 0 0 93 [some (.ref (ad L 96)), some (.int x5), none, none] [] L (FW G L a b68 c) → J G p l e ({ frames := 2, cells := 0, slots := 0, locals := 48 } : Room) s m ar below meth c9 A Q 4 0 0 71 [some (.ref (ad L 96)), some (.int x5), none, some (.int x56)] [] L (FW G L a b57 c) := by
            intro fu
            induction fu with
            | zero =>
              intro x56 b57 b68 hR
              cases hR
            | succ fu ih =>
              intro x56 b57 b68 hR hK
              replace hR := (f_X9_writeClock_71b_s N x5).symm.trans hR
              refine j_iload_n X (i := 3) dX9_writeClock_71 rfl rfl ?_
              refine j_aload_n X (i := 0) dX9_writeClock_72 rfl rfl ?_
              refine j_iload_n X (i := 1) dX9_writeClock_73 rfl rfl ?_
              refine j_iconst X (4) dX9_writeClock_74 (by decide) ?_
              obtain ⟨x59, h58, hR⟩ := bP_inv hR
              refine j_callV2 X 9 (m_X9_of hl hL h58) ml_X9_57 im_yX9_of se_yX9_of in_X9 cd_yX9_of hy_yX9_of dX9_writeClock_75 rfl (ad_mem hL (by decide)) (FW9 hL) ⟨(by decide), (by decide)⟩ ⟨(by decide), (by decide)⟩ (Nat.le_of_ble_eq_true rfl) (fun _ h => h.elim) (fun r9 L9 f9 h9 => ?_)
              obtain ⟨h91, h92, h93⟩ := h9
              subst r9
              subst f9
              subst L9
              dsimp only [Option.toList, List.cons_append, List.nil_append, List.append]
              refine j_icmp_ge X (tgt := 93) dX9_writeClock_78 (by decide) (fun h61 => ?_) (fun h61 => ?_)
              · replace hR := (if_pos h61).symm.trans hR
                have h62 := Option.some.inj hR
                subst h62
                exact J.sub (lvle_of (by simp only [lvle, and_self])) hK
              · replace hR := (if_neg h61).symm.trans hR
                refine j_aload_n X (i := 0) dX9_writeClock_81 rfl rfl ?_
                refine j_bipush X (43) dX9_writeClock_82 (by decide) ?_
                obtain ⟨b64, h63, hR⟩ := bP_inv hR
                refine j_callV1 X 9 (m_X9_write hl hL h63) ml_X9_396 im_yX9_write se_yX9_write in_X9 cd_yX9_write hy_yX9_write dX9_writeClock_84 rfl (ad_mem hL (by decide)) (FW9 hL) ⟨(by decide), (by decide)⟩ ⟨(by decide), (by decide)⟩ (Nat.le_of_ble_eq_true rfl) (fun _ h => h.elim) (fun r9 L9 f9 h9 => ?_)
                obtain ⟨h91, h92, h93⟩ := h9
                subst r9
                subst f9
                subst L9
                dsimp only [Option.toList, List.cons_append, List.nil_append, List.append]
                obtain ⟨x66, h67, hR⟩ := bT_inv hR
                refine j_iinc X x66 dX9_writeClock_87 rfl h67 (by decide) (lvOK_s rfl okPrev_none) ?_
                dsimp only [List.set]
                refine j_goto X (tgt := 71) dX9_writeClock_90 (by decide) ?_
                exact J.sub (lvle_of (by simp only [lvle, and_self])) (ih _ _ _ hR hK)
          obtain ⟨b69, h70, hR⟩ := bP_inv hR
          refine J.sub (lvle_of (by simp only [lvle, and_self])) (hb71 _ _ _ _ h70 ?_)
          refine j_aload_n X (i := 0) dX9_writeClock_93 rfl rfl ?_
          obtain ⟨x72, h71, hR⟩ := bP_inv hR
          refine j_callV0 X 9 (m_X9_mover hl hL h71) ml_X9_80 im_yX9_mover se_yX9_mover in_X9 cd_yX9_mover hy_yX9_mover dX9_writeClock_94 rfl (ad_mem hL (by decide)) (FW9 hL) ⟨(by decide), (by decide)⟩ ⟨(by decide), (by decide)⟩ (Nat.le_of_ble_eq_true rfl) (fun _ h => h.elim) (fun r9 L9 f9 h9 => ?_)
          obtain ⟨h91, h92, h93⟩ := h9
          subst r9
          subst f9
          subst L9
          dsimp only [Option.toList, List.cons_append, List.nil_append, List.append]
          refine j_iload_n X (i := 1) dX9_writeClock_97 rfl rfl ?_
          refine j_icmp_ne X (tgt := 107) dX9_writeClock_98 (by decide) (fun h74 => ?_) (fun h74 => ?_)
          · replace hR := (if_neg h74).symm.trans hR
            obtain ⟨x75, h76, hR⟩ := bT_inv hR
            refine j_iinc X x75 dX9_writeClock_107 rfl h76 (by decide) (lvOK_s rfl okPrev_ref) ?_
            dsimp only [List.set]
            refine j_goto X (tgt := 12) dX9_writeClock_110 (by decide) ?_
            exact J.sub (lvle_of (by simp only [lvle, and_self])) (ih _ _  hR)
          · replace hR := (if_pos h74).symm.trans hR
            refine j_aload_n X (i := 0) dX9_writeClock_101 rfl rfl ?_
            refine j_bipush X (42) dX9_writeClock_102 (by decide) ?_
            obtain ⟨b78, h77, hR⟩ := bP_inv hR
            refine j_callV1 X 9 (m_X9_write hl hL h77) ml_X9_396 im_yX9_write se_yX9_write in_X9 cd_yX9_write hy_yX9_write dX9_writeClock_104 rfl (ad_mem hL (by decide)) (FW9 hL) ⟨(by decide), (by decide)⟩ ⟨(by decide), (by decide)⟩ (Nat.le_of_ble_eq_true rfl) (fun _ h => h.elim) (fun r9 L9 f9 h9 => ?_)
            obtain ⟨h91, h92, h93⟩ := h9
            subst r9
            subst f9
            subst L9
            dsimp only [Option.toList, List.cons_append, List.nil_append, List.append]
            obtain ⟨x80, h81, hR⟩ := bT_inv hR
            refine j_iinc X x80 dX9_writeClock_107 rfl h81 (by decide) (lvOK_s rfl okPrev_ref) ?_
            dsimp only [List.set]
            refine j_goto X (tgt := 12) dX9_writeClock_110 (by decide) ?_
            exact J.sub (lvle_of (by simp only [lvle, and_self])) (ih _ _  hR)
  exact J.sub (lvle_of (by simp only [lvle, and_self])) (hb12 _ _ _  hR)
def f_X9_writeLog_22 (N : Nat)  : Nat → Int32 → Mem → Option (Int32 × Mem)
  | 0, _, _ => none
  | fu + 1, x10, b11 => if x10 < 0 then (some ((b11 0 29), b11)) else (bP (f_X9_space N b11) fun b14 => bP (f_X9_ofLog N x10 (0 : Int32) b14) fun x17 => if x17 = 0 then (bP (f_X9_write N (119 : Int32) b14) fun b47 => bP (f_X9_ofLog N x10 (1 : Int32) b47) fun x50 => bP (f_X9_writeInt N x50 b47) fun b53 => bP (f_X9_ofLog N x10 (3 : Int32) b53) fun x56 => if x56 = 0 then (bT (x10 + (-1 : Int32)) fun x59 => f_X9_writeLog_22 N fu x59 b53) else (bP (f_X9_write N (43 : Int32) b53) fun b62 => bP (f_X9_ofLog N x10 (3 : Int32) b62) fun x65 => bP (f_X9_writeInt N x65 b62) fun b68 => bT (x10 + (-1 : Int32)) fun x70 => f_X9_writeLog_22 N fu x70 b68)) else (bP (f_X9_write N (98 : Int32) b14) fun b21 => bP (f_X9_ofLog N x10 (1 : Int32) b21) fun x24 => bP (f_X9_writeInt N x24 b21) fun b27 => bP (f_X9_ofLog N x10 (3 : Int32) b27) fun x30 => if x30 = 0 then (bT (x10 + (-1 : Int32)) fun x33 => f_X9_writeLog_22 N fu x33 b27) else (bP (f_X9_write N (43 : Int32) b27) fun b36 => bP (f_X9_ofLog N x10 (3 : Int32) b36) fun x39 => bP (f_X9_writeInt N x39 b36) fun b42 => bT (x10 + (-1 : Int32)) fun x44 => f_X9_writeLog_22 N fu x44 b42)))
theorem f_X9_writeLog_22_s (N : Nat)  {fu : Nat} {x10 : Int32} {b11 : Mem} : f_X9_writeLog_22 N (fu + 1) x10 b11 = (if x10 < 0 then (some ((b11 0 29), b11)) else (bP (f_X9_space N b11) fun b14 => bP (f_X9_ofLog N x10 (0 : Int32) b14) fun x17 => if x17 = 0 then (bP (f_X9_write N (119 : Int32) b14) fun b47 => bP (f_X9_ofLog N x10 (1 : Int32) b47) fun x50 => bP (f_X9_writeInt N x50 b47) fun b53 => bP (f_X9_ofLog N x10 (3 : Int32) b53) fun x56 => if x56 = 0 then (bT (x10 + (-1 : Int32)) fun x59 => f_X9_writeLog_22 N fu x59 b53) else (bP (f_X9_write N (43 : Int32) b53) fun b62 => bP (f_X9_ofLog N x10 (3 : Int32) b62) fun x65 => bP (f_X9_writeInt N x65 b62) fun b68 => bT (x10 + (-1 : Int32)) fun x70 => f_X9_writeLog_22 N fu x70 b68)) else (bP (f_X9_write N (98 : Int32) b14) fun b21 => bP (f_X9_ofLog N x10 (1 : Int32) b21) fun x24 => bP (f_X9_writeInt N x24 b21) fun b27 => bP (f_X9_ofLog N x10 (3 : Int32) b27) fun x30 => if x30 = 0 then (bT (x10 + (-1 : Int32)) fun x33 => f_X9_writeLog_22 N fu x33 b27) else (bP (f_X9_write N (43 : Int32) b27) fun b36 => bP (f_X9_ofLog N x10 (3 : Int32) b36) fun x39 => bP (f_X9_writeInt N x39 b36) fun b42 => bT (x10 + (-1 : Int32)) fun x44 => f_X9_writeLog_22 N fu x44 b42)))) := rfl
def f_X9_writeLog (N : Nat) (b : Mem) : Option (Int32 × Mem) := bT (up2 b 0 0 (0 : Int32)) fun b1 => bT (up2 b1 0 29 (0 : Int32)) fun b3 => bP (f_X9_logMany N b3) fun x6 => bT ((mnI (12 : Int32) x6) - (1 : Int32)) fun x8 => f_X9_writeLog_22 N N x8 b3
set_option maxRecDepth 100000 in
set_option maxHeartbeats 4000000 in
theorem m_X9_writeLog {l : Launch} (hl : l.stackTraces = false) {G : GG} {L : List Nat} (hL : LOK L) {a b c : Mem} {N : Nat}  {v : Int32} {a' : Mem} (hR : f_X9_writeLog N b = some (v, a')) : Ct l G yX9_writeLog (.code yX9_writeLog cX9_writeLog 2 (some .int)) 2 48 0 0 [.ref (ad L 96)] L (FW G L a b c) px0 (stay L (fun r f1 => f1 = (FW G L a a' c) ∧ r = some (.int v))) := by
  refine Ct.ofq (own := RX9) hl rfl (by decide) [some (.ref (ad L 96)), none] rfl (Nat.le_of_ble_eq_true rfl) ?_
  intro p e s m below meth c9 A ar Q hQ X
  unfold f_X9_writeLog at hR
  refine j_aload_n X (i := 0) dX9_writeLog_0 rfl rfl ?_
  refine j_iconst X (0) dX9_writeLog_1 (by decide) ?_
  obtain ⟨b1, h2, hR⟩ := bT_inv hR
  refine tp_X9_0 X hL h2 fl_X9_3 dX9_writeLog_2 ?_
  refine j_aload_n X (i := 0) dX9_writeLog_5 rfl rfl ?_
  refine j_iconst X (0) dX9_writeLog_6 (by decide) ?_
  obtain ⟨b3, h4, hR⟩ := bT_inv hR
  refine tp_X9_29 X hL h4 fl_X9_393 dX9_writeLog_7 ?_
  refine j_bipush X (12) dX9_writeLog_10 (by decide) ?_
  refine j_aload_n X (i := 0) dX9_writeLog_12 rfl rfl ?_
  obtain ⟨x6, h5, hR⟩ := bP_inv hR
  refine j_callV0 X 9 (m_X9_logMany hl hL h5) ml_X9_324 im_yX9_logMany se_yX9_logMany in_X9 cd_yX9_logMany hy_yX9_logMany dX9_writeLog_13 rfl (ad_mem hL (by decide)) (FW9 hL) ⟨(by decide), (by decide)⟩ ⟨(by decide), (by decide)⟩ (Nat.le_of_ble_eq_true rfl) (fun _ h => h.elim) (fun r9 L9 f9 h9 => ?_)
  obtain ⟨h91, h92, h93⟩ := h9
  subst r9
  subst f9
  subst L9
  dsimp only [Option.toList, List.cons_append, List.nil_append, List.append]
  refine j_mmin X ml_X9_99 dX9_writeLog_16 ⟨(by decide), (Nat.le_of_ble_eq_true rfl)⟩ ⟨(by decide), (by decide)⟩ ?_
  refine j_iconst X (1) dX9_writeLog_19 (by decide) ?_
  refine j_isub X dX9_writeLog_20 ?_
  obtain ⟨x8, h9, hR⟩ := bT_inv hR
  refine J.eqi h9 ?_
  refine j_istore_n X (i := 1) dX9_writeLog_21 rfl (by decide) (lvOK_s rfl okPrev_ref) ?_
  dsimp only [List.set]
  have hb22 : ∀ (fu : Nat) (x10 : Int32) (b11 : Mem) , f_X9_writeLog_22 N fu x10 b11 = some (v, a') → J G p l e ({ frames := 2, cells := 0, slots := 0, locals := 48 } : Room) s m ar below meth c9 A Q 2 0 0 22 [some (.ref (ad L 96)), some (.int x10)] [] L (FW G L a b11 c) := by
    intro fu
    induction fu with
    | zero =>
      intro x10 b11 hR
      cases hR
    | succ fu ih =>
      intro x10 b11 hR
      replace hR := (f_X9_writeLog_22_s N ).symm.trans hR
      refine j_iload_n X (i := 1) dX9_writeLog_22 rfl rfl ?_
      refine j_if_lt X (tgt := 91) dX9_writeLog_23 (by decide) (fun h12 => ?_) (fun h12 => ?_)
      · replace hR := (if_pos h12).symm.trans hR
        refine j_aload_n X (i := 0) dX9_writeLog_91 rfl rfl ?_
        refine j_getf X 9 29 rfl cw_X9 fl_X9_393 (by decide) dX9_writeLog_92 (ad_mem hL (by decide)) (FW9 hL) rfl ?_
        exact q_iret X hQ dX9_writeLog_95 rfl ⟨(by decide), (by decide)⟩ ⟨rfl, congrArg (fun z => FW G L a z c) (Prod.mk.inj (Option.some.inj hR)).2, congrArg (fun z => some (Value.int z)) (Prod.mk.inj (Option.some.inj hR)).1⟩
      · replace hR := (if_neg h12).symm.trans hR
        refine j_aload_n X (i := 0) dX9_writeLog_26 rfl rfl ?_
        obtain ⟨b14, h13, hR⟩ := bP_inv hR
        refine j_callV0 X 9 (m_X9_space hl hL h13) ml_X9_402 im_yX9_space se_yX9_space in_X9 cd_yX9_space hy_yX9_space dX9_writeLog_27 rfl (ad_mem hL (by decide)) (FW9 hL) ⟨(by decide), (by decide)⟩ ⟨(by decide), (by decide)⟩ (Nat.le_of_ble_eq_true rfl) (fun _ h => h.elim) (fun r9 L9 f9 h9 => ?_)
        obtain ⟨h91, h92, h93⟩ := h9
        subst r9
        subst f9
        subst L9
        dsimp only [Option.toList, List.cons_append, List.nil_append, List.append]
        refine j_aload_n X (i := 0) dX9_writeLog_30 rfl rfl ?_
        refine j_aload_n X (i := 0) dX9_writeLog_31 rfl rfl ?_
        refine j_iload_n X (i := 1) dX9_writeLog_32 rfl rfl ?_
        refine j_iconst X (0) dX9_writeLog_33 (by decide) ?_
        obtain ⟨x17, h16, hR⟩ := bP_inv hR
        refine j_callV2 X 9 (m_X9_ofLog hl hL h16) ml_X9_329 im_yX9_ofLog se_yX9_ofLog in_X9 cd_yX9_ofLog hy_yX9_ofLog dX9_writeLog_34 rfl (ad_mem hL (by decide)) (FW9 hL) ⟨(by decide), (by decide)⟩ ⟨(by decide), (by decide)⟩ (Nat.le_of_ble_eq_true rfl) (fun _ h => h.elim) (fun r9 L9 f9 h9 => ?_)
        obtain ⟨h91, h92, h93⟩ := h9
        subst r9
        subst f9
        subst L9
        dsimp only [Option.toList, List.cons_append, List.nil_append, List.append]
        refine j_if_ne X (tgt := 45) dX9_writeLog_37 (by decide) (fun h19 => ?_) (fun h19 => ?_)
        · replace hR := (if_neg h19).symm.trans hR
          refine j_bipush X (98) dX9_writeLog_45 (by decide) ?_
          obtain ⟨b21, h20, hR⟩ := bP_inv hR
          refine j_callV1 X 9 (m_X9_write hl hL h20) ml_X9_396 im_yX9_write se_yX9_write in_X9 cd_yX9_write hy_yX9_write dX9_writeLog_47 rfl (ad_mem hL (by decide)) (FW9 hL) ⟨(by decide), (by decide)⟩ ⟨(by decide), (by decide)⟩ (Nat.le_of_ble_eq_true rfl) (fun _ h => h.elim) (fun r9 L9 f9 h9 => ?_)
          obtain ⟨h91, h92, h93⟩ := h9
          subst r9
          subst f9
          subst L9
          dsimp only [Option.toList, List.cons_append, List.nil_append, List.append]
          refine j_aload_n X (i := 0) dX9_writeLog_50 rfl rfl ?_
          refine j_aload_n X (i := 0) dX9_writeLog_51 rfl rfl ?_
          refine j_iload_n X (i := 1) dX9_writeLog_52 rfl rfl ?_
          refine j_iconst X (1) dX9_writeLog_53 (by decide) ?_
          obtain ⟨x24, h23, hR⟩ := bP_inv hR
          refine j_callV2 X 9 (m_X9_ofLog hl hL h23) ml_X9_329 im_yX9_ofLog se_yX9_ofLog in_X9 cd_yX9_ofLog hy_yX9_ofLog dX9_writeLog_54 rfl (ad_mem hL (by decide)) (FW9 hL) ⟨(by decide), (by decide)⟩ ⟨(by decide), (by decide)⟩ (Nat.le_of_ble_eq_true rfl) (fun _ h => h.elim) (fun r9 L9 f9 h9 => ?_)
          obtain ⟨h91, h92, h93⟩ := h9
          subst r9
          subst f9
          subst L9
          dsimp only [Option.toList, List.cons_append, List.nil_append, List.append]
          obtain ⟨b27, h26, hR⟩ := bP_inv hR
          refine j_callV1 X 9 (m_X9_writeInt hl hL h26) ml_X9_405 im_yX9_writeInt se_yX9_writeInt in_X9 cd_yX9_writeInt hy_yX9_writeInt dX9_writeLog_57 rfl (ad_mem hL (by decide)) (FW9 hL) ⟨(by decide), (by decide)⟩ ⟨(by decide), (by decide)⟩ (Nat.le_of_ble_eq_true rfl) (fun _ h => h.elim) (fun r9 L9 f9 h9 => ?_)
          obtain ⟨h91, h92, h93⟩ := h9
          subst r9
          subst f9
          subst L9
          dsimp only [Option.toList, List.cons_append, List.nil_append, List.append]
          refine j_aload_n X (i := 0) dX9_writeLog_60 rfl rfl ?_
          refine j_iload_n X (i := 1) dX9_writeLog_61 rfl rfl ?_
          refine j_iconst X (3) dX9_writeLog_62 (by decide) ?_
          obtain ⟨x30, h29, hR⟩ := bP_inv hR
          refine j_callV2 X 9 (m_X9_ofLog hl hL h29) ml_X9_329 im_yX9_ofLog se_yX9_ofLog in_X9 cd_yX9_ofLog hy_yX9_ofLog dX9_writeLog_63 rfl (ad_mem hL (by decide)) (FW9 hL) ⟨(by decide), (by decide)⟩ ⟨(by decide), (by decide)⟩ (Nat.le_of_ble_eq_true rfl) (fun _ h => h.elim) (fun r9 L9 f9 h9 => ?_)
          obtain ⟨h91, h92, h93⟩ := h9
          subst r9
          subst f9
          subst L9
          dsimp only [Option.toList, List.cons_append, List.nil_append, List.append]
          refine j_if_eq X (tgt := 85) dX9_writeLog_66 (by decide) (fun h32 => ?_) (fun h32 => ?_)
          · replace hR := (if_pos h32).symm.trans hR
            obtain ⟨x33, h34, hR⟩ := bT_inv hR
            refine j_iinc X x33 dX9_writeLog_85 rfl h34 (by decide) (lvOK_s rfl okPrev_ref) ?_
            dsimp only [List.set]
            refine j_goto X (tgt := 22) dX9_writeLog_88 (by decide) ?_
            exact J.sub (lvle_of (by simp only [lvle, and_self])) (ih _ _  hR)
          · replace hR := (if_neg h32).symm.trans hR
            refine j_aload_n X (i := 0) dX9_writeLog_69 rfl rfl ?_
            refine j_bipush X (43) dX9_writeLog_70 (by decide) ?_
            obtain ⟨b36, h35, hR⟩ := bP_inv hR
            refine j_callV1 X 9 (m_X9_write hl hL h35) ml_X9_396 im_yX9_write se_yX9_write in_X9 cd_yX9_write hy_yX9_write dX9_writeLog_72 rfl (ad_mem hL (by decide)) (FW9 hL) ⟨(by decide), (by decide)⟩ ⟨(by decide), (by decide)⟩ (Nat.le_of_ble_eq_true rfl) (fun _ h => h.elim) (fun r9 L9 f9 h9 => ?_)
            obtain ⟨h91, h92, h93⟩ := h9
            subst r9
            subst f9
            subst L9
            dsimp only [Option.toList, List.cons_append, List.nil_append, List.append]
            refine j_aload_n X (i := 0) dX9_writeLog_75 rfl rfl ?_
            refine j_aload_n X (i := 0) dX9_writeLog_76 rfl rfl ?_
            refine j_iload_n X (i := 1) dX9_writeLog_77 rfl rfl ?_
            refine j_iconst X (3) dX9_writeLog_78 (by decide) ?_
            obtain ⟨x39, h38, hR⟩ := bP_inv hR
            refine j_callV2 X 9 (m_X9_ofLog hl hL h38) ml_X9_329 im_yX9_ofLog se_yX9_ofLog in_X9 cd_yX9_ofLog hy_yX9_ofLog dX9_writeLog_79 rfl (ad_mem hL (by decide)) (FW9 hL) ⟨(by decide), (by decide)⟩ ⟨(by decide), (by decide)⟩ (Nat.le_of_ble_eq_true rfl) (fun _ h => h.elim) (fun r9 L9 f9 h9 => ?_)
            obtain ⟨h91, h92, h93⟩ := h9
            subst r9
            subst f9
            subst L9
            dsimp only [Option.toList, List.cons_append, List.nil_append, List.append]
            obtain ⟨b42, h41, hR⟩ := bP_inv hR
            refine j_callV1 X 9 (m_X9_writeInt hl hL h41) ml_X9_405 im_yX9_writeInt se_yX9_writeInt in_X9 cd_yX9_writeInt hy_yX9_writeInt dX9_writeLog_82 rfl (ad_mem hL (by decide)) (FW9 hL) ⟨(by decide), (by decide)⟩ ⟨(by decide), (by decide)⟩ (Nat.le_of_ble_eq_true rfl) (fun _ h => h.elim) (fun r9 L9 f9 h9 => ?_)
            obtain ⟨h91, h92, h93⟩ := h9
            subst r9
            subst f9
            subst L9
            dsimp only [Option.toList, List.cons_append, List.nil_append, List.append]
            obtain ⟨x44, h45, hR⟩ := bT_inv hR
            refine j_iinc X x44 dX9_writeLog_85 rfl h45 (by decide) (lvOK_s rfl okPrev_ref) ?_
            dsimp only [List.set]
            refine j_goto X (tgt := 22) dX9_writeLog_88 (by decide) ?_
            exact J.sub (lvle_of (by simp only [lvle, and_self])) (ih _ _  hR)
        · replace hR := (if_pos h19).symm.trans hR
          refine j_bipush X (119) dX9_writeLog_40 (by decide) ?_
          refine j_goto X (tgt := 47) dX9_writeLog_42 (by decide) ?_
          obtain ⟨b47, h46, hR⟩ := bP_inv hR
          refine j_callV1 X 9 (m_X9_write hl hL h46) ml_X9_396 im_yX9_write se_yX9_write in_X9 cd_yX9_write hy_yX9_write dX9_writeLog_47 rfl (ad_mem hL (by decide)) (FW9 hL) ⟨(by decide), (by decide)⟩ ⟨(by decide), (by decide)⟩ (Nat.le_of_ble_eq_true rfl) (fun _ h => h.elim) (fun r9 L9 f9 h9 => ?_)
          obtain ⟨h91, h92, h93⟩ := h9
          subst r9
          subst f9
          subst L9
          dsimp only [Option.toList, List.cons_append, List.nil_append, List.append]
          refine j_aload_n X (i := 0) dX9_writeLog_50 rfl rfl ?_
          refine j_aload_n X (i := 0) dX9_writeLog_51 rfl rfl ?_
          refine j_iload_n X (i := 1) dX9_writeLog_52 rfl rfl ?_
          refine j_iconst X (1) dX9_writeLog_53 (by decide) ?_
          obtain ⟨x50, h49, hR⟩ := bP_inv hR
          refine j_callV2 X 9 (m_X9_ofLog hl hL h49) ml_X9_329 im_yX9_ofLog se_yX9_ofLog in_X9 cd_yX9_ofLog hy_yX9_ofLog dX9_writeLog_54 rfl (ad_mem hL (by decide)) (FW9 hL) ⟨(by decide), (by decide)⟩ ⟨(by decide), (by decide)⟩ (Nat.le_of_ble_eq_true rfl) (fun _ h => h.elim) (fun r9 L9 f9 h9 => ?_)
          obtain ⟨h91, h92, h93⟩ := h9
          subst r9
          subst f9
          subst L9
          dsimp only [Option.toList, List.cons_append, List.nil_append, List.append]
          obtain ⟨b53, h52, hR⟩ := bP_inv hR
          refine j_callV1 X 9 (m_X9_writeInt hl hL h52) ml_X9_405 im_yX9_writeInt se_yX9_writeInt in_X9 cd_yX9_writeInt hy_yX9_writeInt dX9_writeLog_57 rfl (ad_mem hL (by decide)) (FW9 hL) ⟨(by decide), (by decide)⟩ ⟨(by decide), (by decide)⟩ (Nat.le_of_ble_eq_true rfl) (fun _ h => h.elim) (fun r9 L9 f9 h9 => ?_)
          obtain ⟨h91, h92, h93⟩ := h9
          subst r9
          subst f9
          subst L9
          dsimp only [Option.toList, List.cons_append, List.nil_append, List.append]
          refine j_aload_n X (i := 0) dX9_writeLog_60 rfl rfl ?_
          refine j_iload_n X (i := 1) dX9_writeLog_61 rfl rfl ?_
          refine j_iconst X (3) dX9_writeLog_62 (by decide) ?_
          obtain ⟨x56, h55, hR⟩ := bP_inv hR
          refine j_callV2 X 9 (m_X9_ofLog hl hL h55) ml_X9_329 im_yX9_ofLog se_yX9_ofLog in_X9 cd_yX9_ofLog hy_yX9_ofLog dX9_writeLog_63 rfl (ad_mem hL (by decide)) (FW9 hL) ⟨(by decide), (by decide)⟩ ⟨(by decide), (by decide)⟩ (Nat.le_of_ble_eq_true rfl) (fun _ h => h.elim) (fun r9 L9 f9 h9 => ?_)
          obtain ⟨h91, h92, h93⟩ := h9
          subst r9
          subst f9
          subst L9
          dsimp only [Option.toList, List.cons_append, List.nil_append, List.append]
          refine j_if_eq X (tgt := 85) dX9_writeLog_66 (by decide) (fun h58 => ?_) (fun h58 => ?_)
          · replace hR := (if_pos h58).symm.trans hR
            obtain ⟨x59, h60, hR⟩ := bT_inv hR
            refine j_iinc X x59 dX9_writeLog_85 rfl h60 (by decide) (lvOK_s rfl okPrev_ref) ?_
            dsimp only [List.set]
            refine j_goto X (tgt := 22) dX9_writeLog_88 (by decide) ?_
            exact J.sub (lvle_of (by simp only [lvle, and_self])) (ih _ _  hR)
          · replace hR := (if_neg h58).symm.trans hR
            refine j_aload_n X (i := 0) dX9_writeLog_69 rfl rfl ?_
            refine j_bipush X (43) dX9_writeLog_70 (by decide) ?_
            obtain ⟨b62, h61, hR⟩ := bP_inv hR
            refine j_callV1 X 9 (m_X9_write hl hL h61) ml_X9_396 im_yX9_write se_yX9_write in_X9 cd_yX9_write hy_yX9_write dX9_writeLog_72 rfl (ad_mem hL (by decide)) (FW9 hL) ⟨(by decide), (by decide)⟩ ⟨(by decide), (by decide)⟩ (Nat.le_of_ble_eq_true rfl) (fun _ h => h.elim) (fun r9 L9 f9 h9 => ?_)
            obtain ⟨h91, h92, h93⟩ := h9
            subst r9
            subst f9
            subst L9
            dsimp only [Option.toList, List.cons_append, List.nil_append, List.append]
            refine j_aload_n X (i := 0) dX9_writeLog_75 rfl rfl ?_
            refine j_aload_n X (i := 0) dX9_writeLog_76 rfl rfl ?_
            refine j_iload_n X (i := 1) dX9_writeLog_77 rfl rfl ?_
            refine j_iconst X (3) dX9_writeLog_78 (by decide) ?_
            obtain ⟨x65, h64, hR⟩ := bP_inv hR
            refine j_callV2 X 9 (m_X9_ofLog hl hL h64) ml_X9_329 im_yX9_ofLog se_yX9_ofLog in_X9 cd_yX9_ofLog hy_yX9_ofLog dX9_writeLog_79 rfl (ad_mem hL (by decide)) (FW9 hL) ⟨(by decide), (by decide)⟩ ⟨(by decide), (by decide)⟩ (Nat.le_of_ble_eq_true rfl) (fun _ h => h.elim) (fun r9 L9 f9 h9 => ?_)
            obtain ⟨h91, h92, h93⟩ := h9
            subst r9
            subst f9
            subst L9
            dsimp only [Option.toList, List.cons_append, List.nil_append, List.append]
            obtain ⟨b68, h67, hR⟩ := bP_inv hR
            refine j_callV1 X 9 (m_X9_writeInt hl hL h67) ml_X9_405 im_yX9_writeInt se_yX9_writeInt in_X9 cd_yX9_writeInt hy_yX9_writeInt dX9_writeLog_82 rfl (ad_mem hL (by decide)) (FW9 hL) ⟨(by decide), (by decide)⟩ ⟨(by decide), (by decide)⟩ (Nat.le_of_ble_eq_true rfl) (fun _ h => h.elim) (fun r9 L9 f9 h9 => ?_)
            obtain ⟨h91, h92, h93⟩ := h9
            subst r9
            subst f9
            subst L9
            dsimp only [Option.toList, List.cons_append, List.nil_append, List.append]
            obtain ⟨x70, h71, hR⟩ := bT_inv hR
            refine j_iinc X x70 dX9_writeLog_85 rfl h71 (by decide) (lvOK_s rfl okPrev_ref) ?_
            dsimp only [List.set]
            refine j_goto X (tgt := 22) dX9_writeLog_88 (by decide) ?_
            exact J.sub (lvle_of (by simp only [lvle, and_self])) (ih _ _  hR)
  exact J.sub (lvle_of (by simp only [lvle, and_self])) (hb22 _ _ _  hR)
def f_X9_writeIf (N : Nat) (p0 : Int32) (p1 : Int32) (b : Mem) : Option Mem := if p1 = 0 then (some b) else (bP (f_X9_write N p0 b) fun b3 => bP (f_X9_writeInt N p1 b3) fun b6 => some b6)
set_option maxRecDepth 100000 in
set_option maxHeartbeats 4000000 in
theorem m_X9_writeIf {l : Launch} (hl : l.stackTraces = false) {G : GG} {L : List Nat} (hL : LOK L) {a b c : Mem} {N : Nat} {p0 : Int32} {p1 : Int32} {a' : Mem} (hR : f_X9_writeIf N p0 p1 b = some a') : Ct l G yX9_writeIf (.code yX9_writeIf cX9_writeIf 3 none) 2 48 0 0 [.ref (ad L 96), .int p0, .int p1] L (FW G L a b c) px0 (stay L (fun r f1 => f1 = (FW G L a a' c) ∧ r = none)) := by
  refine Ct.ofq (own := RX9) hl rfl (by decide) [some (.ref (ad L 96)), some (.int p0), some (.int p1)] rfl (Nat.le_of_ble_eq_true rfl) ?_
  intro p e s m below meth c9 A ar Q hQ X
  unfold f_X9_writeIf at hR
  refine j_iload_n X (i := 2) dX9_writeIf_0 rfl rfl ?_
  refine j_if_eq X (tgt := 14) dX9_writeIf_1 (by decide) (fun h1 => ?_) (fun h1 => ?_)
  · replace hR := (if_pos h1).symm.trans hR
    exact q_vret X hQ dX9_writeIf_14 rfl ⟨(by decide), (by decide)⟩ ⟨rfl, congrArg (fun z => FW G L a z c) (Option.some.inj hR), rfl⟩
  · replace hR := (if_neg h1).symm.trans hR
    refine j_aload_n X (i := 0) dX9_writeIf_4 rfl rfl ?_
    refine j_iload_n X (i := 1) dX9_writeIf_5 rfl rfl ?_
    obtain ⟨b3, h2, hR⟩ := bP_inv hR
    refine j_callV1 X 9 (m_X9_write hl hL h2) ml_X9_396 im_yX9_write se_yX9_write in_X9 cd_yX9_write hy_yX9_write dX9_writeIf_6 rfl (ad_mem hL (by decide)) (FW9 hL) ⟨(by decide), (by decide)⟩ ⟨(by decide), (by decide)⟩ (Nat.le_of_ble_eq_true rfl) (fun _ h => h.elim) (fun r9 L9 f9 h9 => ?_)
    obtain ⟨h91, h92, h93⟩ := h9
    subst r9
    subst f9
    subst L9
    dsimp only [Option.toList, List.cons_append, List.nil_append, List.append]
    refine j_aload_n X (i := 0) dX9_writeIf_9 rfl rfl ?_
    refine j_iload_n X (i := 2) dX9_writeIf_10 rfl rfl ?_
    obtain ⟨b6, h5, hR⟩ := bP_inv hR
    refine j_callV1 X 9 (m_X9_writeInt hl hL h5) ml_X9_405 im_yX9_writeInt se_yX9_writeInt in_X9 cd_yX9_writeInt hy_yX9_writeInt dX9_writeIf_11 rfl (ad_mem hL (by decide)) (FW9 hL) ⟨(by decide), (by decide)⟩ ⟨(by decide), (by decide)⟩ (Nat.le_of_ble_eq_true rfl) (fun _ h => h.elim) (fun r9 L9 f9 h9 => ?_)
    obtain ⟨h91, h92, h93⟩ := h9
    subst r9
    subst f9
    subst L9
    dsimp only [Option.toList, List.cons_append, List.nil_append, List.append]
    exact q_vret X hQ dX9_writeIf_14 rfl ⟨(by decide), (by decide)⟩ ⟨rfl, congrArg (fun z => FW G L a z c) (Option.some.inj hR), rfl⟩
def f_X9_writePeriods_12 (N : Nat)  : Nat → Int32 → Mem → Option (Int32 × Mem)
  | 0, _, _ => none
  | fu + 1, x5, b6 => if (b6 1 ((2 : Int32)).toNatClampNeg) ≤ x5 then (some ((b6 0 29), b6)) else (bP (f_X9_space N b6) fun b9 => bP (f_X9_ofPeriod N x5 (0 : Int32) b9) fun x12 => if x12 = 0 then (bP (f_X9_write N (114 : Int32) b9) fun b51 => bP (f_X9_write N (47 : Int32) b51) fun b54 => bP (f_X9_ofPeriod N x5 (1 : Int32) b54) fun x57 => bP (f_X9_writeInt N x57 b54) fun b60 => bP (f_X9_ofPeriod N x5 (2 : Int32) b60) fun x63 => bP (f_X9_writeIf N (43 : Int32) x63 b60) fun b66 => bP (f_X9_ofPeriod N x5 (3 : Int32) b66) fun x69 => bP (f_X9_writeIf N (100 : Int32) x69 b66) fun b72 => bP (f_X9_ofPeriod N x5 (4 : Int32) b72) fun x75 => bP (f_X9_writeIf N (98 : Int32) x75 b72) fun b78 => bT (x5 + (1 : Int32)) fun x80 => f_X9_writePeriods_12 N fu x80 b78) else (bP (f_X9_ofPeriod N x5 (0 : Int32) b9) fun x16 => bP (f_X9_writeInt N x16 b9) fun b19 => bP (f_X9_write N (47 : Int32) b19) fun b22 => bP (f_X9_ofPeriod N x5 (1 : Int32) b22) fun x25 => bP (f_X9_writeInt N x25 b22) fun b28 => bP (f_X9_ofPeriod N x5 (2 : Int32) b28) fun x31 => bP (f_X9_writeIf N (43 : Int32) x31 b28) fun b34 => bP (f_X9_ofPeriod N x5 (3 : Int32) b34) fun x37 => bP (f_X9_writeIf N (100 : Int32) x37 b34) fun b40 => bP (f_X9_ofPeriod N x5 (4 : Int32) b40) fun x43 => bP (f_X9_writeIf N (98 : Int32) x43 b40) fun b46 => bT (x5 + (1 : Int32)) fun x48 => f_X9_writePeriods_12 N fu x48 b46))
theorem f_X9_writePeriods_12_s (N : Nat)  {fu : Nat} {x5 : Int32} {b6 : Mem} : f_X9_writePeriods_12 N (fu + 1) x5 b6 = (if (b6 1 ((2 : Int32)).toNatClampNeg) ≤ x5 then (some ((b6 0 29), b6)) else (bP (f_X9_space N b6) fun b9 => bP (f_X9_ofPeriod N x5 (0 : Int32) b9) fun x12 => if x12 = 0 then (bP (f_X9_write N (114 : Int32) b9) fun b51 => bP (f_X9_write N (47 : Int32) b51) fun b54 => bP (f_X9_ofPeriod N x5 (1 : Int32) b54) fun x57 => bP (f_X9_writeInt N x57 b54) fun b60 => bP (f_X9_ofPeriod N x5 (2 : Int32) b60) fun x63 => bP (f_X9_writeIf N (43 : Int32) x63 b60) fun b66 => bP (f_X9_ofPeriod N x5 (3 : Int32) b66) fun x69 => bP (f_X9_writeIf N (100 : Int32) x69 b66) fun b72 => bP (f_X9_ofPeriod N x5 (4 : Int32) b72) fun x75 => bP (f_X9_writeIf N (98 : Int32) x75 b72) fun b78 => bT (x5 + (1 : Int32)) fun x80 => f_X9_writePeriods_12 N fu x80 b78) else (bP (f_X9_ofPeriod N x5 (0 : Int32) b9) fun x16 => bP (f_X9_writeInt N x16 b9) fun b19 => bP (f_X9_write N (47 : Int32) b19) fun b22 => bP (f_X9_ofPeriod N x5 (1 : Int32) b22) fun x25 => bP (f_X9_writeInt N x25 b22) fun b28 => bP (f_X9_ofPeriod N x5 (2 : Int32) b28) fun x31 => bP (f_X9_writeIf N (43 : Int32) x31 b28) fun b34 => bP (f_X9_ofPeriod N x5 (3 : Int32) b34) fun x37 => bP (f_X9_writeIf N (100 : Int32) x37 b34) fun b40 => bP (f_X9_ofPeriod N x5 (4 : Int32) b40) fun x43 => bP (f_X9_writeIf N (98 : Int32) x43 b40) fun b46 => bT (x5 + (1 : Int32)) fun x48 => f_X9_writePeriods_12 N fu x48 b46))) := rfl
def f_X9_writePeriods (N : Nat) (b : Mem) : Option (Int32 × Mem) := bT (up2 b 0 0 (0 : Int32)) fun b1 => bT (up2 b1 0 29 (0 : Int32)) fun b3 => f_X9_writePeriods_12 N N (0 : Int32) b3
set_option maxRecDepth 100000 in
set_option maxHeartbeats 4000000 in
theorem m_X9_writePeriods {l : Launch} (hl : l.stackTraces = false) {G : GG} {L : List Nat} (hL : LOK L) {a b c : Mem} {N : Nat}  {v : Int32} {a' : Mem} (hR : f_X9_writePeriods N b = some (v, a')) : Ct l G yX9_writePeriods (.code yX9_writePeriods cX9_writePeriods 2 (some .int)) 3 70 0 0 [.ref (ad L 96)] L (FW G L a b c) px0 (stay L (fun r f1 => f1 = (FW G L a a' c) ∧ r = some (.int v))) := by
  refine Ct.ofq (own := RX9) hl rfl (by decide) [some (.ref (ad L 96)), none] rfl (Nat.le_of_ble_eq_true rfl) ?_
  intro p e s m below meth c9 A ar Q hQ X
  unfold f_X9_writePeriods at hR
  refine j_aload_n X (i := 0) dX9_writePeriods_0 rfl rfl ?_
  refine j_iconst X (0) dX9_writePeriods_1 (by decide) ?_
  obtain ⟨b1, h2, hR⟩ := bT_inv hR
  refine tp_X9_0 X hL h2 fl_X9_3 dX9_writePeriods_2 ?_
  refine j_aload_n X (i := 0) dX9_writePeriods_5 rfl rfl ?_
  refine j_iconst X (0) dX9_writePeriods_6 (by decide) ?_
  obtain ⟨b3, h4, hR⟩ := bT_inv hR
  refine tp_X9_29 X hL h4 fl_X9_393 dX9_writePeriods_7 ?_
  refine j_iconst X (0) dX9_writePeriods_10 (by decide) ?_
  refine j_istore_n X (i := 1) dX9_writePeriods_11 rfl (by decide) (lvOK_s rfl okPrev_ref) ?_
  dsimp only [List.set]
  have hb12 : ∀ (fu : Nat) (x5 : Int32) (b6 : Mem) , f_X9_writePeriods_12 N fu x5 b6 = some (v, a') → J G p l e ({ frames := 3, cells := 0, slots := 0, locals := 70 } : Room) s m ar below meth c9 A Q 2 0 0 12 [some (.ref (ad L 96)), some (.int x5)] [] L (FW G L a b6 c) := by
    intro fu
    induction fu with
    | zero =>
      intro x5 b6 hR
      cases hR
    | succ fu ih =>
      intro x5 b6 hR
      replace hR := (f_X9_writePeriods_12_s N ).symm.trans hR
      refine j_iload_n X (i := 1) dX9_writePeriods_12 rfl rfl ?_
      refine j_aload_n X (i := 0) dX9_writePeriods_13 rfl rfl ?_
      refine j_getf X 9 1 rfl cw_X9 fl_X9_17 (by decide) dX9_writePeriods_14 (ad_mem hL (by decide)) (FW9 hL) rfl ?_
      refine j_iconst X (2) dX9_writePeriods_17 (by decide) ?_
      refine j_iald X dX9_writePeriods_18 (ad_mem hL (by decide)) (FWr97 hL) (by unfold vp_in; decide) ?_
      refine j_icmp_ge X (tgt := 112) dX9_writePeriods_19 (by decide) (fun h7 => ?_) (fun h7 => ?_)
      · replace hR := (if_pos h7).symm.trans hR
        refine j_aload_n X (i := 0) dX9_writePeriods_112 rfl rfl ?_
        refine j_getf X 9 29 rfl cw_X9 fl_X9_393 (by decide) dX9_writePeriods_113 (ad_mem hL (by decide)) (FW9 hL) rfl ?_
        exact q_iret X hQ dX9_writePeriods_116 rfl ⟨(by decide), (by decide)⟩ ⟨rfl, congrArg (fun z => FW G L a z c) (Prod.mk.inj (Option.some.inj hR)).2, congrArg (fun z => some (Value.int z)) (Prod.mk.inj (Option.some.inj hR)).1⟩
      · replace hR := (if_neg h7).symm.trans hR
        refine j_aload_n X (i := 0) dX9_writePeriods_22 rfl rfl ?_
        obtain ⟨b9, h8, hR⟩ := bP_inv hR
        refine j_callV0 X 9 (m_X9_space hl hL h8) ml_X9_402 im_yX9_space se_yX9_space in_X9 cd_yX9_space hy_yX9_space dX9_writePeriods_23 rfl (ad_mem hL (by decide)) (FW9 hL) ⟨(by decide), (by decide)⟩ ⟨(by decide), (by decide)⟩ (Nat.le_of_ble_eq_true rfl) (fun _ h => h.elim) (fun r9 L9 f9 h9 => ?_)
        obtain ⟨h91, h92, h93⟩ := h9
        subst r9
        subst f9
        subst L9
        dsimp only [Option.toList, List.cons_append, List.nil_append, List.append]
        refine j_aload_n X (i := 0) dX9_writePeriods_26 rfl rfl ?_
        refine j_iload_n X (i := 1) dX9_writePeriods_27 rfl rfl ?_
        refine j_iconst X (0) dX9_writePeriods_28 (by decide) ?_
        obtain ⟨x12, h11, hR⟩ := bP_inv hR
        refine j_callV2 X 9 (m_X9_ofPeriod hl hL h11) ml_X9_61 im_yX9_ofPeriod se_yX9_ofPeriod in_X9 cd_yX9_ofPeriod hy_yX9_ofPeriod dX9_writePeriods_29 rfl (ad_mem hL (by decide)) (FW9 hL) ⟨(by decide), (by decide)⟩ ⟨(by decide), (by decide)⟩ (Nat.le_of_ble_eq_true rfl) (fun _ h => h.elim) (fun r9 L9 f9 h9 => ?_)
        obtain ⟨h91, h92, h93⟩ := h9
        subst r9
        subst f9
        subst L9
        dsimp only [Option.toList, List.cons_append, List.nil_append, List.append]
        refine j_if_ne X (tgt := 44) dX9_writePeriods_32 (by decide) (fun h14 => ?_) (fun h14 => ?_)
        · replace hR := (if_neg h14).symm.trans hR
          refine j_aload_n X (i := 0) dX9_writePeriods_44 rfl rfl ?_
          refine j_aload_n X (i := 0) dX9_writePeriods_45 rfl rfl ?_
          refine j_iload_n X (i := 1) dX9_writePeriods_46 rfl rfl ?_
          refine j_iconst X (0) dX9_writePeriods_47 (by decide) ?_
          obtain ⟨x16, h15, hR⟩ := bP_inv hR
          refine j_callV2 X 9 (m_X9_ofPeriod hl hL h15) ml_X9_61 im_yX9_ofPeriod se_yX9_ofPeriod in_X9 cd_yX9_ofPeriod hy_yX9_ofPeriod dX9_writePeriods_48 rfl (ad_mem hL (by decide)) (FW9 hL) ⟨(by decide), (by decide)⟩ ⟨(by decide), (by decide)⟩ (Nat.le_of_ble_eq_true rfl) (fun _ h => h.elim) (fun r9 L9 f9 h9 => ?_)
          obtain ⟨h91, h92, h93⟩ := h9
          subst r9
          subst f9
          subst L9
          dsimp only [Option.toList, List.cons_append, List.nil_append, List.append]
          obtain ⟨b19, h18, hR⟩ := bP_inv hR
          refine j_callV1 X 9 (m_X9_writeInt hl hL h18) ml_X9_405 im_yX9_writeInt se_yX9_writeInt in_X9 cd_yX9_writeInt hy_yX9_writeInt dX9_writePeriods_51 rfl (ad_mem hL (by decide)) (FW9 hL) ⟨(by decide), (by decide)⟩ ⟨(by decide), (by decide)⟩ (Nat.le_of_ble_eq_true rfl) (fun _ h => h.elim) (fun r9 L9 f9 h9 => ?_)
          obtain ⟨h91, h92, h93⟩ := h9
          subst r9
          subst f9
          subst L9
          dsimp only [Option.toList, List.cons_append, List.nil_append, List.append]
          refine j_aload_n X (i := 0) dX9_writePeriods_54 rfl rfl ?_
          refine j_bipush X (47) dX9_writePeriods_55 (by decide) ?_
          obtain ⟨b22, h21, hR⟩ := bP_inv hR
          refine j_callV1 X 9 (m_X9_write hl hL h21) ml_X9_396 im_yX9_write se_yX9_write in_X9 cd_yX9_write hy_yX9_write dX9_writePeriods_57 rfl (ad_mem hL (by decide)) (FW9 hL) ⟨(by decide), (by decide)⟩ ⟨(by decide), (by decide)⟩ (Nat.le_of_ble_eq_true rfl) (fun _ h => h.elim) (fun r9 L9 f9 h9 => ?_)
          obtain ⟨h91, h92, h93⟩ := h9
          subst r9
          subst f9
          subst L9
          dsimp only [Option.toList, List.cons_append, List.nil_append, List.append]
          refine j_aload_n X (i := 0) dX9_writePeriods_60 rfl rfl ?_
          refine j_aload_n X (i := 0) dX9_writePeriods_61 rfl rfl ?_
          refine j_iload_n X (i := 1) dX9_writePeriods_62 rfl rfl ?_
          refine j_iconst X (1) dX9_writePeriods_63 (by decide) ?_
          obtain ⟨x25, h24, hR⟩ := bP_inv hR
          refine j_callV2 X 9 (m_X9_ofPeriod hl hL h24) ml_X9_61 im_yX9_ofPeriod se_yX9_ofPeriod in_X9 cd_yX9_ofPeriod hy_yX9_ofPeriod dX9_writePeriods_64 rfl (ad_mem hL (by decide)) (FW9 hL) ⟨(by decide), (by decide)⟩ ⟨(by decide), (by decide)⟩ (Nat.le_of_ble_eq_true rfl) (fun _ h => h.elim) (fun r9 L9 f9 h9 => ?_)
          obtain ⟨h91, h92, h93⟩ := h9
          subst r9
          subst f9
          subst L9
          dsimp only [Option.toList, List.cons_append, List.nil_append, List.append]
          obtain ⟨b28, h27, hR⟩ := bP_inv hR
          refine j_callV1 X 9 (m_X9_writeInt hl hL h27) ml_X9_405 im_yX9_writeInt se_yX9_writeInt in_X9 cd_yX9_writeInt hy_yX9_writeInt dX9_writePeriods_67 rfl (ad_mem hL (by decide)) (FW9 hL) ⟨(by decide), (by decide)⟩ ⟨(by decide), (by decide)⟩ (Nat.le_of_ble_eq_true rfl) (fun _ h => h.elim) (fun r9 L9 f9 h9 => ?_)
          obtain ⟨h91, h92, h93⟩ := h9
          subst r9
          subst f9
          subst L9
          dsimp only [Option.toList, List.cons_append, List.nil_append, List.append]
          refine j_aload_n X (i := 0) dX9_writePeriods_70 rfl rfl ?_
          refine j_bipush X (43) dX9_writePeriods_71 (by decide) ?_
          refine j_aload_n X (i := 0) dX9_writePeriods_73 rfl rfl ?_
          refine j_iload_n X (i := 1) dX9_writePeriods_74 rfl rfl ?_
          refine j_iconst X (2) dX9_writePeriods_75 (by decide) ?_
          obtain ⟨x31, h30, hR⟩ := bP_inv hR
          refine j_callV2 X 9 (m_X9_ofPeriod hl hL h30) ml_X9_61 im_yX9_ofPeriod se_yX9_ofPeriod in_X9 cd_yX9_ofPeriod hy_yX9_ofPeriod dX9_writePeriods_76 rfl (ad_mem hL (by decide)) (FW9 hL) ⟨(by decide), (by decide)⟩ ⟨(by decide), (by decide)⟩ (Nat.le_of_ble_eq_true rfl) (fun _ h => h.elim) (fun r9 L9 f9 h9 => ?_)
          obtain ⟨h91, h92, h93⟩ := h9
          subst r9
          subst f9
          subst L9
          dsimp only [Option.toList, List.cons_append, List.nil_append, List.append]
          obtain ⟨b34, h33, hR⟩ := bP_inv hR
          refine j_callV2 X 9 (m_X9_writeIf hl hL h33) ml_X9_411 im_yX9_writeIf se_yX9_writeIf in_X9 cd_yX9_writeIf hy_yX9_writeIf dX9_writePeriods_79 rfl (ad_mem hL (by decide)) (FW9 hL) ⟨(by decide), (by decide)⟩ ⟨(by decide), (by decide)⟩ (Nat.le_of_ble_eq_true rfl) (fun _ h => h.elim) (fun r9 L9 f9 h9 => ?_)
          obtain ⟨h91, h92, h93⟩ := h9
          subst r9
          subst f9
          subst L9
          dsimp only [Option.toList, List.cons_append, List.nil_append, List.append]
          refine j_aload_n X (i := 0) dX9_writePeriods_82 rfl rfl ?_
          refine j_bipush X (100) dX9_writePeriods_83 (by decide) ?_
          refine j_aload_n X (i := 0) dX9_writePeriods_85 rfl rfl ?_
          refine j_iload_n X (i := 1) dX9_writePeriods_86 rfl rfl ?_
          refine j_iconst X (3) dX9_writePeriods_87 (by decide) ?_
          obtain ⟨x37, h36, hR⟩ := bP_inv hR
          refine j_callV2 X 9 (m_X9_ofPeriod hl hL h36) ml_X9_61 im_yX9_ofPeriod se_yX9_ofPeriod in_X9 cd_yX9_ofPeriod hy_yX9_ofPeriod dX9_writePeriods_88 rfl (ad_mem hL (by decide)) (FW9 hL) ⟨(by decide), (by decide)⟩ ⟨(by decide), (by decide)⟩ (Nat.le_of_ble_eq_true rfl) (fun _ h => h.elim) (fun r9 L9 f9 h9 => ?_)
          obtain ⟨h91, h92, h93⟩ := h9
          subst r9
          subst f9
          subst L9
          dsimp only [Option.toList, List.cons_append, List.nil_append, List.append]
          obtain ⟨b40, h39, hR⟩ := bP_inv hR
          refine j_callV2 X 9 (m_X9_writeIf hl hL h39) ml_X9_411 im_yX9_writeIf se_yX9_writeIf in_X9 cd_yX9_writeIf hy_yX9_writeIf dX9_writePeriods_91 rfl (ad_mem hL (by decide)) (FW9 hL) ⟨(by decide), (by decide)⟩ ⟨(by decide), (by decide)⟩ (Nat.le_of_ble_eq_true rfl) (fun _ h => h.elim) (fun r9 L9 f9 h9 => ?_)
          obtain ⟨h91, h92, h93⟩ := h9
          subst r9
          subst f9
          subst L9
          dsimp only [Option.toList, List.cons_append, List.nil_append, List.append]
          refine j_aload_n X (i := 0) dX9_writePeriods_94 rfl rfl ?_
          refine j_bipush X (98) dX9_writePeriods_95 (by decide) ?_
          refine j_aload_n X (i := 0) dX9_writePeriods_97 rfl rfl ?_
          refine j_iload_n X (i := 1) dX9_writePeriods_98 rfl rfl ?_
          refine j_iconst X (4) dX9_writePeriods_99 (by decide) ?_
          obtain ⟨x43, h42, hR⟩ := bP_inv hR
          refine j_callV2 X 9 (m_X9_ofPeriod hl hL h42) ml_X9_61 im_yX9_ofPeriod se_yX9_ofPeriod in_X9 cd_yX9_ofPeriod hy_yX9_ofPeriod dX9_writePeriods_100 rfl (ad_mem hL (by decide)) (FW9 hL) ⟨(by decide), (by decide)⟩ ⟨(by decide), (by decide)⟩ (Nat.le_of_ble_eq_true rfl) (fun _ h => h.elim) (fun r9 L9 f9 h9 => ?_)
          obtain ⟨h91, h92, h93⟩ := h9
          subst r9
          subst f9
          subst L9
          dsimp only [Option.toList, List.cons_append, List.nil_append, List.append]
          obtain ⟨b46, h45, hR⟩ := bP_inv hR
          refine j_callV2 X 9 (m_X9_writeIf hl hL h45) ml_X9_411 im_yX9_writeIf se_yX9_writeIf in_X9 cd_yX9_writeIf hy_yX9_writeIf dX9_writePeriods_103 rfl (ad_mem hL (by decide)) (FW9 hL) ⟨(by decide), (by decide)⟩ ⟨(by decide), (by decide)⟩ (Nat.le_of_ble_eq_true rfl) (fun _ h => h.elim) (fun r9 L9 f9 h9 => ?_)
          obtain ⟨h91, h92, h93⟩ := h9
          subst r9
          subst f9
          subst L9
          dsimp only [Option.toList, List.cons_append, List.nil_append, List.append]
          obtain ⟨x48, h49, hR⟩ := bT_inv hR
          refine j_iinc X x48 dX9_writePeriods_106 rfl h49 (by decide) (lvOK_s rfl okPrev_ref) ?_
          dsimp only [List.set]
          refine j_goto X (tgt := 12) dX9_writePeriods_109 (by decide) ?_
          exact J.sub (lvle_of (by simp only [lvle, and_self])) (ih _ _  hR)
        · replace hR := (if_pos h14).symm.trans hR
          refine j_aload_n X (i := 0) dX9_writePeriods_35 rfl rfl ?_
          refine j_bipush X (114) dX9_writePeriods_36 (by decide) ?_
          obtain ⟨b51, h50, hR⟩ := bP_inv hR
          refine j_callV1 X 9 (m_X9_write hl hL h50) ml_X9_396 im_yX9_write se_yX9_write in_X9 cd_yX9_write hy_yX9_write dX9_writePeriods_38 rfl (ad_mem hL (by decide)) (FW9 hL) ⟨(by decide), (by decide)⟩ ⟨(by decide), (by decide)⟩ (Nat.le_of_ble_eq_true rfl) (fun _ h => h.elim) (fun r9 L9 f9 h9 => ?_)
          obtain ⟨h91, h92, h93⟩ := h9
          subst r9
          subst f9
          subst L9
          dsimp only [Option.toList, List.cons_append, List.nil_append, List.append]
          refine j_goto X (tgt := 54) dX9_writePeriods_41 (by decide) ?_
          refine j_aload_n X (i := 0) dX9_writePeriods_54 rfl rfl ?_
          refine j_bipush X (47) dX9_writePeriods_55 (by decide) ?_
          obtain ⟨b54, h53, hR⟩ := bP_inv hR
          refine j_callV1 X 9 (m_X9_write hl hL h53) ml_X9_396 im_yX9_write se_yX9_write in_X9 cd_yX9_write hy_yX9_write dX9_writePeriods_57 rfl (ad_mem hL (by decide)) (FW9 hL) ⟨(by decide), (by decide)⟩ ⟨(by decide), (by decide)⟩ (Nat.le_of_ble_eq_true rfl) (fun _ h => h.elim) (fun r9 L9 f9 h9 => ?_)
          obtain ⟨h91, h92, h93⟩ := h9
          subst r9
          subst f9
          subst L9
          dsimp only [Option.toList, List.cons_append, List.nil_append, List.append]
          refine j_aload_n X (i := 0) dX9_writePeriods_60 rfl rfl ?_
          refine j_aload_n X (i := 0) dX9_writePeriods_61 rfl rfl ?_
          refine j_iload_n X (i := 1) dX9_writePeriods_62 rfl rfl ?_
          refine j_iconst X (1) dX9_writePeriods_63 (by decide) ?_
          obtain ⟨x57, h56, hR⟩ := bP_inv hR
          refine j_callV2 X 9 (m_X9_ofPeriod hl hL h56) ml_X9_61 im_yX9_ofPeriod se_yX9_ofPeriod in_X9 cd_yX9_ofPeriod hy_yX9_ofPeriod dX9_writePeriods_64 rfl (ad_mem hL (by decide)) (FW9 hL) ⟨(by decide), (by decide)⟩ ⟨(by decide), (by decide)⟩ (Nat.le_of_ble_eq_true rfl) (fun _ h => h.elim) (fun r9 L9 f9 h9 => ?_)
          obtain ⟨h91, h92, h93⟩ := h9
          subst r9
          subst f9
          subst L9
          dsimp only [Option.toList, List.cons_append, List.nil_append, List.append]
          obtain ⟨b60, h59, hR⟩ := bP_inv hR
          refine j_callV1 X 9 (m_X9_writeInt hl hL h59) ml_X9_405 im_yX9_writeInt se_yX9_writeInt in_X9 cd_yX9_writeInt hy_yX9_writeInt dX9_writePeriods_67 rfl (ad_mem hL (by decide)) (FW9 hL) ⟨(by decide), (by decide)⟩ ⟨(by decide), (by decide)⟩ (Nat.le_of_ble_eq_true rfl) (fun _ h => h.elim) (fun r9 L9 f9 h9 => ?_)
          obtain ⟨h91, h92, h93⟩ := h9
          subst r9
          subst f9
          subst L9
          dsimp only [Option.toList, List.cons_append, List.nil_append, List.append]
          refine j_aload_n X (i := 0) dX9_writePeriods_70 rfl rfl ?_
          refine j_bipush X (43) dX9_writePeriods_71 (by decide) ?_
          refine j_aload_n X (i := 0) dX9_writePeriods_73 rfl rfl ?_
          refine j_iload_n X (i := 1) dX9_writePeriods_74 rfl rfl ?_
          refine j_iconst X (2) dX9_writePeriods_75 (by decide) ?_
          obtain ⟨x63, h62, hR⟩ := bP_inv hR
          refine j_callV2 X 9 (m_X9_ofPeriod hl hL h62) ml_X9_61 im_yX9_ofPeriod se_yX9_ofPeriod in_X9 cd_yX9_ofPeriod hy_yX9_ofPeriod dX9_writePeriods_76 rfl (ad_mem hL (by decide)) (FW9 hL) ⟨(by decide), (by decide)⟩ ⟨(by decide), (by decide)⟩ (Nat.le_of_ble_eq_true rfl) (fun _ h => h.elim) (fun r9 L9 f9 h9 => ?_)
          obtain ⟨h91, h92, h93⟩ := h9
          subst r9
          subst f9
          subst L9
          dsimp only [Option.toList, List.cons_append, List.nil_append, List.append]
          obtain ⟨b66, h65, hR⟩ := bP_inv hR
          refine j_callV2 X 9 (m_X9_writeIf hl hL h65) ml_X9_411 im_yX9_writeIf se_yX9_writeIf in_X9 cd_yX9_writeIf hy_yX9_writeIf dX9_writePeriods_79 rfl (ad_mem hL (by decide)) (FW9 hL) ⟨(by decide), (by decide)⟩ ⟨(by decide), (by decide)⟩ (Nat.le_of_ble_eq_true rfl) (fun _ h => h.elim) (fun r9 L9 f9 h9 => ?_)
          obtain ⟨h91, h92, h93⟩ := h9
          subst r9
          subst f9
          subst L9
          dsimp only [Option.toList, List.cons_append, List.nil_append, List.append]
          refine j_aload_n X (i := 0) dX9_writePeriods_82 rfl rfl ?_
          refine j_bipush X (100) dX9_writePeriods_83 (by decide) ?_
          refine j_aload_n X (i := 0) dX9_writePeriods_85 rfl rfl ?_
          refine j_iload_n X (i := 1) dX9_writePeriods_86 rfl rfl ?_
          refine j_iconst X (3) dX9_writePeriods_87 (by decide) ?_
          obtain ⟨x69, h68, hR⟩ := bP_inv hR
          refine j_callV2 X 9 (m_X9_ofPeriod hl hL h68) ml_X9_61 im_yX9_ofPeriod se_yX9_ofPeriod in_X9 cd_yX9_ofPeriod hy_yX9_ofPeriod dX9_writePeriods_88 rfl (ad_mem hL (by decide)) (FW9 hL) ⟨(by decide), (by decide)⟩ ⟨(by decide), (by decide)⟩ (Nat.le_of_ble_eq_true rfl) (fun _ h => h.elim) (fun r9 L9 f9 h9 => ?_)
          obtain ⟨h91, h92, h93⟩ := h9
          subst r9
          subst f9
          subst L9
          dsimp only [Option.toList, List.cons_append, List.nil_append, List.append]
          obtain ⟨b72, h71, hR⟩ := bP_inv hR
          refine j_callV2 X 9 (m_X9_writeIf hl hL h71) ml_X9_411 im_yX9_writeIf se_yX9_writeIf in_X9 cd_yX9_writeIf hy_yX9_writeIf dX9_writePeriods_91 rfl (ad_mem hL (by decide)) (FW9 hL) ⟨(by decide), (by decide)⟩ ⟨(by decide), (by decide)⟩ (Nat.le_of_ble_eq_true rfl) (fun _ h => h.elim) (fun r9 L9 f9 h9 => ?_)
          obtain ⟨h91, h92, h93⟩ := h9
          subst r9
          subst f9
          subst L9
          dsimp only [Option.toList, List.cons_append, List.nil_append, List.append]
          refine j_aload_n X (i := 0) dX9_writePeriods_94 rfl rfl ?_
          refine j_bipush X (98) dX9_writePeriods_95 (by decide) ?_
          refine j_aload_n X (i := 0) dX9_writePeriods_97 rfl rfl ?_
          refine j_iload_n X (i := 1) dX9_writePeriods_98 rfl rfl ?_
          refine j_iconst X (4) dX9_writePeriods_99 (by decide) ?_
          obtain ⟨x75, h74, hR⟩ := bP_inv hR
          refine j_callV2 X 9 (m_X9_ofPeriod hl hL h74) ml_X9_61 im_yX9_ofPeriod se_yX9_ofPeriod in_X9 cd_yX9_ofPeriod hy_yX9_ofPeriod dX9_writePeriods_100 rfl (ad_mem hL (by decide)) (FW9 hL) ⟨(by decide), (by decide)⟩ ⟨(by decide), (by decide)⟩ (Nat.le_of_ble_eq_true rfl) (fun _ h => h.elim) (fun r9 L9 f9 h9 => ?_)
          obtain ⟨h91, h92, h93⟩ := h9
          subst r9
          subst f9
          subst L9
          dsimp only [Option.toList, List.cons_append, List.nil_append, List.append]
          obtain ⟨b78, h77, hR⟩ := bP_inv hR
          refine j_callV2 X 9 (m_X9_writeIf hl hL h77) ml_X9_411 im_yX9_writeIf se_yX9_writeIf in_X9 cd_yX9_writeIf hy_yX9_writeIf dX9_writePeriods_103 rfl (ad_mem hL (by decide)) (FW9 hL) ⟨(by decide), (by decide)⟩ ⟨(by decide), (by decide)⟩ (Nat.le_of_ble_eq_true rfl) (fun _ h => h.elim) (fun r9 L9 f9 h9 => ?_)
          obtain ⟨h91, h92, h93⟩ := h9
          subst r9
          subst f9
          subst L9
          dsimp only [Option.toList, List.cons_append, List.nil_append, List.append]
          obtain ⟨x80, h81, hR⟩ := bT_inv hR
          refine j_iinc X x80 dX9_writePeriods_106 rfl h81 (by decide) (lvOK_s rfl okPrev_ref) ?_
          dsimp only [List.set]
          refine j_goto X (tgt := 12) dX9_writePeriods_109 (by decide) ?_
          exact J.sub (lvle_of (by simp only [lvle, and_self])) (ih _ _  hR)
  exact J.sub (lvle_of (by simp only [lvle, and_self])) (hb12 _ _ _  hR)
def f_X9_outputByte (N : Nat) (p0 : Int32) (b : Mem) : Option (Int32 × Mem) := bT (f_X9_in (Int32.toInt64 p0) (0 : Int64) (Int32.toInt64 ((b 0 29) - (1 : Int32))) b) fun x2 => bT2 (f_X9_passes x2 b) fun x5 b6 => if x5 = 0 then (some ((0 : Int32), b6)) else (chkI p0 300 <| some ((b6 8 (p0).toNatClampNeg), b6))
set_option maxRecDepth 100000 in
set_option maxHeartbeats 4000000 in
theorem m_X9_outputByte {l : Launch} (hl : l.stackTraces = false) {G : GG} {L : List Nat} (hL : LOK L) {a b c : Mem} {N : Nat} {p0 : Int32} {v : Int32} {a' : Mem} (hR : f_X9_outputByte N p0 b = some (v, a')) : Ct l G yX9_outputByte (.code yX9_outputByte cX9_outputByte 2 (some .int)) 2 44 0 0 [.ref (ad L 96), .int p0] L (FW G L a b c) px0 (stay L (fun r f1 => f1 = (FW G L a a' c) ∧ r = some (.int v))) := by
  refine Ct.ofq (own := RX9) hl rfl (by decide) [some (.ref (ad L 96)), some (.int p0)] rfl (Nat.le_of_ble_eq_true rfl) ?_
  intro p e s m below meth c9 A ar Q hQ X
  unfold f_X9_outputByte at hR
  refine j_aload_n X (i := 0) dX9_outputByte_0 rfl rfl ?_
  refine j_iload_n X (i := 1) dX9_outputByte_1 rfl rfl ?_
  refine j_i2l X dX9_outputByte_2 ?_
  refine j_lconst X (0) dX9_outputByte_3 (by decide) ?_
  refine j_aload_n X (i := 0) dX9_outputByte_4 rfl rfl ?_
  refine j_getf X 9 29 rfl cw_X9 fl_X9_393 (by decide) dX9_outputByte_5 (ad_mem hL (by decide)) (FW9 hL) rfl ?_
  refine j_iconst X (1) dX9_outputByte_8 (by decide) ?_
  refine j_isub X dX9_outputByte_9 ?_
  refine j_i2l X dX9_outputByte_10 ?_
  obtain ⟨x2, h1, hR⟩ := bT_inv hR
  refine j_callS3 X (m_X9_in hl hL h1) ml_X9_64 st_yX9_in in_X9 cd_yX9_in hy_yX9_in dX9_outputByte_11 ⟨(by decide), (by decide)⟩ ⟨(by decide), (by decide)⟩ (Nat.le_of_ble_eq_true rfl) (fun _ h => h.elim) (fun r9 L9 f9 h9 => ?_)
  obtain ⟨h91, h92, h93, h3⟩ := h9
  subst r9
  subst f9
  subst L9
  dsimp only [Option.toList, List.cons_append, List.nil_append, List.append]
  obtain ⟨x5, b6, h4, hR⟩ := bT2_inv hR
  refine j_callV1 X 9 (m_X9_passes hl hL h3 h4) ml_X9_159 im_yX9_passes se_yX9_passes in_X9 cd_yX9_passes hy_yX9_passes dX9_outputByte_14 rfl (ad_mem hL (by decide)) (FW9 hL) ⟨(by decide), (by decide)⟩ ⟨(by decide), (by decide)⟩ (Nat.le_of_ble_eq_true rfl) (fun _ h => h.elim) (fun r9 L9 f9 h9 => ?_)
  obtain ⟨h91, h92, h93, h7⟩ := h9
  subst r9
  subst f9
  subst L9
  dsimp only [Option.toList, List.cons_append, List.nil_append, List.append]
  refine j_if_eq X (tgt := 29) dX9_outputByte_17 (by decide) (fun h8 => ?_) (fun h8 => ?_)
  · replace hR := (if_pos h8).symm.trans hR
    refine j_iconst X (0) dX9_outputByte_29 (by decide) ?_
    exact q_iret X hQ dX9_outputByte_30 rfl ⟨(by decide), (by decide)⟩ ⟨rfl, congrArg (fun z => FW G L a z c) (Prod.mk.inj (Option.some.inj hR)).2, congrArg (fun z => some (Value.int z)) (Prod.mk.inj (Option.some.inj hR)).1⟩
  · replace hR := (if_neg h8).symm.trans hR
    refine j_aload_n X (i := 0) dX9_outputByte_20 rfl rfl ?_
    refine j_getf X 9 28 rfl cw_X9 fl_X9_47 (by decide) dX9_outputByte_21 (ad_mem hL (by decide)) (FW9 hL) rfl ?_
    refine j_iload_n X (i := 1) dX9_outputByte_24 rfl rfl ?_
    obtain ⟨h9, hR⟩ := chkI_inv hR
    refine j_bald X dX9_outputByte_25 (ad_mem hL (by decide)) (FWr104 hL) h9 ?_
    refine j_goto X (tgt := 30) dX9_outputByte_26 (by decide) ?_
    exact q_iret X hQ dX9_outputByte_30 rfl ⟨(by decide), (by decide)⟩ ⟨rfl, congrArg (fun z => FW G L a z c) (Prod.mk.inj (Option.some.inj hR)).2, congrArg (fun z => some (Value.int z)) (Prod.mk.inj (Option.some.inj hR)).1⟩
